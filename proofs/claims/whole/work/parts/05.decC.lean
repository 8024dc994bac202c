theorem dX8_init_0 : decode cX8_init 0 = .ok (.aload_n 0, 1) := by decide +kernel
theorem dX8_init_1 : decode cX8_init 1 = .ok (.invokespecial 1, 3) := by decide +kernel
theorem dX8_init_4 : decode cX8_init 4 = .ok (.aload_n 0, 1) := by decide +kernel
theorem dX8_init_5 : decode cX8_init 5 = .ok (.bipush 99, 2) := by decide +kernel
theorem dX8_init_7 : decode cX8_init 7 = .ok (.putfield 7, 3) := by decide +kernel
theorem dX8_init_10 : decode cX8_init 10 = .ok (.aload_n 0, 1) := by decide +kernel
theorem dX8_init_11 : decode cX8_init 11 = .ok (.bipush 48, 2) := by decide +kernel
theorem dX8_init_13 : decode cX8_init 13 = .ok (.newarray .char, 2) := by decide +kernel
theorem dX8_init_15 : decode cX8_init 15 = .ok (.putfield 13, 3) := by decide +kernel
theorem dX8_init_18 : decode cX8_init 18 = .ok (.aload_n 0, 1) := by decide +kernel
theorem dX8_init_19 : decode cX8_init 19 = .ok (.bipush 96, 2) := by decide +kernel
theorem dX8_init_21 : decode cX8_init 21 = .ok (.newarray .char, 2) := by decide +kernel
theorem dX8_init_23 : decode cX8_init 23 = .ok (.putfield 17, 3) := by decide +kernel
theorem dX8_init_26 : decode cX8_init 26 = .ok (.aload_n 0, 1) := by decide +kernel
theorem dX8_init_27 : decode cX8_init 27 = .ok (.bipush 81, 2) := by decide +kernel
theorem dX8_init_29 : decode cX8_init 29 = .ok (.newarray .char, 2) := by decide +kernel
theorem dX8_init_31 : decode cX8_init 31 = .ok (.putfield 20, 3) := by decide +kernel
theorem dX8_init_34 : decode cX8_init 34 = .ok (.aload_n 0, 1) := by decide +kernel
theorem dX8_init_35 : decode cX8_init 35 = .ok (.bipush 81, 2) := by decide +kernel
theorem dX8_init_37 : decode cX8_init 37 = .ok (.newarray .char, 2) := by decide +kernel
theorem dX8_init_39 : decode cX8_init 39 = .ok (.putfield 23, 3) := by decide +kernel
theorem dX8_init_42 : decode cX8_init 42 = .ok (.aload_n 0, 1) := by decide +kernel
theorem dX8_init_43 : decode cX8_init 43 = .ok (.sipush 400, 3) := by decide +kernel
theorem dX8_init_46 : decode cX8_init 46 = .ok (.newarray .char, 2) := by decide +kernel
theorem dX8_init_48 : decode cX8_init 48 = .ok (.putfield 26, 3) := by decide +kernel
theorem dX8_init_51 : decode cX8_init 51 = .ok (.aload_n 0, 1) := by decide +kernel
theorem dX8_init_52 : decode cX8_init 52 = .ok (.bipush 8, 2) := by decide +kernel
theorem dX8_init_54 : decode cX8_init 54 = .ok (.newarray .int, 2) := by decide +kernel
theorem dX8_init_56 : decode cX8_init 56 = .ok (.putfield 29, 3) := by decide +kernel
theorem dX8_init_59 : decode cX8_init 59 = .ok (.aload_n 0, 1) := by decide +kernel
theorem dX8_init_60 : decode cX8_init 60 = .ok (.bipush 8, 2) := by decide +kernel
theorem dX8_init_62 : decode cX8_init 62 = .ok (.newarray .int, 2) := by decide +kernel
theorem dX8_init_64 : decode cX8_init 64 = .ok (.putfield 33, 3) := by decide +kernel
theorem dX8_init_67 : decode cX8_init 67 = .ok (.aload_n 0, 1) := by decide +kernel
theorem dX8_init_68 : decode cX8_init 68 = .ok (.bipush 96, 2) := by decide +kernel
theorem dX8_init_70 : decode cX8_init 70 = .ok (.newarray .int, 2) := by decide +kernel
theorem dX8_init_72 : decode cX8_init 72 = .ok (.putfield 36, 3) := by decide +kernel
theorem dX8_init_75 : decode cX8_init 75 = .ok (.aload_n 0, 1) := by decide +kernel
theorem dX8_init_76 : decode cX8_init 76 = .ok (.bipush 96, 2) := by decide +kernel
theorem dX8_init_78 : decode cX8_init 78 = .ok (.newarray .int, 2) := by decide +kernel
theorem dX8_init_80 : decode cX8_init 80 = .ok (.putfield 39, 3) := by decide +kernel
theorem dX8_init_83 : decode cX8_init 83 = .ok (.aload_n 0, 1) := by decide +kernel
theorem dX8_init_84 : decode cX8_init 84 = .ok (.sipush 400, 3) := by decide +kernel
theorem dX8_init_87 : decode cX8_init 87 = .ok (.newarray .int, 2) := by decide +kernel
theorem dX8_init_89 : decode cX8_init 89 = .ok (.putfield 42, 3) := by decide +kernel
theorem dX8_init_92 : decode cX8_init 92 = .ok (.aload_n 0, 1) := by decide +kernel
theorem dX8_init_93 : decode cX8_init 93 = .ok (.sipush 400, 3) := by decide +kernel
theorem dX8_init_96 : decode cX8_init 96 = .ok (.newarray .int, 2) := by decide +kernel
theorem dX8_init_98 : decode cX8_init 98 = .ok (.putfield 45, 3) := by decide +kernel
theorem dX8_init_101 : decode cX8_init 101 = .ok (.aload_n 0, 1) := by decide +kernel
theorem dX8_init_102 : decode cX8_init 102 = .ok (.sipush 400, 3) := by decide +kernel
theorem dX8_init_105 : decode cX8_init 105 = .ok (.newarray .int, 2) := by decide +kernel
theorem dX8_init_107 : decode cX8_init 107 = .ok (.putfield 48, 3) := by decide +kernel
theorem dX8_init_110 : decode cX8_init 110 = .ok (.aload_n 0, 1) := by decide +kernel
theorem dX8_init_111 : decode cX8_init 111 = .ok (.bipush 8, 2) := by decide +kernel
theorem dX8_init_113 : decode cX8_init 113 = .ok (.newarray .boolean, 2) := by decide +kernel
theorem dX8_init_115 : decode cX8_init 115 = .ok (.putfield 51, 3) := by decide +kernel
theorem dX8_init_118 : decode cX8_init 118 = .ok (.aload_n 0, 1) := by decide +kernel
theorem dX8_init_119 : decode cX8_init 119 = .ok (.bipush 8, 2) := by decide +kernel
theorem dX8_init_121 : decode cX8_init 121 = .ok (.newarray .boolean, 2) := by decide +kernel
theorem dX8_init_123 : decode cX8_init 123 = .ok (.putfield 55, 3) := by decide +kernel
theorem dX8_init_126 : decode cX8_init 126 = .ok (.aload_n 0, 1) := by decide +kernel
theorem dX8_init_127 : decode cX8_init 127 = .ok (.bipush 8, 2) := by decide +kernel
theorem dX8_init_129 : decode cX8_init 129 = .ok (.newarray .boolean, 2) := by decide +kernel
theorem dX8_init_131 : decode cX8_init 131 = .ok (.putfield 58, 3) := by decide +kernel
theorem dX8_init_134 : decode cX8_init 134 = .ok (.return_, 1) := by decide +kernel
theorem dX8_thrown_0 : decode cX8_thrown 0 = .ok (.aload_n 0, 1) := by decide +kernel
theorem dX8_thrown_1 : decode cX8_thrown 1 = .ok (.getfield 61, 3) := by decide +kernel
theorem dX8_thrown_4 : decode cX8_thrown 4 = .ok (.ireturn, 1) := by decide +kernel
theorem dX8_fail_0 : decode cX8_fail 0 = .ok (.aload_n 0, 1) := by decide +kernel
theorem dX8_fail_1 : decode cX8_fail 1 = .ok (.iload_n 1, 1) := by decide +kernel
theorem dX8_fail_2 : decode cX8_fail 2 = .ok (.putfield 61, 3) := by decide +kernel
theorem dX8_fail_5 : decode cX8_fail 5 = .ok (.iconst 0, 1) := by decide +kernel
theorem dX8_fail_6 : decode cX8_fail 6 = .ok (.ireturn, 1) := by decide +kernel
theorem dX8_isIn_0 : decode cX8_isIn 0 = .ok (.iload_n 0, 1) := by decide +kernel
theorem dX8_isIn_1 : decode cX8_isIn 1 = .ok (.iload_n 1, 1) := by decide +kernel
theorem dX8_isIn_2 : decode cX8_isIn 2 = .ok (.if_icmp .lt 12, 3) := by decide +kernel
theorem dX8_isIn_5 : decode cX8_isIn 5 = .ok (.iload_n 0, 1) := by decide +kernel
theorem dX8_isIn_6 : decode cX8_isIn 6 = .ok (.iload_n 2, 1) := by decide +kernel
theorem dX8_isIn_7 : decode cX8_isIn 7 = .ok (.if_icmp .gt 7, 3) := by decide +kernel
theorem dX8_isIn_10 : decode cX8_isIn 10 = .ok (.iconst 1, 1) := by decide +kernel
theorem dX8_isIn_11 : decode cX8_isIn 11 = .ok (.goto 4, 3) := by decide +kernel
theorem dX8_isIn_14 : decode cX8_isIn 14 = .ok (.iconst 0, 1) := by decide +kernel
theorem dX8_isIn_15 : decode cX8_isIn 15 = .ok (.ireturn, 1) := by decide +kernel
theorem dX8_noSnippet_0 : decode cX8_noSnippet 0 = .ok (.aload_n 0, 1) := by decide +kernel
theorem dX8_noSnippet_1 : decode cX8_noSnippet 1 = .ok (.iload_n 1, 1) := by decide +kernel
theorem dX8_noSnippet_2 : decode cX8_noSnippet 2 = .ok (.iconst 0, 1) := by decide +kernel
theorem dX8_noSnippet_3 : decode cX8_noSnippet 3 = .ok (.aload_n 0, 1) := by decide +kernel
theorem dX8_noSnippet_4 : decode cX8_noSnippet 4 = .ok (.getfield 64, 3) := by decide +kernel
theorem dX8_noSnippet_7 : decode cX8_noSnippet 7 = .ok (.iconst 1, 1) := by decide +kernel
theorem dX8_noSnippet_8 : decode cX8_noSnippet 8 = .ok (.isub, 1) := by decide +kernel
theorem dX8_noSnippet_9 : decode cX8_noSnippet 9 = .ok (.invokestatic 67, 3) := by decide +kernel
theorem dX8_noSnippet_12 : decode cX8_noSnippet 12 = .ok (.ifCond .eq 7, 3) := by decide +kernel
theorem dX8_noSnippet_15 : decode cX8_noSnippet 15 = .ok (.iconst 0, 1) := by decide +kernel
theorem dX8_noSnippet_16 : decode cX8_noSnippet 16 = .ok (.goto 4, 3) := by decide +kernel
theorem dX8_noSnippet_19 : decode cX8_noSnippet 19 = .ok (.iconst 1, 1) := by decide +kernel
theorem dX8_noSnippet_20 : decode cX8_noSnippet 20 = .ok (.putfield 61, 3) := by decide +kernel
theorem dX8_noSnippet_23 : decode cX8_noSnippet 23 = .ok (.aload_n 0, 1) := by decide +kernel
theorem dX8_noSnippet_24 : decode cX8_noSnippet 24 = .ok (.getfield 61, 3) := by decide +kernel
theorem dX8_noSnippet_27 : decode cX8_noSnippet 27 = .ok (.ifCond .eq 7, 3) := by decide +kernel
theorem dX8_noSnippet_30 : decode cX8_noSnippet 30 = .ok (.iconst 1, 1) := by decide +kernel
theorem dX8_noSnippet_31 : decode cX8_noSnippet 31 = .ok (.goto 4, 3) := by decide +kernel
theorem dX8_noSnippet_34 : decode cX8_noSnippet 34 = .ok (.iconst 0, 1) := by decide +kernel
theorem dX8_noSnippet_35 : decode cX8_noSnippet 35 = .ok (.ireturn, 1) := by decide +kernel
theorem dX8_isWord_0 : decode cX8_isWord 0 = .ok (.iload_n 0, 1) := by decide +kernel
theorem dX8_isWord_1 : decode cX8_isWord 1 = .ok (.bipush 97, 2) := by decide +kernel
theorem dX8_isWord_3 : decode cX8_isWord 3 = .ok (.if_icmp .lt 9, 3) := by decide +kernel
theorem dX8_isWord_6 : decode cX8_isWord 6 = .ok (.iload_n 0, 1) := by decide +kernel
theorem dX8_isWord_7 : decode cX8_isWord 7 = .ok (.bipush 122, 2) := by decide +kernel
theorem dX8_isWord_9 : decode cX8_isWord 9 = .ok (.if_icmp .le 15, 3) := by decide +kernel
theorem dX8_isWord_12 : decode cX8_isWord 12 = .ok (.iload_n 0, 1) := by decide +kernel
theorem dX8_isWord_13 : decode cX8_isWord 13 = .ok (.bipush 48, 2) := by decide +kernel
theorem dX8_isWord_15 : decode cX8_isWord 15 = .ok (.if_icmp .lt 13, 3) := by decide +kernel
theorem dX8_isWord_18 : decode cX8_isWord 18 = .ok (.iload_n 0, 1) := by decide +kernel
theorem dX8_isWord_19 : decode cX8_isWord 19 = .ok (.bipush 57, 2) := by decide +kernel
theorem dX8_isWord_21 : decode cX8_isWord 21 = .ok (.if_icmp .gt 7, 3) := by decide +kernel
theorem dX8_isWord_24 : decode cX8_isWord 24 = .ok (.iconst 1, 1) := by decide +kernel
theorem dX8_isWord_25 : decode cX8_isWord 25 = .ok (.goto 4, 3) := by decide +kernel
theorem dX8_isWord_28 : decode cX8_isWord 28 = .ok (.iconst 0, 1) := by decide +kernel
theorem dX8_isWord_29 : decode cX8_isWord 29 = .ok (.ireturn, 1) := by decide +kernel
theorem dX8_canType_0 : decode cX8_canType 0 = .ok (.iload_n 0, 1) := by decide +kernel
theorem dX8_canType_1 : decode cX8_canType 1 = .ok (.invokestatic 71, 3) := by decide +kernel
theorem dX8_canType_4 : decode cX8_canType 4 = .ok (.ifCond .ne 21, 3) := by decide +kernel
theorem dX8_canType_7 : decode cX8_canType 7 = .ok (.iload_n 0, 1) := by decide +kernel
theorem dX8_canType_8 : decode cX8_canType 8 = .ok (.bipush 32, 2) := by decide +kernel
theorem dX8_canType_10 : decode cX8_canType 10 = .ok (.if_icmp .eq 15, 3) := by decide +kernel
theorem dX8_canType_13 : decode cX8_canType 13 = .ok (.iload_n 0, 1) := by decide +kernel
theorem dX8_canType_14 : decode cX8_canType 14 = .ok (.bipush 59, 2) := by decide +kernel
theorem dX8_canType_16 : decode cX8_canType 16 = .ok (.if_icmp .eq 9, 3) := by decide +kernel
theorem dX8_canType_19 : decode cX8_canType 19 = .ok (.iload_n 0, 1) := by decide +kernel
theorem dX8_canType_20 : decode cX8_canType 20 = .ok (.bipush 46, 2) := by decide +kernel
theorem dX8_canType_22 : decode cX8_canType 22 = .ok (.if_icmp .ne 7, 3) := by decide +kernel
theorem dX8_canType_25 : decode cX8_canType 25 = .ok (.iconst 1, 1) := by decide +kernel
theorem dX8_canType_26 : decode cX8_canType 26 = .ok (.goto 4, 3) := by decide +kernel
theorem dX8_canType_29 : decode cX8_canType 29 = .ok (.iconst 0, 1) := by decide +kernel
theorem dX8_canType_30 : decode cX8_canType 30 = .ok (.ireturn, 1) := by decide +kernel
theorem dX8_addSnippet_0 : decode cX8_addSnippet 0 = .ok (.aload_n 0, 1) := by decide +kernel
theorem dX8_addSnippet_1 : decode cX8_addSnippet 1 = .ok (.getfield 64, 3) := by decide +kernel
theorem dX8_addSnippet_4 : decode cX8_addSnippet 4 = .ok (.bipush 8, 2) := by decide +kernel
theorem dX8_addSnippet_6 : decode cX8_addSnippet 6 = .ok (.if_icmp .ne 9, 3) := by decide +kernel
theorem dX8_addSnippet_9 : decode cX8_addSnippet 9 = .ok (.aload_n 0, 1) := by decide +kernel
theorem dX8_addSnippet_10 : decode cX8_addSnippet 10 = .ok (.iconst 1, 1) := by decide +kernel
theorem dX8_addSnippet_11 : decode cX8_addSnippet 11 = .ok (.invokevirtual 75, 3) := by decide +kernel
theorem dX8_addSnippet_14 : decode cX8_addSnippet 14 = .ok (.ireturn, 1) := by decide +kernel
theorem dX8_addSnippet_15 : decode cX8_addSnippet 15 = .ok (.aload_n 0, 1) := by decide +kernel
theorem dX8_addSnippet_16 : decode cX8_addSnippet 16 = .ok (.iconst 0, 1) := by decide +kernel
theorem dX8_addSnippet_17 : decode cX8_addSnippet 17 = .ok (.putfield 61, 3) := by decide +kernel
theorem dX8_addSnippet_20 : decode cX8_addSnippet 20 = .ok (.aload_n 0, 1) := by decide +kernel
theorem dX8_addSnippet_21 : decode cX8_addSnippet 21 = .ok (.getfield 51, 3) := by decide +kernel
theorem dX8_addSnippet_24 : decode cX8_addSnippet 24 = .ok (.aload_n 0, 1) := by decide +kernel
theorem dX8_addSnippet_25 : decode cX8_addSnippet 25 = .ok (.getfield 64, 3) := by decide +kernel
theorem dX8_addSnippet_28 : decode cX8_addSnippet 28 = .ok (.iload_n 1, 1) := by decide +kernel
theorem dX8_addSnippet_29 : decode cX8_addSnippet 29 = .ok (.bastore, 1) := by decide +kernel
theorem dX8_addSnippet_30 : decode cX8_addSnippet 30 = .ok (.aload_n 0, 1) := by decide +kernel
theorem dX8_addSnippet_31 : decode cX8_addSnippet 31 = .ok (.dup, 1) := by decide +kernel
theorem dX8_addSnippet_32 : decode cX8_addSnippet 32 = .ok (.getfield 64, 3) := by decide +kernel
theorem dX8_addSnippet_35 : decode cX8_addSnippet 35 = .ok (.dup_x1, 1) := by decide +kernel
theorem dX8_addSnippet_36 : decode cX8_addSnippet 36 = .ok (.iconst 1, 1) := by decide +kernel
theorem dX8_addSnippet_37 : decode cX8_addSnippet 37 = .ok (.iadd, 1) := by decide +kernel
theorem dX8_addSnippet_38 : decode cX8_addSnippet 38 = .ok (.putfield 64, 3) := by decide +kernel
theorem dX8_addSnippet_41 : decode cX8_addSnippet 41 = .ok (.ireturn, 1) := by decide +kernel
theorem dX8_addToTrigger_0 : decode cX8_addToTrigger 0 = .ok (.aload_n 0, 1) := by decide +kernel
theorem dX8_addToTrigger_1 : decode cX8_addToTrigger 1 = .ok (.iload_n 1, 1) := by decide +kernel
theorem dX8_addToTrigger_2 : decode cX8_addToTrigger 2 = .ok (.invokevirtual 79, 3) := by decide +kernel
theorem dX8_addToTrigger_5 : decode cX8_addToTrigger 5 = .ok (.ifCond .eq 5, 3) := by decide +kernel
theorem dX8_addToTrigger_8 : decode cX8_addToTrigger 8 = .ok (.iconst 0, 1) := by decide +kernel
theorem dX8_addToTrigger_9 : decode cX8_addToTrigger 9 = .ok (.ireturn, 1) := by decide +kernel
theorem dX8_addToTrigger_10 : decode cX8_addToTrigger 10 = .ok (.iload_n 2, 1) := by decide +kernel
theorem dX8_addToTrigger_11 : decode cX8_addToTrigger 11 = .ok (.invokestatic 83, 3) := by decide +kernel
theorem dX8_addToTrigger_14 : decode cX8_addToTrigger 14 = .ok (.ifCond .ne 9, 3) := by decide +kernel
theorem dX8_addToTrigger_17 : decode cX8_addToTrigger 17 = .ok (.aload_n 0, 1) := by decide +kernel
theorem dX8_addToTrigger_18 : decode cX8_addToTrigger 18 = .ok (.iconst 2, 1) := by decide +kernel
theorem dX8_addToTrigger_19 : decode cX8_addToTrigger 19 = .ok (.invokevirtual 75, 3) := by decide +kernel
theorem dX8_addToTrigger_22 : decode cX8_addToTrigger 22 = .ok (.ireturn, 1) := by decide +kernel
theorem dX8_addToTrigger_23 : decode cX8_addToTrigger 23 = .ok (.aload_n 0, 1) := by decide +kernel
theorem dX8_addToTrigger_24 : decode cX8_addToTrigger 24 = .ok (.getfield 29, 3) := by decide +kernel
theorem dX8_addToTrigger_27 : decode cX8_addToTrigger 27 = .ok (.iload_n 1, 1) := by decide +kernel
theorem dX8_addToTrigger_28 : decode cX8_addToTrigger 28 = .ok (.iaload, 1) := by decide +kernel
theorem dX8_addToTrigger_29 : decode cX8_addToTrigger 29 = .ok (.bipush 6, 2) := by decide +kernel
theorem dX8_addToTrigger_31 : decode cX8_addToTrigger 31 = .ok (.if_icmp .ne 9, 3) := by decide +kernel
theorem dX8_addToTrigger_34 : decode cX8_addToTrigger 34 = .ok (.aload_n 0, 1) := by decide +kernel
theorem dX8_addToTrigger_35 : decode cX8_addToTrigger 35 = .ok (.iconst 3, 1) := by decide +kernel
theorem dX8_addToTrigger_36 : decode cX8_addToTrigger 36 = .ok (.invokevirtual 75, 3) := by decide +kernel
theorem dX8_addToTrigger_39 : decode cX8_addToTrigger 39 = .ok (.ireturn, 1) := by decide +kernel
theorem dX8_addToTrigger_40 : decode cX8_addToTrigger 40 = .ok (.aload_n 0, 1) := by decide +kernel
theorem dX8_addToTrigger_41 : decode cX8_addToTrigger 41 = .ok (.getfield 13, 3) := by decide +kernel
theorem dX8_addToTrigger_44 : decode cX8_addToTrigger 44 = .ok (.bipush 6, 2) := by decide +kernel
theorem dX8_addToTrigger_46 : decode cX8_addToTrigger 46 = .ok (.iload_n 1, 1) := by decide +kernel
theorem dX8_addToTrigger_47 : decode cX8_addToTrigger 47 = .ok (.imul, 1) := by decide +kernel
theorem dX8_addToTrigger_48 : decode cX8_addToTrigger 48 = .ok (.aload_n 0, 1) := by decide +kernel
theorem dX8_addToTrigger_49 : decode cX8_addToTrigger 49 = .ok (.getfield 29, 3) := by decide +kernel
theorem dX8_addToTrigger_52 : decode cX8_addToTrigger 52 = .ok (.iload_n 1, 1) := by decide +kernel
theorem dX8_addToTrigger_53 : decode cX8_addToTrigger 53 = .ok (.iaload, 1) := by decide +kernel
theorem dX8_addToTrigger_54 : decode cX8_addToTrigger 54 = .ok (.iadd, 1) := by decide +kernel
theorem dX8_addToTrigger_55 : decode cX8_addToTrigger 55 = .ok (.iload_n 2, 1) := by decide +kernel
theorem dX8_addToTrigger_56 : decode cX8_addToTrigger 56 = .ok (.castore, 1) := by decide +kernel
theorem dX8_addToTrigger_57 : decode cX8_addToTrigger 57 = .ok (.aload_n 0, 1) := by decide +kernel
theorem dX8_addToTrigger_58 : decode cX8_addToTrigger 58 = .ok (.getfield 29, 3) := by decide +kernel
theorem dX8_addToTrigger_61 : decode cX8_addToTrigger 61 = .ok (.iload_n 1, 1) := by decide +kernel
theorem dX8_addToTrigger_62 : decode cX8_addToTrigger 62 = .ok (.dup2, 1) := by decide +kernel
theorem dX8_addToTrigger_63 : decode cX8_addToTrigger 63 = .ok (.iaload, 1) := by decide +kernel
theorem dX8_addToTrigger_64 : decode cX8_addToTrigger 64 = .ok (.iconst 1, 1) := by decide +kernel
theorem dX8_addToTrigger_65 : decode cX8_addToTrigger 65 = .ok (.iadd, 1) := by decide +kernel
theorem dX8_addToTrigger_66 : decode cX8_addToTrigger 66 = .ok (.dup_x2, 1) := by decide +kernel
theorem dX8_addToTrigger_67 : decode cX8_addToTrigger 67 = .ok (.iastore, 1) := by decide +kernel
theorem dX8_addToTrigger_68 : decode cX8_addToTrigger 68 = .ok (.ireturn, 1) := by decide +kernel
theorem dX8_clearTrigger_0 : decode cX8_clearTrigger 0 = .ok (.aload_n 0, 1) := by decide +kernel
theorem dX8_clearTrigger_1 : decode cX8_clearTrigger 1 = .ok (.iload_n 1, 1) := by decide +kernel
theorem dX8_clearTrigger_2 : decode cX8_clearTrigger 2 = .ok (.invokevirtual 79, 3) := by decide +kernel
theorem dX8_clearTrigger_5 : decode cX8_clearTrigger 5 = .ok (.ifCond .eq 5, 3) := by decide +kernel
theorem dX8_clearTrigger_8 : decode cX8_clearTrigger 8 = .ok (.iconst 0, 1) := by decide +kernel
theorem dX8_clearTrigger_9 : decode cX8_clearTrigger 9 = .ok (.ireturn, 1) := by decide +kernel
theorem dX8_clearTrigger_10 : decode cX8_clearTrigger 10 = .ok (.aload_n 0, 1) := by decide +kernel
theorem dX8_clearTrigger_11 : decode cX8_clearTrigger 11 = .ok (.getfield 29, 3) := by decide +kernel
theorem dX8_clearTrigger_14 : decode cX8_clearTrigger 14 = .ok (.iload_n 1, 1) := by decide +kernel
theorem dX8_clearTrigger_15 : decode cX8_clearTrigger 15 = .ok (.iaload, 1) := by decide +kernel
theorem dX8_clearTrigger_16 : decode cX8_clearTrigger 16 = .ok (.istore_n 2, 1) := by decide +kernel
theorem dX8_clearTrigger_17 : decode cX8_clearTrigger 17 = .ok (.aload_n 0, 1) := by decide +kernel
theorem dX8_clearTrigger_18 : decode cX8_clearTrigger 18 = .ok (.getfield 29, 3) := by decide +kernel
theorem dX8_clearTrigger_21 : decode cX8_clearTrigger 21 = .ok (.iload_n 1, 1) := by decide +kernel
theorem dX8_clearTrigger_22 : decode cX8_clearTrigger 22 = .ok (.iconst 0, 1) := by decide +kernel
theorem dX8_clearTrigger_23 : decode cX8_clearTrigger 23 = .ok (.iastore, 1) := by decide +kernel
theorem dX8_clearTrigger_24 : decode cX8_clearTrigger 24 = .ok (.iload_n 2, 1) := by decide +kernel
theorem dX8_clearTrigger_25 : decode cX8_clearTrigger 25 = .ok (.ireturn, 1) := by decide +kernel
theorem dX8_setOn_0 : decode cX8_setOn 0 = .ok (.aload_n 0, 1) := by decide +kernel
theorem dX8_setOn_1 : decode cX8_setOn 1 = .ok (.iload_n 1, 1) := by decide +kernel
theorem dX8_setOn_2 : decode cX8_setOn 2 = .ok (.invokevirtual 79, 3) := by decide +kernel
theorem dX8_setOn_5 : decode cX8_setOn 5 = .ok (.ifCond .eq 5, 3) := by decide +kernel
theorem dX8_setOn_8 : decode cX8_setOn 8 = .ok (.iconst 0, 1) := by decide +kernel
theorem dX8_setOn_9 : decode cX8_setOn 9 = .ok (.ireturn, 1) := by decide +kernel
theorem dX8_setOn_10 : decode cX8_setOn 10 = .ok (.aload_n 0, 1) := by decide +kernel
theorem dX8_setOn_11 : decode cX8_setOn 11 = .ok (.getfield 55, 3) := by decide +kernel
theorem dX8_setOn_14 : decode cX8_setOn 14 = .ok (.iload_n 1, 1) := by decide +kernel
theorem dX8_setOn_15 : decode cX8_setOn 15 = .ok (.baload, 1) := by decide +kernel
theorem dX8_setOn_16 : decode cX8_setOn 16 = .ok (.ifCond .ne 7, 3) := by decide +kernel
theorem dX8_setOn_19 : decode cX8_setOn 19 = .ok (.iconst 1, 1) := by decide +kernel
theorem dX8_setOn_20 : decode cX8_setOn 20 = .ok (.goto 4, 3) := by decide +kernel
theorem dX8_setOn_23 : decode cX8_setOn 23 = .ok (.iconst 0, 1) := by decide +kernel
theorem dX8_setOn_24 : decode cX8_setOn 24 = .ok (.istore_n 3, 1) := by decide +kernel
theorem dX8_setOn_25 : decode cX8_setOn 25 = .ok (.aload_n 0, 1) := by decide +kernel
theorem dX8_setOn_26 : decode cX8_setOn 26 = .ok (.getfield 55, 3) := by decide +kernel
theorem dX8_setOn_29 : decode cX8_setOn 29 = .ok (.iload_n 1, 1) := by decide +kernel
theorem dX8_setOn_30 : decode cX8_setOn 30 = .ok (.iload_n 2, 1) := by decide +kernel
theorem dX8_setOn_31 : decode cX8_setOn 31 = .ok (.ifCond .ne 7, 3) := by decide +kernel
theorem dX8_setOn_34 : decode cX8_setOn 34 = .ok (.iconst 1, 1) := by decide +kernel
theorem dX8_setOn_35 : decode cX8_setOn 35 = .ok (.goto 4, 3) := by decide +kernel
theorem dX8_setOn_38 : decode cX8_setOn 38 = .ok (.iconst 0, 1) := by decide +kernel
theorem dX8_setOn_39 : decode cX8_setOn 39 = .ok (.bastore, 1) := by decide +kernel
theorem dX8_setOn_40 : decode cX8_setOn 40 = .ok (.iload_n 3, 1) := by decide +kernel
theorem dX8_setOn_41 : decode cX8_setOn 41 = .ok (.ireturn, 1) := by decide +kernel
theorem dX8_size_0 : decode cX8_size 0 = .ok (.iconst 0, 1) := by decide +kernel
theorem dX8_size_1 : decode cX8_size 1 = .ok (.istore_n 2, 1) := by decide +kernel
theorem dX8_size_2 : decode cX8_size 2 = .ok (.bipush 12, 2) := by decide +kernel
theorem dX8_size_4 : decode cX8_size 4 = .ok (.iload_n 1, 1) := by decide +kernel
theorem dX8_size_5 : decode cX8_size 5 = .ok (.imul, 1) := by decide +kernel
theorem dX8_size_6 : decode cX8_size 6 = .ok (.istore_n 3, 1) := by decide +kernel
theorem dX8_size_7 : decode cX8_size 7 = .ok (.iload_n 3, 1) := by decide +kernel
theorem dX8_size_8 : decode cX8_size 8 = .ok (.bipush 12, 2) := by decide +kernel
theorem dX8_size_10 : decode cX8_size 10 = .ok (.iload_n 1, 1) := by decide +kernel
theorem dX8_size_11 : decode cX8_size 11 = .ok (.imul, 1) := by decide +kernel
theorem dX8_size_12 : decode cX8_size 12 = .ok (.aload_n 0, 1) := by decide +kernel
theorem dX8_size_13 : decode cX8_size 13 = .ok (.getfield 33, 3) := by decide +kernel
theorem dX8_size_16 : decode cX8_size 16 = .ok (.iload_n 1, 1) := by decide +kernel
theorem dX8_size_17 : decode cX8_size 17 = .ok (.iaload, 1) := by decide +kernel
theorem dX8_size_18 : decode cX8_size 18 = .ok (.iadd, 1) := by decide +kernel
theorem dX8_size_19 : decode cX8_size 19 = .ok (.if_icmp .ge 114, 3) := by decide +kernel
theorem dX8_size_22 : decode cX8_size 22 = .ok (.aload_n 0, 1) := by decide +kernel
theorem dX8_size_23 : decode cX8_size 23 = .ok (.getfield 17, 3) := by decide +kernel
theorem dX8_size_26 : decode cX8_size 26 = .ok (.iload_n 3, 1) := by decide +kernel
theorem dX8_size_27 : decode cX8_size 27 = .ok (.caload, 1) := by decide +kernel
theorem dX8_size_28 : decode cX8_size 28 = .ok (.bipush 115, 2) := by decide +kernel
theorem dX8_size_30 : decode cX8_size 30 = .ok (.if_icmp .ne 21, 3) := by decide +kernel
theorem dX8_size_33 : decode cX8_size 33 = .ok (.iload_n 2, 1) := by decide +kernel
theorem dX8_size_34 : decode cX8_size 34 = .ok (.iconst 1, 1) := by decide +kernel
theorem dX8_size_35 : decode cX8_size 35 = .ok (.aload_n 0, 1) := by decide +kernel
theorem dX8_size_36 : decode cX8_size 36 = .ok (.aload_n 0, 1) := by decide +kernel
theorem dX8_size_37 : decode cX8_size 37 = .ok (.getfield 36, 3) := by decide +kernel
theorem dX8_size_40 : decode cX8_size 40 = .ok (.iload_n 3, 1) := by decide +kernel
theorem dX8_size_41 : decode cX8_size 41 = .ok (.iaload, 1) := by decide +kernel
theorem dX8_size_42 : decode cX8_size 42 = .ok (.invokevirtual 86, 3) := by decide +kernel
theorem dX8_size_45 : decode cX8_size 45 = .ok (.iadd, 1) := by decide +kernel
theorem dX8_size_46 : decode cX8_size 46 = .ok (.iadd, 1) := by decide +kernel
theorem dX8_size_47 : decode cX8_size 47 = .ok (.istore_n 2, 1) := by decide +kernel
theorem dX8_size_48 : decode cX8_size 48 = .ok (.goto 79, 3) := by decide +kernel
theorem dX8_size_51 : decode cX8_size 51 = .ok (.aload_n 0, 1) := by decide +kernel
theorem dX8_size_52 : decode cX8_size 52 = .ok (.getfield 17, 3) := by decide +kernel
theorem dX8_size_55 : decode cX8_size 55 = .ok (.iload_n 3, 1) := by decide +kernel
theorem dX8_size_56 : decode cX8_size 56 = .ok (.caload, 1) := by decide +kernel
theorem dX8_size_57 : decode cX8_size 57 = .ok (.bipush 111, 2) := by decide +kernel
theorem dX8_size_59 : decode cX8_size 59 = .ok (.if_icmp .ne 49, 3) := by decide +kernel
theorem dX8_size_62 : decode cX8_size 62 = .ok (.aload_n 0, 1) := by decide +kernel
theorem dX8_size_63 : decode cX8_size 63 = .ok (.aload_n 0, 1) := by decide +kernel
theorem dX8_size_64 : decode cX8_size 64 = .ok (.getfield 36, 3) := by decide +kernel
theorem dX8_size_67 : decode cX8_size 67 = .ok (.iload_n 3, 1) := by decide +kernel
theorem dX8_size_68 : decode cX8_size 68 = .ok (.iaload, 1) := by decide +kernel
theorem dX8_size_69 : decode cX8_size 69 = .ok (.invokevirtual 86, 3) := by decide +kernel
theorem dX8_size_72 : decode cX8_size 72 = .ok (.istore 4, 2) := by decide +kernel
theorem dX8_size_74 : decode cX8_size 74 = .ok (.aload_n 0, 1) := by decide +kernel
theorem dX8_size_75 : decode cX8_size 75 = .ok (.aload_n 0, 1) := by decide +kernel
theorem dX8_size_76 : decode cX8_size 76 = .ok (.getfield 39, 3) := by decide +kernel
theorem dX8_size_79 : decode cX8_size 79 = .ok (.iload_n 3, 1) := by decide +kernel
theorem dX8_size_80 : decode cX8_size 80 = .ok (.iaload, 1) := by decide +kernel
theorem dX8_size_81 : decode cX8_size 81 = .ok (.invokevirtual 86, 3) := by decide +kernel
theorem dX8_size_84 : decode cX8_size 84 = .ok (.istore 5, 2) := by decide +kernel
theorem dX8_size_86 : decode cX8_size 86 = .ok (.iload_n 2, 1) := by decide +kernel
theorem dX8_size_87 : decode cX8_size 87 = .ok (.iconst 1, 1) := by decide +kernel
theorem dX8_size_88 : decode cX8_size 88 = .ok (.iload 4, 2) := by decide +kernel
theorem dX8_size_90 : decode cX8_size 90 = .ok (.iload 5, 2) := by decide +kernel
theorem dX8_size_92 : decode cX8_size 92 = .ok (.if_icmp .le 8, 3) := by decide +kernel
theorem dX8_size_95 : decode cX8_size 95 = .ok (.iload 4, 2) := by decide +kernel
theorem dX8_size_97 : decode cX8_size 97 = .ok (.goto 5, 3) := by decide +kernel
theorem dX8_size_100 : decode cX8_size 100 = .ok (.iload 5, 2) := by decide +kernel
theorem dX8_size_102 : decode cX8_size 102 = .ok (.iadd, 1) := by decide +kernel
theorem dX8_size_103 : decode cX8_size 103 = .ok (.iadd, 1) := by decide +kernel
theorem dX8_size_104 : decode cX8_size 104 = .ok (.istore_n 2, 1) := by decide +kernel
theorem dX8_size_105 : decode cX8_size 105 = .ok (.goto 22, 3) := by decide +kernel
theorem dX8_size_108 : decode cX8_size 108 = .ok (.iload_n 2, 1) := by decide +kernel
theorem dX8_size_109 : decode cX8_size 109 = .ok (.aload_n 0, 1) := by decide +kernel
theorem dX8_size_110 : decode cX8_size 110 = .ok (.getfield 17, 3) := by decide +kernel
theorem dX8_size_113 : decode cX8_size 113 = .ok (.iload_n 3, 1) := by decide +kernel
theorem dX8_size_114 : decode cX8_size 114 = .ok (.caload, 1) := by decide +kernel
theorem dX8_size_115 : decode cX8_size 115 = .ok (.bipush 100, 2) := by decide +kernel
theorem dX8_size_117 : decode cX8_size 117 = .ok (.if_icmp .ne 7, 3) := by decide +kernel
theorem dX8_size_120 : decode cX8_size 120 = .ok (.iconst 5, 1) := by decide +kernel
theorem dX8_size_121 : decode cX8_size 121 = .ok (.goto 4, 3) := by decide +kernel
theorem dX8_size_124 : decode cX8_size 124 = .ok (.iconst 1, 1) := by decide +kernel
theorem dX8_size_125 : decode cX8_size 125 = .ok (.iadd, 1) := by decide +kernel
theorem dX8_size_126 : decode cX8_size 126 = .ok (.istore_n 2, 1) := by decide +kernel
theorem dX8_size_127 : decode cX8_size 127 = .ok (.iinc 3 1, 3) := by decide +kernel
theorem dX8_size_130 : decode cX8_size 130 = .ok (.goto (-123), 3) := by decide +kernel
theorem dX8_size_133 : decode cX8_size 133 = .ok (.iload_n 2, 1) := by decide +kernel
theorem dX8_size_134 : decode cX8_size 134 = .ok (.ireturn, 1) := by decide +kernel
theorem dX8_puts_0 : decode cX8_puts 0 = .ok (.aload_n 0, 1) := by decide +kernel
theorem dX8_puts_1 : decode cX8_puts 1 = .ok (.getfield 33, 3) := by decide +kernel
theorem dX8_puts_4 : decode cX8_puts 4 = .ok (.iload_n 1, 1) := by decide +kernel
theorem dX8_puts_5 : decode cX8_puts 5 = .ok (.iaload, 1) := by decide +kernel
theorem dX8_puts_6 : decode cX8_puts 6 = .ok (.bipush 12, 2) := by decide +kernel
theorem dX8_puts_8 : decode cX8_puts 8 = .ok (.if_icmp .ne 10, 3) := by decide +kernel
theorem dX8_puts_11 : decode cX8_puts 11 = .ok (.aload_n 0, 1) := by decide +kernel
theorem dX8_puts_12 : decode cX8_puts 12 = .ok (.iload 5, 2) := by decide +kernel
theorem dX8_puts_14 : decode cX8_puts 14 = .ok (.invokevirtual 75, 3) := by decide +kernel
theorem dX8_puts_17 : decode cX8_puts 17 = .ok (.ireturn, 1) := by decide +kernel
theorem dX8_puts_18 : decode cX8_puts 18 = .ok (.bipush 12, 2) := by decide +kernel
theorem dX8_puts_20 : decode cX8_puts 20 = .ok (.iload_n 1, 1) := by decide +kernel
theorem dX8_puts_21 : decode cX8_puts 21 = .ok (.imul, 1) := by decide +kernel
theorem dX8_puts_22 : decode cX8_puts 22 = .ok (.aload_n 0, 1) := by decide +kernel
theorem dX8_puts_23 : decode cX8_puts 23 = .ok (.getfield 33, 3) := by decide +kernel
theorem dX8_puts_26 : decode cX8_puts 26 = .ok (.iload_n 1, 1) := by decide +kernel
theorem dX8_puts_27 : decode cX8_puts 27 = .ok (.iaload, 1) := by decide +kernel
theorem dX8_puts_28 : decode cX8_puts 28 = .ok (.iadd, 1) := by decide +kernel
theorem dX8_puts_29 : decode cX8_puts 29 = .ok (.istore 6, 2) := by decide +kernel
theorem dX8_puts_31 : decode cX8_puts 31 = .ok (.aload_n 0, 1) := by decide +kernel
theorem dX8_puts_32 : decode cX8_puts 32 = .ok (.getfield 17, 3) := by decide +kernel
theorem dX8_puts_35 : decode cX8_puts 35 = .ok (.iload 6, 2) := by decide +kernel
theorem dX8_puts_37 : decode cX8_puts 37 = .ok (.iload_n 2, 1) := by decide +kernel
theorem dX8_puts_38 : decode cX8_puts 38 = .ok (.castore, 1) := by decide +kernel
theorem dX8_puts_39 : decode cX8_puts 39 = .ok (.aload_n 0, 1) := by decide +kernel
theorem dX8_puts_40 : decode cX8_puts 40 = .ok (.getfield 36, 3) := by decide +kernel
theorem dX8_puts_43 : decode cX8_puts 43 = .ok (.iload 6, 2) := by decide +kernel
theorem dX8_puts_45 : decode cX8_puts 45 = .ok (.iload_n 3, 1) := by decide +kernel
theorem dX8_puts_46 : decode cX8_puts 46 = .ok (.iastore, 1) := by decide +kernel
theorem dX8_puts_47 : decode cX8_puts 47 = .ok (.aload_n 0, 1) := by decide +kernel
theorem dX8_puts_48 : decode cX8_puts 48 = .ok (.getfield 39, 3) := by decide +kernel
theorem dX8_puts_51 : decode cX8_puts 51 = .ok (.iload 6, 2) := by decide +kernel
theorem dX8_puts_53 : decode cX8_puts 53 = .ok (.iload 4, 2) := by decide +kernel
theorem dX8_puts_55 : decode cX8_puts 55 = .ok (.iastore, 1) := by decide +kernel
theorem dX8_puts_56 : decode cX8_puts 56 = .ok (.aload_n 0, 1) := by decide +kernel
theorem dX8_puts_57 : decode cX8_puts 57 = .ok (.getfield 33, 3) := by decide +kernel
theorem dX8_puts_60 : decode cX8_puts 60 = .ok (.iload_n 1, 1) := by decide +kernel
theorem dX8_puts_61 : decode cX8_puts 61 = .ok (.dup2, 1) := by decide +kernel
theorem dX8_puts_62 : decode cX8_puts 62 = .ok (.iaload, 1) := by decide +kernel
theorem dX8_puts_63 : decode cX8_puts 63 = .ok (.iconst 1, 1) := by decide +kernel
theorem dX8_puts_64 : decode cX8_puts 64 = .ok (.iadd, 1) := by decide +kernel
theorem dX8_puts_65 : decode cX8_puts 65 = .ok (.iastore, 1) := by decide +kernel
theorem dX8_puts_66 : decode cX8_puts 66 = .ok (.iconst 0, 1) := by decide +kernel
theorem dX8_puts_67 : decode cX8_puts 67 = .ok (.istore 7, 2) := by decide +kernel
theorem dX8_puts_69 : decode cX8_puts 69 = .ok (.iload 7, 2) := by decide +kernel
theorem dX8_puts_71 : decode cX8_puts 71 = .ok (.aload_n 0, 1) := by decide +kernel
theorem dX8_puts_72 : decode cX8_puts 72 = .ok (.getfield 64, 3) := by decide +kernel
theorem dX8_puts_75 : decode cX8_puts 75 = .ok (.if_icmp .ge 41, 3) := by decide +kernel
theorem dX8_puts_78 : decode cX8_puts 78 = .ok (.aload_n 0, 1) := by decide +kernel
theorem dX8_puts_79 : decode cX8_puts 79 = .ok (.iload 7, 2) := by decide +kernel
theorem dX8_puts_81 : decode cX8_puts 81 = .ok (.invokevirtual 86, 3) := by decide +kernel
theorem dX8_puts_84 : decode cX8_puts 84 = .ok (.sipush 200, 3) := by decide +kernel
theorem dX8_puts_87 : decode cX8_puts 87 = .ok (.if_icmp .gt 6, 3) := by decide +kernel
theorem dX8_puts_90 : decode cX8_puts 90 = .ok (.goto 20, 3) := by decide +kernel
theorem dX8_puts_93 : decode cX8_puts 93 = .ok (.aload_n 0, 1) := by decide +kernel
theorem dX8_puts_94 : decode cX8_puts 94 = .ok (.getfield 33, 3) := by decide +kernel
theorem dX8_puts_97 : decode cX8_puts 97 = .ok (.iload_n 1, 1) := by decide +kernel
theorem dX8_puts_98 : decode cX8_puts 98 = .ok (.dup2, 1) := by decide +kernel
theorem dX8_puts_99 : decode cX8_puts 99 = .ok (.iaload, 1) := by decide +kernel
theorem dX8_puts_100 : decode cX8_puts 100 = .ok (.iconst 1, 1) := by decide +kernel
theorem dX8_puts_101 : decode cX8_puts 101 = .ok (.isub, 1) := by decide +kernel
theorem dX8_puts_102 : decode cX8_puts 102 = .ok (.iastore, 1) := by decide +kernel
theorem dX8_puts_103 : decode cX8_puts 103 = .ok (.aload_n 0, 1) := by decide +kernel
theorem dX8_puts_104 : decode cX8_puts 104 = .ok (.iload 5, 2) := by decide +kernel
theorem dX8_puts_106 : decode cX8_puts 106 = .ok (.invokevirtual 75, 3) := by decide +kernel
theorem dX8_puts_109 : decode cX8_puts 109 = .ok (.ireturn, 1) := by decide +kernel
theorem dX8_puts_110 : decode cX8_puts 110 = .ok (.iinc 7 1, 3) := by decide +kernel
theorem dX8_puts_113 : decode cX8_puts 113 = .ok (.goto (-44), 3) := by decide +kernel
theorem dX8_puts_116 : decode cX8_puts 116 = .ok (.aload_n 0, 1) := by decide +kernel
theorem dX8_puts_117 : decode cX8_puts 117 = .ok (.iconst 0, 1) := by decide +kernel
theorem dX8_puts_118 : decode cX8_puts 118 = .ok (.putfield 61, 3) := by decide +kernel
theorem dX8_puts_121 : decode cX8_puts 121 = .ok (.aload_n 0, 1) := by decide +kernel
theorem dX8_puts_122 : decode cX8_puts 122 = .ok (.getfield 33, 3) := by decide +kernel
theorem dX8_puts_125 : decode cX8_puts 125 = .ok (.iload_n 1, 1) := by decide +kernel
theorem dX8_puts_126 : decode cX8_puts 126 = .ok (.iaload, 1) := by decide +kernel
theorem dX8_puts_127 : decode cX8_puts 127 = .ok (.ireturn, 1) := by decide +kernel
theorem dX8_putCharacter_0 : decode cX8_putCharacter 0 = .ok (.aload_n 0, 1) := by decide +kernel
theorem dX8_putCharacter_1 : decode cX8_putCharacter 1 = .ok (.iload_n 1, 1) := by decide +kernel
theorem dX8_putCharacter_2 : decode cX8_putCharacter 2 = .ok (.invokevirtual 79, 3) := by decide +kernel
theorem dX8_putCharacter_5 : decode cX8_putCharacter 5 = .ok (.ifCond .eq 5, 3) := by decide +kernel
theorem dX8_putCharacter_8 : decode cX8_putCharacter 8 = .ok (.iconst 0, 1) := by decide +kernel
theorem dX8_putCharacter_9 : decode cX8_putCharacter 9 = .ok (.ireturn, 1) := by decide +kernel
theorem dX8_putCharacter_10 : decode cX8_putCharacter 10 = .ok (.iload_n 2, 1) := by decide +kernel
theorem dX8_putCharacter_11 : decode cX8_putCharacter 11 = .ok (.invokestatic 83, 3) := by decide +kernel
theorem dX8_putCharacter_14 : decode cX8_putCharacter 14 = .ok (.ifCond .ne 9, 3) := by decide +kernel
theorem dX8_putCharacter_17 : decode cX8_putCharacter 17 = .ok (.aload_n 0, 1) := by decide +kernel
theorem dX8_putCharacter_18 : decode cX8_putCharacter 18 = .ok (.iconst 2, 1) := by decide +kernel
theorem dX8_putCharacter_19 : decode cX8_putCharacter 19 = .ok (.invokevirtual 75, 3) := by decide +kernel
theorem dX8_putCharacter_22 : decode cX8_putCharacter 22 = .ok (.ireturn, 1) := by decide +kernel
theorem dX8_putCharacter_23 : decode cX8_putCharacter 23 = .ok (.aload_n 0, 1) := by decide +kernel
theorem dX8_putCharacter_24 : decode cX8_putCharacter 24 = .ok (.iload_n 1, 1) := by decide +kernel
theorem dX8_putCharacter_25 : decode cX8_putCharacter 25 = .ok (.bipush 99, 2) := by decide +kernel
theorem dX8_putCharacter_27 : decode cX8_putCharacter 27 = .ok (.iload_n 2, 1) := by decide +kernel
theorem dX8_putCharacter_28 : decode cX8_putCharacter 28 = .ok (.iconst 0, 1) := by decide +kernel
theorem dX8_putCharacter_29 : decode cX8_putCharacter 29 = .ok (.iconst 3, 1) := by decide +kernel
theorem dX8_putCharacter_30 : decode cX8_putCharacter 30 = .ok (.invokevirtual 89, 3) := by decide +kernel
theorem dX8_putCharacter_33 : decode cX8_putCharacter 33 = .ok (.ireturn, 1) := by decide +kernel
theorem dX8_goesTo_0 : decode cX8_goesTo 0 = .ok (.bipush 12, 2) := by decide +kernel
theorem dX8_goesTo_2 : decode cX8_goesTo 2 = .ok (.iload_n 1, 1) := by decide +kernel
theorem dX8_goesTo_3 : decode cX8_goesTo 3 = .ok (.imul, 1) := by decide +kernel
theorem dX8_goesTo_4 : decode cX8_goesTo 4 = .ok (.istore_n 3, 1) := by decide +kernel
theorem dX8_goesTo_5 : decode cX8_goesTo 5 = .ok (.iload_n 3, 1) := by decide +kernel
theorem dX8_goesTo_6 : decode cX8_goesTo 6 = .ok (.bipush 12, 2) := by decide +kernel
theorem dX8_goesTo_8 : decode cX8_goesTo 8 = .ok (.iload_n 1, 1) := by decide +kernel
theorem dX8_goesTo_9 : decode cX8_goesTo 9 = .ok (.imul, 1) := by decide +kernel
theorem dX8_goesTo_10 : decode cX8_goesTo 10 = .ok (.aload_n 0, 1) := by decide +kernel
theorem dX8_goesTo_11 : decode cX8_goesTo 11 = .ok (.getfield 33, 3) := by decide +kernel
theorem dX8_goesTo_14 : decode cX8_goesTo 14 = .ok (.iload_n 1, 1) := by decide +kernel
theorem dX8_goesTo_15 : decode cX8_goesTo 15 = .ok (.iaload, 1) := by decide +kernel
theorem dX8_goesTo_16 : decode cX8_goesTo 16 = .ok (.iadd, 1) := by decide +kernel
theorem dX8_goesTo_17 : decode cX8_goesTo 17 = .ok (.if_icmp .ge 94, 3) := by decide +kernel
theorem dX8_goesTo_20 : decode cX8_goesTo 20 = .ok (.aload_n 0, 1) := by decide +kernel
theorem dX8_goesTo_21 : decode cX8_goesTo 21 = .ok (.getfield 17, 3) := by decide +kernel
theorem dX8_goesTo_24 : decode cX8_goesTo 24 = .ok (.iload_n 3, 1) := by decide +kernel
theorem dX8_goesTo_25 : decode cX8_goesTo 25 = .ok (.caload, 1) := by decide +kernel
theorem dX8_goesTo_26 : decode cX8_goesTo 26 = .ok (.bipush 115, 2) := by decide +kernel
theorem dX8_goesTo_28 : decode cX8_goesTo 28 = .ok (.if_icmp .eq 14, 3) := by decide +kernel
theorem dX8_goesTo_31 : decode cX8_goesTo 31 = .ok (.aload_n 0, 1) := by decide +kernel
theorem dX8_goesTo_32 : decode cX8_goesTo 32 = .ok (.getfield 17, 3) := by decide +kernel
theorem dX8_goesTo_35 : decode cX8_goesTo 35 = .ok (.iload_n 3, 1) := by decide +kernel
theorem dX8_goesTo_36 : decode cX8_goesTo 36 = .ok (.caload, 1) := by decide +kernel
theorem dX8_goesTo_37 : decode cX8_goesTo 37 = .ok (.bipush 111, 2) := by decide +kernel
theorem dX8_goesTo_39 : decode cX8_goesTo 39 = .ok (.if_icmp .ne 29, 3) := by decide +kernel
theorem dX8_goesTo_42 : decode cX8_goesTo 42 = .ok (.aload_n 0, 1) := by decide +kernel
theorem dX8_goesTo_43 : decode cX8_goesTo 43 = .ok (.getfield 36, 3) := by decide +kernel
theorem dX8_goesTo_46 : decode cX8_goesTo 46 = .ok (.iload_n 3, 1) := by decide +kernel
theorem dX8_goesTo_47 : decode cX8_goesTo 47 = .ok (.iaload, 1) := by decide +kernel
theorem dX8_goesTo_48 : decode cX8_goesTo 48 = .ok (.iload_n 2, 1) := by decide +kernel
theorem dX8_goesTo_49 : decode cX8_goesTo 49 = .ok (.if_icmp .eq 17, 3) := by decide +kernel
theorem dX8_goesTo_52 : decode cX8_goesTo 52 = .ok (.aload_n 0, 1) := by decide +kernel
theorem dX8_goesTo_53 : decode cX8_goesTo 53 = .ok (.aload_n 0, 1) := by decide +kernel
theorem dX8_goesTo_54 : decode cX8_goesTo 54 = .ok (.getfield 36, 3) := by decide +kernel
theorem dX8_goesTo_57 : decode cX8_goesTo 57 = .ok (.iload_n 3, 1) := by decide +kernel
theorem dX8_goesTo_58 : decode cX8_goesTo 58 = .ok (.iaload, 1) := by decide +kernel
theorem dX8_goesTo_59 : decode cX8_goesTo 59 = .ok (.iload_n 2, 1) := by decide +kernel
theorem dX8_goesTo_60 : decode cX8_goesTo 60 = .ok (.invokevirtual 93, 3) := by decide +kernel
theorem dX8_goesTo_63 : decode cX8_goesTo 63 = .ok (.ifCond .eq 5, 3) := by decide +kernel
theorem dX8_goesTo_66 : decode cX8_goesTo 66 = .ok (.iconst 1, 1) := by decide +kernel
theorem dX8_goesTo_67 : decode cX8_goesTo 67 = .ok (.ireturn, 1) := by decide +kernel
theorem dX8_goesTo_68 : decode cX8_goesTo 68 = .ok (.aload_n 0, 1) := by decide +kernel
theorem dX8_goesTo_69 : decode cX8_goesTo 69 = .ok (.getfield 17, 3) := by decide +kernel
theorem dX8_goesTo_72 : decode cX8_goesTo 72 = .ok (.iload_n 3, 1) := by decide +kernel
theorem dX8_goesTo_73 : decode cX8_goesTo 73 = .ok (.caload, 1) := by decide +kernel
theorem dX8_goesTo_74 : decode cX8_goesTo 74 = .ok (.bipush 111, 2) := by decide +kernel
theorem dX8_goesTo_76 : decode cX8_goesTo 76 = .ok (.if_icmp .ne 29, 3) := by decide +kernel
theorem dX8_goesTo_79 : decode cX8_goesTo 79 = .ok (.aload_n 0, 1) := by decide +kernel
theorem dX8_goesTo_80 : decode cX8_goesTo 80 = .ok (.getfield 39, 3) := by decide +kernel
theorem dX8_goesTo_83 : decode cX8_goesTo 83 = .ok (.iload_n 3, 1) := by decide +kernel
theorem dX8_goesTo_84 : decode cX8_goesTo 84 = .ok (.iaload, 1) := by decide +kernel
theorem dX8_goesTo_85 : decode cX8_goesTo 85 = .ok (.iload_n 2, 1) := by decide +kernel
theorem dX8_goesTo_86 : decode cX8_goesTo 86 = .ok (.if_icmp .eq 17, 3) := by decide +kernel
theorem dX8_goesTo_89 : decode cX8_goesTo 89 = .ok (.aload_n 0, 1) := by decide +kernel
theorem dX8_goesTo_90 : decode cX8_goesTo 90 = .ok (.aload_n 0, 1) := by decide +kernel
theorem dX8_goesTo_91 : decode cX8_goesTo 91 = .ok (.getfield 39, 3) := by decide +kernel
theorem dX8_goesTo_94 : decode cX8_goesTo 94 = .ok (.iload_n 3, 1) := by decide +kernel
theorem dX8_goesTo_95 : decode cX8_goesTo 95 = .ok (.iaload, 1) := by decide +kernel
theorem dX8_goesTo_96 : decode cX8_goesTo 96 = .ok (.iload_n 2, 1) := by decide +kernel
theorem dX8_goesTo_97 : decode cX8_goesTo 97 = .ok (.invokevirtual 93, 3) := by decide +kernel
theorem dX8_goesTo_100 : decode cX8_goesTo 100 = .ok (.ifCond .eq 5, 3) := by decide +kernel
theorem dX8_goesTo_103 : decode cX8_goesTo 103 = .ok (.iconst 1, 1) := by decide +kernel
theorem dX8_goesTo_104 : decode cX8_goesTo 104 = .ok (.ireturn, 1) := by decide +kernel
theorem dX8_goesTo_105 : decode cX8_goesTo 105 = .ok (.iinc 3 1, 3) := by decide +kernel
theorem dX8_goesTo_108 : decode cX8_goesTo 108 = .ok (.goto (-103), 3) := by decide +kernel
theorem dX8_goesTo_111 : decode cX8_goesTo 111 = .ok (.iconst 0, 1) := by decide +kernel
theorem dX8_goesTo_112 : decode cX8_goesTo 112 = .ok (.ireturn, 1) := by decide +kernel
theorem dX8_putSnippet_0 : decode cX8_putSnippet 0 = .ok (.aload_n 0, 1) := by decide +kernel
theorem dX8_putSnippet_1 : decode cX8_putSnippet 1 = .ok (.iload_n 1, 1) := by decide +kernel
theorem dX8_putSnippet_2 : decode cX8_putSnippet 2 = .ok (.invokevirtual 79, 3) := by decide +kernel
theorem dX8_putSnippet_5 : decode cX8_putSnippet 5 = .ok (.ifCond .ne 11, 3) := by decide +kernel
theorem dX8_putSnippet_8 : decode cX8_putSnippet 8 = .ok (.aload_n 0, 1) := by decide +kernel
theorem dX8_putSnippet_9 : decode cX8_putSnippet 9 = .ok (.iload_n 2, 1) := by decide +kernel
theorem dX8_putSnippet_10 : decode cX8_putSnippet 10 = .ok (.invokevirtual 79, 3) := by decide +kernel
theorem dX8_putSnippet_13 : decode cX8_putSnippet 13 = .ok (.ifCond .eq 5, 3) := by decide +kernel
theorem dX8_putSnippet_16 : decode cX8_putSnippet 16 = .ok (.iconst 0, 1) := by decide +kernel
theorem dX8_putSnippet_17 : decode cX8_putSnippet 17 = .ok (.ireturn, 1) := by decide +kernel
theorem dX8_putSnippet_18 : decode cX8_putSnippet 18 = .ok (.iload_n 2, 1) := by decide +kernel
theorem dX8_putSnippet_19 : decode cX8_putSnippet 19 = .ok (.iload_n 1, 1) := by decide +kernel
theorem dX8_putSnippet_20 : decode cX8_putSnippet 20 = .ok (.if_icmp .eq 12, 3) := by decide +kernel
theorem dX8_putSnippet_23 : decode cX8_putSnippet 23 = .ok (.aload_n 0, 1) := by decide +kernel
theorem dX8_putSnippet_24 : decode cX8_putSnippet 24 = .ok (.iload_n 2, 1) := by decide +kernel
theorem dX8_putSnippet_25 : decode cX8_putSnippet 25 = .ok (.iload_n 1, 1) := by decide +kernel
theorem dX8_putSnippet_26 : decode cX8_putSnippet 26 = .ok (.invokevirtual 93, 3) := by decide +kernel
theorem dX8_putSnippet_29 : decode cX8_putSnippet 29 = .ok (.ifCond .eq 9, 3) := by decide +kernel
theorem dX8_putSnippet_32 : decode cX8_putSnippet 32 = .ok (.aload_n 0, 1) := by decide +kernel
theorem dX8_putSnippet_33 : decode cX8_putSnippet 33 = .ok (.iconst 2, 1) := by decide +kernel
theorem dX8_putSnippet_34 : decode cX8_putSnippet 34 = .ok (.invokevirtual 75, 3) := by decide +kernel
theorem dX8_putSnippet_37 : decode cX8_putSnippet 37 = .ok (.ireturn, 1) := by decide +kernel
theorem dX8_putSnippet_38 : decode cX8_putSnippet 38 = .ok (.aload_n 0, 1) := by decide +kernel
theorem dX8_putSnippet_39 : decode cX8_putSnippet 39 = .ok (.iload_n 1, 1) := by decide +kernel
theorem dX8_putSnippet_40 : decode cX8_putSnippet 40 = .ok (.bipush 115, 2) := by decide +kernel
theorem dX8_putSnippet_42 : decode cX8_putSnippet 42 = .ok (.iload_n 2, 1) := by decide +kernel
theorem dX8_putSnippet_43 : decode cX8_putSnippet 43 = .ok (.iconst 0, 1) := by decide +kernel
theorem dX8_putSnippet_44 : decode cX8_putSnippet 44 = .ok (.iconst 3, 1) := by decide +kernel
theorem dX8_putSnippet_45 : decode cX8_putSnippet 45 = .ok (.invokevirtual 89, 3) := by decide +kernel
theorem dX8_putSnippet_48 : decode cX8_putSnippet 48 = .ok (.ireturn, 1) := by decide +kernel
theorem dX8_putChoice_0 : decode cX8_putChoice 0 = .ok (.aload_n 0, 1) := by decide +kernel
theorem dX8_putChoice_1 : decode cX8_putChoice 1 = .ok (.iload_n 1, 1) := by decide +kernel
theorem dX8_putChoice_2 : decode cX8_putChoice 2 = .ok (.invokevirtual 79, 3) := by decide +kernel
theorem dX8_putChoice_5 : decode cX8_putChoice 5 = .ok (.ifCond .ne 19, 3) := by decide +kernel
theorem dX8_putChoice_8 : decode cX8_putChoice 8 = .ok (.aload_n 0, 1) := by decide +kernel
theorem dX8_putChoice_9 : decode cX8_putChoice 9 = .ok (.iload_n 2, 1) := by decide +kernel
theorem dX8_putChoice_10 : decode cX8_putChoice 10 = .ok (.invokevirtual 79, 3) := by decide +kernel
theorem dX8_putChoice_13 : decode cX8_putChoice 13 = .ok (.ifCond .ne 11, 3) := by decide +kernel
theorem dX8_putChoice_16 : decode cX8_putChoice 16 = .ok (.aload_n 0, 1) := by decide +kernel
theorem dX8_putChoice_17 : decode cX8_putChoice 17 = .ok (.iload_n 3, 1) := by decide +kernel
theorem dX8_putChoice_18 : decode cX8_putChoice 18 = .ok (.invokevirtual 79, 3) := by decide +kernel
theorem dX8_putChoice_21 : decode cX8_putChoice 21 = .ok (.ifCond .eq 5, 3) := by decide +kernel
theorem dX8_putChoice_24 : decode cX8_putChoice 24 = .ok (.iconst 0, 1) := by decide +kernel
theorem dX8_putChoice_25 : decode cX8_putChoice 25 = .ok (.ireturn, 1) := by decide +kernel
theorem dX8_putChoice_26 : decode cX8_putChoice 26 = .ok (.iload_n 2, 1) := by decide +kernel
theorem dX8_putChoice_27 : decode cX8_putChoice 27 = .ok (.iload_n 1, 1) := by decide +kernel
theorem dX8_putChoice_28 : decode cX8_putChoice 28 = .ok (.if_icmp .eq 26, 3) := by decide +kernel
theorem dX8_putChoice_31 : decode cX8_putChoice 31 = .ok (.iload_n 3, 1) := by decide +kernel
theorem dX8_putChoice_32 : decode cX8_putChoice 32 = .ok (.iload_n 1, 1) := by decide +kernel
theorem dX8_putChoice_33 : decode cX8_putChoice 33 = .ok (.if_icmp .eq 21, 3) := by decide +kernel
theorem dX8_putChoice_36 : decode cX8_putChoice 36 = .ok (.aload_n 0, 1) := by decide +kernel
theorem dX8_putChoice_37 : decode cX8_putChoice 37 = .ok (.iload_n 2, 1) := by decide +kernel
theorem dX8_putChoice_38 : decode cX8_putChoice 38 = .ok (.iload_n 1, 1) := by decide +kernel
theorem dX8_putChoice_39 : decode cX8_putChoice 39 = .ok (.invokevirtual 93, 3) := by decide +kernel
theorem dX8_putChoice_42 : decode cX8_putChoice 42 = .ok (.ifCond .ne 12, 3) := by decide +kernel
theorem dX8_putChoice_45 : decode cX8_putChoice 45 = .ok (.aload_n 0, 1) := by decide +kernel
theorem dX8_putChoice_46 : decode cX8_putChoice 46 = .ok (.iload_n 3, 1) := by decide +kernel
theorem dX8_putChoice_47 : decode cX8_putChoice 47 = .ok (.iload_n 1, 1) := by decide +kernel
theorem dX8_putChoice_48 : decode cX8_putChoice 48 = .ok (.invokevirtual 93, 3) := by decide +kernel
theorem dX8_putChoice_51 : decode cX8_putChoice 51 = .ok (.ifCond .eq 9, 3) := by decide +kernel
theorem dX8_putChoice_54 : decode cX8_putChoice 54 = .ok (.aload_n 0, 1) := by decide +kernel
theorem dX8_putChoice_55 : decode cX8_putChoice 55 = .ok (.iconst 2, 1) := by decide +kernel
theorem dX8_putChoice_56 : decode cX8_putChoice 56 = .ok (.invokevirtual 75, 3) := by decide +kernel
theorem dX8_putChoice_59 : decode cX8_putChoice 59 = .ok (.ireturn, 1) := by decide +kernel
theorem dX8_putChoice_60 : decode cX8_putChoice 60 = .ok (.aload_n 0, 1) := by decide +kernel
theorem dX8_putChoice_61 : decode cX8_putChoice 61 = .ok (.iload_n 1, 1) := by decide +kernel
theorem dX8_putChoice_62 : decode cX8_putChoice 62 = .ok (.bipush 111, 2) := by decide +kernel
theorem dX8_putChoice_64 : decode cX8_putChoice 64 = .ok (.iload_n 2, 1) := by decide +kernel
theorem dX8_putChoice_65 : decode cX8_putChoice 65 = .ok (.iload_n 3, 1) := by decide +kernel
theorem dX8_putChoice_66 : decode cX8_putChoice 66 = .ok (.iconst 3, 1) := by decide +kernel
theorem dX8_putChoice_67 : decode cX8_putChoice 67 = .ok (.invokevirtual 89, 3) := by decide +kernel
theorem dX8_putChoice_70 : decode cX8_putChoice 70 = .ok (.ireturn, 1) := by decide +kernel
theorem dX8_putDate_0 : decode cX8_putDate 0 = .ok (.aload_n 0, 1) := by decide +kernel
theorem dX8_putDate_1 : decode cX8_putDate 1 = .ok (.iload_n 1, 1) := by decide +kernel
theorem dX8_putDate_2 : decode cX8_putDate 2 = .ok (.invokevirtual 79, 3) := by decide +kernel
theorem dX8_putDate_5 : decode cX8_putDate 5 = .ok (.ifCond .eq 5, 3) := by decide +kernel
theorem dX8_putDate_8 : decode cX8_putDate 8 = .ok (.iconst 0, 1) := by decide +kernel
theorem dX8_putDate_9 : decode cX8_putDate 9 = .ok (.ireturn, 1) := by decide +kernel
theorem dX8_putDate_10 : decode cX8_putDate 10 = .ok (.iload_n 2, 1) := by decide +kernel
theorem dX8_putDate_11 : decode cX8_putDate 11 = .ok (.bipush (-99), 2) := by decide +kernel
theorem dX8_putDate_13 : decode cX8_putDate 13 = .ok (.bipush 99, 2) := by decide +kernel
theorem dX8_putDate_15 : decode cX8_putDate 15 = .ok (.invokestatic 67, 3) := by decide +kernel
theorem dX8_putDate_18 : decode cX8_putDate 18 = .ok (.ifCond .eq 21, 3) := by decide +kernel
theorem dX8_putDate_21 : decode cX8_putDate 21 = .ok (.iload_n 3, 1) := by decide +kernel
theorem dX8_putDate_22 : decode cX8_putDate 22 = .ok (.bipush 110, 2) := by decide +kernel
theorem dX8_putDate_24 : decode cX8_putDate 24 = .ok (.if_icmp .eq 21, 3) := by decide +kernel
theorem dX8_putDate_27 : decode cX8_putDate 27 = .ok (.iload_n 3, 1) := by decide +kernel
theorem dX8_putDate_28 : decode cX8_putDate 28 = .ok (.bipush 119, 2) := by decide +kernel
theorem dX8_putDate_30 : decode cX8_putDate 30 = .ok (.if_icmp .eq 15, 3) := by decide +kernel
theorem dX8_putDate_33 : decode cX8_putDate 33 = .ok (.iload_n 3, 1) := by decide +kernel
theorem dX8_putDate_34 : decode cX8_putDate 34 = .ok (.bipush 109, 2) := by decide +kernel
theorem dX8_putDate_36 : decode cX8_putDate 36 = .ok (.if_icmp .eq 9, 3) := by decide +kernel
theorem dX8_putDate_39 : decode cX8_putDate 39 = .ok (.aload_n 0, 1) := by decide +kernel
theorem dX8_putDate_40 : decode cX8_putDate 40 = .ok (.iconst 2, 1) := by decide +kernel
theorem dX8_putDate_41 : decode cX8_putDate 41 = .ok (.invokevirtual 75, 3) := by decide +kernel
theorem dX8_putDate_44 : decode cX8_putDate 44 = .ok (.ireturn, 1) := by decide +kernel
theorem dX8_putDate_45 : decode cX8_putDate 45 = .ok (.aload_n 0, 1) := by decide +kernel
theorem dX8_putDate_46 : decode cX8_putDate 46 = .ok (.iload_n 1, 1) := by decide +kernel
theorem dX8_putDate_47 : decode cX8_putDate 47 = .ok (.bipush 100, 2) := by decide +kernel
theorem dX8_putDate_49 : decode cX8_putDate 49 = .ok (.iload_n 2, 1) := by decide +kernel
theorem dX8_putDate_50 : decode cX8_putDate 50 = .ok (.iload_n 3, 1) := by decide +kernel
theorem dX8_putDate_51 : decode cX8_putDate 51 = .ok (.iconst 3, 1) := by decide +kernel
theorem dX8_putDate_52 : decode cX8_putDate 52 = .ok (.invokevirtual 89, 3) := by decide +kernel
theorem dX8_putDate_55 : decode cX8_putDate 55 = .ok (.ireturn, 1) := by decide +kernel
theorem dX8_putStop_0 : decode cX8_putStop 0 = .ok (.aload_n 0, 1) := by decide +kernel
theorem dX8_putStop_1 : decode cX8_putStop 1 = .ok (.iload_n 1, 1) := by decide +kernel
theorem dX8_putStop_2 : decode cX8_putStop 2 = .ok (.invokevirtual 79, 3) := by decide +kernel
theorem dX8_putStop_5 : decode cX8_putStop 5 = .ok (.ifCond .eq 7, 3) := by decide +kernel
theorem dX8_putStop_8 : decode cX8_putStop 8 = .ok (.iconst 0, 1) := by decide +kernel
theorem dX8_putStop_9 : decode cX8_putStop 9 = .ok (.goto 13, 3) := by decide +kernel
theorem dX8_putStop_12 : decode cX8_putStop 12 = .ok (.aload_n 0, 1) := by decide +kernel
theorem dX8_putStop_13 : decode cX8_putStop 13 = .ok (.iload_n 1, 1) := by decide +kernel
theorem dX8_putStop_14 : decode cX8_putStop 14 = .ok (.bipush 112, 2) := by decide +kernel
theorem dX8_putStop_16 : decode cX8_putStop 16 = .ok (.iconst 0, 1) := by decide +kernel
theorem dX8_putStop_17 : decode cX8_putStop 17 = .ok (.iconst 0, 1) := by decide +kernel
theorem dX8_putStop_18 : decode cX8_putStop 18 = .ok (.iconst 2, 1) := by decide +kernel
theorem dX8_putStop_19 : decode cX8_putStop 19 = .ok (.invokevirtual 89, 3) := by decide +kernel
theorem dX8_putStop_22 : decode cX8_putStop 22 = .ok (.ireturn, 1) := by decide +kernel
theorem dX8_clearBody_0 : decode cX8_clearBody 0 = .ok (.aload_n 0, 1) := by decide +kernel
theorem dX8_clearBody_1 : decode cX8_clearBody 1 = .ok (.iload_n 1, 1) := by decide +kernel
theorem dX8_clearBody_2 : decode cX8_clearBody 2 = .ok (.invokevirtual 79, 3) := by decide +kernel
theorem dX8_clearBody_5 : decode cX8_clearBody 5 = .ok (.ifCond .eq 5, 3) := by decide +kernel
theorem dX8_clearBody_8 : decode cX8_clearBody 8 = .ok (.iconst 0, 1) := by decide +kernel
theorem dX8_clearBody_9 : decode cX8_clearBody 9 = .ok (.ireturn, 1) := by decide +kernel
theorem dX8_clearBody_10 : decode cX8_clearBody 10 = .ok (.aload_n 0, 1) := by decide +kernel
theorem dX8_clearBody_11 : decode cX8_clearBody 11 = .ok (.getfield 33, 3) := by decide +kernel
theorem dX8_clearBody_14 : decode cX8_clearBody 14 = .ok (.iload_n 1, 1) := by decide +kernel
theorem dX8_clearBody_15 : decode cX8_clearBody 15 = .ok (.iaload, 1) := by decide +kernel
theorem dX8_clearBody_16 : decode cX8_clearBody 16 = .ok (.istore_n 2, 1) := by decide +kernel
theorem dX8_clearBody_17 : decode cX8_clearBody 17 = .ok (.aload_n 0, 1) := by decide +kernel
theorem dX8_clearBody_18 : decode cX8_clearBody 18 = .ok (.getfield 33, 3) := by decide +kernel
theorem dX8_clearBody_21 : decode cX8_clearBody 21 = .ok (.iload_n 1, 1) := by decide +kernel
theorem dX8_clearBody_22 : decode cX8_clearBody 22 = .ok (.iconst 0, 1) := by decide +kernel
theorem dX8_clearBody_23 : decode cX8_clearBody 23 = .ok (.iastore, 1) := by decide +kernel
theorem dX8_clearBody_24 : decode cX8_clearBody 24 = .ok (.iload_n 2, 1) := by decide +kernel
theorem dX8_clearBody_25 : decode cX8_clearBody 25 = .ok (.ireturn, 1) := by decide +kernel
theorem dX8_choose_0 : decode cX8_choose 0 = .ok (.aload_n 0, 1) := by decide +kernel
theorem dX8_choose_1 : decode cX8_choose 1 = .ok (.iload_n 1, 1) := by decide +kernel
theorem dX8_choose_2 : decode cX8_choose 2 = .ok (.invokevirtual 79, 3) := by decide +kernel
theorem dX8_choose_5 : decode cX8_choose 5 = .ok (.ifCond .eq 5, 3) := by decide +kernel
theorem dX8_choose_8 : decode cX8_choose 8 = .ok (.iconst 0, 1) := by decide +kernel
theorem dX8_choose_9 : decode cX8_choose 9 = .ok (.ireturn, 1) := by decide +kernel
theorem dX8_choose_10 : decode cX8_choose 10 = .ok (.aload_n 0, 1) := by decide +kernel
theorem dX8_choose_11 : decode cX8_choose 11 = .ok (.getfield 58, 3) := by decide +kernel
theorem dX8_choose_14 : decode cX8_choose 14 = .ok (.iload_n 1, 1) := by decide +kernel
theorem dX8_choose_15 : decode cX8_choose 15 = .ok (.baload, 1) := by decide +kernel
theorem dX8_choose_16 : decode cX8_choose 16 = .ok (.istore_n 3, 1) := by decide +kernel
theorem dX8_choose_17 : decode cX8_choose 17 = .ok (.aload_n 0, 1) := by decide +kernel
theorem dX8_choose_18 : decode cX8_choose 18 = .ok (.getfield 58, 3) := by decide +kernel
theorem dX8_choose_21 : decode cX8_choose 21 = .ok (.iload_n 1, 1) := by decide +kernel
theorem dX8_choose_22 : decode cX8_choose 22 = .ok (.iload_n 2, 1) := by decide +kernel
theorem dX8_choose_23 : decode cX8_choose 23 = .ok (.bastore, 1) := by decide +kernel
theorem dX8_choose_24 : decode cX8_choose 24 = .ok (.iload_n 3, 1) := by decide +kernel
theorem dX8_choose_25 : decode cX8_choose 25 = .ok (.ireturn, 1) := by decide +kernel
theorem dX8_setToday_0 : decode cX8_setToday 0 = .ok (.iload_n 1, 1) := by decide +kernel
theorem dX8_setToday_1 : decode cX8_setToday 1 = .ok (.bipush 99, 2) := by decide +kernel
theorem dX8_setToday_3 : decode cX8_setToday 3 = .ok (.sipush 9999, 3) := by decide +kernel
theorem dX8_setToday_6 : decode cX8_setToday 6 = .ok (.invokestatic 67, 3) := by decide +kernel
theorem dX8_setToday_9 : decode cX8_setToday 9 = .ok (.ifCond .ne 9, 3) := by decide +kernel
theorem dX8_setToday_12 : decode cX8_setToday 12 = .ok (.aload_n 0, 1) := by decide +kernel
theorem dX8_setToday_13 : decode cX8_setToday 13 = .ok (.iconst 1, 1) := by decide +kernel
theorem dX8_setToday_14 : decode cX8_setToday 14 = .ok (.invokevirtual 75, 3) := by decide +kernel
theorem dX8_setToday_17 : decode cX8_setToday 17 = .ok (.ireturn, 1) := by decide +kernel
theorem dX8_setToday_18 : decode cX8_setToday 18 = .ok (.aload_n 0, 1) := by decide +kernel
theorem dX8_setToday_19 : decode cX8_setToday 19 = .ok (.iconst 0, 1) := by decide +kernel
theorem dX8_setToday_20 : decode cX8_setToday 20 = .ok (.putfield 61, 3) := by decide +kernel
theorem dX8_setToday_23 : decode cX8_setToday 23 = .ok (.aload_n 0, 1) := by decide +kernel
theorem dX8_setToday_24 : decode cX8_setToday 24 = .ok (.getfield 7, 3) := by decide +kernel
theorem dX8_setToday_27 : decode cX8_setToday 27 = .ok (.istore_n 2, 1) := by decide +kernel
theorem dX8_setToday_28 : decode cX8_setToday 28 = .ok (.aload_n 0, 1) := by decide +kernel
theorem dX8_setToday_29 : decode cX8_setToday 29 = .ok (.iload_n 1, 1) := by decide +kernel
theorem dX8_setToday_30 : decode cX8_setToday 30 = .ok (.putfield 7, 3) := by decide +kernel
theorem dX8_setToday_33 : decode cX8_setToday 33 = .ok (.iload_n 2, 1) := by decide +kernel
theorem dX8_setToday_34 : decode cX8_setToday 34 = .ok (.ireturn, 1) := by decide +kernel
theorem dX8_lay_0 : decode cX8_lay 0 = .ok (.aload_n 0, 1) := by decide +kernel
theorem dX8_lay_1 : decode cX8_lay 1 = .ok (.getfield 26, 3) := by decide +kernel
theorem dX8_lay_4 : decode cX8_lay 4 = .ok (.aload_n 0, 1) := by decide +kernel
theorem dX8_lay_5 : decode cX8_lay 5 = .ok (.getfield 97, 3) := by decide +kernel
theorem dX8_lay_8 : decode cX8_lay 8 = .ok (.iload_n 1, 1) := by decide +kernel
theorem dX8_lay_9 : decode cX8_lay 9 = .ok (.castore, 1) := by decide +kernel
theorem dX8_lay_10 : decode cX8_lay 10 = .ok (.aload_n 0, 1) := by decide +kernel
theorem dX8_lay_11 : decode cX8_lay 11 = .ok (.dup, 1) := by decide +kernel
theorem dX8_lay_12 : decode cX8_lay 12 = .ok (.getfield 97, 3) := by decide +kernel
theorem dX8_lay_15 : decode cX8_lay 15 = .ok (.iconst 1, 1) := by decide +kernel
theorem dX8_lay_16 : decode cX8_lay 16 = .ok (.iadd, 1) := by decide +kernel
theorem dX8_lay_17 : decode cX8_lay 17 = .ok (.putfield 97, 3) := by decide +kernel
theorem dX8_lay_20 : decode cX8_lay 20 = .ok (.return_, 1) := by decide +kernel
theorem dX8_layNumber_0 : decode cX8_layNumber 0 = .ok (.iload_n 1, 1) := by decide +kernel
theorem dX8_layNumber_1 : decode cX8_layNumber 1 = .ok (.bipush 9, 2) := by decide +kernel
theorem dX8_layNumber_3 : decode cX8_layNumber 3 = .ok (.if_icmp .le 11, 3) := by decide +kernel
theorem dX8_layNumber_6 : decode cX8_layNumber 6 = .ok (.aload_n 0, 1) := by decide +kernel
theorem dX8_layNumber_7 : decode cX8_layNumber 7 = .ok (.iload_n 1, 1) := by decide +kernel
theorem dX8_layNumber_8 : decode cX8_layNumber 8 = .ok (.bipush 10, 2) := by decide +kernel
theorem dX8_layNumber_10 : decode cX8_layNumber 10 = .ok (.idiv, 1) := by decide +kernel
theorem dX8_layNumber_11 : decode cX8_layNumber 11 = .ok (.invokevirtual 100, 3) := by decide +kernel
theorem dX8_layNumber_14 : decode cX8_layNumber 14 = .ok (.aload_n 0, 1) := by decide +kernel
theorem dX8_layNumber_15 : decode cX8_layNumber 15 = .ok (.bipush 48, 2) := by decide +kernel
theorem dX8_layNumber_17 : decode cX8_layNumber 17 = .ok (.iload_n 1, 1) := by decide +kernel
theorem dX8_layNumber_18 : decode cX8_layNumber 18 = .ok (.bipush 10, 2) := by decide +kernel
theorem dX8_layNumber_20 : decode cX8_layNumber 20 = .ok (.irem, 1) := by decide +kernel
theorem dX8_layNumber_21 : decode cX8_layNumber 21 = .ok (.iadd, 1) := by decide +kernel
theorem dX8_layNumber_22 : decode cX8_layNumber 22 = .ok (.i2c, 1) := by decide +kernel
theorem dX8_layNumber_23 : decode cX8_layNumber 23 = .ok (.invokevirtual 104, 3) := by decide +kernel
theorem dX8_layNumber_26 : decode cX8_layNumber 26 = .ok (.return_, 1) := by decide +kernel
theorem dX8_layDay_0 : decode cX8_layDay 0 = .ok (.iload_n 2, 1) := by decide +kernel
theorem dX8_layDay_1 : decode cX8_layDay 1 = .ok (.bipush 110, 2) := by decide +kernel
theorem dX8_layDay_3 : decode cX8_layDay 3 = .ok (.if_icmp .ne 11, 3) := by decide +kernel
theorem dX8_layDay_6 : decode cX8_layDay 6 = .ok (.aload_n 0, 1) := by decide +kernel
theorem dX8_layDay_7 : decode cX8_layDay 7 = .ok (.iload_n 1, 1) := by decide +kernel
theorem dX8_layDay_8 : decode cX8_layDay 8 = .ok (.invokevirtual 100, 3) := by decide +kernel
theorem dX8_layDay_11 : decode cX8_layDay 11 = .ok (.goto 152, 3) := by decide +kernel
theorem dX8_layDay_14 : decode cX8_layDay 14 = .ok (.iload_n 2, 1) := by decide +kernel
theorem dX8_layDay_15 : decode cX8_layDay 15 = .ok (.bipush 109, 2) := by decide +kernel
theorem dX8_layDay_17 : decode cX8_layDay 17 = .ok (.if_icmp .ne 35, 3) := by decide +kernel
theorem dX8_layDay_20 : decode cX8_layDay 20 = .ok (.aload_n 0, 1) := by decide +kernel
theorem dX8_layDay_21 : decode cX8_layDay 21 = .ok (.iload_n 1, 1) := by decide +kernel
theorem dX8_layDay_22 : decode cX8_layDay 22 = .ok (.bipush 30, 2) := by decide +kernel
theorem dX8_layDay_24 : decode cX8_layDay 24 = .ok (.idiv, 1) := by decide +kernel
theorem dX8_layDay_25 : decode cX8_layDay 25 = .ok (.bipush 12, 2) := by decide +kernel
theorem dX8_layDay_27 : decode cX8_layDay 27 = .ok (.irem, 1) := by decide +kernel
theorem dX8_layDay_28 : decode cX8_layDay 28 = .ok (.iconst 1, 1) := by decide +kernel
theorem dX8_layDay_29 : decode cX8_layDay 29 = .ok (.iadd, 1) := by decide +kernel
theorem dX8_layDay_30 : decode cX8_layDay 30 = .ok (.invokevirtual 100, 3) := by decide +kernel
theorem dX8_layDay_33 : decode cX8_layDay 33 = .ok (.aload_n 0, 1) := by decide +kernel
theorem dX8_layDay_34 : decode cX8_layDay 34 = .ok (.bipush 46, 2) := by decide +kernel
theorem dX8_layDay_36 : decode cX8_layDay 36 = .ok (.invokevirtual 104, 3) := by decide +kernel
theorem dX8_layDay_39 : decode cX8_layDay 39 = .ok (.aload_n 0, 1) := by decide +kernel
theorem dX8_layDay_40 : decode cX8_layDay 40 = .ok (.iload_n 1, 1) := by decide +kernel
theorem dX8_layDay_41 : decode cX8_layDay 41 = .ok (.bipush 30, 2) := by decide +kernel
theorem dX8_layDay_43 : decode cX8_layDay 43 = .ok (.irem, 1) := by decide +kernel
theorem dX8_layDay_44 : decode cX8_layDay 44 = .ok (.iconst 1, 1) := by decide +kernel
theorem dX8_layDay_45 : decode cX8_layDay 45 = .ok (.iadd, 1) := by decide +kernel
theorem dX8_layDay_46 : decode cX8_layDay 46 = .ok (.invokevirtual 100, 3) := by decide +kernel
theorem dX8_layDay_49 : decode cX8_layDay 49 = .ok (.goto 114, 3) := by decide +kernel
theorem dX8_layDay_52 : decode cX8_layDay 52 = .ok (.iload_n 1, 1) := by decide +kernel
theorem dX8_layDay_53 : decode cX8_layDay 53 = .ok (.bipush 7, 2) := by decide +kernel
theorem dX8_layDay_55 : decode cX8_layDay 55 = .ok (.irem, 1) := by decide +kernel
theorem dX8_layDay_56 : decode cX8_layDay 56 = .ok (.istore_n 3, 1) := by decide +kernel
theorem dX8_layDay_57 : decode cX8_layDay 57 = .ok (.aload_n 0, 1) := by decide +kernel
theorem dX8_layDay_58 : decode cX8_layDay 58 = .ok (.iload_n 3, 1) := by decide +kernel
theorem dX8_layDay_59 : decode cX8_layDay 59 = .ok (.ifCond .ne 8, 3) := by decide +kernel
theorem dX8_layDay_62 : decode cX8_layDay 62 = .ok (.bipush 109, 2) := by decide +kernel
theorem dX8_layDay_64 : decode cX8_layDay 64 = .ok (.goto 35, 3) := by decide +kernel
theorem dX8_layDay_67 : decode cX8_layDay 67 = .ok (.iload_n 3, 1) := by decide +kernel
theorem dX8_layDay_68 : decode cX8_layDay 68 = .ok (.iconst 2, 1) := by decide +kernel
theorem dX8_layDay_69 : decode cX8_layDay 69 = .ok (.if_icmp .ne 8, 3) := by decide +kernel
theorem dX8_layDay_72 : decode cX8_layDay 72 = .ok (.bipush 119, 2) := by decide +kernel
theorem dX8_layDay_74 : decode cX8_layDay 74 = .ok (.goto 25, 3) := by decide +kernel
theorem dX8_layDay_77 : decode cX8_layDay 77 = .ok (.iload_n 3, 1) := by decide +kernel
theorem dX8_layDay_78 : decode cX8_layDay 78 = .ok (.iconst 4, 1) := by decide +kernel
theorem dX8_layDay_79 : decode cX8_layDay 79 = .ok (.if_icmp .ne 8, 3) := by decide +kernel
theorem dX8_layDay_82 : decode cX8_layDay 82 = .ok (.bipush 102, 2) := by decide +kernel
theorem dX8_layDay_84 : decode cX8_layDay 84 = .ok (.goto 15, 3) := by decide +kernel
theorem dX8_layDay_87 : decode cX8_layDay 87 = .ok (.iload_n 3, 1) := by decide +kernel
theorem dX8_layDay_88 : decode cX8_layDay 88 = .ok (.iconst 4, 1) := by decide +kernel
theorem dX8_layDay_89 : decode cX8_layDay 89 = .ok (.if_icmp .le 8, 3) := by decide +kernel
theorem dX8_layDay_92 : decode cX8_layDay 92 = .ok (.bipush 115, 2) := by decide +kernel
theorem dX8_layDay_94 : decode cX8_layDay 94 = .ok (.goto 5, 3) := by decide +kernel
theorem dX8_layDay_97 : decode cX8_layDay 97 = .ok (.bipush 116, 2) := by decide +kernel
theorem dX8_layDay_99 : decode cX8_layDay 99 = .ok (.invokevirtual 104, 3) := by decide +kernel
theorem dX8_layDay_102 : decode cX8_layDay 102 = .ok (.aload_n 0, 1) := by decide +kernel
theorem dX8_layDay_103 : decode cX8_layDay 103 = .ok (.iload_n 3, 1) := by decide +kernel
theorem dX8_layDay_104 : decode cX8_layDay 104 = .ok (.ifCond .ne 8, 3) := by decide +kernel
theorem dX8_layDay_107 : decode cX8_layDay 107 = .ok (.bipush 111, 2) := by decide +kernel
theorem dX8_layDay_109 : decode cX8_layDay 109 = .ok (.goto 51, 3) := by decide +kernel
theorem dX8_layDay_112 : decode cX8_layDay 112 = .ok (.iload_n 3, 1) := by decide +kernel
theorem dX8_layDay_113 : decode cX8_layDay 113 = .ok (.iconst 1, 1) := by decide +kernel
theorem dX8_layDay_114 : decode cX8_layDay 114 = .ok (.if_icmp .eq 9, 3) := by decide +kernel
theorem dX8_layDay_117 : decode cX8_layDay 117 = .ok (.iload_n 3, 1) := by decide +kernel
theorem dX8_layDay_118 : decode cX8_layDay 118 = .ok (.bipush 6, 2) := by decide +kernel
theorem dX8_layDay_120 : decode cX8_layDay 120 = .ok (.if_icmp .ne 8, 3) := by decide +kernel
theorem dX8_layDay_123 : decode cX8_layDay 123 = .ok (.bipush 117, 2) := by decide +kernel
theorem dX8_layDay_125 : decode cX8_layDay 125 = .ok (.goto 35, 3) := by decide +kernel
theorem dX8_layDay_128 : decode cX8_layDay 128 = .ok (.iload_n 3, 1) := by decide +kernel
theorem dX8_layDay_129 : decode cX8_layDay 129 = .ok (.iconst 2, 1) := by decide +kernel
theorem dX8_layDay_130 : decode cX8_layDay 130 = .ok (.if_icmp .ne 8, 3) := by decide +kernel
theorem dX8_layDay_133 : decode cX8_layDay 133 = .ok (.bipush 101, 2) := by decide +kernel
theorem dX8_layDay_135 : decode cX8_layDay 135 = .ok (.goto 25, 3) := by decide +kernel
theorem dX8_layDay_138 : decode cX8_layDay 138 = .ok (.iload_n 3, 1) := by decide +kernel
theorem dX8_layDay_139 : decode cX8_layDay 139 = .ok (.iconst 3, 1) := by decide +kernel
theorem dX8_layDay_140 : decode cX8_layDay 140 = .ok (.if_icmp .ne 8, 3) := by decide +kernel
theorem dX8_layDay_143 : decode cX8_layDay 143 = .ok (.bipush 104, 2) := by decide +kernel
theorem dX8_layDay_145 : decode cX8_layDay 145 = .ok (.goto 15, 3) := by decide +kernel
theorem dX8_layDay_148 : decode cX8_layDay 148 = .ok (.iload_n 3, 1) := by decide +kernel
theorem dX8_layDay_149 : decode cX8_layDay 149 = .ok (.iconst 4, 1) := by decide +kernel
theorem dX8_layDay_150 : decode cX8_layDay 150 = .ok (.if_icmp .ne 8, 3) := by decide +kernel
theorem dX8_layDay_153 : decode cX8_layDay 153 = .ok (.bipush 114, 2) := by decide +kernel
theorem dX8_layDay_155 : decode cX8_layDay 155 = .ok (.goto 5, 3) := by decide +kernel
theorem dX8_layDay_158 : decode cX8_layDay 158 = .ok (.bipush 97, 2) := by decide +kernel
theorem dX8_layDay_160 : decode cX8_layDay 160 = .ok (.invokevirtual 104, 3) := by decide +kernel
theorem dX8_layDay_163 : decode cX8_layDay 163 = .ok (.return_, 1) := by decide +kernel
theorem dX8_layAll_0 : decode cX8_layAll 0 = .ok (.bipush 12, 2) := by decide +kernel
theorem dX8_layAll_2 : decode cX8_layAll 2 = .ok (.iload_n 1, 1) := by decide +kernel
theorem dX8_layAll_3 : decode cX8_layAll 3 = .ok (.imul, 1) := by decide +kernel
theorem dX8_layAll_4 : decode cX8_layAll 4 = .ok (.istore_n 2, 1) := by decide +kernel
theorem dX8_layAll_5 : decode cX8_layAll 5 = .ok (.iload_n 2, 1) := by decide +kernel
theorem dX8_layAll_6 : decode cX8_layAll 6 = .ok (.bipush 12, 2) := by decide +kernel
theorem dX8_layAll_8 : decode cX8_layAll 8 = .ok (.iload_n 1, 1) := by decide +kernel
theorem dX8_layAll_9 : decode cX8_layAll 9 = .ok (.imul, 1) := by decide +kernel
theorem dX8_layAll_10 : decode cX8_layAll 10 = .ok (.aload_n 0, 1) := by decide +kernel
theorem dX8_layAll_11 : decode cX8_layAll 11 = .ok (.getfield 33, 3) := by decide +kernel
theorem dX8_layAll_14 : decode cX8_layAll 14 = .ok (.iload_n 1, 1) := by decide +kernel
theorem dX8_layAll_15 : decode cX8_layAll 15 = .ok (.iaload, 1) := by decide +kernel
theorem dX8_layAll_16 : decode cX8_layAll 16 = .ok (.iadd, 1) := by decide +kernel
theorem dX8_layAll_17 : decode cX8_layAll 17 = .ok (.if_icmp .ge 159, 3) := by decide +kernel
theorem dX8_layAll_20 : decode cX8_layAll 20 = .ok (.aload_n 0, 1) := by decide +kernel
theorem dX8_layAll_21 : decode cX8_layAll 21 = .ok (.getfield 17, 3) := by decide +kernel
theorem dX8_layAll_24 : decode cX8_layAll 24 = .ok (.iload_n 2, 1) := by decide +kernel
theorem dX8_layAll_25 : decode cX8_layAll 25 = .ok (.caload, 1) := by decide +kernel
theorem dX8_layAll_26 : decode cX8_layAll 26 = .ok (.bipush 99, 2) := by decide +kernel
theorem dX8_layAll_28 : decode cX8_layAll 28 = .ok (.if_icmp .ne 17, 3) := by decide +kernel
theorem dX8_layAll_31 : decode cX8_layAll 31 = .ok (.aload_n 0, 1) := by decide +kernel
theorem dX8_layAll_32 : decode cX8_layAll 32 = .ok (.aload_n 0, 1) := by decide +kernel
theorem dX8_layAll_33 : decode cX8_layAll 33 = .ok (.getfield 36, 3) := by decide +kernel
theorem dX8_layAll_36 : decode cX8_layAll 36 = .ok (.iload_n 2, 1) := by decide +kernel
theorem dX8_layAll_37 : decode cX8_layAll 37 = .ok (.iaload, 1) := by decide +kernel
theorem dX8_layAll_38 : decode cX8_layAll 38 = .ok (.i2c, 1) := by decide +kernel
theorem dX8_layAll_39 : decode cX8_layAll 39 = .ok (.invokevirtual 104, 3) := by decide +kernel
theorem dX8_layAll_42 : decode cX8_layAll 42 = .ok (.goto 128, 3) := by decide +kernel
theorem dX8_layAll_45 : decode cX8_layAll 45 = .ok (.aload_n 0, 1) := by decide +kernel
theorem dX8_layAll_46 : decode cX8_layAll 46 = .ok (.getfield 17, 3) := by decide +kernel
theorem dX8_layAll_49 : decode cX8_layAll 49 = .ok (.iload_n 2, 1) := by decide +kernel
theorem dX8_layAll_50 : decode cX8_layAll 50 = .ok (.caload, 1) := by decide +kernel
theorem dX8_layAll_51 : decode cX8_layAll 51 = .ok (.bipush 115, 2) := by decide +kernel
theorem dX8_layAll_53 : decode cX8_layAll 53 = .ok (.if_icmp .ne 16, 3) := by decide +kernel
theorem dX8_layAll_56 : decode cX8_layAll 56 = .ok (.aload_n 0, 1) := by decide +kernel
theorem dX8_layAll_57 : decode cX8_layAll 57 = .ok (.aload_n 0, 1) := by decide +kernel
theorem dX8_layAll_58 : decode cX8_layAll 58 = .ok (.getfield 36, 3) := by decide +kernel
theorem dX8_layAll_61 : decode cX8_layAll 61 = .ok (.iload_n 2, 1) := by decide +kernel
theorem dX8_layAll_62 : decode cX8_layAll 62 = .ok (.iaload, 1) := by decide +kernel
theorem dX8_layAll_63 : decode cX8_layAll 63 = .ok (.invokevirtual 108, 3) := by decide +kernel
theorem dX8_layAll_66 : decode cX8_layAll 66 = .ok (.goto 104, 3) := by decide +kernel
theorem dX8_layAll_69 : decode cX8_layAll 69 = .ok (.aload_n 0, 1) := by decide +kernel
theorem dX8_layAll_70 : decode cX8_layAll 70 = .ok (.getfield 17, 3) := by decide +kernel
theorem dX8_layAll_73 : decode cX8_layAll 73 = .ok (.iload_n 2, 1) := by decide +kernel
theorem dX8_layAll_74 : decode cX8_layAll 74 = .ok (.caload, 1) := by decide +kernel
theorem dX8_layAll_75 : decode cX8_layAll 75 = .ok (.bipush 111, 2) := by decide +kernel
theorem dX8_layAll_77 : decode cX8_layAll 77 = .ok (.if_icmp .ne 34, 3) := by decide +kernel
theorem dX8_layAll_80 : decode cX8_layAll 80 = .ok (.aload_n 0, 1) := by decide +kernel
theorem dX8_layAll_81 : decode cX8_layAll 81 = .ok (.aload_n 0, 1) := by decide +kernel
theorem dX8_layAll_82 : decode cX8_layAll 82 = .ok (.getfield 58, 3) := by decide +kernel
theorem dX8_layAll_85 : decode cX8_layAll 85 = .ok (.iload_n 1, 1) := by decide +kernel
theorem dX8_layAll_86 : decode cX8_layAll 86 = .ok (.baload, 1) := by decide +kernel
theorem dX8_layAll_87 : decode cX8_layAll 87 = .ok (.ifCond .eq 12, 3) := by decide +kernel
theorem dX8_layAll_90 : decode cX8_layAll 90 = .ok (.aload_n 0, 1) := by decide +kernel
theorem dX8_layAll_91 : decode cX8_layAll 91 = .ok (.getfield 39, 3) := by decide +kernel
theorem dX8_layAll_94 : decode cX8_layAll 94 = .ok (.iload_n 2, 1) := by decide +kernel
theorem dX8_layAll_95 : decode cX8_layAll 95 = .ok (.iaload, 1) := by decide +kernel
theorem dX8_layAll_96 : decode cX8_layAll 96 = .ok (.goto 9, 3) := by decide +kernel
theorem dX8_layAll_99 : decode cX8_layAll 99 = .ok (.aload_n 0, 1) := by decide +kernel
theorem dX8_layAll_100 : decode cX8_layAll 100 = .ok (.getfield 36, 3) := by decide +kernel
theorem dX8_layAll_103 : decode cX8_layAll 103 = .ok (.iload_n 2, 1) := by decide +kernel
theorem dX8_layAll_104 : decode cX8_layAll 104 = .ok (.iaload, 1) := by decide +kernel
theorem dX8_layAll_105 : decode cX8_layAll 105 = .ok (.invokevirtual 108, 3) := by decide +kernel
theorem dX8_layAll_108 : decode cX8_layAll 108 = .ok (.goto 62, 3) := by decide +kernel
theorem dX8_layAll_111 : decode cX8_layAll 111 = .ok (.aload_n 0, 1) := by decide +kernel
theorem dX8_layAll_112 : decode cX8_layAll 112 = .ok (.getfield 17, 3) := by decide +kernel
theorem dX8_layAll_115 : decode cX8_layAll 115 = .ok (.iload_n 2, 1) := by decide +kernel
theorem dX8_layAll_116 : decode cX8_layAll 116 = .ok (.caload, 1) := by decide +kernel
theorem dX8_layAll_117 : decode cX8_layAll 117 = .ok (.bipush 100, 2) := by decide +kernel
theorem dX8_layAll_119 : decode cX8_layAll 119 = .ok (.if_icmp .ne 28, 3) := by decide +kernel
theorem dX8_layAll_122 : decode cX8_layAll 122 = .ok (.aload_n 0, 1) := by decide +kernel
theorem dX8_layAll_123 : decode cX8_layAll 123 = .ok (.aload_n 0, 1) := by decide +kernel
theorem dX8_layAll_124 : decode cX8_layAll 124 = .ok (.getfield 7, 3) := by decide +kernel
theorem dX8_layAll_127 : decode cX8_layAll 127 = .ok (.aload_n 0, 1) := by decide +kernel
theorem dX8_layAll_128 : decode cX8_layAll 128 = .ok (.getfield 36, 3) := by decide +kernel
theorem dX8_layAll_131 : decode cX8_layAll 131 = .ok (.iload_n 2, 1) := by decide +kernel
theorem dX8_layAll_132 : decode cX8_layAll 132 = .ok (.iaload, 1) := by decide +kernel
theorem dX8_layAll_133 : decode cX8_layAll 133 = .ok (.iadd, 1) := by decide +kernel
theorem dX8_layAll_134 : decode cX8_layAll 134 = .ok (.aload_n 0, 1) := by decide +kernel
theorem dX8_layAll_135 : decode cX8_layAll 135 = .ok (.getfield 39, 3) := by decide +kernel
theorem dX8_layAll_138 : decode cX8_layAll 138 = .ok (.iload_n 2, 1) := by decide +kernel
theorem dX8_layAll_139 : decode cX8_layAll 139 = .ok (.iaload, 1) := by decide +kernel
theorem dX8_layAll_140 : decode cX8_layAll 140 = .ok (.i2c, 1) := by decide +kernel
theorem dX8_layAll_141 : decode cX8_layAll 141 = .ok (.invokevirtual 111, 3) := by decide +kernel
theorem dX8_layAll_144 : decode cX8_layAll 144 = .ok (.goto 26, 3) := by decide +kernel
theorem dX8_layAll_147 : decode cX8_layAll 147 = .ok (.aload_n 0, 1) := by decide +kernel
theorem dX8_layAll_148 : decode cX8_layAll 148 = .ok (.getfield 48, 3) := by decide +kernel
theorem dX8_layAll_151 : decode cX8_layAll 151 = .ok (.aload_n 0, 1) := by decide +kernel
theorem dX8_layAll_152 : decode cX8_layAll 152 = .ok (.getfield 115, 3) := by decide +kernel
theorem dX8_layAll_155 : decode cX8_layAll 155 = .ok (.aload_n 0, 1) := by decide +kernel
theorem dX8_layAll_156 : decode cX8_layAll 156 = .ok (.getfield 97, 3) := by decide +kernel
theorem dX8_layAll_159 : decode cX8_layAll 159 = .ok (.iastore, 1) := by decide +kernel
theorem dX8_layAll_160 : decode cX8_layAll 160 = .ok (.aload_n 0, 1) := by decide +kernel
theorem dX8_layAll_161 : decode cX8_layAll 161 = .ok (.dup, 1) := by decide +kernel
theorem dX8_layAll_162 : decode cX8_layAll 162 = .ok (.getfield 115, 3) := by decide +kernel
theorem dX8_layAll_165 : decode cX8_layAll 165 = .ok (.iconst 1, 1) := by decide +kernel
theorem dX8_layAll_166 : decode cX8_layAll 166 = .ok (.iadd, 1) := by decide +kernel
theorem dX8_layAll_167 : decode cX8_layAll 167 = .ok (.putfield 115, 3) := by decide +kernel
theorem dX8_layAll_170 : decode cX8_layAll 170 = .ok (.iinc 2 1, 3) := by decide +kernel
theorem dX8_layAll_173 : decode cX8_layAll 173 = .ok (.goto (-168), 3) := by decide +kernel
theorem dX8_layAll_176 : decode cX8_layAll 176 = .ok (.return_, 1) := by decide +kernel
theorem dX8_gives_0 : decode cX8_gives 0 = .ok (.aload_n 0, 1) := by decide +kernel
theorem dX8_gives_1 : decode cX8_gives 1 = .ok (.iconst 0, 1) := by decide +kernel
theorem dX8_gives_2 : decode cX8_gives 2 = .ok (.putfield 97, 3) := by decide +kernel
theorem dX8_gives_5 : decode cX8_gives 5 = .ok (.aload_n 0, 1) := by decide +kernel
theorem dX8_gives_6 : decode cX8_gives 6 = .ok (.iconst 0, 1) := by decide +kernel
theorem dX8_gives_7 : decode cX8_gives 7 = .ok (.putfield 115, 3) := by decide +kernel
theorem dX8_gives_10 : decode cX8_gives 10 = .ok (.aload_n 0, 1) := by decide +kernel
theorem dX8_gives_11 : decode cX8_gives 11 = .ok (.iload_n 1, 1) := by decide +kernel
theorem dX8_gives_12 : decode cX8_gives 12 = .ok (.invokevirtual 108, 3) := by decide +kernel
theorem dX8_gives_15 : decode cX8_gives 15 = .ok (.return_, 1) := by decide +kernel
theorem dX8_lengthOf_0 : decode cX8_lengthOf 0 = .ok (.aload_n 0, 1) := by decide +kernel
theorem dX8_lengthOf_1 : decode cX8_lengthOf 1 = .ok (.iload_n 1, 1) := by decide +kernel
theorem dX8_lengthOf_2 : decode cX8_lengthOf 2 = .ok (.invokevirtual 79, 3) := by decide +kernel
theorem dX8_lengthOf_5 : decode cX8_lengthOf 5 = .ok (.ifCond .eq 5, 3) := by decide +kernel
theorem dX8_lengthOf_8 : decode cX8_lengthOf 8 = .ok (.iconst 0, 1) := by decide +kernel
theorem dX8_lengthOf_9 : decode cX8_lengthOf 9 = .ok (.ireturn, 1) := by decide +kernel
theorem dX8_lengthOf_10 : decode cX8_lengthOf 10 = .ok (.aload_n 0, 1) := by decide +kernel
theorem dX8_lengthOf_11 : decode cX8_lengthOf 11 = .ok (.iload_n 1, 1) := by decide +kernel
theorem dX8_lengthOf_12 : decode cX8_lengthOf 12 = .ok (.invokevirtual 118, 3) := by decide +kernel
theorem dX8_lengthOf_15 : decode cX8_lengthOf 15 = .ok (.aload_n 0, 1) := by decide +kernel
theorem dX8_lengthOf_16 : decode cX8_lengthOf 16 = .ok (.getfield 97, 3) := by decide +kernel
theorem dX8_lengthOf_19 : decode cX8_lengthOf 19 = .ok (.ireturn, 1) := by decide +kernel
theorem dX8_characterOf_0 : decode cX8_characterOf 0 = .ok (.aload_n 0, 1) := by decide +kernel
theorem dX8_characterOf_1 : decode cX8_characterOf 1 = .ok (.iload_n 1, 1) := by decide +kernel
theorem dX8_characterOf_2 : decode cX8_characterOf 2 = .ok (.invokevirtual 79, 3) := by decide +kernel
theorem dX8_characterOf_5 : decode cX8_characterOf 5 = .ok (.ifCond .eq 6, 3) := by decide +kernel
theorem dX8_characterOf_8 : decode cX8_characterOf 8 = .ok (.bipush 32, 2) := by decide +kernel
theorem dX8_characterOf_10 : decode cX8_characterOf 10 = .ok (.ireturn, 1) := by decide +kernel
theorem dX8_characterOf_11 : decode cX8_characterOf 11 = .ok (.aload_n 0, 1) := by decide +kernel
theorem dX8_characterOf_12 : decode cX8_characterOf 12 = .ok (.iload_n 1, 1) := by decide +kernel
theorem dX8_characterOf_13 : decode cX8_characterOf 13 = .ok (.invokevirtual 118, 3) := by decide +kernel
theorem dX8_characterOf_16 : decode cX8_characterOf 16 = .ok (.aload_n 0, 1) := by decide +kernel
theorem dX8_characterOf_17 : decode cX8_characterOf 17 = .ok (.iload_n 2, 1) := by decide +kernel
theorem dX8_characterOf_18 : decode cX8_characterOf 18 = .ok (.iconst 0, 1) := by decide +kernel
theorem dX8_characterOf_19 : decode cX8_characterOf 19 = .ok (.aload_n 0, 1) := by decide +kernel
theorem dX8_characterOf_20 : decode cX8_characterOf 20 = .ok (.getfield 97, 3) := by decide +kernel
theorem dX8_characterOf_23 : decode cX8_characterOf 23 = .ok (.iconst 1, 1) := by decide +kernel
theorem dX8_characterOf_24 : decode cX8_characterOf 24 = .ok (.isub, 1) := by decide +kernel
theorem dX8_characterOf_25 : decode cX8_characterOf 25 = .ok (.invokestatic 67, 3) := by decide +kernel
theorem dX8_characterOf_28 : decode cX8_characterOf 28 = .ok (.ifCond .eq 7, 3) := by decide +kernel
theorem dX8_characterOf_31 : decode cX8_characterOf 31 = .ok (.iconst 0, 1) := by decide +kernel
theorem dX8_characterOf_32 : decode cX8_characterOf 32 = .ok (.goto 4, 3) := by decide +kernel
theorem dX8_characterOf_35 : decode cX8_characterOf 35 = .ok (.iconst 2, 1) := by decide +kernel
theorem dX8_characterOf_36 : decode cX8_characterOf 36 = .ok (.putfield 61, 3) := by decide +kernel
theorem dX8_characterOf_39 : decode cX8_characterOf 39 = .ok (.aload_n 0, 1) := by decide +kernel
theorem dX8_characterOf_40 : decode cX8_characterOf 40 = .ok (.getfield 61, 3) := by decide +kernel
theorem dX8_characterOf_43 : decode cX8_characterOf 43 = .ok (.ifCond .ne 12, 3) := by decide +kernel
theorem dX8_characterOf_46 : decode cX8_characterOf 46 = .ok (.aload_n 0, 1) := by decide +kernel
theorem dX8_characterOf_47 : decode cX8_characterOf 47 = .ok (.getfield 26, 3) := by decide +kernel
theorem dX8_characterOf_50 : decode cX8_characterOf 50 = .ok (.iload_n 2, 1) := by decide +kernel
theorem dX8_characterOf_51 : decode cX8_characterOf 51 = .ok (.caload, 1) := by decide +kernel
theorem dX8_characterOf_52 : decode cX8_characterOf 52 = .ok (.goto 5, 3) := by decide +kernel
theorem dX8_characterOf_55 : decode cX8_characterOf 55 = .ok (.bipush 32, 2) := by decide +kernel
theorem dX8_characterOf_57 : decode cX8_characterOf 57 = .ok (.ireturn, 1) := by decide +kernel
theorem dX8_stopsOf_0 : decode cX8_stopsOf 0 = .ok (.aload_n 0, 1) := by decide +kernel
theorem dX8_stopsOf_1 : decode cX8_stopsOf 1 = .ok (.iload_n 1, 1) := by decide +kernel
theorem dX8_stopsOf_2 : decode cX8_stopsOf 2 = .ok (.invokevirtual 79, 3) := by decide +kernel
theorem dX8_stopsOf_5 : decode cX8_stopsOf 5 = .ok (.ifCond .eq 5, 3) := by decide +kernel
theorem dX8_stopsOf_8 : decode cX8_stopsOf 8 = .ok (.iconst 0, 1) := by decide +kernel
theorem dX8_stopsOf_9 : decode cX8_stopsOf 9 = .ok (.ireturn, 1) := by decide +kernel
theorem dX8_stopsOf_10 : decode cX8_stopsOf 10 = .ok (.aload_n 0, 1) := by decide +kernel
theorem dX8_stopsOf_11 : decode cX8_stopsOf 11 = .ok (.iload_n 1, 1) := by decide +kernel
theorem dX8_stopsOf_12 : decode cX8_stopsOf 12 = .ok (.invokevirtual 118, 3) := by decide +kernel
theorem dX8_stopsOf_15 : decode cX8_stopsOf 15 = .ok (.aload_n 0, 1) := by decide +kernel
theorem dX8_stopsOf_16 : decode cX8_stopsOf 16 = .ok (.getfield 115, 3) := by decide +kernel
theorem dX8_stopsOf_19 : decode cX8_stopsOf 19 = .ok (.ireturn, 1) := by decide +kernel
theorem dX8_stopOf_0 : decode cX8_stopOf 0 = .ok (.aload_n 0, 1) := by decide +kernel
theorem dX8_stopOf_1 : decode cX8_stopOf 1 = .ok (.iload_n 1, 1) := by decide +kernel
theorem dX8_stopOf_2 : decode cX8_stopOf 2 = .ok (.invokevirtual 79, 3) := by decide +kernel
theorem dX8_stopOf_5 : decode cX8_stopOf 5 = .ok (.ifCond .eq 5, 3) := by decide +kernel
theorem dX8_stopOf_8 : decode cX8_stopOf 8 = .ok (.iconst 0, 1) := by decide +kernel
theorem dX8_stopOf_9 : decode cX8_stopOf 9 = .ok (.ireturn, 1) := by decide +kernel
theorem dX8_stopOf_10 : decode cX8_stopOf 10 = .ok (.aload_n 0, 1) := by decide +kernel
theorem dX8_stopOf_11 : decode cX8_stopOf 11 = .ok (.iload_n 1, 1) := by decide +kernel
theorem dX8_stopOf_12 : decode cX8_stopOf 12 = .ok (.invokevirtual 118, 3) := by decide +kernel
theorem dX8_stopOf_15 : decode cX8_stopOf 15 = .ok (.iload_n 2, 1) := by decide +kernel
theorem dX8_stopOf_16 : decode cX8_stopOf 16 = .ok (.iconst 0, 1) := by decide +kernel
theorem dX8_stopOf_17 : decode cX8_stopOf 17 = .ok (.aload_n 0, 1) := by decide +kernel
theorem dX8_stopOf_18 : decode cX8_stopOf 18 = .ok (.getfield 115, 3) := by decide +kernel
theorem dX8_stopOf_21 : decode cX8_stopOf 21 = .ok (.iconst 1, 1) := by decide +kernel
theorem dX8_stopOf_22 : decode cX8_stopOf 22 = .ok (.isub, 1) := by decide +kernel
theorem dX8_stopOf_23 : decode cX8_stopOf 23 = .ok (.invokestatic 67, 3) := by decide +kernel
theorem dX8_stopOf_26 : decode cX8_stopOf 26 = .ok (.ifCond .ne 9, 3) := by decide +kernel
theorem dX8_stopOf_29 : decode cX8_stopOf 29 = .ok (.aload_n 0, 1) := by decide +kernel
theorem dX8_stopOf_30 : decode cX8_stopOf 30 = .ok (.iconst 2, 1) := by decide +kernel
theorem dX8_stopOf_31 : decode cX8_stopOf 31 = .ok (.invokevirtual 75, 3) := by decide +kernel
theorem dX8_stopOf_34 : decode cX8_stopOf 34 = .ok (.ireturn, 1) := by decide +kernel
theorem dX8_stopOf_35 : decode cX8_stopOf 35 = .ok (.aload_n 0, 1) := by decide +kernel
theorem dX8_stopOf_36 : decode cX8_stopOf 36 = .ok (.getfield 48, 3) := by decide +kernel
theorem dX8_stopOf_39 : decode cX8_stopOf 39 = .ok (.iload_n 2, 1) := by decide +kernel
theorem dX8_stopOf_40 : decode cX8_stopOf 40 = .ok (.iaload, 1) := by decide +kernel
theorem dX8_stopOf_41 : decode cX8_stopOf 41 = .ok (.ireturn, 1) := by decide +kernel
theorem dX8_comesTo_0 : decode cX8_comesTo 0 = .ok (.aload_n 0, 1) := by decide +kernel
theorem dX8_comesTo_1 : decode cX8_comesTo 1 = .ok (.iload_n 1, 1) := by decide +kernel
theorem dX8_comesTo_2 : decode cX8_comesTo 2 = .ok (.invokevirtual 79, 3) := by decide +kernel
theorem dX8_comesTo_5 : decode cX8_comesTo 5 = .ok (.ifCond .ne 24, 3) := by decide +kernel
theorem dX8_comesTo_8 : decode cX8_comesTo 8 = .ok (.aload_n 0, 1) := by decide +kernel
theorem dX8_comesTo_9 : decode cX8_comesTo 9 = .ok (.iload_n 2, 1) := by decide +kernel
theorem dX8_comesTo_10 : decode cX8_comesTo 10 = .ok (.invokevirtual 79, 3) := by decide +kernel
theorem dX8_comesTo_13 : decode cX8_comesTo 13 = .ok (.ifCond .ne 16, 3) := by decide +kernel
theorem dX8_comesTo_16 : decode cX8_comesTo 16 = .ok (.aload_n 0, 1) := by decide +kernel
theorem dX8_comesTo_17 : decode cX8_comesTo 17 = .ok (.iload_n 1, 1) := by decide +kernel
theorem dX8_comesTo_18 : decode cX8_comesTo 18 = .ok (.iload_n 2, 1) := by decide +kernel
theorem dX8_comesTo_19 : decode cX8_comesTo 19 = .ok (.invokevirtual 93, 3) := by decide +kernel
theorem dX8_comesTo_22 : decode cX8_comesTo 22 = .ok (.ifCond .eq 7, 3) := by decide +kernel
theorem dX8_comesTo_25 : decode cX8_comesTo 25 = .ok (.iconst 1, 1) := by decide +kernel
theorem dX8_comesTo_26 : decode cX8_comesTo 26 = .ok (.goto 4, 3) := by decide +kernel
theorem dX8_comesTo_29 : decode cX8_comesTo 29 = .ok (.iconst 0, 1) := by decide +kernel
theorem dX8_comesTo_30 : decode cX8_comesTo 30 = .ok (.ireturn, 1) := by decide +kernel
theorem dX8_deep_0 : decode cX8_deep 0 = .ok (.iconst 0, 1) := by decide +kernel
theorem dX8_deep_1 : decode cX8_deep 1 = .ok (.istore_n 2, 1) := by decide +kernel
theorem dX8_deep_2 : decode cX8_deep 2 = .ok (.bipush 12, 2) := by decide +kernel
theorem dX8_deep_4 : decode cX8_deep 4 = .ok (.iload_n 1, 1) := by decide +kernel
theorem dX8_deep_5 : decode cX8_deep 5 = .ok (.imul, 1) := by decide +kernel
theorem dX8_deep_6 : decode cX8_deep 6 = .ok (.istore_n 3, 1) := by decide +kernel
theorem dX8_deep_7 : decode cX8_deep 7 = .ok (.iload_n 3, 1) := by decide +kernel
theorem dX8_deep_8 : decode cX8_deep 8 = .ok (.bipush 12, 2) := by decide +kernel
theorem dX8_deep_10 : decode cX8_deep 10 = .ok (.iload_n 1, 1) := by decide +kernel
theorem dX8_deep_11 : decode cX8_deep 11 = .ok (.imul, 1) := by decide +kernel
theorem dX8_deep_12 : decode cX8_deep 12 = .ok (.aload_n 0, 1) := by decide +kernel
theorem dX8_deep_13 : decode cX8_deep 13 = .ok (.getfield 33, 3) := by decide +kernel
theorem dX8_deep_16 : decode cX8_deep 16 = .ok (.iload_n 1, 1) := by decide +kernel
theorem dX8_deep_17 : decode cX8_deep 17 = .ok (.iaload, 1) := by decide +kernel
theorem dX8_deep_18 : decode cX8_deep 18 = .ok (.iadd, 1) := by decide +kernel
theorem dX8_deep_19 : decode cX8_deep 19 = .ok (.if_icmp .ge 91, 3) := by decide +kernel
theorem dX8_deep_22 : decode cX8_deep 22 = .ok (.aload_n 0, 1) := by decide +kernel
theorem dX8_deep_23 : decode cX8_deep 23 = .ok (.getfield 17, 3) := by decide +kernel
theorem dX8_deep_26 : decode cX8_deep 26 = .ok (.iload_n 3, 1) := by decide +kernel
theorem dX8_deep_27 : decode cX8_deep 27 = .ok (.caload, 1) := by decide +kernel
theorem dX8_deep_28 : decode cX8_deep 28 = .ok (.bipush 115, 2) := by decide +kernel
theorem dX8_deep_30 : decode cX8_deep 30 = .ok (.if_icmp .eq 17, 3) := by decide +kernel
theorem dX8_deep_33 : decode cX8_deep 33 = .ok (.aload_n 0, 1) := by decide +kernel
theorem dX8_deep_34 : decode cX8_deep 34 = .ok (.getfield 17, 3) := by decide +kernel
theorem dX8_deep_37 : decode cX8_deep 37 = .ok (.iload_n 3, 1) := by decide +kernel
theorem dX8_deep_38 : decode cX8_deep 38 = .ok (.caload, 1) := by decide +kernel
theorem dX8_deep_39 : decode cX8_deep 39 = .ok (.bipush 111, 2) := by decide +kernel
theorem dX8_deep_41 : decode cX8_deep 41 = .ok (.if_icmp .eq 6, 3) := by decide +kernel
theorem dX8_deep_44 : decode cX8_deep 44 = .ok (.goto 60, 3) := by decide +kernel
theorem dX8_deep_47 : decode cX8_deep 47 = .ok (.aload_n 0, 1) := by decide +kernel
theorem dX8_deep_48 : decode cX8_deep 48 = .ok (.aload_n 0, 1) := by decide +kernel
theorem dX8_deep_49 : decode cX8_deep 49 = .ok (.getfield 36, 3) := by decide +kernel
theorem dX8_deep_52 : decode cX8_deep 52 = .ok (.iload_n 3, 1) := by decide +kernel
theorem dX8_deep_53 : decode cX8_deep 53 = .ok (.iaload, 1) := by decide +kernel
theorem dX8_deep_54 : decode cX8_deep 54 = .ok (.invokevirtual 121, 3) := by decide +kernel
theorem dX8_deep_57 : decode cX8_deep 57 = .ok (.istore 4, 2) := by decide +kernel
theorem dX8_deep_59 : decode cX8_deep 59 = .ok (.aload_n 0, 1) := by decide +kernel
theorem dX8_deep_60 : decode cX8_deep 60 = .ok (.getfield 17, 3) := by decide +kernel
theorem dX8_deep_63 : decode cX8_deep 63 = .ok (.iload_n 3, 1) := by decide +kernel
theorem dX8_deep_64 : decode cX8_deep 64 = .ok (.caload, 1) := by decide +kernel
theorem dX8_deep_65 : decode cX8_deep 65 = .ok (.bipush 111, 2) := by decide +kernel
theorem dX8_deep_67 : decode cX8_deep 67 = .ok (.if_icmp .ne 16, 3) := by decide +kernel
theorem dX8_deep_70 : decode cX8_deep 70 = .ok (.aload_n 0, 1) := by decide +kernel
theorem dX8_deep_71 : decode cX8_deep 71 = .ok (.aload_n 0, 1) := by decide +kernel
theorem dX8_deep_72 : decode cX8_deep 72 = .ok (.getfield 39, 3) := by decide +kernel
theorem dX8_deep_75 : decode cX8_deep 75 = .ok (.iload_n 3, 1) := by decide +kernel
theorem dX8_deep_76 : decode cX8_deep 76 = .ok (.iaload, 1) := by decide +kernel
theorem dX8_deep_77 : decode cX8_deep 77 = .ok (.invokevirtual 121, 3) := by decide +kernel
theorem dX8_deep_80 : decode cX8_deep 80 = .ok (.goto 4, 3) := by decide +kernel
theorem dX8_deep_83 : decode cX8_deep 83 = .ok (.iconst 0, 1) := by decide +kernel
theorem dX8_deep_84 : decode cX8_deep 84 = .ok (.istore 5, 2) := by decide +kernel
theorem dX8_deep_86 : decode cX8_deep 86 = .ok (.iload 4, 2) := by decide +kernel
theorem dX8_deep_88 : decode cX8_deep 88 = .ok (.iload_n 2, 1) := by decide +kernel
theorem dX8_deep_89 : decode cX8_deep 89 = .ok (.if_icmp .le 6, 3) := by decide +kernel
theorem dX8_deep_92 : decode cX8_deep 92 = .ok (.iload 4, 2) := by decide +kernel
theorem dX8_deep_94 : decode cX8_deep 94 = .ok (.istore_n 2, 1) := by decide +kernel
theorem dX8_deep_95 : decode cX8_deep 95 = .ok (.iload 5, 2) := by decide +kernel
theorem dX8_deep_97 : decode cX8_deep 97 = .ok (.iload_n 2, 1) := by decide +kernel
theorem dX8_deep_98 : decode cX8_deep 98 = .ok (.if_icmp .le 6, 3) := by decide +kernel
theorem dX8_deep_101 : decode cX8_deep 101 = .ok (.iload 5, 2) := by decide +kernel
theorem dX8_deep_103 : decode cX8_deep 103 = .ok (.istore_n 2, 1) := by decide +kernel
theorem dX8_deep_104 : decode cX8_deep 104 = .ok (.iinc 3 1, 3) := by decide +kernel
theorem dX8_deep_107 : decode cX8_deep 107 = .ok (.goto (-100), 3) := by decide +kernel
theorem dX8_deep_110 : decode cX8_deep 110 = .ok (.iload_n 2, 1) := by decide +kernel
theorem dX8_deep_111 : decode cX8_deep 111 = .ok (.iconst 1, 1) := by decide +kernel
theorem dX8_deep_112 : decode cX8_deep 112 = .ok (.iadd, 1) := by decide +kernel
theorem dX8_deep_113 : decode cX8_deep 113 = .ok (.ireturn, 1) := by decide +kernel
theorem dX8_depth_0 : decode cX8_depth 0 = .ok (.aload_n 0, 1) := by decide +kernel
theorem dX8_depth_1 : decode cX8_depth 1 = .ok (.iload_n 1, 1) := by decide +kernel
theorem dX8_depth_2 : decode cX8_depth 2 = .ok (.invokevirtual 79, 3) := by decide +kernel
theorem dX8_depth_5 : decode cX8_depth 5 = .ok (.ifCond .eq 7, 3) := by decide +kernel
theorem dX8_depth_8 : decode cX8_depth 8 = .ok (.iconst 0, 1) := by decide +kernel
theorem dX8_depth_9 : decode cX8_depth 9 = .ok (.goto 8, 3) := by decide +kernel
theorem dX8_depth_12 : decode cX8_depth 12 = .ok (.aload_n 0, 1) := by decide +kernel
theorem dX8_depth_13 : decode cX8_depth 13 = .ok (.iload_n 1, 1) := by decide +kernel
theorem dX8_depth_14 : decode cX8_depth 14 = .ok (.invokevirtual 121, 3) := by decide +kernel
theorem dX8_depth_17 : decode cX8_depth 17 = .ok (.ireturn, 1) := by decide +kernel
theorem dX8_endsAt_0 : decode cX8_endsAt 0 = .ok (.aload_n 0, 1) := by decide +kernel
theorem dX8_endsAt_1 : decode cX8_endsAt 1 = .ok (.getfield 29, 3) := by decide +kernel
theorem dX8_endsAt_4 : decode cX8_endsAt 4 = .ok (.iload_n 2, 1) := by decide +kernel
theorem dX8_endsAt_5 : decode cX8_endsAt 5 = .ok (.iaload, 1) := by decide +kernel
theorem dX8_endsAt_6 : decode cX8_endsAt 6 = .ok (.iload_n 3, 1) := by decide +kernel
theorem dX8_endsAt_7 : decode cX8_endsAt 7 = .ok (.if_icmp .le 5, 3) := by decide +kernel
theorem dX8_endsAt_10 : decode cX8_endsAt 10 = .ok (.iconst 0, 1) := by decide +kernel
theorem dX8_endsAt_11 : decode cX8_endsAt 11 = .ok (.ireturn, 1) := by decide +kernel
theorem dX8_endsAt_12 : decode cX8_endsAt 12 = .ok (.iconst 0, 1) := by decide +kernel
theorem dX8_endsAt_13 : decode cX8_endsAt 13 = .ok (.istore 4, 2) := by decide +kernel
theorem dX8_endsAt_15 : decode cX8_endsAt 15 = .ok (.iload 4, 2) := by decide +kernel
theorem dX8_endsAt_17 : decode cX8_endsAt 17 = .ok (.aload_n 0, 1) := by decide +kernel
theorem dX8_endsAt_18 : decode cX8_endsAt 18 = .ok (.getfield 29, 3) := by decide +kernel
theorem dX8_endsAt_21 : decode cX8_endsAt 21 = .ok (.iload_n 2, 1) := by decide +kernel
theorem dX8_endsAt_22 : decode cX8_endsAt 22 = .ok (.iaload, 1) := by decide +kernel
theorem dX8_endsAt_23 : decode cX8_endsAt 23 = .ok (.if_icmp .ge 47, 3) := by decide +kernel
theorem dX8_endsAt_26 : decode cX8_endsAt 26 = .ok (.aload_n 0, 1) := by decide +kernel
theorem dX8_endsAt_27 : decode cX8_endsAt 27 = .ok (.getfield 13, 3) := by decide +kernel
theorem dX8_endsAt_30 : decode cX8_endsAt 30 = .ok (.bipush 6, 2) := by decide +kernel
theorem dX8_endsAt_32 : decode cX8_endsAt 32 = .ok (.iload_n 2, 1) := by decide +kernel
theorem dX8_endsAt_33 : decode cX8_endsAt 33 = .ok (.imul, 1) := by decide +kernel
theorem dX8_endsAt_34 : decode cX8_endsAt 34 = .ok (.iload 4, 2) := by decide +kernel
theorem dX8_endsAt_36 : decode cX8_endsAt 36 = .ok (.iadd, 1) := by decide +kernel
theorem dX8_endsAt_37 : decode cX8_endsAt 37 = .ok (.caload, 1) := by decide +kernel
theorem dX8_endsAt_38 : decode cX8_endsAt 38 = .ok (.aload_n 0, 1) := by decide +kernel
theorem dX8_endsAt_39 : decode cX8_endsAt 39 = .ok (.getfield 13, 3) := by decide +kernel
theorem dX8_endsAt_42 : decode cX8_endsAt 42 = .ok (.bipush 6, 2) := by decide +kernel
theorem dX8_endsAt_44 : decode cX8_endsAt 44 = .ok (.iload_n 1, 1) := by decide +kernel
theorem dX8_endsAt_45 : decode cX8_endsAt 45 = .ok (.imul, 1) := by decide +kernel
theorem dX8_endsAt_46 : decode cX8_endsAt 46 = .ok (.iload_n 3, 1) := by decide +kernel
theorem dX8_endsAt_47 : decode cX8_endsAt 47 = .ok (.iadd, 1) := by decide +kernel
theorem dX8_endsAt_48 : decode cX8_endsAt 48 = .ok (.aload_n 0, 1) := by decide +kernel
theorem dX8_endsAt_49 : decode cX8_endsAt 49 = .ok (.getfield 29, 3) := by decide +kernel
theorem dX8_endsAt_52 : decode cX8_endsAt 52 = .ok (.iload_n 2, 1) := by decide +kernel
theorem dX8_endsAt_53 : decode cX8_endsAt 53 = .ok (.iaload, 1) := by decide +kernel
theorem dX8_endsAt_54 : decode cX8_endsAt 54 = .ok (.isub, 1) := by decide +kernel
theorem dX8_endsAt_55 : decode cX8_endsAt 55 = .ok (.iload 4, 2) := by decide +kernel
theorem dX8_endsAt_57 : decode cX8_endsAt 57 = .ok (.iadd, 1) := by decide +kernel
theorem dX8_endsAt_58 : decode cX8_endsAt 58 = .ok (.caload, 1) := by decide +kernel
theorem dX8_endsAt_59 : decode cX8_endsAt 59 = .ok (.if_icmp .eq 5, 3) := by decide +kernel
theorem dX8_endsAt_62 : decode cX8_endsAt 62 = .ok (.iconst 0, 1) := by decide +kernel
theorem dX8_endsAt_63 : decode cX8_endsAt 63 = .ok (.ireturn, 1) := by decide +kernel
theorem dX8_endsAt_64 : decode cX8_endsAt 64 = .ok (.iinc 4 1, 3) := by decide +kernel
theorem dX8_endsAt_67 : decode cX8_endsAt 67 = .ok (.goto (-52), 3) := by decide +kernel
theorem dX8_endsAt_70 : decode cX8_endsAt 70 = .ok (.iconst 1, 1) := by decide +kernel
theorem dX8_endsAt_71 : decode cX8_endsAt 71 = .ok (.ireturn, 1) := by decide +kernel
theorem dX8_isUsed_0 : decode cX8_isUsed 0 = .ok (.aload_n 0, 1) := by decide +kernel
theorem dX8_isUsed_1 : decode cX8_isUsed 1 = .ok (.getfield 55, 3) := by decide +kernel
theorem dX8_isUsed_4 : decode cX8_isUsed 4 = .ok (.iload_n 1, 1) := by decide +kernel
theorem dX8_isUsed_5 : decode cX8_isUsed 5 = .ok (.baload, 1) := by decide +kernel
theorem dX8_isUsed_6 : decode cX8_isUsed 6 = .ok (.ifCond .ne 16, 3) := by decide +kernel
theorem dX8_isUsed_9 : decode cX8_isUsed 9 = .ok (.aload_n 0, 1) := by decide +kernel
theorem dX8_isUsed_10 : decode cX8_isUsed 10 = .ok (.getfield 29, 3) := by decide +kernel
theorem dX8_isUsed_13 : decode cX8_isUsed 13 = .ok (.iload_n 1, 1) := by decide +kernel
theorem dX8_isUsed_14 : decode cX8_isUsed 14 = .ok (.iaload, 1) := by decide +kernel
theorem dX8_isUsed_15 : decode cX8_isUsed 15 = .ok (.ifCond .le 7, 3) := by decide +kernel
theorem dX8_isUsed_18 : decode cX8_isUsed 18 = .ok (.iconst 1, 1) := by decide +kernel
theorem dX8_isUsed_19 : decode cX8_isUsed 19 = .ok (.goto 4, 3) := by decide +kernel
theorem dX8_isUsed_22 : decode cX8_isUsed 22 = .ok (.iconst 0, 1) := by decide +kernel
theorem dX8_isUsed_23 : decode cX8_isUsed 23 = .ok (.ireturn, 1) := by decide +kernel
theorem dX8_shadows_0 : decode cX8_shadows 0 = .ok (.aload_n 0, 1) := by decide +kernel
theorem dX8_shadows_1 : decode cX8_shadows 1 = .ok (.iload_n 1, 1) := by decide +kernel
theorem dX8_shadows_2 : decode cX8_shadows 2 = .ok (.invokevirtual 124, 3) := by decide +kernel
theorem dX8_shadows_5 : decode cX8_shadows 5 = .ok (.ifCond .eq 11, 3) := by decide +kernel
theorem dX8_shadows_8 : decode cX8_shadows 8 = .ok (.aload_n 0, 1) := by decide +kernel
theorem dX8_shadows_9 : decode cX8_shadows 9 = .ok (.iload_n 2, 1) := by decide +kernel
theorem dX8_shadows_10 : decode cX8_shadows 10 = .ok (.invokevirtual 124, 3) := by decide +kernel
theorem dX8_shadows_13 : decode cX8_shadows 13 = .ok (.ifCond .ne 5, 3) := by decide +kernel
theorem dX8_shadows_16 : decode cX8_shadows 16 = .ok (.iconst 0, 1) := by decide +kernel
theorem dX8_shadows_17 : decode cX8_shadows 17 = .ok (.ireturn, 1) := by decide +kernel
theorem dX8_shadows_18 : decode cX8_shadows 18 = .ok (.iload_n 2, 1) := by decide +kernel
theorem dX8_shadows_19 : decode cX8_shadows 19 = .ok (.iload_n 1, 1) := by decide +kernel
theorem dX8_shadows_20 : decode cX8_shadows 20 = .ok (.if_icmp .ge 35, 3) := by decide +kernel
theorem dX8_shadows_23 : decode cX8_shadows 23 = .ok (.aload_n 0, 1) := by decide +kernel
theorem dX8_shadows_24 : decode cX8_shadows 24 = .ok (.getfield 29, 3) := by decide +kernel
theorem dX8_shadows_27 : decode cX8_shadows 27 = .ok (.iload_n 2, 1) := by decide +kernel
theorem dX8_shadows_28 : decode cX8_shadows 28 = .ok (.iaload, 1) := by decide +kernel
theorem dX8_shadows_29 : decode cX8_shadows 29 = .ok (.aload_n 0, 1) := by decide +kernel
theorem dX8_shadows_30 : decode cX8_shadows 30 = .ok (.getfield 29, 3) := by decide +kernel
theorem dX8_shadows_33 : decode cX8_shadows 33 = .ok (.iload_n 1, 1) := by decide +kernel
theorem dX8_shadows_34 : decode cX8_shadows 34 = .ok (.iaload, 1) := by decide +kernel
theorem dX8_shadows_35 : decode cX8_shadows 35 = .ok (.if_icmp .ne 20, 3) := by decide +kernel
theorem dX8_shadows_38 : decode cX8_shadows 38 = .ok (.aload_n 0, 1) := by decide +kernel
theorem dX8_shadows_39 : decode cX8_shadows 39 = .ok (.iload_n 1, 1) := by decide +kernel
theorem dX8_shadows_40 : decode cX8_shadows 40 = .ok (.iload_n 2, 1) := by decide +kernel
theorem dX8_shadows_41 : decode cX8_shadows 41 = .ok (.aload_n 0, 1) := by decide +kernel
theorem dX8_shadows_42 : decode cX8_shadows 42 = .ok (.getfield 29, 3) := by decide +kernel
theorem dX8_shadows_45 : decode cX8_shadows 45 = .ok (.iload_n 1, 1) := by decide +kernel
theorem dX8_shadows_46 : decode cX8_shadows 46 = .ok (.iaload, 1) := by decide +kernel
theorem dX8_shadows_47 : decode cX8_shadows 47 = .ok (.invokevirtual 127, 3) := by decide +kernel
theorem dX8_shadows_50 : decode cX8_shadows 50 = .ok (.ifCond .eq 5, 3) := by decide +kernel
theorem dX8_shadows_53 : decode cX8_shadows 53 = .ok (.iconst 1, 1) := by decide +kernel
theorem dX8_shadows_54 : decode cX8_shadows 54 = .ok (.ireturn, 1) := by decide +kernel
theorem dX8_shadows_55 : decode cX8_shadows 55 = .ok (.iconst 1, 1) := by decide +kernel
theorem dX8_shadows_56 : decode cX8_shadows 56 = .ok (.istore_n 3, 1) := by decide +kernel
theorem dX8_shadows_57 : decode cX8_shadows 57 = .ok (.iload_n 3, 1) := by decide +kernel
theorem dX8_shadows_58 : decode cX8_shadows 58 = .ok (.aload_n 0, 1) := by decide +kernel
theorem dX8_shadows_59 : decode cX8_shadows 59 = .ok (.getfield 29, 3) := by decide +kernel
theorem dX8_shadows_62 : decode cX8_shadows 62 = .ok (.iload_n 1, 1) := by decide +kernel
theorem dX8_shadows_63 : decode cX8_shadows 63 = .ok (.iaload, 1) := by decide +kernel
theorem dX8_shadows_64 : decode cX8_shadows 64 = .ok (.if_icmp .ge 21, 3) := by decide +kernel
theorem dX8_shadows_67 : decode cX8_shadows 67 = .ok (.aload_n 0, 1) := by decide +kernel
theorem dX8_shadows_68 : decode cX8_shadows 68 = .ok (.iload_n 1, 1) := by decide +kernel
theorem dX8_shadows_69 : decode cX8_shadows 69 = .ok (.iload_n 2, 1) := by decide +kernel
theorem dX8_shadows_70 : decode cX8_shadows 70 = .ok (.iload_n 3, 1) := by decide +kernel
theorem dX8_shadows_71 : decode cX8_shadows 71 = .ok (.invokevirtual 127, 3) := by decide +kernel
theorem dX8_shadows_74 : decode cX8_shadows 74 = .ok (.ifCond .eq 5, 3) := by decide +kernel
theorem dX8_shadows_77 : decode cX8_shadows 77 = .ok (.iconst 1, 1) := by decide +kernel
theorem dX8_shadows_78 : decode cX8_shadows 78 = .ok (.ireturn, 1) := by decide +kernel
theorem dX8_shadows_79 : decode cX8_shadows 79 = .ok (.iinc 3 1, 3) := by decide +kernel
theorem dX8_shadows_82 : decode cX8_shadows 82 = .ok (.goto (-25), 3) := by decide +kernel
theorem dX8_shadows_85 : decode cX8_shadows 85 = .ok (.iconst 0, 1) := by decide +kernel
theorem dX8_shadows_86 : decode cX8_shadows 86 = .ok (.ireturn, 1) := by decide +kernel
theorem dX8_isShadowedBy_0 : decode cX8_isShadowedBy 0 = .ok (.aload_n 0, 1) := by decide +kernel
theorem dX8_isShadowedBy_1 : decode cX8_isShadowedBy 1 = .ok (.iload_n 1, 1) := by decide +kernel
theorem dX8_isShadowedBy_2 : decode cX8_isShadowedBy 2 = .ok (.invokevirtual 79, 3) := by decide +kernel
theorem dX8_isShadowedBy_5 : decode cX8_isShadowedBy 5 = .ok (.ifCond .ne 24, 3) := by decide +kernel
theorem dX8_isShadowedBy_8 : decode cX8_isShadowedBy 8 = .ok (.aload_n 0, 1) := by decide +kernel
theorem dX8_isShadowedBy_9 : decode cX8_isShadowedBy 9 = .ok (.iload_n 2, 1) := by decide +kernel
theorem dX8_isShadowedBy_10 : decode cX8_isShadowedBy 10 = .ok (.invokevirtual 79, 3) := by decide +kernel
theorem dX8_isShadowedBy_13 : decode cX8_isShadowedBy 13 = .ok (.ifCond .ne 16, 3) := by decide +kernel
theorem dX8_isShadowedBy_16 : decode cX8_isShadowedBy 16 = .ok (.aload_n 0, 1) := by decide +kernel
theorem dX8_isShadowedBy_17 : decode cX8_isShadowedBy 17 = .ok (.iload_n 1, 1) := by decide +kernel
theorem dX8_isShadowedBy_18 : decode cX8_isShadowedBy 18 = .ok (.iload_n 2, 1) := by decide +kernel
theorem dX8_isShadowedBy_19 : decode cX8_isShadowedBy 19 = .ok (.invokevirtual 130, 3) := by decide +kernel
theorem dX8_isShadowedBy_22 : decode cX8_isShadowedBy 22 = .ok (.ifCond .eq 7, 3) := by decide +kernel
theorem dX8_isShadowedBy_25 : decode cX8_isShadowedBy 25 = .ok (.iconst 1, 1) := by decide +kernel
theorem dX8_isShadowedBy_26 : decode cX8_isShadowedBy 26 = .ok (.goto 4, 3) := by decide +kernel
theorem dX8_isShadowedBy_29 : decode cX8_isShadowedBy 29 = .ok (.iconst 0, 1) := by decide +kernel
theorem dX8_isShadowedBy_30 : decode cX8_isShadowedBy 30 = .ok (.ireturn, 1) := by decide +kernel
theorem dX8_firstShadow_0 : decode cX8_firstShadow 0 = .ok (.iconst 0, 1) := by decide +kernel
theorem dX8_firstShadow_1 : decode cX8_firstShadow 1 = .ok (.istore_n 2, 1) := by decide +kernel
theorem dX8_firstShadow_2 : decode cX8_firstShadow 2 = .ok (.iload_n 2, 1) := by decide +kernel
theorem dX8_firstShadow_3 : decode cX8_firstShadow 3 = .ok (.aload_n 0, 1) := by decide +kernel
theorem dX8_firstShadow_4 : decode cX8_firstShadow 4 = .ok (.getfield 64, 3) := by decide +kernel
theorem dX8_firstShadow_7 : decode cX8_firstShadow 7 = .ok (.if_icmp .ge 20, 3) := by decide +kernel
theorem dX8_firstShadow_10 : decode cX8_firstShadow 10 = .ok (.aload_n 0, 1) := by decide +kernel
theorem dX8_firstShadow_11 : decode cX8_firstShadow 11 = .ok (.iload_n 1, 1) := by decide +kernel
theorem dX8_firstShadow_12 : decode cX8_firstShadow 12 = .ok (.iload_n 2, 1) := by decide +kernel
theorem dX8_firstShadow_13 : decode cX8_firstShadow 13 = .ok (.invokevirtual 130, 3) := by decide +kernel
theorem dX8_firstShadow_16 : decode cX8_firstShadow 16 = .ok (.ifCond .eq 5, 3) := by decide +kernel
theorem dX8_firstShadow_19 : decode cX8_firstShadow 19 = .ok (.iload_n 2, 1) := by decide +kernel
theorem dX8_firstShadow_20 : decode cX8_firstShadow 20 = .ok (.ireturn, 1) := by decide +kernel
theorem dX8_firstShadow_21 : decode cX8_firstShadow 21 = .ok (.iinc 2 1, 3) := by decide +kernel
theorem dX8_firstShadow_24 : decode cX8_firstShadow 24 = .ok (.goto (-22), 3) := by decide +kernel
theorem dX8_firstShadow_27 : decode cX8_firstShadow 27 = .ok (.iconst (-1), 1) := by decide +kernel
theorem dX8_firstShadow_28 : decode cX8_firstShadow 28 = .ok (.ireturn, 1) := by decide +kernel
theorem dX8_shadower_0 : decode cX8_shadower 0 = .ok (.aload_n 0, 1) := by decide +kernel
theorem dX8_shadower_1 : decode cX8_shadower 1 = .ok (.iload_n 1, 1) := by decide +kernel
theorem dX8_shadower_2 : decode cX8_shadower 2 = .ok (.invokevirtual 79, 3) := by decide +kernel
theorem dX8_shadower_5 : decode cX8_shadower 5 = .ok (.ifCond .eq 5, 3) := by decide +kernel
theorem dX8_shadower_8 : decode cX8_shadower 8 = .ok (.iconst 0, 1) := by decide +kernel
theorem dX8_shadower_9 : decode cX8_shadower 9 = .ok (.ireturn, 1) := by decide +kernel
theorem dX8_shadower_10 : decode cX8_shadower 10 = .ok (.aload_n 0, 1) := by decide +kernel
theorem dX8_shadower_11 : decode cX8_shadower 11 = .ok (.iload_n 1, 1) := by decide +kernel
theorem dX8_shadower_12 : decode cX8_shadower 12 = .ok (.invokevirtual 133, 3) := by decide +kernel
theorem dX8_shadower_15 : decode cX8_shadower 15 = .ok (.istore_n 2, 1) := by decide +kernel
theorem dX8_shadower_16 : decode cX8_shadower 16 = .ok (.iload_n 2, 1) := by decide +kernel
theorem dX8_shadower_17 : decode cX8_shadower 17 = .ok (.ifCond .ge 9, 3) := by decide +kernel
theorem dX8_shadower_20 : decode cX8_shadower 20 = .ok (.aload_n 0, 1) := by decide +kernel
theorem dX8_shadower_21 : decode cX8_shadower 21 = .ok (.iconst 2, 1) := by decide +kernel
theorem dX8_shadower_22 : decode cX8_shadower 22 = .ok (.invokevirtual 75, 3) := by decide +kernel
theorem dX8_shadower_25 : decode cX8_shadower 25 = .ok (.ireturn, 1) := by decide +kernel
theorem dX8_shadower_26 : decode cX8_shadower 26 = .ok (.iload_n 2, 1) := by decide +kernel
theorem dX8_shadower_27 : decode cX8_shadower 27 = .ok (.ireturn, 1) := by decide +kernel
theorem dX8_clashes_0 : decode cX8_clashes 0 = .ok (.iconst 0, 1) := by decide +kernel
theorem dX8_clashes_1 : decode cX8_clashes 1 = .ok (.istore_n 1, 1) := by decide +kernel
theorem dX8_clashes_2 : decode cX8_clashes 2 = .ok (.iconst 0, 1) := by decide +kernel
theorem dX8_clashes_3 : decode cX8_clashes 3 = .ok (.istore_n 2, 1) := by decide +kernel
theorem dX8_clashes_4 : decode cX8_clashes 4 = .ok (.iload_n 2, 1) := by decide +kernel
theorem dX8_clashes_5 : decode cX8_clashes 5 = .ok (.aload_n 0, 1) := by decide +kernel
theorem dX8_clashes_6 : decode cX8_clashes 6 = .ok (.getfield 64, 3) := by decide +kernel
theorem dX8_clashes_9 : decode cX8_clashes 9 = .ok (.if_icmp .ge 25, 3) := by decide +kernel
theorem dX8_clashes_12 : decode cX8_clashes 12 = .ok (.iload_n 1, 1) := by decide +kernel
theorem dX8_clashes_13 : decode cX8_clashes 13 = .ok (.aload_n 0, 1) := by decide +kernel
theorem dX8_clashes_14 : decode cX8_clashes 14 = .ok (.iload_n 2, 1) := by decide +kernel
theorem dX8_clashes_15 : decode cX8_clashes 15 = .ok (.invokevirtual 133, 3) := by decide +kernel
theorem dX8_clashes_18 : decode cX8_clashes 18 = .ok (.ifCond .lt 7, 3) := by decide +kernel
theorem dX8_clashes_21 : decode cX8_clashes 21 = .ok (.iconst 1, 1) := by decide +kernel
theorem dX8_clashes_22 : decode cX8_clashes 22 = .ok (.goto 4, 3) := by decide +kernel
theorem dX8_clashes_25 : decode cX8_clashes 25 = .ok (.iconst 0, 1) := by decide +kernel
theorem dX8_clashes_26 : decode cX8_clashes 26 = .ok (.iadd, 1) := by decide +kernel
theorem dX8_clashes_27 : decode cX8_clashes 27 = .ok (.istore_n 1, 1) := by decide +kernel
theorem dX8_clashes_28 : decode cX8_clashes 28 = .ok (.iinc 2 1, 3) := by decide +kernel
theorem dX8_clashes_31 : decode cX8_clashes 31 = .ok (.goto (-27), 3) := by decide +kernel
theorem dX8_clashes_34 : decode cX8_clashes 34 = .ok (.iload_n 1, 1) := by decide +kernel
theorem dX8_clashes_35 : decode cX8_clashes 35 = .ok (.ireturn, 1) := by decide +kernel
theorem dX8_matches_0 : decode cX8_matches 0 = .ok (.aload_n 0, 1) := by decide +kernel
theorem dX8_matches_1 : decode cX8_matches 1 = .ok (.iload_n 1, 1) := by decide +kernel
theorem dX8_matches_2 : decode cX8_matches 2 = .ok (.invokevirtual 124, 3) := by decide +kernel
theorem dX8_matches_5 : decode cX8_matches 5 = .ok (.ifCond .eq 16, 3) := by decide +kernel
theorem dX8_matches_8 : decode cX8_matches 8 = .ok (.aload_n 0, 1) := by decide +kernel
theorem dX8_matches_9 : decode cX8_matches 9 = .ok (.getfield 29, 3) := by decide +kernel
theorem dX8_matches_12 : decode cX8_matches 12 = .ok (.iload_n 1, 1) := by decide +kernel
theorem dX8_matches_13 : decode cX8_matches 13 = .ok (.iaload, 1) := by decide +kernel
theorem dX8_matches_14 : decode cX8_matches 14 = .ok (.aload_n 0, 1) := by decide +kernel
theorem dX8_matches_15 : decode cX8_matches 15 = .ok (.getfield 136, 3) := by decide +kernel
theorem dX8_matches_18 : decode cX8_matches 18 = .ok (.if_icmp .le 5, 3) := by decide +kernel
theorem dX8_matches_21 : decode cX8_matches 21 = .ok (.iconst 0, 1) := by decide +kernel
theorem dX8_matches_22 : decode cX8_matches 22 = .ok (.ireturn, 1) := by decide +kernel
theorem dX8_matches_23 : decode cX8_matches 23 = .ok (.aload_n 0, 1) := by decide +kernel
theorem dX8_matches_24 : decode cX8_matches 24 = .ok (.getfield 136, 3) := by decide +kernel
theorem dX8_matches_27 : decode cX8_matches 27 = .ok (.aload_n 0, 1) := by decide +kernel
theorem dX8_matches_28 : decode cX8_matches 28 = .ok (.getfield 29, 3) := by decide +kernel
theorem dX8_matches_31 : decode cX8_matches 31 = .ok (.iload_n 1, 1) := by decide +kernel
theorem dX8_matches_32 : decode cX8_matches 32 = .ok (.iaload, 1) := by decide +kernel
theorem dX8_matches_33 : decode cX8_matches 33 = .ok (.isub, 1) := by decide +kernel
theorem dX8_matches_34 : decode cX8_matches 34 = .ok (.istore_n 2, 1) := by decide +kernel
theorem dX8_matches_35 : decode cX8_matches 35 = .ok (.iconst 0, 1) := by decide +kernel
theorem dX8_matches_36 : decode cX8_matches 36 = .ok (.istore_n 3, 1) := by decide +kernel
theorem dX8_matches_37 : decode cX8_matches 37 = .ok (.iload_n 3, 1) := by decide +kernel
theorem dX8_matches_38 : decode cX8_matches 38 = .ok (.aload_n 0, 1) := by decide +kernel
theorem dX8_matches_39 : decode cX8_matches 39 = .ok (.getfield 29, 3) := by decide +kernel
theorem dX8_matches_42 : decode cX8_matches 42 = .ok (.iload_n 1, 1) := by decide +kernel
theorem dX8_matches_43 : decode cX8_matches 43 = .ok (.iaload, 1) := by decide +kernel
theorem dX8_matches_44 : decode cX8_matches 44 = .ok (.if_icmp .ge 33, 3) := by decide +kernel
theorem dX8_matches_47 : decode cX8_matches 47 = .ok (.aload_n 0, 1) := by decide +kernel
theorem dX8_matches_48 : decode cX8_matches 48 = .ok (.getfield 20, 3) := by decide +kernel
theorem dX8_matches_51 : decode cX8_matches 51 = .ok (.iload_n 2, 1) := by decide +kernel
theorem dX8_matches_52 : decode cX8_matches 52 = .ok (.iload_n 3, 1) := by decide +kernel
theorem dX8_matches_53 : decode cX8_matches 53 = .ok (.iadd, 1) := by decide +kernel
theorem dX8_matches_54 : decode cX8_matches 54 = .ok (.caload, 1) := by decide +kernel
theorem dX8_matches_55 : decode cX8_matches 55 = .ok (.aload_n 0, 1) := by decide +kernel
theorem dX8_matches_56 : decode cX8_matches 56 = .ok (.getfield 13, 3) := by decide +kernel
theorem dX8_matches_59 : decode cX8_matches 59 = .ok (.bipush 6, 2) := by decide +kernel
theorem dX8_matches_61 : decode cX8_matches 61 = .ok (.iload_n 1, 1) := by decide +kernel
theorem dX8_matches_62 : decode cX8_matches 62 = .ok (.imul, 1) := by decide +kernel
theorem dX8_matches_63 : decode cX8_matches 63 = .ok (.iload_n 3, 1) := by decide +kernel
theorem dX8_matches_64 : decode cX8_matches 64 = .ok (.iadd, 1) := by decide +kernel
theorem dX8_matches_65 : decode cX8_matches 65 = .ok (.caload, 1) := by decide +kernel
theorem dX8_matches_66 : decode cX8_matches 66 = .ok (.if_icmp .eq 5, 3) := by decide +kernel
theorem dX8_matches_69 : decode cX8_matches 69 = .ok (.iconst 0, 1) := by decide +kernel
theorem dX8_matches_70 : decode cX8_matches 70 = .ok (.ireturn, 1) := by decide +kernel
theorem dX8_matches_71 : decode cX8_matches 71 = .ok (.iinc 3 1, 3) := by decide +kernel
theorem dX8_matches_74 : decode cX8_matches 74 = .ok (.goto (-37), 3) := by decide +kernel
theorem dX8_matches_77 : decode cX8_matches 77 = .ok (.aload_n 0, 1) := by decide +kernel
theorem dX8_matches_78 : decode cX8_matches 78 = .ok (.getfield 51, 3) := by decide +kernel
theorem dX8_matches_81 : decode cX8_matches 81 = .ok (.iload_n 1, 1) := by decide +kernel
theorem dX8_matches_82 : decode cX8_matches 82 = .ok (.baload, 1) := by decide +kernel
theorem dX8_matches_83 : decode cX8_matches 83 = .ok (.ifCond .eq 21, 3) := by decide +kernel
theorem dX8_matches_86 : decode cX8_matches 86 = .ok (.iload_n 2, 1) := by decide +kernel
theorem dX8_matches_87 : decode cX8_matches 87 = .ok (.ifCond .eq 17, 3) := by decide +kernel
theorem dX8_matches_90 : decode cX8_matches 90 = .ok (.aload_n 0, 1) := by decide +kernel
theorem dX8_matches_91 : decode cX8_matches 91 = .ok (.getfield 20, 3) := by decide +kernel
theorem dX8_matches_94 : decode cX8_matches 94 = .ok (.iload_n 2, 1) := by decide +kernel
theorem dX8_matches_95 : decode cX8_matches 95 = .ok (.iconst 1, 1) := by decide +kernel
theorem dX8_matches_96 : decode cX8_matches 96 = .ok (.isub, 1) := by decide +kernel
theorem dX8_matches_97 : decode cX8_matches 97 = .ok (.caload, 1) := by decide +kernel
theorem dX8_matches_98 : decode cX8_matches 98 = .ok (.invokestatic 71, 3) := by decide +kernel
theorem dX8_matches_101 : decode cX8_matches 101 = .ok (.ifCond .ne 7, 3) := by decide +kernel
theorem dX8_matches_104 : decode cX8_matches 104 = .ok (.iconst 1, 1) := by decide +kernel
theorem dX8_matches_105 : decode cX8_matches 105 = .ok (.goto 4, 3) := by decide +kernel
theorem dX8_matches_108 : decode cX8_matches 108 = .ok (.iconst 0, 1) := by decide +kernel
theorem dX8_matches_109 : decode cX8_matches 109 = .ok (.ireturn, 1) := by decide +kernel
theorem dX8_matching_0 : decode cX8_matching 0 = .ok (.iconst (-1), 1) := by decide +kernel
theorem dX8_matching_1 : decode cX8_matching 1 = .ok (.istore_n 1, 1) := by decide +kernel
theorem dX8_matching_2 : decode cX8_matching 2 = .ok (.iconst 0, 1) := by decide +kernel
theorem dX8_matching_3 : decode cX8_matching 3 = .ok (.istore_n 2, 1) := by decide +kernel
theorem dX8_matching_4 : decode cX8_matching 4 = .ok (.iload_n 2, 1) := by decide +kernel
theorem dX8_matching_5 : decode cX8_matching 5 = .ok (.aload_n 0, 1) := by decide +kernel
theorem dX8_matching_6 : decode cX8_matching 6 = .ok (.getfield 64, 3) := by decide +kernel
theorem dX8_matching_9 : decode cX8_matching 9 = .ok (.if_icmp .ge 38, 3) := by decide +kernel
theorem dX8_matching_12 : decode cX8_matching 12 = .ok (.aload_n 0, 1) := by decide +kernel
theorem dX8_matching_13 : decode cX8_matching 13 = .ok (.iload_n 2, 1) := by decide +kernel
theorem dX8_matching_14 : decode cX8_matching 14 = .ok (.invokevirtual 139, 3) := by decide +kernel
theorem dX8_matching_17 : decode cX8_matching 17 = .ok (.ifCond .eq 24, 3) := by decide +kernel
theorem dX8_matching_20 : decode cX8_matching 20 = .ok (.iload_n 1, 1) := by decide +kernel
theorem dX8_matching_21 : decode cX8_matching 21 = .ok (.ifCond .lt 18, 3) := by decide +kernel
theorem dX8_matching_24 : decode cX8_matching 24 = .ok (.aload_n 0, 1) := by decide +kernel
theorem dX8_matching_25 : decode cX8_matching 25 = .ok (.getfield 29, 3) := by decide +kernel
theorem dX8_matching_28 : decode cX8_matching 28 = .ok (.iload_n 2, 1) := by decide +kernel
theorem dX8_matching_29 : decode cX8_matching 29 = .ok (.iaload, 1) := by decide +kernel
theorem dX8_matching_30 : decode cX8_matching 30 = .ok (.aload_n 0, 1) := by decide +kernel
theorem dX8_matching_31 : decode cX8_matching 31 = .ok (.getfield 29, 3) := by decide +kernel
theorem dX8_matching_34 : decode cX8_matching 34 = .ok (.iload_n 1, 1) := by decide +kernel
theorem dX8_matching_35 : decode cX8_matching 35 = .ok (.iaload, 1) := by decide +kernel
theorem dX8_matching_36 : decode cX8_matching 36 = .ok (.if_icmp .le 5, 3) := by decide +kernel
theorem dX8_matching_39 : decode cX8_matching 39 = .ok (.iload_n 2, 1) := by decide +kernel
theorem dX8_matching_40 : decode cX8_matching 40 = .ok (.istore_n 1, 1) := by decide +kernel
theorem dX8_matching_41 : decode cX8_matching 41 = .ok (.iinc 2 1, 3) := by decide +kernel
theorem dX8_matching_44 : decode cX8_matching 44 = .ok (.goto (-40), 3) := by decide +kernel
theorem dX8_matching_47 : decode cX8_matching 47 = .ok (.iload_n 1, 1) := by decide +kernel
theorem dX8_matching_48 : decode cX8_matching 48 = .ok (.ireturn, 1) := by decide +kernel
theorem dX8_matchingByLooking_0 : decode cX8_matchingByLooking 0 = .ok (.aload_n 0, 1) := by decide +kernel
theorem dX8_matchingByLooking_1 : decode cX8_matchingByLooking 1 = .ok (.invokevirtual 142, 3) := by decide +kernel
theorem dX8_matchingByLooking_4 : decode cX8_matchingByLooking 4 = .ok (.ireturn, 1) := by decide +kernel
theorem dX8_insert_0 : decode cX8_insert 0 = .ok (.aload_n 0, 1) := by decide +kernel
theorem dX8_insert_1 : decode cX8_insert 1 = .ok (.getfield 146, 3) := by decide +kernel
theorem dX8_insert_4 : decode cX8_insert 4 = .ok (.istore_n 2, 1) := by decide +kernel
theorem dX8_insert_5 : decode cX8_insert 5 = .ok (.iload_n 2, 1) := by decide +kernel
theorem dX8_insert_6 : decode cX8_insert 6 = .ok (.aload_n 0, 1) := by decide +kernel
theorem dX8_insert_7 : decode cX8_insert 7 = .ok (.getfield 136, 3) := by decide +kernel
theorem dX8_insert_10 : decode cX8_insert 10 = .ok (.if_icmp .le 23, 3) := by decide +kernel
theorem dX8_insert_13 : decode cX8_insert 13 = .ok (.aload_n 0, 1) := by decide +kernel
theorem dX8_insert_14 : decode cX8_insert 14 = .ok (.getfield 20, 3) := by decide +kernel
theorem dX8_insert_17 : decode cX8_insert 17 = .ok (.iload_n 2, 1) := by decide +kernel
theorem dX8_insert_18 : decode cX8_insert 18 = .ok (.aload_n 0, 1) := by decide +kernel
theorem dX8_insert_19 : decode cX8_insert 19 = .ok (.getfield 20, 3) := by decide +kernel
theorem dX8_insert_22 : decode cX8_insert 22 = .ok (.iload_n 2, 1) := by decide +kernel
theorem dX8_insert_23 : decode cX8_insert 23 = .ok (.iconst 1, 1) := by decide +kernel
theorem dX8_insert_24 : decode cX8_insert 24 = .ok (.isub, 1) := by decide +kernel
theorem dX8_insert_25 : decode cX8_insert 25 = .ok (.caload, 1) := by decide +kernel
theorem dX8_insert_26 : decode cX8_insert 26 = .ok (.castore, 1) := by decide +kernel
theorem dX8_insert_27 : decode cX8_insert 27 = .ok (.iinc 2 (-1), 3) := by decide +kernel
theorem dX8_insert_30 : decode cX8_insert 30 = .ok (.goto (-25), 3) := by decide +kernel
theorem dX8_insert_33 : decode cX8_insert 33 = .ok (.aload_n 0, 1) := by decide +kernel
theorem dX8_insert_34 : decode cX8_insert 34 = .ok (.getfield 20, 3) := by decide +kernel
theorem dX8_insert_37 : decode cX8_insert 37 = .ok (.aload_n 0, 1) := by decide +kernel
theorem dX8_insert_38 : decode cX8_insert 38 = .ok (.getfield 136, 3) := by decide +kernel
theorem dX8_insert_41 : decode cX8_insert 41 = .ok (.iload_n 1, 1) := by decide +kernel
theorem dX8_insert_42 : decode cX8_insert 42 = .ok (.castore, 1) := by decide +kernel
theorem dX8_insert_43 : decode cX8_insert 43 = .ok (.aload_n 0, 1) := by decide +kernel
theorem dX8_insert_44 : decode cX8_insert 44 = .ok (.dup, 1) := by decide +kernel
theorem dX8_insert_45 : decode cX8_insert 45 = .ok (.getfield 146, 3) := by decide +kernel
theorem dX8_insert_48 : decode cX8_insert 48 = .ok (.iconst 1, 1) := by decide +kernel
theorem dX8_insert_49 : decode cX8_insert 49 = .ok (.iadd, 1) := by decide +kernel
theorem dX8_insert_50 : decode cX8_insert 50 = .ok (.putfield 146, 3) := by decide +kernel
theorem dX8_insert_53 : decode cX8_insert 53 = .ok (.aload_n 0, 1) := by decide +kernel
theorem dX8_insert_54 : decode cX8_insert 54 = .ok (.dup, 1) := by decide +kernel
theorem dX8_insert_55 : decode cX8_insert 55 = .ok (.getfield 136, 3) := by decide +kernel
theorem dX8_insert_58 : decode cX8_insert 58 = .ok (.iconst 1, 1) := by decide +kernel
theorem dX8_insert_59 : decode cX8_insert 59 = .ok (.iadd, 1) := by decide +kernel
theorem dX8_insert_60 : decode cX8_insert 60 = .ok (.putfield 136, 3) := by decide +kernel
theorem dX8_insert_63 : decode cX8_insert 63 = .ok (.return_, 1) := by decide +kernel
theorem dX8_takeOut_0 : decode cX8_takeOut 0 = .ok (.aload_n 0, 1) := by decide +kernel
theorem dX8_takeOut_1 : decode cX8_takeOut 1 = .ok (.dup, 1) := by decide +kernel
theorem dX8_takeOut_2 : decode cX8_takeOut 2 = .ok (.getfield 136, 3) := by decide +kernel
theorem dX8_takeOut_5 : decode cX8_takeOut 5 = .ok (.iconst 1, 1) := by decide +kernel
theorem dX8_takeOut_6 : decode cX8_takeOut 6 = .ok (.isub, 1) := by decide +kernel
theorem dX8_takeOut_7 : decode cX8_takeOut 7 = .ok (.putfield 136, 3) := by decide +kernel
theorem dX8_takeOut_10 : decode cX8_takeOut 10 = .ok (.aload_n 0, 1) := by decide +kernel
theorem dX8_takeOut_11 : decode cX8_takeOut 11 = .ok (.dup, 1) := by decide +kernel
theorem dX8_takeOut_12 : decode cX8_takeOut 12 = .ok (.getfield 146, 3) := by decide +kernel
theorem dX8_takeOut_15 : decode cX8_takeOut 15 = .ok (.iconst 1, 1) := by decide +kernel
theorem dX8_takeOut_16 : decode cX8_takeOut 16 = .ok (.isub, 1) := by decide +kernel
theorem dX8_takeOut_17 : decode cX8_takeOut 17 = .ok (.putfield 146, 3) := by decide +kernel
theorem dX8_takeOut_20 : decode cX8_takeOut 20 = .ok (.aload_n 0, 1) := by decide +kernel
theorem dX8_takeOut_21 : decode cX8_takeOut 21 = .ok (.getfield 136, 3) := by decide +kernel
theorem dX8_takeOut_24 : decode cX8_takeOut 24 = .ok (.istore_n 1, 1) := by decide +kernel
theorem dX8_takeOut_25 : decode cX8_takeOut 25 = .ok (.iload_n 1, 1) := by decide +kernel
theorem dX8_takeOut_26 : decode cX8_takeOut 26 = .ok (.aload_n 0, 1) := by decide +kernel
theorem dX8_takeOut_27 : decode cX8_takeOut 27 = .ok (.getfield 146, 3) := by decide +kernel
theorem dX8_takeOut_30 : decode cX8_takeOut 30 = .ok (.if_icmp .ge 23, 3) := by decide +kernel
theorem dX8_takeOut_33 : decode cX8_takeOut 33 = .ok (.aload_n 0, 1) := by decide +kernel
theorem dX8_takeOut_34 : decode cX8_takeOut 34 = .ok (.getfield 20, 3) := by decide +kernel
theorem dX8_takeOut_37 : decode cX8_takeOut 37 = .ok (.iload_n 1, 1) := by decide +kernel
theorem dX8_takeOut_38 : decode cX8_takeOut 38 = .ok (.aload_n 0, 1) := by decide +kernel
theorem dX8_takeOut_39 : decode cX8_takeOut 39 = .ok (.getfield 20, 3) := by decide +kernel
theorem dX8_takeOut_42 : decode cX8_takeOut 42 = .ok (.iload_n 1, 1) := by decide +kernel
theorem dX8_takeOut_43 : decode cX8_takeOut 43 = .ok (.iconst 1, 1) := by decide +kernel
theorem dX8_takeOut_44 : decode cX8_takeOut 44 = .ok (.iadd, 1) := by decide +kernel
theorem dX8_takeOut_45 : decode cX8_takeOut 45 = .ok (.caload, 1) := by decide +kernel
theorem dX8_takeOut_46 : decode cX8_takeOut 46 = .ok (.castore, 1) := by decide +kernel
theorem dX8_takeOut_47 : decode cX8_takeOut 47 = .ok (.iinc 1 1, 3) := by decide +kernel
theorem dX8_takeOut_50 : decode cX8_takeOut 50 = .ok (.goto (-25), 3) := by decide +kernel
theorem dX8_takeOut_53 : decode cX8_takeOut 53 = .ok (.return_, 1) := by decide +kernel
theorem dX8_keeps_0 : decode cX8_keeps 0 = .ok (.iconst 0, 1) := by decide +kernel
theorem dX8_keeps_1 : decode cX8_keeps 1 = .ok (.istore_n 1, 1) := by decide +kernel
theorem dX8_keeps_2 : decode cX8_keeps 2 = .ok (.iload_n 1, 1) := by decide +kernel
theorem dX8_keeps_3 : decode cX8_keeps 3 = .ok (.aload_n 0, 1) := by decide +kernel
theorem dX8_keeps_4 : decode cX8_keeps 4 = .ok (.getfield 146, 3) := by decide +kernel
theorem dX8_keeps_7 : decode cX8_keeps 7 = .ok (.if_icmp .ge 21, 3) := by decide +kernel
theorem dX8_keeps_10 : decode cX8_keeps 10 = .ok (.aload_n 0, 1) := by decide +kernel
theorem dX8_keeps_11 : decode cX8_keeps 11 = .ok (.getfield 23, 3) := by decide +kernel
theorem dX8_keeps_14 : decode cX8_keeps 14 = .ok (.iload_n 1, 1) := by decide +kernel
theorem dX8_keeps_15 : decode cX8_keeps 15 = .ok (.aload_n 0, 1) := by decide +kernel
theorem dX8_keeps_16 : decode cX8_keeps 16 = .ok (.getfield 20, 3) := by decide +kernel
theorem dX8_keeps_19 : decode cX8_keeps 19 = .ok (.iload_n 1, 1) := by decide +kernel
theorem dX8_keeps_20 : decode cX8_keeps 20 = .ok (.caload, 1) := by decide +kernel
theorem dX8_keeps_21 : decode cX8_keeps 21 = .ok (.castore, 1) := by decide +kernel
theorem dX8_keeps_22 : decode cX8_keeps 22 = .ok (.iinc 1 1, 3) := by decide +kernel
theorem dX8_keeps_25 : decode cX8_keeps 25 = .ok (.goto (-23), 3) := by decide +kernel
theorem dX8_keeps_28 : decode cX8_keeps 28 = .ok (.iconst 0, 1) := by decide +kernel
theorem dX8_keeps_29 : decode cX8_keeps 29 = .ok (.istore_n 1, 1) := by decide +kernel
theorem dX8_keeps_30 : decode cX8_keeps 30 = .ok (.iload_n 1, 1) := by decide +kernel
theorem dX8_keeps_31 : decode cX8_keeps 31 = .ok (.aload_n 0, 1) := by decide +kernel
theorem dX8_keeps_32 : decode cX8_keeps 32 = .ok (.getfield 149, 3) := by decide +kernel
theorem dX8_keeps_35 : decode cX8_keeps 35 = .ok (.if_icmp .ge 21, 3) := by decide +kernel
theorem dX8_keeps_38 : decode cX8_keeps 38 = .ok (.aload_n 0, 1) := by decide +kernel
theorem dX8_keeps_39 : decode cX8_keeps 39 = .ok (.getfield 45, 3) := by decide +kernel
theorem dX8_keeps_42 : decode cX8_keeps 42 = .ok (.iload_n 1, 1) := by decide +kernel
theorem dX8_keeps_43 : decode cX8_keeps 43 = .ok (.aload_n 0, 1) := by decide +kernel
theorem dX8_keeps_44 : decode cX8_keeps 44 = .ok (.getfield 42, 3) := by decide +kernel
theorem dX8_keeps_47 : decode cX8_keeps 47 = .ok (.iload_n 1, 1) := by decide +kernel
theorem dX8_keeps_48 : decode cX8_keeps 48 = .ok (.iaload, 1) := by decide +kernel
theorem dX8_keeps_49 : decode cX8_keeps 49 = .ok (.iastore, 1) := by decide +kernel
theorem dX8_keeps_50 : decode cX8_keeps 50 = .ok (.iinc 1 1, 3) := by decide +kernel
theorem dX8_keeps_53 : decode cX8_keeps 53 = .ok (.goto (-23), 3) := by decide +kernel
theorem dX8_keeps_56 : decode cX8_keeps 56 = .ok (.aload_n 0, 1) := by decide +kernel
theorem dX8_keeps_57 : decode cX8_keeps 57 = .ok (.aload_n 0, 1) := by decide +kernel
theorem dX8_keeps_58 : decode cX8_keeps 58 = .ok (.getfield 146, 3) := by decide +kernel
theorem dX8_keeps_61 : decode cX8_keeps 61 = .ok (.putfield 152, 3) := by decide +kernel
theorem dX8_keeps_64 : decode cX8_keeps 64 = .ok (.aload_n 0, 1) := by decide +kernel
theorem dX8_keeps_65 : decode cX8_keeps 65 = .ok (.aload_n 0, 1) := by decide +kernel
theorem dX8_keeps_66 : decode cX8_keeps 66 = .ok (.getfield 136, 3) := by decide +kernel
theorem dX8_keeps_69 : decode cX8_keeps 69 = .ok (.putfield 155, 3) := by decide +kernel
theorem dX8_keeps_72 : decode cX8_keeps 72 = .ok (.aload_n 0, 1) := by decide +kernel
theorem dX8_keeps_73 : decode cX8_keeps 73 = .ok (.aload_n 0, 1) := by decide +kernel
theorem dX8_keeps_74 : decode cX8_keeps 74 = .ok (.getfield 149, 3) := by decide +kernel
theorem dX8_keeps_77 : decode cX8_keeps 77 = .ok (.putfield 158, 3) := by decide +kernel
theorem dX8_keeps_80 : decode cX8_keeps 80 = .ok (.return_, 1) := by decide +kernel
theorem dX8_expands_0 : decode cX8_expands 0 = .ok (.aload_n 0, 1) := by decide +kernel
theorem dX8_expands_1 : decode cX8_expands 1 = .ok (.invokevirtual 161, 3) := by decide +kernel
theorem dX8_expands_4 : decode cX8_expands 4 = .ok (.aload_n 0, 1) := by decide +kernel
theorem dX8_expands_5 : decode cX8_expands 5 = .ok (.aload_n 0, 1) := by decide +kernel
theorem dX8_expands_6 : decode cX8_expands 6 = .ok (.getfield 97, 3) := by decide +kernel
theorem dX8_expands_9 : decode cX8_expands 9 = .ok (.aload_n 0, 1) := by decide +kernel
theorem dX8_expands_10 : decode cX8_expands 10 = .ok (.getfield 29, 3) := by decide +kernel
theorem dX8_expands_13 : decode cX8_expands 13 = .ok (.iload_n 1, 1) := by decide +kernel
theorem dX8_expands_14 : decode cX8_expands 14 = .ok (.iaload, 1) := by decide +kernel
theorem dX8_expands_15 : decode cX8_expands 15 = .ok (.isub, 1) := by decide +kernel
theorem dX8_expands_16 : decode cX8_expands 16 = .ok (.putfield 164, 3) := by decide +kernel
theorem dX8_expands_19 : decode cX8_expands 19 = .ok (.iconst 0, 1) := by decide +kernel
theorem dX8_expands_20 : decode cX8_expands 20 = .ok (.istore_n 2, 1) := by decide +kernel
theorem dX8_expands_21 : decode cX8_expands 21 = .ok (.iload_n 2, 1) := by decide +kernel
theorem dX8_expands_22 : decode cX8_expands 22 = .ok (.aload_n 0, 1) := by decide +kernel
theorem dX8_expands_23 : decode cX8_expands 23 = .ok (.getfield 29, 3) := by decide +kernel
theorem dX8_expands_26 : decode cX8_expands 26 = .ok (.iload_n 1, 1) := by decide +kernel
theorem dX8_expands_27 : decode cX8_expands 27 = .ok (.iaload, 1) := by decide +kernel
theorem dX8_expands_28 : decode cX8_expands 28 = .ok (.if_icmp .ge 13, 3) := by decide +kernel
theorem dX8_expands_31 : decode cX8_expands 31 = .ok (.aload_n 0, 1) := by decide +kernel
theorem dX8_expands_32 : decode cX8_expands 32 = .ok (.invokevirtual 167, 3) := by decide +kernel
theorem dX8_expands_35 : decode cX8_expands 35 = .ok (.iinc 2 1, 3) := by decide +kernel
theorem dX8_expands_38 : decode cX8_expands 38 = .ok (.goto (-17), 3) := by decide +kernel
theorem dX8_expands_41 : decode cX8_expands 41 = .ok (.aload_n 0, 1) := by decide +kernel
theorem dX8_expands_42 : decode cX8_expands 42 = .ok (.getfield 136, 3) := by decide +kernel
theorem dX8_expands_45 : decode cX8_expands 45 = .ok (.istore_n 2, 1) := by decide +kernel
theorem dX8_expands_46 : decode cX8_expands 46 = .ok (.iconst 0, 1) := by decide +kernel
theorem dX8_expands_47 : decode cX8_expands 47 = .ok (.istore_n 3, 1) := by decide +kernel
theorem dX8_expands_48 : decode cX8_expands 48 = .ok (.iload_n 3, 1) := by decide +kernel
theorem dX8_expands_49 : decode cX8_expands 49 = .ok (.aload_n 0, 1) := by decide +kernel
theorem dX8_expands_50 : decode cX8_expands 50 = .ok (.getfield 97, 3) := by decide +kernel
theorem dX8_expands_53 : decode cX8_expands 53 = .ok (.if_icmp .ge 19, 3) := by decide +kernel
theorem dX8_expands_56 : decode cX8_expands 56 = .ok (.aload_n 0, 1) := by decide +kernel
theorem dX8_expands_57 : decode cX8_expands 57 = .ok (.aload_n 0, 1) := by decide +kernel
theorem dX8_expands_58 : decode cX8_expands 58 = .ok (.getfield 26, 3) := by decide +kernel
theorem dX8_expands_61 : decode cX8_expands 61 = .ok (.iload_n 3, 1) := by decide +kernel
theorem dX8_expands_62 : decode cX8_expands 62 = .ok (.caload, 1) := by decide +kernel
theorem dX8_expands_63 : decode cX8_expands 63 = .ok (.invokevirtual 170, 3) := by decide +kernel
theorem dX8_expands_66 : decode cX8_expands 66 = .ok (.iinc 3 1, 3) := by decide +kernel
theorem dX8_expands_69 : decode cX8_expands 69 = .ok (.goto (-21), 3) := by decide +kernel
theorem dX8_expands_72 : decode cX8_expands 72 = .ok (.aload_n 0, 1) := by decide +kernel
theorem dX8_expands_73 : decode cX8_expands 73 = .ok (.iconst 0, 1) := by decide +kernel
theorem dX8_expands_74 : decode cX8_expands 74 = .ok (.putfield 149, 3) := by decide +kernel
theorem dX8_expands_77 : decode cX8_expands 77 = .ok (.iconst 1, 1) := by decide +kernel
theorem dX8_expands_78 : decode cX8_expands 78 = .ok (.istore_n 3, 1) := by decide +kernel
theorem dX8_expands_79 : decode cX8_expands 79 = .ok (.iload_n 3, 1) := by decide +kernel
theorem dX8_expands_80 : decode cX8_expands 80 = .ok (.aload_n 0, 1) := by decide +kernel
theorem dX8_expands_81 : decode cX8_expands 81 = .ok (.getfield 115, 3) := by decide +kernel
theorem dX8_expands_84 : decode cX8_expands 84 = .ok (.if_icmp .ge 36, 3) := by decide +kernel
theorem dX8_expands_87 : decode cX8_expands 87 = .ok (.aload_n 0, 1) := by decide +kernel
theorem dX8_expands_88 : decode cX8_expands 88 = .ok (.getfield 42, 3) := by decide +kernel
theorem dX8_expands_91 : decode cX8_expands 91 = .ok (.aload_n 0, 1) := by decide +kernel
theorem dX8_expands_92 : decode cX8_expands 92 = .ok (.getfield 149, 3) := by decide +kernel
theorem dX8_expands_95 : decode cX8_expands 95 = .ok (.iload_n 2, 1) := by decide +kernel
theorem dX8_expands_96 : decode cX8_expands 96 = .ok (.aload_n 0, 1) := by decide +kernel
theorem dX8_expands_97 : decode cX8_expands 97 = .ok (.getfield 48, 3) := by decide +kernel
theorem dX8_expands_100 : decode cX8_expands 100 = .ok (.iload_n 3, 1) := by decide +kernel
theorem dX8_expands_101 : decode cX8_expands 101 = .ok (.iaload, 1) := by decide +kernel
theorem dX8_expands_102 : decode cX8_expands 102 = .ok (.iadd, 1) := by decide +kernel
theorem dX8_expands_103 : decode cX8_expands 103 = .ok (.iastore, 1) := by decide +kernel
theorem dX8_expands_104 : decode cX8_expands 104 = .ok (.aload_n 0, 1) := by decide +kernel
theorem dX8_expands_105 : decode cX8_expands 105 = .ok (.dup, 1) := by decide +kernel
theorem dX8_expands_106 : decode cX8_expands 106 = .ok (.getfield 149, 3) := by decide +kernel
theorem dX8_expands_109 : decode cX8_expands 109 = .ok (.iconst 1, 1) := by decide +kernel
theorem dX8_expands_110 : decode cX8_expands 110 = .ok (.iadd, 1) := by decide +kernel
theorem dX8_expands_111 : decode cX8_expands 111 = .ok (.putfield 149, 3) := by decide +kernel
theorem dX8_expands_114 : decode cX8_expands 114 = .ok (.iinc 3 1, 3) := by decide +kernel
theorem dX8_expands_117 : decode cX8_expands 117 = .ok (.goto (-38), 3) := by decide +kernel
theorem dX8_expands_120 : decode cX8_expands 120 = .ok (.aload_n 0, 1) := by decide +kernel
theorem dX8_expands_121 : decode cX8_expands 121 = .ok (.getfield 115, 3) := by decide +kernel
theorem dX8_expands_124 : decode cX8_expands 124 = .ok (.ifCond .le 15, 3) := by decide +kernel
theorem dX8_expands_127 : decode cX8_expands 127 = .ok (.aload_n 0, 1) := by decide +kernel
theorem dX8_expands_128 : decode cX8_expands 128 = .ok (.iload_n 2, 1) := by decide +kernel
theorem dX8_expands_129 : decode cX8_expands 129 = .ok (.aload_n 0, 1) := by decide +kernel
theorem dX8_expands_130 : decode cX8_expands 130 = .ok (.getfield 48, 3) := by decide +kernel
theorem dX8_expands_133 : decode cX8_expands 133 = .ok (.iconst 0, 1) := by decide +kernel
theorem dX8_expands_134 : decode cX8_expands 134 = .ok (.iaload, 1) := by decide +kernel
theorem dX8_expands_135 : decode cX8_expands 135 = .ok (.iadd, 1) := by decide +kernel
theorem dX8_expands_136 : decode cX8_expands 136 = .ok (.putfield 136, 3) := by decide +kernel
theorem dX8_expands_139 : decode cX8_expands 139 = .ok (.aload_n 0, 1) := by decide +kernel
theorem dX8_expands_140 : decode cX8_expands 140 = .ok (.dup, 1) := by decide +kernel
theorem dX8_expands_141 : decode cX8_expands 141 = .ok (.getfield 173, 3) := by decide +kernel
theorem dX8_expands_144 : decode cX8_expands 144 = .ok (.iconst 1, 1) := by decide +kernel
theorem dX8_expands_145 : decode cX8_expands 145 = .ok (.iadd, 1) := by decide +kernel
theorem dX8_expands_146 : decode cX8_expands 146 = .ok (.putfield 173, 3) := by decide +kernel
theorem dX8_expands_149 : decode cX8_expands 149 = .ok (.aload_n 0, 1) := by decide +kernel
theorem dX8_expands_150 : decode cX8_expands 150 = .ok (.dup, 1) := by decide +kernel
theorem dX8_expands_151 : decode cX8_expands 151 = .ok (.getfield 176, 3) := by decide +kernel
theorem dX8_expands_154 : decode cX8_expands 154 = .ok (.iconst 1, 1) := by decide +kernel
theorem dX8_expands_155 : decode cX8_expands 155 = .ok (.iadd, 1) := by decide +kernel
theorem dX8_expands_156 : decode cX8_expands 156 = .ok (.putfield 176, 3) := by decide +kernel
theorem dX8_expands_159 : decode cX8_expands 159 = .ok (.aload_n 0, 1) := by decide +kernel
theorem dX8_expands_160 : decode cX8_expands 160 = .ok (.dup, 1) := by decide +kernel
theorem dX8_expands_161 : decode cX8_expands 161 = .ok (.getfield 179, 3) := by decide +kernel
theorem dX8_expands_164 : decode cX8_expands 164 = .ok (.aload_n 0, 1) := by decide +kernel
theorem dX8_expands_165 : decode cX8_expands 165 = .ok (.getfield 164, 3) := by decide +kernel
theorem dX8_expands_168 : decode cX8_expands 168 = .ok (.i2l, 1) := by decide +kernel
theorem dX8_expands_169 : decode cX8_expands 169 = .ok (.ladd, 1) := by decide +kernel
theorem dX8_expands_170 : decode cX8_expands 170 = .ok (.putfield 179, 3) := by decide +kernel
theorem dX8_expands_173 : decode cX8_expands 173 = .ok (.return_, 1) := by decide +kernel
theorem dX8_key_0 : decode cX8_key 0 = .ok (.iload_n 1, 1) := by decide +kernel
theorem dX8_key_1 : decode cX8_key 1 = .ok (.invokestatic 83, 3) := by decide +kernel
theorem dX8_key_4 : decode cX8_key 4 = .ok (.ifCond .ne 9, 3) := by decide +kernel
theorem dX8_key_7 : decode cX8_key 7 = .ok (.aload_n 0, 1) := by decide +kernel
theorem dX8_key_8 : decode cX8_key 8 = .ok (.iconst 1, 1) := by decide +kernel
theorem dX8_key_9 : decode cX8_key 9 = .ok (.invokevirtual 75, 3) := by decide +kernel
theorem dX8_key_12 : decode cX8_key 12 = .ok (.ireturn, 1) := by decide +kernel
theorem dX8_key_13 : decode cX8_key 13 = .ok (.aload_n 0, 1) := by decide +kernel
theorem dX8_key_14 : decode cX8_key 14 = .ok (.getfield 146, 3) := by decide +kernel
theorem dX8_key_17 : decode cX8_key 17 = .ok (.bipush 80, 2) := by decide +kernel
theorem dX8_key_19 : decode cX8_key 19 = .ok (.if_icmp .ne 9, 3) := by decide +kernel
theorem dX8_key_22 : decode cX8_key 22 = .ok (.aload_n 0, 1) := by decide +kernel
theorem dX8_key_23 : decode cX8_key 23 = .ok (.iconst 2, 1) := by decide +kernel
theorem dX8_key_24 : decode cX8_key 24 = .ok (.invokevirtual 75, 3) := by decide +kernel
theorem dX8_key_27 : decode cX8_key 27 = .ok (.ireturn, 1) := by decide +kernel
theorem dX8_key_28 : decode cX8_key 28 = .ok (.aload_n 0, 1) := by decide +kernel
theorem dX8_key_29 : decode cX8_key 29 = .ok (.iconst 0, 1) := by decide +kernel
theorem dX8_key_30 : decode cX8_key 30 = .ok (.putfield 61, 3) := by decide +kernel
theorem dX8_key_33 : decode cX8_key 33 = .ok (.iconst 0, 1) := by decide +kernel
theorem dX8_key_34 : decode cX8_key 34 = .ok (.istore_n 2, 1) := by decide +kernel
theorem dX8_key_35 : decode cX8_key 35 = .ok (.iload_n 2, 1) := by decide +kernel
theorem dX8_key_36 : decode cX8_key 36 = .ok (.aload_n 0, 1) := by decide +kernel
theorem dX8_key_37 : decode cX8_key 37 = .ok (.getfield 149, 3) := by decide +kernel
theorem dX8_key_40 : decode cX8_key 40 = .ok (.if_icmp .ge 32, 3) := by decide +kernel
theorem dX8_key_43 : decode cX8_key 43 = .ok (.aload_n 0, 1) := by decide +kernel
theorem dX8_key_44 : decode cX8_key 44 = .ok (.getfield 42, 3) := by decide +kernel
theorem dX8_key_47 : decode cX8_key 47 = .ok (.iload_n 2, 1) := by decide +kernel
theorem dX8_key_48 : decode cX8_key 48 = .ok (.iaload, 1) := by decide +kernel
theorem dX8_key_49 : decode cX8_key 49 = .ok (.aload_n 0, 1) := by decide +kernel
theorem dX8_key_50 : decode cX8_key 50 = .ok (.getfield 136, 3) := by decide +kernel
theorem dX8_key_53 : decode cX8_key 53 = .ok (.if_icmp .lt 13, 3) := by decide +kernel
theorem dX8_key_56 : decode cX8_key 56 = .ok (.aload_n 0, 1) := by decide +kernel
theorem dX8_key_57 : decode cX8_key 57 = .ok (.getfield 42, 3) := by decide +kernel
theorem dX8_key_60 : decode cX8_key 60 = .ok (.iload_n 2, 1) := by decide +kernel
theorem dX8_key_61 : decode cX8_key 61 = .ok (.dup2, 1) := by decide +kernel
theorem dX8_key_62 : decode cX8_key 62 = .ok (.iaload, 1) := by decide +kernel
theorem dX8_key_63 : decode cX8_key 63 = .ok (.iconst 1, 1) := by decide +kernel
theorem dX8_key_64 : decode cX8_key 64 = .ok (.iadd, 1) := by decide +kernel
theorem dX8_key_65 : decode cX8_key 65 = .ok (.iastore, 1) := by decide +kernel
theorem dX8_key_66 : decode cX8_key 66 = .ok (.iinc 2 1, 3) := by decide +kernel
theorem dX8_key_69 : decode cX8_key 69 = .ok (.goto (-34), 3) := by decide +kernel
theorem dX8_key_72 : decode cX8_key 72 = .ok (.aload_n 0, 1) := by decide +kernel
theorem dX8_key_73 : decode cX8_key 73 = .ok (.iload_n 1, 1) := by decide +kernel
theorem dX8_key_74 : decode cX8_key 74 = .ok (.invokevirtual 170, 3) := by decide +kernel
theorem dX8_key_77 : decode cX8_key 77 = .ok (.aload_n 0, 1) := by decide +kernel
theorem dX8_key_78 : decode cX8_key 78 = .ok (.iconst 0, 1) := by decide +kernel
theorem dX8_key_79 : decode cX8_key 79 = .ok (.putfield 183, 3) := by decide +kernel
theorem dX8_key_82 : decode cX8_key 82 = .ok (.aload_n 0, 1) := by decide +kernel
theorem dX8_key_83 : decode cX8_key 83 = .ok (.invokevirtual 142, 3) := by decide +kernel
theorem dX8_key_86 : decode cX8_key 86 = .ok (.istore_n 2, 1) := by decide +kernel
theorem dX8_key_87 : decode cX8_key 87 = .ok (.iload_n 2, 1) := by decide +kernel
theorem dX8_key_88 : decode cX8_key 88 = .ok (.ifCond .ge 5, 3) := by decide +kernel
theorem dX8_key_91 : decode cX8_key 91 = .ok (.iconst (-1), 1) := by decide +kernel
theorem dX8_key_92 : decode cX8_key 92 = .ok (.ireturn, 1) := by decide +kernel
theorem dX8_key_93 : decode cX8_key 93 = .ok (.aload_n 0, 1) := by decide +kernel
theorem dX8_key_94 : decode cX8_key 94 = .ok (.iload_n 2, 1) := by decide +kernel
theorem dX8_key_95 : decode cX8_key 95 = .ok (.invokevirtual 118, 3) := by decide +kernel
theorem dX8_key_98 : decode cX8_key 98 = .ok (.aload_n 0, 1) := by decide +kernel
theorem dX8_key_99 : decode cX8_key 99 = .ok (.getfield 146, 3) := by decide +kernel
theorem dX8_key_102 : decode cX8_key 102 = .ok (.aload_n 0, 1) := by decide +kernel
theorem dX8_key_103 : decode cX8_key 103 = .ok (.getfield 29, 3) := by decide +kernel
theorem dX8_key_106 : decode cX8_key 106 = .ok (.iload_n 2, 1) := by decide +kernel
theorem dX8_key_107 : decode cX8_key 107 = .ok (.iaload, 1) := by decide +kernel
theorem dX8_key_108 : decode cX8_key 108 = .ok (.isub, 1) := by decide +kernel
theorem dX8_key_109 : decode cX8_key 109 = .ok (.aload_n 0, 1) := by decide +kernel
theorem dX8_key_110 : decode cX8_key 110 = .ok (.getfield 97, 3) := by decide +kernel
theorem dX8_key_113 : decode cX8_key 113 = .ok (.iadd, 1) := by decide +kernel
theorem dX8_key_114 : decode cX8_key 114 = .ok (.bipush 80, 2) := by decide +kernel
theorem dX8_key_116 : decode cX8_key 116 = .ok (.if_icmp .le 5, 3) := by decide +kernel
theorem dX8_key_119 : decode cX8_key 119 = .ok (.iconst (-1), 1) := by decide +kernel
theorem dX8_key_120 : decode cX8_key 120 = .ok (.ireturn, 1) := by decide +kernel
theorem dX8_key_121 : decode cX8_key 121 = .ok (.aload_n 0, 1) := by decide +kernel
theorem dX8_key_122 : decode cX8_key 122 = .ok (.iload_n 2, 1) := by decide +kernel
theorem dX8_key_123 : decode cX8_key 123 = .ok (.invokevirtual 187, 3) := by decide +kernel
theorem dX8_key_126 : decode cX8_key 126 = .ok (.aload_n 0, 1) := by decide +kernel
theorem dX8_key_127 : decode cX8_key 127 = .ok (.iconst 1, 1) := by decide +kernel
theorem dX8_key_128 : decode cX8_key 128 = .ok (.putfield 183, 3) := by decide +kernel
theorem dX8_key_131 : decode cX8_key 131 = .ok (.iload_n 2, 1) := by decide +kernel
theorem dX8_key_132 : decode cX8_key 132 = .ok (.ireturn, 1) := by decide +kernel
theorem dX8_erase_0 : decode cX8_erase 0 = .ok (.aload_n 0, 1) := by decide +kernel
theorem dX8_erase_1 : decode cX8_erase 1 = .ok (.aload_n 0, 1) := by decide +kernel
theorem dX8_erase_2 : decode cX8_erase 2 = .ok (.getfield 136, 3) := by decide +kernel
theorem dX8_erase_5 : decode cX8_erase 5 = .ok (.ifCond .ne 7, 3) := by decide +kernel
theorem dX8_erase_8 : decode cX8_erase 8 = .ok (.iconst 1, 1) := by decide +kernel
theorem dX8_erase_9 : decode cX8_erase 9 = .ok (.goto 4, 3) := by decide +kernel
theorem dX8_erase_12 : decode cX8_erase 12 = .ok (.iconst 0, 1) := by decide +kernel
theorem dX8_erase_13 : decode cX8_erase 13 = .ok (.putfield 61, 3) := by decide +kernel
theorem dX8_erase_16 : decode cX8_erase 16 = .ok (.aload_n 0, 1) := by decide +kernel
theorem dX8_erase_17 : decode cX8_erase 17 = .ok (.getfield 136, 3) := by decide +kernel
theorem dX8_erase_20 : decode cX8_erase 20 = .ok (.ifCond .ne 6, 3) := by decide +kernel
theorem dX8_erase_23 : decode cX8_erase 23 = .ok (.bipush 32, 2) := by decide +kernel
theorem dX8_erase_25 : decode cX8_erase 25 = .ok (.ireturn, 1) := by decide +kernel
theorem dX8_erase_26 : decode cX8_erase 26 = .ok (.aload_n 0, 1) := by decide +kernel
theorem dX8_erase_27 : decode cX8_erase 27 = .ok (.getfield 20, 3) := by decide +kernel
theorem dX8_erase_30 : decode cX8_erase 30 = .ok (.aload_n 0, 1) := by decide +kernel
theorem dX8_erase_31 : decode cX8_erase 31 = .ok (.getfield 136, 3) := by decide +kernel
theorem dX8_erase_34 : decode cX8_erase 34 = .ok (.iconst 1, 1) := by decide +kernel
theorem dX8_erase_35 : decode cX8_erase 35 = .ok (.isub, 1) := by decide +kernel
theorem dX8_erase_36 : decode cX8_erase 36 = .ok (.caload, 1) := by decide +kernel
theorem dX8_erase_37 : decode cX8_erase 37 = .ok (.istore_n 1, 1) := by decide +kernel
theorem dX8_erase_38 : decode cX8_erase 38 = .ok (.iconst 0, 1) := by decide +kernel
theorem dX8_erase_39 : decode cX8_erase 39 = .ok (.istore_n 2, 1) := by decide +kernel
theorem dX8_erase_40 : decode cX8_erase 40 = .ok (.iload_n 2, 1) := by decide +kernel
theorem dX8_erase_41 : decode cX8_erase 41 = .ok (.aload_n 0, 1) := by decide +kernel
theorem dX8_erase_42 : decode cX8_erase 42 = .ok (.getfield 149, 3) := by decide +kernel
theorem dX8_erase_45 : decode cX8_erase 45 = .ok (.if_icmp .ge 32, 3) := by decide +kernel
theorem dX8_erase_48 : decode cX8_erase 48 = .ok (.aload_n 0, 1) := by decide +kernel
theorem dX8_erase_49 : decode cX8_erase 49 = .ok (.getfield 42, 3) := by decide +kernel
theorem dX8_erase_52 : decode cX8_erase 52 = .ok (.iload_n 2, 1) := by decide +kernel
theorem dX8_erase_53 : decode cX8_erase 53 = .ok (.iaload, 1) := by decide +kernel
theorem dX8_erase_54 : decode cX8_erase 54 = .ok (.aload_n 0, 1) := by decide +kernel
theorem dX8_erase_55 : decode cX8_erase 55 = .ok (.getfield 136, 3) := by decide +kernel
theorem dX8_erase_58 : decode cX8_erase 58 = .ok (.if_icmp .lt 13, 3) := by decide +kernel
theorem dX8_erase_61 : decode cX8_erase 61 = .ok (.aload_n 0, 1) := by decide +kernel
theorem dX8_erase_62 : decode cX8_erase 62 = .ok (.getfield 42, 3) := by decide +kernel
theorem dX8_erase_65 : decode cX8_erase 65 = .ok (.iload_n 2, 1) := by decide +kernel
theorem dX8_erase_66 : decode cX8_erase 66 = .ok (.dup2, 1) := by decide +kernel
theorem dX8_erase_67 : decode cX8_erase 67 = .ok (.iaload, 1) := by decide +kernel
theorem dX8_erase_68 : decode cX8_erase 68 = .ok (.iconst 1, 1) := by decide +kernel
theorem dX8_erase_69 : decode cX8_erase 69 = .ok (.isub, 1) := by decide +kernel
theorem dX8_erase_70 : decode cX8_erase 70 = .ok (.iastore, 1) := by decide +kernel
theorem dX8_erase_71 : decode cX8_erase 71 = .ok (.iinc 2 1, 3) := by decide +kernel
theorem dX8_erase_74 : decode cX8_erase 74 = .ok (.goto (-34), 3) := by decide +kernel
theorem dX8_erase_77 : decode cX8_erase 77 = .ok (.aload_n 0, 1) := by decide +kernel
theorem dX8_erase_78 : decode cX8_erase 78 = .ok (.invokevirtual 167, 3) := by decide +kernel
theorem dX8_erase_81 : decode cX8_erase 81 = .ok (.aload_n 0, 1) := by decide +kernel
theorem dX8_erase_82 : decode cX8_erase 82 = .ok (.iconst 0, 1) := by decide +kernel
theorem dX8_erase_83 : decode cX8_erase 83 = .ok (.putfield 183, 3) := by decide +kernel
theorem dX8_erase_86 : decode cX8_erase 86 = .ok (.iload_n 1, 1) := by decide +kernel
theorem dX8_erase_87 : decode cX8_erase 87 = .ok (.ireturn, 1) := by decide +kernel
theorem dX8_moveCaret_0 : decode cX8_moveCaret 0 = .ok (.iload_n 1, 1) := by decide +kernel
theorem dX8_moveCaret_1 : decode cX8_moveCaret 1 = .ok (.aload_n 0, 1) := by decide +kernel
theorem dX8_moveCaret_2 : decode cX8_moveCaret 2 = .ok (.getfield 136, 3) := by decide +kernel
theorem dX8_moveCaret_5 : decode cX8_moveCaret 5 = .ok (.ineg, 1) := by decide +kernel
theorem dX8_moveCaret_6 : decode cX8_moveCaret 6 = .ok (.aload_n 0, 1) := by decide +kernel
theorem dX8_moveCaret_7 : decode cX8_moveCaret 7 = .ok (.getfield 146, 3) := by decide +kernel
theorem dX8_moveCaret_10 : decode cX8_moveCaret 10 = .ok (.aload_n 0, 1) := by decide +kernel
theorem dX8_moveCaret_11 : decode cX8_moveCaret 11 = .ok (.getfield 136, 3) := by decide +kernel
theorem dX8_moveCaret_14 : decode cX8_moveCaret 14 = .ok (.isub, 1) := by decide +kernel
theorem dX8_moveCaret_15 : decode cX8_moveCaret 15 = .ok (.invokestatic 67, 3) := by decide +kernel
theorem dX8_moveCaret_18 : decode cX8_moveCaret 18 = .ok (.ifCond .ne 9, 3) := by decide +kernel
theorem dX8_moveCaret_21 : decode cX8_moveCaret 21 = .ok (.aload_n 0, 1) := by decide +kernel
theorem dX8_moveCaret_22 : decode cX8_moveCaret 22 = .ok (.iconst 1, 1) := by decide +kernel
theorem dX8_moveCaret_23 : decode cX8_moveCaret 23 = .ok (.invokevirtual 75, 3) := by decide +kernel
theorem dX8_moveCaret_26 : decode cX8_moveCaret 26 = .ok (.ireturn, 1) := by decide +kernel
theorem dX8_moveCaret_27 : decode cX8_moveCaret 27 = .ok (.aload_n 0, 1) := by decide +kernel
theorem dX8_moveCaret_28 : decode cX8_moveCaret 28 = .ok (.iconst 0, 1) := by decide +kernel
theorem dX8_moveCaret_29 : decode cX8_moveCaret 29 = .ok (.putfield 61, 3) := by decide +kernel
theorem dX8_moveCaret_32 : decode cX8_moveCaret 32 = .ok (.aload_n 0, 1) := by decide +kernel
theorem dX8_moveCaret_33 : decode cX8_moveCaret 33 = .ok (.dup, 1) := by decide +kernel
theorem dX8_moveCaret_34 : decode cX8_moveCaret 34 = .ok (.getfield 136, 3) := by decide +kernel
theorem dX8_moveCaret_37 : decode cX8_moveCaret 37 = .ok (.iload_n 1, 1) := by decide +kernel
theorem dX8_moveCaret_38 : decode cX8_moveCaret 38 = .ok (.iadd, 1) := by decide +kernel
theorem dX8_moveCaret_39 : decode cX8_moveCaret 39 = .ok (.putfield 136, 3) := by decide +kernel
theorem dX8_moveCaret_42 : decode cX8_moveCaret 42 = .ok (.aload_n 0, 1) := by decide +kernel
theorem dX8_moveCaret_43 : decode cX8_moveCaret 43 = .ok (.iconst 0, 1) := by decide +kernel
theorem dX8_moveCaret_44 : decode cX8_moveCaret 44 = .ok (.putfield 183, 3) := by decide +kernel
theorem dX8_moveCaret_47 : decode cX8_moveCaret 47 = .ok (.aload_n 0, 1) := by decide +kernel
theorem dX8_moveCaret_48 : decode cX8_moveCaret 48 = .ok (.getfield 136, 3) := by decide +kernel
theorem dX8_moveCaret_51 : decode cX8_moveCaret 51 = .ok (.ireturn, 1) := by decide +kernel
theorem dX8_nextStop_0 : decode cX8_nextStop 0 = .ok (.aload_n 0, 1) := by decide +kernel
theorem dX8_nextStop_1 : decode cX8_nextStop 1 = .ok (.getfield 149, 3) := by decide +kernel
theorem dX8_nextStop_4 : decode cX8_nextStop 4 = .ok (.ifCond .ne 9, 3) := by decide +kernel
theorem dX8_nextStop_7 : decode cX8_nextStop 7 = .ok (.aload_n 0, 1) := by decide +kernel
theorem dX8_nextStop_8 : decode cX8_nextStop 8 = .ok (.iconst 1, 1) := by decide +kernel
theorem dX8_nextStop_9 : decode cX8_nextStop 9 = .ok (.invokevirtual 75, 3) := by decide +kernel
theorem dX8_nextStop_12 : decode cX8_nextStop 12 = .ok (.ireturn, 1) := by decide +kernel
theorem dX8_nextStop_13 : decode cX8_nextStop 13 = .ok (.aload_n 0, 1) := by decide +kernel
theorem dX8_nextStop_14 : decode cX8_nextStop 14 = .ok (.iconst 0, 1) := by decide +kernel
theorem dX8_nextStop_15 : decode cX8_nextStop 15 = .ok (.putfield 61, 3) := by decide +kernel
theorem dX8_nextStop_18 : decode cX8_nextStop 18 = .ok (.aload_n 0, 1) := by decide +kernel
theorem dX8_nextStop_19 : decode cX8_nextStop 19 = .ok (.aload_n 0, 1) := by decide +kernel
theorem dX8_nextStop_20 : decode cX8_nextStop 20 = .ok (.getfield 42, 3) := by decide +kernel
theorem dX8_nextStop_23 : decode cX8_nextStop 23 = .ok (.iconst 0, 1) := by decide +kernel
theorem dX8_nextStop_24 : decode cX8_nextStop 24 = .ok (.iaload, 1) := by decide +kernel
theorem dX8_nextStop_25 : decode cX8_nextStop 25 = .ok (.putfield 136, 3) := by decide +kernel
theorem dX8_nextStop_28 : decode cX8_nextStop 28 = .ok (.aload_n 0, 1) := by decide +kernel
theorem dX8_nextStop_29 : decode cX8_nextStop 29 = .ok (.dup, 1) := by decide +kernel
theorem dX8_nextStop_30 : decode cX8_nextStop 30 = .ok (.getfield 149, 3) := by decide +kernel
theorem dX8_nextStop_33 : decode cX8_nextStop 33 = .ok (.iconst 1, 1) := by decide +kernel
theorem dX8_nextStop_34 : decode cX8_nextStop 34 = .ok (.isub, 1) := by decide +kernel
theorem dX8_nextStop_35 : decode cX8_nextStop 35 = .ok (.putfield 149, 3) := by decide +kernel
theorem dX8_nextStop_38 : decode cX8_nextStop 38 = .ok (.iconst 0, 1) := by decide +kernel
theorem dX8_nextStop_39 : decode cX8_nextStop 39 = .ok (.istore_n 1, 1) := by decide +kernel
theorem dX8_nextStop_40 : decode cX8_nextStop 40 = .ok (.iload_n 1, 1) := by decide +kernel
theorem dX8_nextStop_41 : decode cX8_nextStop 41 = .ok (.aload_n 0, 1) := by decide +kernel
theorem dX8_nextStop_42 : decode cX8_nextStop 42 = .ok (.getfield 149, 3) := by decide +kernel
theorem dX8_nextStop_45 : decode cX8_nextStop 45 = .ok (.if_icmp .ge 23, 3) := by decide +kernel
theorem dX8_nextStop_48 : decode cX8_nextStop 48 = .ok (.aload_n 0, 1) := by decide +kernel
theorem dX8_nextStop_49 : decode cX8_nextStop 49 = .ok (.getfield 42, 3) := by decide +kernel
theorem dX8_nextStop_52 : decode cX8_nextStop 52 = .ok (.iload_n 1, 1) := by decide +kernel
theorem dX8_nextStop_53 : decode cX8_nextStop 53 = .ok (.aload_n 0, 1) := by decide +kernel
theorem dX8_nextStop_54 : decode cX8_nextStop 54 = .ok (.getfield 42, 3) := by decide +kernel
theorem dX8_nextStop_57 : decode cX8_nextStop 57 = .ok (.iload_n 1, 1) := by decide +kernel
theorem dX8_nextStop_58 : decode cX8_nextStop 58 = .ok (.iconst 1, 1) := by decide +kernel
theorem dX8_nextStop_59 : decode cX8_nextStop 59 = .ok (.iadd, 1) := by decide +kernel
theorem dX8_nextStop_60 : decode cX8_nextStop 60 = .ok (.iaload, 1) := by decide +kernel
theorem dX8_nextStop_61 : decode cX8_nextStop 61 = .ok (.iastore, 1) := by decide +kernel
theorem dX8_nextStop_62 : decode cX8_nextStop 62 = .ok (.iinc 1 1, 3) := by decide +kernel
theorem dX8_nextStop_65 : decode cX8_nextStop 65 = .ok (.goto (-25), 3) := by decide +kernel
theorem dX8_nextStop_68 : decode cX8_nextStop 68 = .ok (.aload_n 0, 1) := by decide +kernel
theorem dX8_nextStop_69 : decode cX8_nextStop 69 = .ok (.iconst 0, 1) := by decide +kernel
theorem dX8_nextStop_70 : decode cX8_nextStop 70 = .ok (.putfield 183, 3) := by decide +kernel
theorem dX8_nextStop_73 : decode cX8_nextStop 73 = .ok (.aload_n 0, 1) := by decide +kernel
theorem dX8_nextStop_74 : decode cX8_nextStop 74 = .ok (.getfield 136, 3) := by decide +kernel
theorem dX8_nextStop_77 : decode cX8_nextStop 77 = .ok (.ireturn, 1) := by decide +kernel
theorem dX8_undo_0 : decode cX8_undo 0 = .ok (.aload_n 0, 1) := by decide +kernel
theorem dX8_undo_1 : decode cX8_undo 1 = .ok (.getfield 183, 3) := by decide +kernel
theorem dX8_undo_4 : decode cX8_undo 4 = .ok (.ifCond .ne 9, 3) := by decide +kernel
theorem dX8_undo_7 : decode cX8_undo 7 = .ok (.aload_n 0, 1) := by decide +kernel
theorem dX8_undo_8 : decode cX8_undo 8 = .ok (.iconst 1, 1) := by decide +kernel
theorem dX8_undo_9 : decode cX8_undo 9 = .ok (.invokevirtual 75, 3) := by decide +kernel
theorem dX8_undo_12 : decode cX8_undo 12 = .ok (.ireturn, 1) := by decide +kernel
theorem dX8_undo_13 : decode cX8_undo 13 = .ok (.aload_n 0, 1) := by decide +kernel
theorem dX8_undo_14 : decode cX8_undo 14 = .ok (.iconst 0, 1) := by decide +kernel
theorem dX8_undo_15 : decode cX8_undo 15 = .ok (.putfield 61, 3) := by decide +kernel
theorem dX8_undo_18 : decode cX8_undo 18 = .ok (.iconst 0, 1) := by decide +kernel
theorem dX8_undo_19 : decode cX8_undo 19 = .ok (.istore_n 1, 1) := by decide +kernel
theorem dX8_undo_20 : decode cX8_undo 20 = .ok (.iload_n 1, 1) := by decide +kernel
theorem dX8_undo_21 : decode cX8_undo 21 = .ok (.aload_n 0, 1) := by decide +kernel
theorem dX8_undo_22 : decode cX8_undo 22 = .ok (.getfield 152, 3) := by decide +kernel
theorem dX8_undo_25 : decode cX8_undo 25 = .ok (.if_icmp .ge 21, 3) := by decide +kernel
theorem dX8_undo_28 : decode cX8_undo 28 = .ok (.aload_n 0, 1) := by decide +kernel
theorem dX8_undo_29 : decode cX8_undo 29 = .ok (.getfield 20, 3) := by decide +kernel
theorem dX8_undo_32 : decode cX8_undo 32 = .ok (.iload_n 1, 1) := by decide +kernel
theorem dX8_undo_33 : decode cX8_undo 33 = .ok (.aload_n 0, 1) := by decide +kernel
theorem dX8_undo_34 : decode cX8_undo 34 = .ok (.getfield 23, 3) := by decide +kernel
theorem dX8_undo_37 : decode cX8_undo 37 = .ok (.iload_n 1, 1) := by decide +kernel
theorem dX8_undo_38 : decode cX8_undo 38 = .ok (.caload, 1) := by decide +kernel
theorem dX8_undo_39 : decode cX8_undo 39 = .ok (.castore, 1) := by decide +kernel
theorem dX8_undo_40 : decode cX8_undo 40 = .ok (.iinc 1 1, 3) := by decide +kernel
theorem dX8_undo_43 : decode cX8_undo 43 = .ok (.goto (-23), 3) := by decide +kernel
theorem dX8_undo_46 : decode cX8_undo 46 = .ok (.iconst 0, 1) := by decide +kernel
theorem dX8_undo_47 : decode cX8_undo 47 = .ok (.istore_n 1, 1) := by decide +kernel
theorem dX8_undo_48 : decode cX8_undo 48 = .ok (.iload_n 1, 1) := by decide +kernel
theorem dX8_undo_49 : decode cX8_undo 49 = .ok (.aload_n 0, 1) := by decide +kernel
theorem dX8_undo_50 : decode cX8_undo 50 = .ok (.getfield 158, 3) := by decide +kernel
theorem dX8_undo_53 : decode cX8_undo 53 = .ok (.if_icmp .ge 21, 3) := by decide +kernel
theorem dX8_undo_56 : decode cX8_undo 56 = .ok (.aload_n 0, 1) := by decide +kernel
theorem dX8_undo_57 : decode cX8_undo 57 = .ok (.getfield 42, 3) := by decide +kernel
theorem dX8_undo_60 : decode cX8_undo 60 = .ok (.iload_n 1, 1) := by decide +kernel
theorem dX8_undo_61 : decode cX8_undo 61 = .ok (.aload_n 0, 1) := by decide +kernel
theorem dX8_undo_62 : decode cX8_undo 62 = .ok (.getfield 45, 3) := by decide +kernel
theorem dX8_undo_65 : decode cX8_undo 65 = .ok (.iload_n 1, 1) := by decide +kernel
theorem dX8_undo_66 : decode cX8_undo 66 = .ok (.iaload, 1) := by decide +kernel
theorem dX8_undo_67 : decode cX8_undo 67 = .ok (.iastore, 1) := by decide +kernel
theorem dX8_undo_68 : decode cX8_undo 68 = .ok (.iinc 1 1, 3) := by decide +kernel
theorem dX8_undo_71 : decode cX8_undo 71 = .ok (.goto (-23), 3) := by decide +kernel
theorem dX8_undo_74 : decode cX8_undo 74 = .ok (.aload_n 0, 1) := by decide +kernel
theorem dX8_undo_75 : decode cX8_undo 75 = .ok (.aload_n 0, 1) := by decide +kernel
theorem dX8_undo_76 : decode cX8_undo 76 = .ok (.getfield 152, 3) := by decide +kernel
theorem dX8_undo_79 : decode cX8_undo 79 = .ok (.putfield 146, 3) := by decide +kernel
theorem dX8_undo_82 : decode cX8_undo 82 = .ok (.aload_n 0, 1) := by decide +kernel
theorem dX8_undo_83 : decode cX8_undo 83 = .ok (.aload_n 0, 1) := by decide +kernel
theorem dX8_undo_84 : decode cX8_undo 84 = .ok (.getfield 155, 3) := by decide +kernel
theorem dX8_undo_87 : decode cX8_undo 87 = .ok (.putfield 136, 3) := by decide +kernel
theorem dX8_undo_90 : decode cX8_undo 90 = .ok (.aload_n 0, 1) := by decide +kernel
theorem dX8_undo_91 : decode cX8_undo 91 = .ok (.aload_n 0, 1) := by decide +kernel
theorem dX8_undo_92 : decode cX8_undo 92 = .ok (.getfield 158, 3) := by decide +kernel
theorem dX8_undo_95 : decode cX8_undo 95 = .ok (.putfield 149, 3) := by decide +kernel
theorem dX8_undo_98 : decode cX8_undo 98 = .ok (.aload_n 0, 1) := by decide +kernel
theorem dX8_undo_99 : decode cX8_undo 99 = .ok (.iconst 0, 1) := by decide +kernel
theorem dX8_undo_100 : decode cX8_undo 100 = .ok (.putfield 183, 3) := by decide +kernel
theorem dX8_undo_103 : decode cX8_undo 103 = .ok (.aload_n 0, 1) := by decide +kernel
theorem dX8_undo_104 : decode cX8_undo 104 = .ok (.dup, 1) := by decide +kernel
theorem dX8_undo_105 : decode cX8_undo 105 = .ok (.getfield 176, 3) := by decide +kernel
theorem dX8_undo_108 : decode cX8_undo 108 = .ok (.iconst 1, 1) := by decide +kernel
theorem dX8_undo_109 : decode cX8_undo 109 = .ok (.isub, 1) := by decide +kernel
theorem dX8_undo_110 : decode cX8_undo 110 = .ok (.putfield 176, 3) := by decide +kernel
theorem dX8_undo_113 : decode cX8_undo 113 = .ok (.aload_n 0, 1) := by decide +kernel
theorem dX8_undo_114 : decode cX8_undo 114 = .ok (.dup, 1) := by decide +kernel
theorem dX8_undo_115 : decode cX8_undo 115 = .ok (.getfield 179, 3) := by decide +kernel
theorem dX8_undo_118 : decode cX8_undo 118 = .ok (.aload_n 0, 1) := by decide +kernel
theorem dX8_undo_119 : decode cX8_undo 119 = .ok (.getfield 164, 3) := by decide +kernel
theorem dX8_undo_122 : decode cX8_undo 122 = .ok (.i2l, 1) := by decide +kernel
theorem dX8_undo_123 : decode cX8_undo 123 = .ok (.lsub, 1) := by decide +kernel
theorem dX8_undo_124 : decode cX8_undo 124 = .ok (.putfield 179, 3) := by decide +kernel
theorem dX8_undo_127 : decode cX8_undo 127 = .ok (.aload_n 0, 1) := by decide +kernel
theorem dX8_undo_128 : decode cX8_undo 128 = .ok (.getfield 146, 3) := by decide +kernel
theorem dX8_undo_131 : decode cX8_undo 131 = .ok (.ireturn, 1) := by decide +kernel
theorem dX8_length_0 : decode cX8_length 0 = .ok (.aload_n 0, 1) := by decide +kernel
theorem dX8_length_1 : decode cX8_length 1 = .ok (.getfield 146, 3) := by decide +kernel
theorem dX8_length_4 : decode cX8_length 4 = .ok (.ireturn, 1) := by decide +kernel
theorem dX8_characterAt_0 : decode cX8_characterAt 0 = .ok (.aload_n 0, 1) := by decide +kernel
theorem dX8_characterAt_1 : decode cX8_characterAt 1 = .ok (.iload_n 1, 1) := by decide +kernel
theorem dX8_characterAt_2 : decode cX8_characterAt 2 = .ok (.iconst 0, 1) := by decide +kernel
theorem dX8_characterAt_3 : decode cX8_characterAt 3 = .ok (.aload_n 0, 1) := by decide +kernel
theorem dX8_characterAt_4 : decode cX8_characterAt 4 = .ok (.getfield 146, 3) := by decide +kernel
theorem dX8_characterAt_7 : decode cX8_characterAt 7 = .ok (.iconst 1, 1) := by decide +kernel
theorem dX8_characterAt_8 : decode cX8_characterAt 8 = .ok (.isub, 1) := by decide +kernel
theorem dX8_characterAt_9 : decode cX8_characterAt 9 = .ok (.invokestatic 67, 3) := by decide +kernel
theorem dX8_characterAt_12 : decode cX8_characterAt 12 = .ok (.ifCond .eq 7, 3) := by decide +kernel
theorem dX8_characterAt_15 : decode cX8_characterAt 15 = .ok (.iconst 0, 1) := by decide +kernel
theorem dX8_characterAt_16 : decode cX8_characterAt 16 = .ok (.goto 4, 3) := by decide +kernel
theorem dX8_characterAt_19 : decode cX8_characterAt 19 = .ok (.iconst 1, 1) := by decide +kernel
theorem dX8_characterAt_20 : decode cX8_characterAt 20 = .ok (.putfield 61, 3) := by decide +kernel
theorem dX8_characterAt_23 : decode cX8_characterAt 23 = .ok (.aload_n 0, 1) := by decide +kernel
theorem dX8_characterAt_24 : decode cX8_characterAt 24 = .ok (.getfield 61, 3) := by decide +kernel
theorem dX8_characterAt_27 : decode cX8_characterAt 27 = .ok (.ifCond .ne 12, 3) := by decide +kernel
theorem dX8_characterAt_30 : decode cX8_characterAt 30 = .ok (.aload_n 0, 1) := by decide +kernel
theorem dX8_characterAt_31 : decode cX8_characterAt 31 = .ok (.getfield 20, 3) := by decide +kernel
theorem dX8_characterAt_34 : decode cX8_characterAt 34 = .ok (.iload_n 1, 1) := by decide +kernel
theorem dX8_characterAt_35 : decode cX8_characterAt 35 = .ok (.caload, 1) := by decide +kernel
theorem dX8_characterAt_36 : decode cX8_characterAt 36 = .ok (.goto 5, 3) := by decide +kernel
theorem dX8_characterAt_39 : decode cX8_characterAt 39 = .ok (.bipush 32, 2) := by decide +kernel
theorem dX8_characterAt_41 : decode cX8_characterAt 41 = .ok (.ireturn, 1) := by decide +kernel
theorem dX8_caret_0 : decode cX8_caret 0 = .ok (.aload_n 0, 1) := by decide +kernel
theorem dX8_caret_1 : decode cX8_caret 1 = .ok (.getfield 136, 3) := by decide +kernel
theorem dX8_caret_4 : decode cX8_caret 4 = .ok (.ireturn, 1) := by decide +kernel
theorem dX8_stops_0 : decode cX8_stops 0 = .ok (.aload_n 0, 1) := by decide +kernel
theorem dX8_stops_1 : decode cX8_stops 1 = .ok (.getfield 149, 3) := by decide +kernel
theorem dX8_stops_4 : decode cX8_stops 4 = .ok (.ireturn, 1) := by decide +kernel
theorem dX8_stopAt_0 : decode cX8_stopAt 0 = .ok (.iload_n 1, 1) := by decide +kernel
theorem dX8_stopAt_1 : decode cX8_stopAt 1 = .ok (.iconst 0, 1) := by decide +kernel
theorem dX8_stopAt_2 : decode cX8_stopAt 2 = .ok (.aload_n 0, 1) := by decide +kernel
theorem dX8_stopAt_3 : decode cX8_stopAt 3 = .ok (.getfield 149, 3) := by decide +kernel
theorem dX8_stopAt_6 : decode cX8_stopAt 6 = .ok (.iconst 1, 1) := by decide +kernel
theorem dX8_stopAt_7 : decode cX8_stopAt 7 = .ok (.isub, 1) := by decide +kernel
theorem dX8_stopAt_8 : decode cX8_stopAt 8 = .ok (.invokestatic 67, 3) := by decide +kernel
theorem dX8_stopAt_11 : decode cX8_stopAt 11 = .ok (.ifCond .ne 9, 3) := by decide +kernel
theorem dX8_stopAt_14 : decode cX8_stopAt 14 = .ok (.aload_n 0, 1) := by decide +kernel
theorem dX8_stopAt_15 : decode cX8_stopAt 15 = .ok (.iconst 1, 1) := by decide +kernel
theorem dX8_stopAt_16 : decode cX8_stopAt 16 = .ok (.invokevirtual 75, 3) := by decide +kernel
theorem dX8_stopAt_19 : decode cX8_stopAt 19 = .ok (.ireturn, 1) := by decide +kernel
theorem dX8_stopAt_20 : decode cX8_stopAt 20 = .ok (.aload_n 0, 1) := by decide +kernel
theorem dX8_stopAt_21 : decode cX8_stopAt 21 = .ok (.iconst 0, 1) := by decide +kernel
theorem dX8_stopAt_22 : decode cX8_stopAt 22 = .ok (.putfield 61, 3) := by decide +kernel
theorem dX8_stopAt_25 : decode cX8_stopAt 25 = .ok (.aload_n 0, 1) := by decide +kernel
theorem dX8_stopAt_26 : decode cX8_stopAt 26 = .ok (.getfield 42, 3) := by decide +kernel
theorem dX8_stopAt_29 : decode cX8_stopAt 29 = .ok (.iload_n 1, 1) := by decide +kernel
theorem dX8_stopAt_30 : decode cX8_stopAt 30 = .ok (.iaload, 1) := by decide +kernel
theorem dX8_stopAt_31 : decode cX8_stopAt 31 = .ok (.ireturn, 1) := by decide +kernel
theorem dX8_saved_0 : decode cX8_saved 0 = .ok (.aload_n 0, 1) := by decide +kernel
theorem dX8_saved_1 : decode cX8_saved 1 = .ok (.getfield 179, 3) := by decide +kernel
theorem dX8_saved_4 : decode cX8_saved 4 = .ok (.lreturn, 1) := by decide +kernel
theorem dX8_keptShare_0 : decode cX8_keptShare 0 = .ok (.aload_n 0, 1) := by decide +kernel
theorem dX8_keptShare_1 : decode cX8_keptShare 1 = .ok (.aload_n 0, 1) := by decide +kernel
theorem dX8_keptShare_2 : decode cX8_keptShare 2 = .ok (.getfield 173, 3) := by decide +kernel
theorem dX8_keptShare_5 : decode cX8_keptShare 5 = .ok (.ifCond .ne 7, 3) := by decide +kernel
theorem dX8_keptShare_8 : decode cX8_keptShare 8 = .ok (.iconst 1, 1) := by decide +kernel
theorem dX8_keptShare_9 : decode cX8_keptShare 9 = .ok (.goto 4, 3) := by decide +kernel
theorem dX8_keptShare_12 : decode cX8_keptShare 12 = .ok (.iconst 0, 1) := by decide +kernel
theorem dX8_keptShare_13 : decode cX8_keptShare 13 = .ok (.putfield 61, 3) := by decide +kernel
theorem dX8_keptShare_16 : decode cX8_keptShare 16 = .ok (.aload_n 0, 1) := by decide +kernel
theorem dX8_keptShare_17 : decode cX8_keptShare 17 = .ok (.getfield 173, 3) := by decide +kernel
theorem dX8_keptShare_20 : decode cX8_keptShare 20 = .ok (.ifCond .ne 7, 3) := by decide +kernel
theorem dX8_keptShare_23 : decode cX8_keptShare 23 = .ok (.fconst 0, 1) := by decide +kernel
theorem dX8_keptShare_24 : decode cX8_keptShare 24 = .ok (.goto 14, 3) := by decide +kernel
theorem dX8_keptShare_27 : decode cX8_keptShare 27 = .ok (.aload_n 0, 1) := by decide +kernel
theorem dX8_keptShare_28 : decode cX8_keptShare 28 = .ok (.getfield 176, 3) := by decide +kernel
theorem dX8_keptShare_31 : decode cX8_keptShare 31 = .ok (.i2f, 1) := by decide +kernel
theorem dX8_keptShare_32 : decode cX8_keptShare 32 = .ok (.aload_n 0, 1) := by decide +kernel
theorem dX8_keptShare_33 : decode cX8_keptShare 33 = .ok (.getfield 173, 3) := by decide +kernel
theorem dX8_keptShare_36 : decode cX8_keptShare 36 = .ok (.i2f, 1) := by decide +kernel
theorem dX8_keptShare_37 : decode cX8_keptShare 37 = .ok (.fdiv, 1) := by decide +kernel
theorem dX8_keptShare_38 : decode cX8_keptShare 38 = .ok (.freturn, 1) := by decide +kernel
