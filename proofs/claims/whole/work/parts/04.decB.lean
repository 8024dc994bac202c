theorem dX7_init_0 : decode cX7_init 0 = .ok (.aload_n 0, 1) := by decide +kernel
theorem dX7_init_1 : decode cX7_init 1 = .ok (.invokespecial 3, 3) := by decide +kernel
theorem dX7_init_4 : decode cX7_init 4 = .ok (.aload_n 0, 1) := by decide +kernel
theorem dX7_init_5 : decode cX7_init 5 = .ok (.new 9, 3) := by decide +kernel
theorem dX7_init_8 : decode cX7_init 8 = .ok (.dup, 1) := by decide +kernel
theorem dX7_init_9 : decode cX7_init 9 = .ok (.invokespecial 11, 3) := by decide +kernel
theorem dX7_init_12 : decode cX7_init 12 = .ok (.putfield 12, 3) := by decide +kernel
theorem dX7_init_15 : decode cX7_init 15 = .ok (.aload_n 0, 1) := by decide +kernel
theorem dX7_init_16 : decode cX7_init 16 = .ok (.new 16, 3) := by decide +kernel
theorem dX7_init_19 : decode cX7_init 19 = .ok (.dup, 1) := by decide +kernel
theorem dX7_init_20 : decode cX7_init 20 = .ok (.invokespecial 18, 3) := by decide +kernel
theorem dX7_init_23 : decode cX7_init 23 = .ok (.putfield 19, 3) := by decide +kernel
theorem dX7_init_26 : decode cX7_init 26 = .ok (.aload_n 0, 1) := by decide +kernel
theorem dX7_init_27 : decode cX7_init 27 = .ok (.new 23, 3) := by decide +kernel
theorem dX7_init_30 : decode cX7_init 30 = .ok (.dup, 1) := by decide +kernel
theorem dX7_init_31 : decode cX7_init 31 = .ok (.invokespecial 25, 3) := by decide +kernel
theorem dX7_init_34 : decode cX7_init 34 = .ok (.putfield 26, 3) := by decide +kernel
theorem dX7_init_37 : decode cX7_init 37 = .ok (.aload_n 0, 1) := by decide +kernel
theorem dX7_init_38 : decode cX7_init 38 = .ok (.new 30, 3) := by decide +kernel
theorem dX7_init_41 : decode cX7_init 41 = .ok (.dup, 1) := by decide +kernel
theorem dX7_init_42 : decode cX7_init 42 = .ok (.invokespecial 32, 3) := by decide +kernel
theorem dX7_init_45 : decode cX7_init 45 = .ok (.putfield 33, 3) := by decide +kernel
theorem dX7_init_48 : decode cX7_init 48 = .ok (.aload_n 0, 1) := by decide +kernel
theorem dX7_init_49 : decode cX7_init 49 = .ok (.new 30, 3) := by decide +kernel
theorem dX7_init_52 : decode cX7_init 52 = .ok (.dup, 1) := by decide +kernel
theorem dX7_init_53 : decode cX7_init 53 = .ok (.invokespecial 32, 3) := by decide +kernel
theorem dX7_init_56 : decode cX7_init 56 = .ok (.putfield 37, 3) := by decide +kernel
theorem dX7_init_59 : decode cX7_init 59 = .ok (.aload_n 0, 1) := by decide +kernel
theorem dX7_init_60 : decode cX7_init 60 = .ok (.bipush 99, 2) := by decide +kernel
theorem dX7_init_62 : decode cX7_init 62 = .ok (.putfield 40, 3) := by decide +kernel
theorem dX7_init_65 : decode cX7_init 65 = .ok (.aload_n 0, 1) := by decide +kernel
theorem dX7_init_66 : decode cX7_init 66 = .ok (.iconst 0, 1) := by decide +kernel
theorem dX7_init_67 : decode cX7_init 67 = .ok (.putfield 44, 3) := by decide +kernel
theorem dX7_init_70 : decode cX7_init 70 = .ok (.aload_n 0, 1) := by decide +kernel
theorem dX7_init_71 : decode cX7_init 71 = .ok (.iconst 0, 1) := by decide +kernel
theorem dX7_init_72 : decode cX7_init 72 = .ok (.putfield 48, 3) := by decide +kernel
theorem dX7_init_75 : decode cX7_init 75 = .ok (.aload_n 0, 1) := by decide +kernel
theorem dX7_init_76 : decode cX7_init 76 = .ok (.lconst 0, 1) := by decide +kernel
theorem dX7_init_77 : decode cX7_init 77 = .ok (.putfield 51, 3) := by decide +kernel
theorem dX7_init_80 : decode cX7_init 80 = .ok (.aload_n 0, 1) := by decide +kernel
theorem dX7_init_81 : decode cX7_init 81 = .ok (.iconst 0, 1) := by decide +kernel
theorem dX7_init_82 : decode cX7_init 82 = .ok (.putfield 55, 3) := by decide +kernel
theorem dX7_init_85 : decode cX7_init 85 = .ok (.aload_n 0, 1) := by decide +kernel
theorem dX7_init_86 : decode cX7_init 86 = .ok (.iconst 0, 1) := by decide +kernel
theorem dX7_init_87 : decode cX7_init 87 = .ok (.putfield 58, 3) := by decide +kernel
theorem dX7_init_90 : decode cX7_init 90 = .ok (.return_, 1) := by decide +kernel
theorem dX7_addSnippet_0 : decode cX7_addSnippet 0 = .ok (.aload_n 0, 1) := by decide +kernel
theorem dX7_addSnippet_1 : decode cX7_addSnippet 1 = .ok (.getfield 12, 3) := by decide +kernel
theorem dX7_addSnippet_4 : decode cX7_addSnippet 4 = .ok (.invokevirtual 61, 3) := by decide +kernel
theorem dX7_addSnippet_7 : decode cX7_addSnippet 7 = .ok (.bipush 8, 2) := by decide +kernel
theorem dX7_addSnippet_9 : decode cX7_addSnippet 9 = .ok (.if_icmp .lt 13, 3) := by decide +kernel
theorem dX7_addSnippet_12 : decode cX7_addSnippet 12 = .ok (.new 65, 3) := by decide +kernel
theorem dX7_addSnippet_15 : decode cX7_addSnippet 15 = .ok (.dup, 1) := by decide +kernel
theorem dX7_addSnippet_16 : decode cX7_addSnippet 16 = .ok (.ldc 67, 2) := by decide +kernel
theorem dX7_addSnippet_18 : decode cX7_addSnippet 18 = .ok (.invokespecial 69, 3) := by decide +kernel
theorem dX7_addSnippet_21 : decode cX7_addSnippet 21 = .ok (.athrow, 1) := by decide +kernel
theorem dX7_addSnippet_22 : decode cX7_addSnippet 22 = .ok (.aload_n 0, 1) := by decide +kernel
theorem dX7_addSnippet_23 : decode cX7_addSnippet 23 = .ok (.getfield 12, 3) := by decide +kernel
theorem dX7_addSnippet_26 : decode cX7_addSnippet 26 = .ok (.new 72, 3) := by decide +kernel
theorem dX7_addSnippet_29 : decode cX7_addSnippet 29 = .ok (.dup, 1) := by decide +kernel
theorem dX7_addSnippet_30 : decode cX7_addSnippet 30 = .ok (.iload_n 1, 1) := by decide +kernel
theorem dX7_addSnippet_31 : decode cX7_addSnippet 31 = .ok (.invokespecial 74, 3) := by decide +kernel
theorem dX7_addSnippet_34 : decode cX7_addSnippet 34 = .ok (.invokevirtual 77, 3) := by decide +kernel
theorem dX7_addSnippet_37 : decode cX7_addSnippet 37 = .ok (.pop, 1) := by decide +kernel
theorem dX7_addSnippet_38 : decode cX7_addSnippet 38 = .ok (.aload_n 0, 1) := by decide +kernel
theorem dX7_addSnippet_39 : decode cX7_addSnippet 39 = .ok (.getfield 12, 3) := by decide +kernel
theorem dX7_addSnippet_42 : decode cX7_addSnippet 42 = .ok (.invokevirtual 61, 3) := by decide +kernel
theorem dX7_addSnippet_45 : decode cX7_addSnippet 45 = .ok (.iconst 1, 1) := by decide +kernel
theorem dX7_addSnippet_46 : decode cX7_addSnippet 46 = .ok (.isub, 1) := by decide +kernel
theorem dX7_addSnippet_47 : decode cX7_addSnippet 47 = .ok (.ireturn, 1) := by decide +kernel
theorem dX7_addToTrigger_0 : decode cX7_addToTrigger 0 = .ok (.aload_n 0, 1) := by decide +kernel
theorem dX7_addToTrigger_1 : decode cX7_addToTrigger 1 = .ok (.iload_n 1, 1) := by decide +kernel
theorem dX7_addToTrigger_2 : decode cX7_addToTrigger 2 = .ok (.invokevirtual 81, 3) := by decide +kernel
theorem dX7_addToTrigger_5 : decode cX7_addToTrigger 5 = .ok (.astore_n 3, 1) := by decide +kernel
theorem dX7_addToTrigger_6 : decode cX7_addToTrigger 6 = .ok (.iload_n 2, 1) := by decide +kernel
theorem dX7_addToTrigger_7 : decode cX7_addToTrigger 7 = .ok (.invokestatic 85, 3) := by decide +kernel
theorem dX7_addToTrigger_10 : decode cX7_addToTrigger 10 = .ok (.aload_n 3, 1) := by decide +kernel
theorem dX7_addToTrigger_11 : decode cX7_addToTrigger 11 = .ok (.getfield 89, 3) := by decide +kernel
theorem dX7_addToTrigger_14 : decode cX7_addToTrigger 14 = .ok (.invokevirtual 93, 3) := by decide +kernel
theorem dX7_addToTrigger_17 : decode cX7_addToTrigger 17 = .ok (.ifCond .eq 13, 3) := by decide +kernel
theorem dX7_addToTrigger_20 : decode cX7_addToTrigger 20 = .ok (.new 65, 3) := by decide +kernel
theorem dX7_addToTrigger_23 : decode cX7_addToTrigger 23 = .ok (.dup, 1) := by decide +kernel
theorem dX7_addToTrigger_24 : decode cX7_addToTrigger 24 = .ok (.ldc 99, 2) := by decide +kernel
theorem dX7_addToTrigger_26 : decode cX7_addToTrigger 26 = .ok (.invokespecial 69, 3) := by decide +kernel
theorem dX7_addToTrigger_29 : decode cX7_addToTrigger 29 = .ok (.athrow, 1) := by decide +kernel
theorem dX7_addToTrigger_30 : decode cX7_addToTrigger 30 = .ok (.aload_n 3, 1) := by decide +kernel
theorem dX7_addToTrigger_31 : decode cX7_addToTrigger 31 = .ok (.getfield 89, 3) := by decide +kernel
theorem dX7_addToTrigger_34 : decode cX7_addToTrigger 34 = .ok (.iload_n 2, 1) := by decide +kernel
theorem dX7_addToTrigger_35 : decode cX7_addToTrigger 35 = .ok (.invokevirtual 101, 3) := by decide +kernel
theorem dX7_addToTrigger_38 : decode cX7_addToTrigger 38 = .ok (.aload_n 0, 1) := by decide +kernel
theorem dX7_addToTrigger_39 : decode cX7_addToTrigger 39 = .ok (.invokevirtual 104, 3) := by decide +kernel
theorem dX7_addToTrigger_42 : decode cX7_addToTrigger 42 = .ok (.aload_n 3, 1) := by decide +kernel
theorem dX7_addToTrigger_43 : decode cX7_addToTrigger 43 = .ok (.getfield 89, 3) := by decide +kernel
theorem dX7_addToTrigger_46 : decode cX7_addToTrigger 46 = .ok (.invokevirtual 107, 3) := by decide +kernel
theorem dX7_addToTrigger_49 : decode cX7_addToTrigger 49 = .ok (.ireturn, 1) := by decide +kernel
theorem dX7_clearTrigger_0 : decode cX7_clearTrigger 0 = .ok (.aload_n 0, 1) := by decide +kernel
theorem dX7_clearTrigger_1 : decode cX7_clearTrigger 1 = .ok (.iload_n 1, 1) := by decide +kernel
theorem dX7_clearTrigger_2 : decode cX7_clearTrigger 2 = .ok (.invokevirtual 81, 3) := by decide +kernel
theorem dX7_clearTrigger_5 : decode cX7_clearTrigger 5 = .ok (.astore_n 2, 1) := by decide +kernel
theorem dX7_clearTrigger_6 : decode cX7_clearTrigger 6 = .ok (.aload_n 2, 1) := by decide +kernel
theorem dX7_clearTrigger_7 : decode cX7_clearTrigger 7 = .ok (.getfield 89, 3) := by decide +kernel
theorem dX7_clearTrigger_10 : decode cX7_clearTrigger 10 = .ok (.invokevirtual 107, 3) := by decide +kernel
theorem dX7_clearTrigger_13 : decode cX7_clearTrigger 13 = .ok (.istore_n 3, 1) := by decide +kernel
theorem dX7_clearTrigger_14 : decode cX7_clearTrigger 14 = .ok (.aload_n 2, 1) := by decide +kernel
theorem dX7_clearTrigger_15 : decode cX7_clearTrigger 15 = .ok (.getfield 89, 3) := by decide +kernel
theorem dX7_clearTrigger_18 : decode cX7_clearTrigger 18 = .ok (.invokevirtual 110, 3) := by decide +kernel
theorem dX7_clearTrigger_21 : decode cX7_clearTrigger 21 = .ok (.aload_n 0, 1) := by decide +kernel
theorem dX7_clearTrigger_22 : decode cX7_clearTrigger 22 = .ok (.invokevirtual 104, 3) := by decide +kernel
theorem dX7_clearTrigger_25 : decode cX7_clearTrigger 25 = .ok (.iload_n 3, 1) := by decide +kernel
theorem dX7_clearTrigger_26 : decode cX7_clearTrigger 26 = .ok (.ireturn, 1) := by decide +kernel
theorem dX7_setOn_0 : decode cX7_setOn 0 = .ok (.aload_n 0, 1) := by decide +kernel
theorem dX7_setOn_1 : decode cX7_setOn 1 = .ok (.iload_n 1, 1) := by decide +kernel
theorem dX7_setOn_2 : decode cX7_setOn 2 = .ok (.invokevirtual 81, 3) := by decide +kernel
theorem dX7_setOn_5 : decode cX7_setOn 5 = .ok (.astore_n 3, 1) := by decide +kernel
theorem dX7_setOn_6 : decode cX7_setOn 6 = .ok (.aload_n 3, 1) := by decide +kernel
theorem dX7_setOn_7 : decode cX7_setOn 7 = .ok (.getfield 113, 3) := by decide +kernel
theorem dX7_setOn_10 : decode cX7_setOn 10 = .ok (.istore 4, 2) := by decide +kernel
theorem dX7_setOn_12 : decode cX7_setOn 12 = .ok (.aload_n 3, 1) := by decide +kernel
theorem dX7_setOn_13 : decode cX7_setOn 13 = .ok (.iload_n 2, 1) := by decide +kernel
theorem dX7_setOn_14 : decode cX7_setOn 14 = .ok (.putfield 113, 3) := by decide +kernel
theorem dX7_setOn_17 : decode cX7_setOn 17 = .ok (.iload 4, 2) := by decide +kernel
theorem dX7_setOn_19 : decode cX7_setOn 19 = .ok (.ireturn, 1) := by decide +kernel
theorem dX7_putCharacter_0 : decode cX7_putCharacter 0 = .ok (.aload_n 0, 1) := by decide +kernel
theorem dX7_putCharacter_1 : decode cX7_putCharacter 1 = .ok (.iload_n 1, 1) := by decide +kernel
theorem dX7_putCharacter_2 : decode cX7_putCharacter 2 = .ok (.invokevirtual 81, 3) := by decide +kernel
theorem dX7_putCharacter_5 : decode cX7_putCharacter 5 = .ok (.astore_n 3, 1) := by decide +kernel
theorem dX7_putCharacter_6 : decode cX7_putCharacter 6 = .ok (.iload_n 2, 1) := by decide +kernel
theorem dX7_putCharacter_7 : decode cX7_putCharacter 7 = .ok (.invokestatic 85, 3) := by decide +kernel
theorem dX7_putCharacter_10 : decode cX7_putCharacter 10 = .ok (.aload_n 0, 1) := by decide +kernel
theorem dX7_putCharacter_11 : decode cX7_putCharacter 11 = .ok (.aload_n 3, 1) := by decide +kernel
theorem dX7_putCharacter_12 : decode cX7_putCharacter 12 = .ok (.new 116, 3) := by decide +kernel
theorem dX7_putCharacter_15 : decode cX7_putCharacter 15 = .ok (.dup, 1) := by decide +kernel
theorem dX7_putCharacter_16 : decode cX7_putCharacter 16 = .ok (.getstatic 118, 3) := by decide +kernel
theorem dX7_putCharacter_19 : decode cX7_putCharacter 19 = .ok (.iload_n 2, 1) := by decide +kernel
theorem dX7_putCharacter_20 : decode cX7_putCharacter 20 = .ok (.iconst 0, 1) := by decide +kernel
theorem dX7_putCharacter_21 : decode cX7_putCharacter 21 = .ok (.invokespecial 124, 3) := by decide +kernel
theorem dX7_putCharacter_24 : decode cX7_putCharacter 24 = .ok (.invokevirtual 127, 3) := by decide +kernel
theorem dX7_putCharacter_27 : decode cX7_putCharacter 27 = .ok (.ireturn, 1) := by decide +kernel
theorem dX7_putSnippet_0 : decode cX7_putSnippet 0 = .ok (.aload_n 0, 1) := by decide +kernel
theorem dX7_putSnippet_1 : decode cX7_putSnippet 1 = .ok (.aload_n 0, 1) := by decide +kernel
theorem dX7_putSnippet_2 : decode cX7_putSnippet 2 = .ok (.iload_n 1, 1) := by decide +kernel
theorem dX7_putSnippet_3 : decode cX7_putSnippet 3 = .ok (.invokevirtual 81, 3) := by decide +kernel
theorem dX7_putSnippet_6 : decode cX7_putSnippet 6 = .ok (.aload_n 0, 1) := by decide +kernel
theorem dX7_putSnippet_7 : decode cX7_putSnippet 7 = .ok (.iload_n 1, 1) := by decide +kernel
theorem dX7_putSnippet_8 : decode cX7_putSnippet 8 = .ok (.iload_n 2, 1) := by decide +kernel
theorem dX7_putSnippet_9 : decode cX7_putSnippet 9 = .ok (.iload_n 2, 1) := by decide +kernel
theorem dX7_putSnippet_10 : decode cX7_putSnippet 10 = .ok (.invokevirtual 131, 3) := by decide +kernel
theorem dX7_putSnippet_13 : decode cX7_putSnippet 13 = .ok (.invokevirtual 127, 3) := by decide +kernel
theorem dX7_putSnippet_16 : decode cX7_putSnippet 16 = .ok (.ireturn, 1) := by decide +kernel
theorem dX7_putChoice_0 : decode cX7_putChoice 0 = .ok (.aload_n 0, 1) := by decide +kernel
theorem dX7_putChoice_1 : decode cX7_putChoice 1 = .ok (.aload_n 0, 1) := by decide +kernel
theorem dX7_putChoice_2 : decode cX7_putChoice 2 = .ok (.iload_n 1, 1) := by decide +kernel
theorem dX7_putChoice_3 : decode cX7_putChoice 3 = .ok (.invokevirtual 81, 3) := by decide +kernel
theorem dX7_putChoice_6 : decode cX7_putChoice 6 = .ok (.aload_n 0, 1) := by decide +kernel
theorem dX7_putChoice_7 : decode cX7_putChoice 7 = .ok (.iload_n 1, 1) := by decide +kernel
theorem dX7_putChoice_8 : decode cX7_putChoice 8 = .ok (.iload_n 2, 1) := by decide +kernel
theorem dX7_putChoice_9 : decode cX7_putChoice 9 = .ok (.iload_n 3, 1) := by decide +kernel
theorem dX7_putChoice_10 : decode cX7_putChoice 10 = .ok (.invokevirtual 131, 3) := by decide +kernel
theorem dX7_putChoice_13 : decode cX7_putChoice 13 = .ok (.invokevirtual 127, 3) := by decide +kernel
theorem dX7_putChoice_16 : decode cX7_putChoice 16 = .ok (.ireturn, 1) := by decide +kernel
theorem dX7_putDate_0 : decode cX7_putDate 0 = .ok (.aload_n 0, 1) := by decide +kernel
theorem dX7_putDate_1 : decode cX7_putDate 1 = .ok (.iload_n 1, 1) := by decide +kernel
theorem dX7_putDate_2 : decode cX7_putDate 2 = .ok (.invokevirtual 81, 3) := by decide +kernel
theorem dX7_putDate_5 : decode cX7_putDate 5 = .ok (.astore 4, 2) := by decide +kernel
theorem dX7_putDate_7 : decode cX7_putDate 7 = .ok (.iload_n 2, 1) := by decide +kernel
theorem dX7_putDate_8 : decode cX7_putDate 8 = .ok (.bipush (-99), 2) := by decide +kernel
theorem dX7_putDate_10 : decode cX7_putDate 10 = .ok (.if_icmp .lt 9, 3) := by decide +kernel
theorem dX7_putDate_13 : decode cX7_putDate 13 = .ok (.iload_n 2, 1) := by decide +kernel
theorem dX7_putDate_14 : decode cX7_putDate 14 = .ok (.bipush 99, 2) := by decide +kernel
theorem dX7_putDate_16 : decode cX7_putDate 16 = .ok (.if_icmp .le 13, 3) := by decide +kernel
theorem dX7_putDate_19 : decode cX7_putDate 19 = .ok (.new 135, 3) := by decide +kernel
theorem dX7_putDate_22 : decode cX7_putDate 22 = .ok (.dup, 1) := by decide +kernel
theorem dX7_putDate_23 : decode cX7_putDate 23 = .ok (.ldc 137, 2) := by decide +kernel
theorem dX7_putDate_25 : decode cX7_putDate 25 = .ok (.invokespecial 139, 3) := by decide +kernel
theorem dX7_putDate_28 : decode cX7_putDate 28 = .ok (.athrow, 1) := by decide +kernel
theorem dX7_putDate_29 : decode cX7_putDate 29 = .ok (.iload_n 3, 1) := by decide +kernel
theorem dX7_putDate_30 : decode cX7_putDate 30 = .ok (.bipush 110, 2) := by decide +kernel
theorem dX7_putDate_32 : decode cX7_putDate 32 = .ok (.if_icmp .eq 25, 3) := by decide +kernel
theorem dX7_putDate_35 : decode cX7_putDate 35 = .ok (.iload_n 3, 1) := by decide +kernel
theorem dX7_putDate_36 : decode cX7_putDate 36 = .ok (.bipush 119, 2) := by decide +kernel
theorem dX7_putDate_38 : decode cX7_putDate 38 = .ok (.if_icmp .eq 19, 3) := by decide +kernel
theorem dX7_putDate_41 : decode cX7_putDate 41 = .ok (.iload_n 3, 1) := by decide +kernel
theorem dX7_putDate_42 : decode cX7_putDate 42 = .ok (.bipush 109, 2) := by decide +kernel
theorem dX7_putDate_44 : decode cX7_putDate 44 = .ok (.if_icmp .eq 13, 3) := by decide +kernel
theorem dX7_putDate_47 : decode cX7_putDate 47 = .ok (.new 135, 3) := by decide +kernel
theorem dX7_putDate_50 : decode cX7_putDate 50 = .ok (.dup, 1) := by decide +kernel
theorem dX7_putDate_51 : decode cX7_putDate 51 = .ok (.ldc 140, 2) := by decide +kernel
theorem dX7_putDate_53 : decode cX7_putDate 53 = .ok (.invokespecial 139, 3) := by decide +kernel
theorem dX7_putDate_56 : decode cX7_putDate 56 = .ok (.athrow, 1) := by decide +kernel
theorem dX7_putDate_57 : decode cX7_putDate 57 = .ok (.aload_n 0, 1) := by decide +kernel
theorem dX7_putDate_58 : decode cX7_putDate 58 = .ok (.aload 4, 2) := by decide +kernel
theorem dX7_putDate_60 : decode cX7_putDate 60 = .ok (.new 116, 3) := by decide +kernel
theorem dX7_putDate_63 : decode cX7_putDate 63 = .ok (.dup, 1) := by decide +kernel
theorem dX7_putDate_64 : decode cX7_putDate 64 = .ok (.getstatic 142, 3) := by decide +kernel
theorem dX7_putDate_67 : decode cX7_putDate 67 = .ok (.iload_n 2, 1) := by decide +kernel
theorem dX7_putDate_68 : decode cX7_putDate 68 = .ok (.iload_n 3, 1) := by decide +kernel
theorem dX7_putDate_69 : decode cX7_putDate 69 = .ok (.invokespecial 124, 3) := by decide +kernel
theorem dX7_putDate_72 : decode cX7_putDate 72 = .ok (.invokevirtual 127, 3) := by decide +kernel
theorem dX7_putDate_75 : decode cX7_putDate 75 = .ok (.ireturn, 1) := by decide +kernel
theorem dX7_putStop_0 : decode cX7_putStop 0 = .ok (.aload_n 0, 1) := by decide +kernel
theorem dX7_putStop_1 : decode cX7_putStop 1 = .ok (.aload_n 0, 1) := by decide +kernel
theorem dX7_putStop_2 : decode cX7_putStop 2 = .ok (.iload_n 1, 1) := by decide +kernel
theorem dX7_putStop_3 : decode cX7_putStop 3 = .ok (.invokevirtual 81, 3) := by decide +kernel
theorem dX7_putStop_6 : decode cX7_putStop 6 = .ok (.new 116, 3) := by decide +kernel
theorem dX7_putStop_9 : decode cX7_putStop 9 = .ok (.dup, 1) := by decide +kernel
theorem dX7_putStop_10 : decode cX7_putStop 10 = .ok (.getstatic 145, 3) := by decide +kernel
theorem dX7_putStop_13 : decode cX7_putStop 13 = .ok (.iconst 0, 1) := by decide +kernel
theorem dX7_putStop_14 : decode cX7_putStop 14 = .ok (.iconst 0, 1) := by decide +kernel
theorem dX7_putStop_15 : decode cX7_putStop 15 = .ok (.invokespecial 124, 3) := by decide +kernel
theorem dX7_putStop_18 : decode cX7_putStop 18 = .ok (.invokevirtual 127, 3) := by decide +kernel
theorem dX7_putStop_21 : decode cX7_putStop 21 = .ok (.ireturn, 1) := by decide +kernel
theorem dX7_clearBody_0 : decode cX7_clearBody 0 = .ok (.aload_n 0, 1) := by decide +kernel
theorem dX7_clearBody_1 : decode cX7_clearBody 1 = .ok (.iload_n 1, 1) := by decide +kernel
theorem dX7_clearBody_2 : decode cX7_clearBody 2 = .ok (.invokevirtual 81, 3) := by decide +kernel
theorem dX7_clearBody_5 : decode cX7_clearBody 5 = .ok (.astore_n 2, 1) := by decide +kernel
theorem dX7_clearBody_6 : decode cX7_clearBody 6 = .ok (.aload_n 2, 1) := by decide +kernel
theorem dX7_clearBody_7 : decode cX7_clearBody 7 = .ok (.getfield 148, 3) := by decide +kernel
theorem dX7_clearBody_10 : decode cX7_clearBody 10 = .ok (.invokevirtual 61, 3) := by decide +kernel
theorem dX7_clearBody_13 : decode cX7_clearBody 13 = .ok (.istore_n 3, 1) := by decide +kernel
theorem dX7_clearBody_14 : decode cX7_clearBody 14 = .ok (.aload_n 2, 1) := by decide +kernel
theorem dX7_clearBody_15 : decode cX7_clearBody 15 = .ok (.getfield 148, 3) := by decide +kernel
theorem dX7_clearBody_18 : decode cX7_clearBody 18 = .ok (.invokevirtual 151, 3) := by decide +kernel
theorem dX7_clearBody_21 : decode cX7_clearBody 21 = .ok (.aload_n 0, 1) := by decide +kernel
theorem dX7_clearBody_22 : decode cX7_clearBody 22 = .ok (.invokevirtual 154, 3) := by decide +kernel
theorem dX7_clearBody_25 : decode cX7_clearBody 25 = .ok (.iload_n 3, 1) := by decide +kernel
theorem dX7_clearBody_26 : decode cX7_clearBody 26 = .ok (.ireturn, 1) := by decide +kernel
theorem dX7_choose_0 : decode cX7_choose 0 = .ok (.aload_n 0, 1) := by decide +kernel
theorem dX7_choose_1 : decode cX7_choose 1 = .ok (.iload_n 1, 1) := by decide +kernel
theorem dX7_choose_2 : decode cX7_choose 2 = .ok (.invokevirtual 81, 3) := by decide +kernel
theorem dX7_choose_5 : decode cX7_choose 5 = .ok (.astore_n 3, 1) := by decide +kernel
theorem dX7_choose_6 : decode cX7_choose 6 = .ok (.aload_n 3, 1) := by decide +kernel
theorem dX7_choose_7 : decode cX7_choose 7 = .ok (.getfield 157, 3) := by decide +kernel
theorem dX7_choose_10 : decode cX7_choose 10 = .ok (.istore 4, 2) := by decide +kernel
theorem dX7_choose_12 : decode cX7_choose 12 = .ok (.aload_n 3, 1) := by decide +kernel
theorem dX7_choose_13 : decode cX7_choose 13 = .ok (.iload_n 2, 1) := by decide +kernel
theorem dX7_choose_14 : decode cX7_choose 14 = .ok (.putfield 157, 3) := by decide +kernel
theorem dX7_choose_17 : decode cX7_choose 17 = .ok (.iload 4, 2) := by decide +kernel
theorem dX7_choose_19 : decode cX7_choose 19 = .ok (.ireturn, 1) := by decide +kernel
theorem dX7_setToday_0 : decode cX7_setToday 0 = .ok (.iload_n 1, 1) := by decide +kernel
theorem dX7_setToday_1 : decode cX7_setToday 1 = .ok (.bipush 99, 2) := by decide +kernel
theorem dX7_setToday_3 : decode cX7_setToday 3 = .ok (.if_icmp .lt 10, 3) := by decide +kernel
theorem dX7_setToday_6 : decode cX7_setToday 6 = .ok (.iload_n 1, 1) := by decide +kernel
theorem dX7_setToday_7 : decode cX7_setToday 7 = .ok (.sipush 9999, 3) := by decide +kernel
theorem dX7_setToday_10 : decode cX7_setToday 10 = .ok (.if_icmp .le 13, 3) := by decide +kernel
theorem dX7_setToday_13 : decode cX7_setToday 13 = .ok (.new 135, 3) := by decide +kernel
theorem dX7_setToday_16 : decode cX7_setToday 16 = .ok (.dup, 1) := by decide +kernel
theorem dX7_setToday_17 : decode cX7_setToday 17 = .ok (.ldc 160, 2) := by decide +kernel
theorem dX7_setToday_19 : decode cX7_setToday 19 = .ok (.invokespecial 139, 3) := by decide +kernel
theorem dX7_setToday_22 : decode cX7_setToday 22 = .ok (.athrow, 1) := by decide +kernel
theorem dX7_setToday_23 : decode cX7_setToday 23 = .ok (.aload_n 0, 1) := by decide +kernel
theorem dX7_setToday_24 : decode cX7_setToday 24 = .ok (.getfield 40, 3) := by decide +kernel
theorem dX7_setToday_27 : decode cX7_setToday 27 = .ok (.istore_n 2, 1) := by decide +kernel
theorem dX7_setToday_28 : decode cX7_setToday 28 = .ok (.aload_n 0, 1) := by decide +kernel
theorem dX7_setToday_29 : decode cX7_setToday 29 = .ok (.iload_n 1, 1) := by decide +kernel
theorem dX7_setToday_30 : decode cX7_setToday 30 = .ok (.putfield 40, 3) := by decide +kernel
theorem dX7_setToday_33 : decode cX7_setToday 33 = .ok (.iload_n 2, 1) := by decide +kernel
theorem dX7_setToday_34 : decode cX7_setToday 34 = .ok (.ireturn, 1) := by decide +kernel
theorem dX7_lengthOf_0 : decode cX7_lengthOf 0 = .ok (.aload_n 0, 1) := by decide +kernel
theorem dX7_lengthOf_1 : decode cX7_lengthOf 1 = .ok (.aload_n 0, 1) := by decide +kernel
theorem dX7_lengthOf_2 : decode cX7_lengthOf 2 = .ok (.iload_n 1, 1) := by decide +kernel
theorem dX7_lengthOf_3 : decode cX7_lengthOf 3 = .ok (.invokevirtual 81, 3) := by decide +kernel
theorem dX7_lengthOf_6 : decode cX7_lengthOf 6 = .ok (.invokevirtual 162, 3) := by decide +kernel
theorem dX7_lengthOf_9 : decode cX7_lengthOf 9 = .ok (.aload_n 0, 1) := by decide +kernel
theorem dX7_lengthOf_10 : decode cX7_lengthOf 10 = .ok (.getfield 26, 3) := by decide +kernel
theorem dX7_lengthOf_13 : decode cX7_lengthOf 13 = .ok (.getfield 166, 3) := by decide +kernel
theorem dX7_lengthOf_16 : decode cX7_lengthOf 16 = .ok (.invokevirtual 107, 3) := by decide +kernel
theorem dX7_lengthOf_19 : decode cX7_lengthOf 19 = .ok (.ireturn, 1) := by decide +kernel
theorem dX7_characterOf_0 : decode cX7_characterOf 0 = .ok (.aload_n 0, 1) := by decide +kernel
theorem dX7_characterOf_1 : decode cX7_characterOf 1 = .ok (.aload_n 0, 1) := by decide +kernel
theorem dX7_characterOf_2 : decode cX7_characterOf 2 = .ok (.iload_n 1, 1) := by decide +kernel
theorem dX7_characterOf_3 : decode cX7_characterOf 3 = .ok (.invokevirtual 81, 3) := by decide +kernel
theorem dX7_characterOf_6 : decode cX7_characterOf 6 = .ok (.invokevirtual 162, 3) := by decide +kernel
theorem dX7_characterOf_9 : decode cX7_characterOf 9 = .ok (.aload_n 0, 1) := by decide +kernel
theorem dX7_characterOf_10 : decode cX7_characterOf 10 = .ok (.getfield 26, 3) := by decide +kernel
theorem dX7_characterOf_13 : decode cX7_characterOf 13 = .ok (.getfield 166, 3) := by decide +kernel
theorem dX7_characterOf_16 : decode cX7_characterOf 16 = .ok (.iload_n 2, 1) := by decide +kernel
theorem dX7_characterOf_17 : decode cX7_characterOf 17 = .ok (.invokevirtual 169, 3) := by decide +kernel
theorem dX7_characterOf_20 : decode cX7_characterOf 20 = .ok (.ifCond .ne 13, 3) := by decide +kernel
theorem dX7_characterOf_23 : decode cX7_characterOf 23 = .ok (.new 173, 3) := by decide +kernel
theorem dX7_characterOf_26 : decode cX7_characterOf 26 = .ok (.dup, 1) := by decide +kernel
theorem dX7_characterOf_27 : decode cX7_characterOf 27 = .ok (.ldc 175, 2) := by decide +kernel
theorem dX7_characterOf_29 : decode cX7_characterOf 29 = .ok (.invokespecial 177, 3) := by decide +kernel
theorem dX7_characterOf_32 : decode cX7_characterOf 32 = .ok (.athrow, 1) := by decide +kernel
theorem dX7_characterOf_33 : decode cX7_characterOf 33 = .ok (.aload_n 0, 1) := by decide +kernel
theorem dX7_characterOf_34 : decode cX7_characterOf 34 = .ok (.getfield 26, 3) := by decide +kernel
theorem dX7_characterOf_37 : decode cX7_characterOf 37 = .ok (.getfield 166, 3) := by decide +kernel
theorem dX7_characterOf_40 : decode cX7_characterOf 40 = .ok (.iload_n 2, 1) := by decide +kernel
theorem dX7_characterOf_41 : decode cX7_characterOf 41 = .ok (.invokevirtual 178, 3) := by decide +kernel
theorem dX7_characterOf_44 : decode cX7_characterOf 44 = .ok (.i2c, 1) := by decide +kernel
theorem dX7_characterOf_45 : decode cX7_characterOf 45 = .ok (.ireturn, 1) := by decide +kernel
theorem dX7_stopsOf_0 : decode cX7_stopsOf 0 = .ok (.aload_n 0, 1) := by decide +kernel
theorem dX7_stopsOf_1 : decode cX7_stopsOf 1 = .ok (.aload_n 0, 1) := by decide +kernel
theorem dX7_stopsOf_2 : decode cX7_stopsOf 2 = .ok (.iload_n 1, 1) := by decide +kernel
theorem dX7_stopsOf_3 : decode cX7_stopsOf 3 = .ok (.invokevirtual 81, 3) := by decide +kernel
theorem dX7_stopsOf_6 : decode cX7_stopsOf 6 = .ok (.invokevirtual 162, 3) := by decide +kernel
theorem dX7_stopsOf_9 : decode cX7_stopsOf 9 = .ok (.aload_n 0, 1) := by decide +kernel
theorem dX7_stopsOf_10 : decode cX7_stopsOf 10 = .ok (.getfield 26, 3) := by decide +kernel
theorem dX7_stopsOf_13 : decode cX7_stopsOf 13 = .ok (.getfield 182, 3) := by decide +kernel
theorem dX7_stopsOf_16 : decode cX7_stopsOf 16 = .ok (.invokevirtual 107, 3) := by decide +kernel
theorem dX7_stopsOf_19 : decode cX7_stopsOf 19 = .ok (.ireturn, 1) := by decide +kernel
theorem dX7_stopOf_0 : decode cX7_stopOf 0 = .ok (.aload_n 0, 1) := by decide +kernel
theorem dX7_stopOf_1 : decode cX7_stopOf 1 = .ok (.aload_n 0, 1) := by decide +kernel
theorem dX7_stopOf_2 : decode cX7_stopOf 2 = .ok (.iload_n 1, 1) := by decide +kernel
theorem dX7_stopOf_3 : decode cX7_stopOf 3 = .ok (.invokevirtual 81, 3) := by decide +kernel
theorem dX7_stopOf_6 : decode cX7_stopOf 6 = .ok (.invokevirtual 162, 3) := by decide +kernel
theorem dX7_stopOf_9 : decode cX7_stopOf 9 = .ok (.aload_n 0, 1) := by decide +kernel
theorem dX7_stopOf_10 : decode cX7_stopOf 10 = .ok (.getfield 26, 3) := by decide +kernel
theorem dX7_stopOf_13 : decode cX7_stopOf 13 = .ok (.getfield 182, 3) := by decide +kernel
theorem dX7_stopOf_16 : decode cX7_stopOf 16 = .ok (.iload_n 2, 1) := by decide +kernel
theorem dX7_stopOf_17 : decode cX7_stopOf 17 = .ok (.invokevirtual 169, 3) := by decide +kernel
theorem dX7_stopOf_20 : decode cX7_stopOf 20 = .ok (.ifCond .ne 13, 3) := by decide +kernel
theorem dX7_stopOf_23 : decode cX7_stopOf 23 = .ok (.new 173, 3) := by decide +kernel
theorem dX7_stopOf_26 : decode cX7_stopOf 26 = .ok (.dup, 1) := by decide +kernel
theorem dX7_stopOf_27 : decode cX7_stopOf 27 = .ok (.ldc 185, 2) := by decide +kernel
theorem dX7_stopOf_29 : decode cX7_stopOf 29 = .ok (.invokespecial 177, 3) := by decide +kernel
theorem dX7_stopOf_32 : decode cX7_stopOf 32 = .ok (.athrow, 1) := by decide +kernel
theorem dX7_stopOf_33 : decode cX7_stopOf 33 = .ok (.aload_n 0, 1) := by decide +kernel
theorem dX7_stopOf_34 : decode cX7_stopOf 34 = .ok (.getfield 26, 3) := by decide +kernel
theorem dX7_stopOf_37 : decode cX7_stopOf 37 = .ok (.getfield 182, 3) := by decide +kernel
theorem dX7_stopOf_40 : decode cX7_stopOf 40 = .ok (.iload_n 2, 1) := by decide +kernel
theorem dX7_stopOf_41 : decode cX7_stopOf 41 = .ok (.invokevirtual 178, 3) := by decide +kernel
theorem dX7_stopOf_44 : decode cX7_stopOf 44 = .ok (.ireturn, 1) := by decide +kernel
theorem dX7_comesTo_0 : decode cX7_comesTo 0 = .ok (.aload_n 0, 1) := by decide +kernel
theorem dX7_comesTo_1 : decode cX7_comesTo 1 = .ok (.iload_n 1, 1) := by decide +kernel
theorem dX7_comesTo_2 : decode cX7_comesTo 2 = .ok (.invokevirtual 81, 3) := by decide +kernel
theorem dX7_comesTo_5 : decode cX7_comesTo 5 = .ok (.astore_n 3, 1) := by decide +kernel
theorem dX7_comesTo_6 : decode cX7_comesTo 6 = .ok (.aload_n 0, 1) := by decide +kernel
theorem dX7_comesTo_7 : decode cX7_comesTo 7 = .ok (.iload_n 2, 1) := by decide +kernel
theorem dX7_comesTo_8 : decode cX7_comesTo 8 = .ok (.invokevirtual 187, 3) := by decide +kernel
theorem dX7_comesTo_11 : decode cX7_comesTo 11 = .ok (.aload_n 3, 1) := by decide +kernel
theorem dX7_comesTo_12 : decode cX7_comesTo 12 = .ok (.iload_n 2, 1) := by decide +kernel
theorem dX7_comesTo_13 : decode cX7_comesTo 13 = .ok (.invokevirtual 190, 3) := by decide +kernel
theorem dX7_comesTo_16 : decode cX7_comesTo 16 = .ok (.ireturn, 1) := by decide +kernel
theorem dX7_depth_0 : decode cX7_depth 0 = .ok (.aload_n 0, 1) := by decide +kernel
theorem dX7_depth_1 : decode cX7_depth 1 = .ok (.iload_n 1, 1) := by decide +kernel
theorem dX7_depth_2 : decode cX7_depth 2 = .ok (.invokevirtual 81, 3) := by decide +kernel
theorem dX7_depth_5 : decode cX7_depth 5 = .ok (.getfield 193, 3) := by decide +kernel
theorem dX7_depth_8 : decode cX7_depth 8 = .ok (.ireturn, 1) := by decide +kernel
theorem dX7_isShadowedBy_0 : decode cX7_isShadowedBy 0 = .ok (.aload_n 0, 1) := by decide +kernel
theorem dX7_isShadowedBy_1 : decode cX7_isShadowedBy 1 = .ok (.iload_n 1, 1) := by decide +kernel
theorem dX7_isShadowedBy_2 : decode cX7_isShadowedBy 2 = .ok (.iload_n 2, 1) := by decide +kernel
theorem dX7_isShadowedBy_3 : decode cX7_isShadowedBy 3 = .ok (.invokevirtual 196, 3) := by decide +kernel
theorem dX7_isShadowedBy_6 : decode cX7_isShadowedBy 6 = .ok (.ireturn, 1) := by decide +kernel
theorem dX7_shadower_0 : decode cX7_shadower 0 = .ok (.aload_n 0, 1) := by decide +kernel
theorem dX7_shadower_1 : decode cX7_shadower 1 = .ok (.iload_n 1, 1) := by decide +kernel
theorem dX7_shadower_2 : decode cX7_shadower 2 = .ok (.invokevirtual 187, 3) := by decide +kernel
theorem dX7_shadower_5 : decode cX7_shadower 5 = .ok (.aload_n 0, 1) := by decide +kernel
theorem dX7_shadower_6 : decode cX7_shadower 6 = .ok (.iload_n 1, 1) := by decide +kernel
theorem dX7_shadower_7 : decode cX7_shadower 7 = .ok (.invokevirtual 200, 3) := by decide +kernel
theorem dX7_shadower_10 : decode cX7_shadower 10 = .ok (.istore_n 2, 1) := by decide +kernel
theorem dX7_shadower_11 : decode cX7_shadower 11 = .ok (.iload_n 2, 1) := by decide +kernel
theorem dX7_shadower_12 : decode cX7_shadower 12 = .ok (.iconst (-1), 1) := by decide +kernel
theorem dX7_shadower_13 : decode cX7_shadower 13 = .ok (.if_icmp .ne 13, 3) := by decide +kernel
theorem dX7_shadower_16 : decode cX7_shadower 16 = .ok (.new 173, 3) := by decide +kernel
theorem dX7_shadower_19 : decode cX7_shadower 19 = .ok (.dup, 1) := by decide +kernel
theorem dX7_shadower_20 : decode cX7_shadower 20 = .ok (.ldc 203, 2) := by decide +kernel
theorem dX7_shadower_22 : decode cX7_shadower 22 = .ok (.invokespecial 177, 3) := by decide +kernel
theorem dX7_shadower_25 : decode cX7_shadower 25 = .ok (.athrow, 1) := by decide +kernel
theorem dX7_shadower_26 : decode cX7_shadower 26 = .ok (.iload_n 2, 1) := by decide +kernel
theorem dX7_shadower_27 : decode cX7_shadower 27 = .ok (.ireturn, 1) := by decide +kernel
theorem dX7_clashes_0 : decode cX7_clashes 0 = .ok (.iconst 0, 1) := by decide +kernel
theorem dX7_clashes_1 : decode cX7_clashes 1 = .ok (.istore_n 1, 1) := by decide +kernel
theorem dX7_clashes_2 : decode cX7_clashes 2 = .ok (.iconst 0, 1) := by decide +kernel
theorem dX7_clashes_3 : decode cX7_clashes 3 = .ok (.istore_n 2, 1) := by decide +kernel
theorem dX7_clashes_4 : decode cX7_clashes 4 = .ok (.iload_n 2, 1) := by decide +kernel
theorem dX7_clashes_5 : decode cX7_clashes 5 = .ok (.aload_n 0, 1) := by decide +kernel
theorem dX7_clashes_6 : decode cX7_clashes 6 = .ok (.getfield 12, 3) := by decide +kernel
theorem dX7_clashes_9 : decode cX7_clashes 9 = .ok (.invokevirtual 61, 3) := by decide +kernel
theorem dX7_clashes_12 : decode cX7_clashes 12 = .ok (.if_icmp .ge 21, 3) := by decide +kernel
theorem dX7_clashes_15 : decode cX7_clashes 15 = .ok (.aload_n 0, 1) := by decide +kernel
theorem dX7_clashes_16 : decode cX7_clashes 16 = .ok (.iload_n 2, 1) := by decide +kernel
theorem dX7_clashes_17 : decode cX7_clashes 17 = .ok (.invokevirtual 200, 3) := by decide +kernel
theorem dX7_clashes_20 : decode cX7_clashes 20 = .ok (.iconst (-1), 1) := by decide +kernel
theorem dX7_clashes_21 : decode cX7_clashes 21 = .ok (.if_icmp .eq 6, 3) := by decide +kernel
theorem dX7_clashes_24 : decode cX7_clashes 24 = .ok (.iinc 1 1, 3) := by decide +kernel
theorem dX7_clashes_27 : decode cX7_clashes 27 = .ok (.iinc 2 1, 3) := by decide +kernel
theorem dX7_clashes_30 : decode cX7_clashes 30 = .ok (.goto (-26), 3) := by decide +kernel
theorem dX7_clashes_33 : decode cX7_clashes 33 = .ok (.iload_n 1, 1) := by decide +kernel
theorem dX7_clashes_34 : decode cX7_clashes 34 = .ok (.ireturn, 1) := by decide +kernel
theorem dX7_key_0 : decode cX7_key 0 = .ok (.iload_n 1, 1) := by decide +kernel
theorem dX7_key_1 : decode cX7_key 1 = .ok (.invokestatic 85, 3) := by decide +kernel
theorem dX7_key_4 : decode cX7_key 4 = .ok (.aload_n 0, 1) := by decide +kernel
theorem dX7_key_5 : decode cX7_key 5 = .ok (.getfield 33, 3) := by decide +kernel
theorem dX7_key_8 : decode cX7_key 8 = .ok (.getfield 205, 3) := by decide +kernel
theorem dX7_key_11 : decode cX7_key 11 = .ok (.invokevirtual 93, 3) := by decide +kernel
theorem dX7_key_14 : decode cX7_key 14 = .ok (.ifCond .eq 13, 3) := by decide +kernel
theorem dX7_key_17 : decode cX7_key 17 = .ok (.new 65, 3) := by decide +kernel
theorem dX7_key_20 : decode cX7_key 20 = .ok (.dup, 1) := by decide +kernel
theorem dX7_key_21 : decode cX7_key 21 = .ok (.ldc 206, 2) := by decide +kernel
theorem dX7_key_23 : decode cX7_key 23 = .ok (.invokespecial 69, 3) := by decide +kernel
theorem dX7_key_26 : decode cX7_key 26 = .ok (.athrow, 1) := by decide +kernel
theorem dX7_key_27 : decode cX7_key 27 = .ok (.aload_n 0, 1) := by decide +kernel
theorem dX7_key_28 : decode cX7_key 28 = .ok (.iconst 0, 1) := by decide +kernel
theorem dX7_key_29 : decode cX7_key 29 = .ok (.putfield 44, 3) := by decide +kernel
theorem dX7_key_32 : decode cX7_key 32 = .ok (.aload_n 0, 1) := by decide +kernel
theorem dX7_key_33 : decode cX7_key 33 = .ok (.getfield 33, 3) := by decide +kernel
theorem dX7_key_36 : decode cX7_key 36 = .ok (.iload_n 1, 1) := by decide +kernel
theorem dX7_key_37 : decode cX7_key 37 = .ok (.invokevirtual 208, 3) := by decide +kernel
theorem dX7_key_40 : decode cX7_key 40 = .ok (.aload_n 0, 1) := by decide +kernel
theorem dX7_key_41 : decode cX7_key 41 = .ok (.invokevirtual 211, 3) := by decide +kernel
theorem dX7_key_44 : decode cX7_key 44 = .ok (.istore_n 2, 1) := by decide +kernel
theorem dX7_key_45 : decode cX7_key 45 = .ok (.iload_n 2, 1) := by decide +kernel
theorem dX7_key_46 : decode cX7_key 46 = .ok (.iconst (-1), 1) := by decide +kernel
theorem dX7_key_47 : decode cX7_key 47 = .ok (.if_icmp .ne 5, 3) := by decide +kernel
theorem dX7_key_50 : decode cX7_key 50 = .ok (.iconst (-1), 1) := by decide +kernel
theorem dX7_key_51 : decode cX7_key 51 = .ok (.ireturn, 1) := by decide +kernel
theorem dX7_key_52 : decode cX7_key 52 = .ok (.aload_n 0, 1) := by decide +kernel
theorem dX7_key_53 : decode cX7_key 53 = .ok (.aload_n 0, 1) := by decide +kernel
theorem dX7_key_54 : decode cX7_key 54 = .ok (.iload_n 2, 1) := by decide +kernel
theorem dX7_key_55 : decode cX7_key 55 = .ok (.invokevirtual 81, 3) := by decide +kernel
theorem dX7_key_58 : decode cX7_key 58 = .ok (.invokevirtual 214, 3) := by decide +kernel
theorem dX7_key_61 : decode cX7_key 61 = .ok (.ifCond .eq 7, 3) := by decide +kernel
theorem dX7_key_64 : decode cX7_key 64 = .ok (.iload_n 2, 1) := by decide +kernel
theorem dX7_key_65 : decode cX7_key 65 = .ok (.goto 4, 3) := by decide +kernel
theorem dX7_key_68 : decode cX7_key 68 = .ok (.iconst (-1), 1) := by decide +kernel
theorem dX7_key_69 : decode cX7_key 69 = .ok (.ireturn, 1) := by decide +kernel
theorem dX7_erase_0 : decode cX7_erase 0 = .ok (.aload_n 0, 1) := by decide +kernel
theorem dX7_erase_1 : decode cX7_erase 1 = .ok (.getfield 33, 3) := by decide +kernel
theorem dX7_erase_4 : decode cX7_erase 4 = .ok (.getfield 218, 3) := by decide +kernel
theorem dX7_erase_7 : decode cX7_erase 7 = .ok (.ifCond .gt 13, 3) := by decide +kernel
theorem dX7_erase_10 : decode cX7_erase 10 = .ok (.new 173, 3) := by decide +kernel
theorem dX7_erase_13 : decode cX7_erase 13 = .ok (.dup, 1) := by decide +kernel
theorem dX7_erase_14 : decode cX7_erase 14 = .ok (.ldc 221, 2) := by decide +kernel
theorem dX7_erase_16 : decode cX7_erase 16 = .ok (.invokespecial 177, 3) := by decide +kernel
theorem dX7_erase_19 : decode cX7_erase 19 = .ok (.athrow, 1) := by decide +kernel
theorem dX7_erase_20 : decode cX7_erase 20 = .ok (.aload_n 0, 1) := by decide +kernel
theorem dX7_erase_21 : decode cX7_erase 21 = .ok (.iconst 0, 1) := by decide +kernel
theorem dX7_erase_22 : decode cX7_erase 22 = .ok (.putfield 44, 3) := by decide +kernel
theorem dX7_erase_25 : decode cX7_erase 25 = .ok (.aload_n 0, 1) := by decide +kernel
theorem dX7_erase_26 : decode cX7_erase 26 = .ok (.getfield 33, 3) := by decide +kernel
theorem dX7_erase_29 : decode cX7_erase 29 = .ok (.invokevirtual 223, 3) := by decide +kernel
theorem dX7_erase_32 : decode cX7_erase 32 = .ok (.i2c, 1) := by decide +kernel
theorem dX7_erase_33 : decode cX7_erase 33 = .ok (.ireturn, 1) := by decide +kernel
theorem dX7_moveCaret_0 : decode cX7_moveCaret 0 = .ok (.iload_n 1, 1) := by decide +kernel
theorem dX7_moveCaret_1 : decode cX7_moveCaret 1 = .ok (.aload_n 0, 1) := by decide +kernel
theorem dX7_moveCaret_2 : decode cX7_moveCaret 2 = .ok (.getfield 33, 3) := by decide +kernel
theorem dX7_moveCaret_5 : decode cX7_moveCaret 5 = .ok (.getfield 218, 3) := by decide +kernel
theorem dX7_moveCaret_8 : decode cX7_moveCaret 8 = .ok (.ineg, 1) := by decide +kernel
theorem dX7_moveCaret_9 : decode cX7_moveCaret 9 = .ok (.if_icmp .lt 25, 3) := by decide +kernel
theorem dX7_moveCaret_12 : decode cX7_moveCaret 12 = .ok (.iload_n 1, 1) := by decide +kernel
theorem dX7_moveCaret_13 : decode cX7_moveCaret 13 = .ok (.aload_n 0, 1) := by decide +kernel
theorem dX7_moveCaret_14 : decode cX7_moveCaret 14 = .ok (.getfield 33, 3) := by decide +kernel
theorem dX7_moveCaret_17 : decode cX7_moveCaret 17 = .ok (.getfield 205, 3) := by decide +kernel
theorem dX7_moveCaret_20 : decode cX7_moveCaret 20 = .ok (.invokevirtual 107, 3) := by decide +kernel
theorem dX7_moveCaret_23 : decode cX7_moveCaret 23 = .ok (.aload_n 0, 1) := by decide +kernel
theorem dX7_moveCaret_24 : decode cX7_moveCaret 24 = .ok (.getfield 33, 3) := by decide +kernel
theorem dX7_moveCaret_27 : decode cX7_moveCaret 27 = .ok (.getfield 218, 3) := by decide +kernel
theorem dX7_moveCaret_30 : decode cX7_moveCaret 30 = .ok (.isub, 1) := by decide +kernel
theorem dX7_moveCaret_31 : decode cX7_moveCaret 31 = .ok (.if_icmp .le 13, 3) := by decide +kernel
theorem dX7_moveCaret_34 : decode cX7_moveCaret 34 = .ok (.new 135, 3) := by decide +kernel
theorem dX7_moveCaret_37 : decode cX7_moveCaret 37 = .ok (.dup, 1) := by decide +kernel
theorem dX7_moveCaret_38 : decode cX7_moveCaret 38 = .ok (.ldc 226, 2) := by decide +kernel
theorem dX7_moveCaret_40 : decode cX7_moveCaret 40 = .ok (.invokespecial 139, 3) := by decide +kernel
theorem dX7_moveCaret_43 : decode cX7_moveCaret 43 = .ok (.athrow, 1) := by decide +kernel
theorem dX7_moveCaret_44 : decode cX7_moveCaret 44 = .ok (.aload_n 0, 1) := by decide +kernel
theorem dX7_moveCaret_45 : decode cX7_moveCaret 45 = .ok (.iconst 0, 1) := by decide +kernel
theorem dX7_moveCaret_46 : decode cX7_moveCaret 46 = .ok (.putfield 44, 3) := by decide +kernel
theorem dX7_moveCaret_49 : decode cX7_moveCaret 49 = .ok (.aload_n 0, 1) := by decide +kernel
theorem dX7_moveCaret_50 : decode cX7_moveCaret 50 = .ok (.getfield 33, 3) := by decide +kernel
theorem dX7_moveCaret_53 : decode cX7_moveCaret 53 = .ok (.dup, 1) := by decide +kernel
theorem dX7_moveCaret_54 : decode cX7_moveCaret 54 = .ok (.getfield 218, 3) := by decide +kernel
theorem dX7_moveCaret_57 : decode cX7_moveCaret 57 = .ok (.iload_n 1, 1) := by decide +kernel
theorem dX7_moveCaret_58 : decode cX7_moveCaret 58 = .ok (.iadd, 1) := by decide +kernel
theorem dX7_moveCaret_59 : decode cX7_moveCaret 59 = .ok (.putfield 218, 3) := by decide +kernel
theorem dX7_moveCaret_62 : decode cX7_moveCaret 62 = .ok (.aload_n 0, 1) := by decide +kernel
theorem dX7_moveCaret_63 : decode cX7_moveCaret 63 = .ok (.getfield 33, 3) := by decide +kernel
theorem dX7_moveCaret_66 : decode cX7_moveCaret 66 = .ok (.getfield 218, 3) := by decide +kernel
theorem dX7_moveCaret_69 : decode cX7_moveCaret 69 = .ok (.ireturn, 1) := by decide +kernel
theorem dX7_nextStop_0 : decode cX7_nextStop 0 = .ok (.aload_n 0, 1) := by decide +kernel
theorem dX7_nextStop_1 : decode cX7_nextStop 1 = .ok (.getfield 33, 3) := by decide +kernel
theorem dX7_nextStop_4 : decode cX7_nextStop 4 = .ok (.getfield 228, 3) := by decide +kernel
theorem dX7_nextStop_7 : decode cX7_nextStop 7 = .ok (.iconst 0, 1) := by decide +kernel
theorem dX7_nextStop_8 : decode cX7_nextStop 8 = .ok (.invokevirtual 169, 3) := by decide +kernel
theorem dX7_nextStop_11 : decode cX7_nextStop 11 = .ok (.ifCond .ne 13, 3) := by decide +kernel
theorem dX7_nextStop_14 : decode cX7_nextStop 14 = .ok (.new 173, 3) := by decide +kernel
theorem dX7_nextStop_17 : decode cX7_nextStop 17 = .ok (.dup, 1) := by decide +kernel
theorem dX7_nextStop_18 : decode cX7_nextStop 18 = .ok (.ldc 229, 2) := by decide +kernel
theorem dX7_nextStop_20 : decode cX7_nextStop 20 = .ok (.invokespecial 177, 3) := by decide +kernel
theorem dX7_nextStop_23 : decode cX7_nextStop 23 = .ok (.athrow, 1) := by decide +kernel
theorem dX7_nextStop_24 : decode cX7_nextStop 24 = .ok (.aload_n 0, 1) := by decide +kernel
theorem dX7_nextStop_25 : decode cX7_nextStop 25 = .ok (.iconst 0, 1) := by decide +kernel
theorem dX7_nextStop_26 : decode cX7_nextStop 26 = .ok (.putfield 44, 3) := by decide +kernel
theorem dX7_nextStop_29 : decode cX7_nextStop 29 = .ok (.aload_n 0, 1) := by decide +kernel
theorem dX7_nextStop_30 : decode cX7_nextStop 30 = .ok (.getfield 33, 3) := by decide +kernel
theorem dX7_nextStop_33 : decode cX7_nextStop 33 = .ok (.aload_n 0, 1) := by decide +kernel
theorem dX7_nextStop_34 : decode cX7_nextStop 34 = .ok (.getfield 33, 3) := by decide +kernel
theorem dX7_nextStop_37 : decode cX7_nextStop 37 = .ok (.getfield 228, 3) := by decide +kernel
theorem dX7_nextStop_40 : decode cX7_nextStop 40 = .ok (.iconst 0, 1) := by decide +kernel
theorem dX7_nextStop_41 : decode cX7_nextStop 41 = .ok (.invokevirtual 231, 3) := by decide +kernel
theorem dX7_nextStop_44 : decode cX7_nextStop 44 = .ok (.putfield 218, 3) := by decide +kernel
theorem dX7_nextStop_47 : decode cX7_nextStop 47 = .ok (.aload_n 0, 1) := by decide +kernel
theorem dX7_nextStop_48 : decode cX7_nextStop 48 = .ok (.getfield 33, 3) := by decide +kernel
theorem dX7_nextStop_51 : decode cX7_nextStop 51 = .ok (.getfield 218, 3) := by decide +kernel
theorem dX7_nextStop_54 : decode cX7_nextStop 54 = .ok (.ireturn, 1) := by decide +kernel
theorem dX7_undo_0 : decode cX7_undo 0 = .ok (.aload_n 0, 1) := by decide +kernel
theorem dX7_undo_1 : decode cX7_undo 1 = .ok (.getfield 44, 3) := by decide +kernel
theorem dX7_undo_4 : decode cX7_undo 4 = .ok (.ifCond .ne 13, 3) := by decide +kernel
theorem dX7_undo_7 : decode cX7_undo 7 = .ok (.new 65, 3) := by decide +kernel
theorem dX7_undo_10 : decode cX7_undo 10 = .ok (.dup, 1) := by decide +kernel
theorem dX7_undo_11 : decode cX7_undo 11 = .ok (.ldc 234, 2) := by decide +kernel
theorem dX7_undo_13 : decode cX7_undo 13 = .ok (.invokespecial 69, 3) := by decide +kernel
theorem dX7_undo_16 : decode cX7_undo 16 = .ok (.athrow, 1) := by decide +kernel
theorem dX7_undo_17 : decode cX7_undo 17 = .ok (.aload_n 0, 1) := by decide +kernel
theorem dX7_undo_18 : decode cX7_undo 18 = .ok (.iconst 0, 1) := by decide +kernel
theorem dX7_undo_19 : decode cX7_undo 19 = .ok (.putfield 44, 3) := by decide +kernel
theorem dX7_undo_22 : decode cX7_undo 22 = .ok (.aload_n 0, 1) := by decide +kernel
theorem dX7_undo_23 : decode cX7_undo 23 = .ok (.getfield 33, 3) := by decide +kernel
theorem dX7_undo_26 : decode cX7_undo 26 = .ok (.aload_n 0, 1) := by decide +kernel
theorem dX7_undo_27 : decode cX7_undo 27 = .ok (.getfield 37, 3) := by decide +kernel
theorem dX7_undo_30 : decode cX7_undo 30 = .ok (.invokevirtual 236, 3) := by decide +kernel
theorem dX7_undo_33 : decode cX7_undo 33 = .ok (.aload_n 0, 1) := by decide +kernel
theorem dX7_undo_34 : decode cX7_undo 34 = .ok (.dup, 1) := by decide +kernel
theorem dX7_undo_35 : decode cX7_undo 35 = .ok (.getfield 51, 3) := by decide +kernel
theorem dX7_undo_38 : decode cX7_undo 38 = .ok (.aload_n 0, 1) := by decide +kernel
theorem dX7_undo_39 : decode cX7_undo 39 = .ok (.getfield 48, 3) := by decide +kernel
theorem dX7_undo_42 : decode cX7_undo 42 = .ok (.i2l, 1) := by decide +kernel
theorem dX7_undo_43 : decode cX7_undo 43 = .ok (.lsub, 1) := by decide +kernel
theorem dX7_undo_44 : decode cX7_undo 44 = .ok (.putfield 51, 3) := by decide +kernel
theorem dX7_undo_47 : decode cX7_undo 47 = .ok (.aload_n 0, 1) := by decide +kernel
theorem dX7_undo_48 : decode cX7_undo 48 = .ok (.dup, 1) := by decide +kernel
theorem dX7_undo_49 : decode cX7_undo 49 = .ok (.getfield 58, 3) := by decide +kernel
theorem dX7_undo_52 : decode cX7_undo 52 = .ok (.iconst 1, 1) := by decide +kernel
theorem dX7_undo_53 : decode cX7_undo 53 = .ok (.iadd, 1) := by decide +kernel
theorem dX7_undo_54 : decode cX7_undo 54 = .ok (.putfield 58, 3) := by decide +kernel
theorem dX7_undo_57 : decode cX7_undo 57 = .ok (.aload_n 0, 1) := by decide +kernel
theorem dX7_undo_58 : decode cX7_undo 58 = .ok (.getfield 33, 3) := by decide +kernel
theorem dX7_undo_61 : decode cX7_undo 61 = .ok (.getfield 205, 3) := by decide +kernel
theorem dX7_undo_64 : decode cX7_undo 64 = .ok (.invokevirtual 107, 3) := by decide +kernel
theorem dX7_undo_67 : decode cX7_undo 67 = .ok (.ireturn, 1) := by decide +kernel
theorem dX7_length_0 : decode cX7_length 0 = .ok (.aload_n 0, 1) := by decide +kernel
theorem dX7_length_1 : decode cX7_length 1 = .ok (.getfield 33, 3) := by decide +kernel
theorem dX7_length_4 : decode cX7_length 4 = .ok (.getfield 205, 3) := by decide +kernel
theorem dX7_length_7 : decode cX7_length 7 = .ok (.invokevirtual 107, 3) := by decide +kernel
theorem dX7_length_10 : decode cX7_length 10 = .ok (.ireturn, 1) := by decide +kernel
theorem dX7_characterAt_0 : decode cX7_characterAt 0 = .ok (.aload_n 0, 1) := by decide +kernel
theorem dX7_characterAt_1 : decode cX7_characterAt 1 = .ok (.getfield 33, 3) := by decide +kernel
theorem dX7_characterAt_4 : decode cX7_characterAt 4 = .ok (.getfield 205, 3) := by decide +kernel
theorem dX7_characterAt_7 : decode cX7_characterAt 7 = .ok (.iload_n 1, 1) := by decide +kernel
theorem dX7_characterAt_8 : decode cX7_characterAt 8 = .ok (.invokevirtual 169, 3) := by decide +kernel
theorem dX7_characterAt_11 : decode cX7_characterAt 11 = .ok (.ifCond .ne 13, 3) := by decide +kernel
theorem dX7_characterAt_14 : decode cX7_characterAt 14 = .ok (.new 240, 3) := by decide +kernel
theorem dX7_characterAt_17 : decode cX7_characterAt 17 = .ok (.dup, 1) := by decide +kernel
theorem dX7_characterAt_18 : decode cX7_characterAt 18 = .ok (.ldc 175, 2) := by decide +kernel
theorem dX7_characterAt_20 : decode cX7_characterAt 20 = .ok (.invokespecial 242, 3) := by decide +kernel
theorem dX7_characterAt_23 : decode cX7_characterAt 23 = .ok (.athrow, 1) := by decide +kernel
theorem dX7_characterAt_24 : decode cX7_characterAt 24 = .ok (.aload_n 0, 1) := by decide +kernel
theorem dX7_characterAt_25 : decode cX7_characterAt 25 = .ok (.getfield 33, 3) := by decide +kernel
theorem dX7_characterAt_28 : decode cX7_characterAt 28 = .ok (.getfield 205, 3) := by decide +kernel
theorem dX7_characterAt_31 : decode cX7_characterAt 31 = .ok (.iload_n 1, 1) := by decide +kernel
theorem dX7_characterAt_32 : decode cX7_characterAt 32 = .ok (.invokevirtual 178, 3) := by decide +kernel
theorem dX7_characterAt_35 : decode cX7_characterAt 35 = .ok (.i2c, 1) := by decide +kernel
theorem dX7_characterAt_36 : decode cX7_characterAt 36 = .ok (.ireturn, 1) := by decide +kernel
theorem dX7_caret_0 : decode cX7_caret 0 = .ok (.aload_n 0, 1) := by decide +kernel
theorem dX7_caret_1 : decode cX7_caret 1 = .ok (.getfield 33, 3) := by decide +kernel
theorem dX7_caret_4 : decode cX7_caret 4 = .ok (.getfield 218, 3) := by decide +kernel
theorem dX7_caret_7 : decode cX7_caret 7 = .ok (.ireturn, 1) := by decide +kernel
theorem dX7_stops_0 : decode cX7_stops 0 = .ok (.aload_n 0, 1) := by decide +kernel
theorem dX7_stops_1 : decode cX7_stops 1 = .ok (.getfield 33, 3) := by decide +kernel
theorem dX7_stops_4 : decode cX7_stops 4 = .ok (.getfield 228, 3) := by decide +kernel
theorem dX7_stops_7 : decode cX7_stops 7 = .ok (.invokevirtual 107, 3) := by decide +kernel
theorem dX7_stops_10 : decode cX7_stops 10 = .ok (.ireturn, 1) := by decide +kernel
theorem dX7_stopAt_0 : decode cX7_stopAt 0 = .ok (.aload_n 0, 1) := by decide +kernel
theorem dX7_stopAt_1 : decode cX7_stopAt 1 = .ok (.getfield 33, 3) := by decide +kernel
theorem dX7_stopAt_4 : decode cX7_stopAt 4 = .ok (.getfield 228, 3) := by decide +kernel
theorem dX7_stopAt_7 : decode cX7_stopAt 7 = .ok (.iload_n 1, 1) := by decide +kernel
theorem dX7_stopAt_8 : decode cX7_stopAt 8 = .ok (.invokevirtual 169, 3) := by decide +kernel
theorem dX7_stopAt_11 : decode cX7_stopAt 11 = .ok (.ifCond .ne 13, 3) := by decide +kernel
theorem dX7_stopAt_14 : decode cX7_stopAt 14 = .ok (.new 240, 3) := by decide +kernel
theorem dX7_stopAt_17 : decode cX7_stopAt 17 = .ok (.dup, 1) := by decide +kernel
theorem dX7_stopAt_18 : decode cX7_stopAt 18 = .ok (.ldc 185, 2) := by decide +kernel
theorem dX7_stopAt_20 : decode cX7_stopAt 20 = .ok (.invokespecial 242, 3) := by decide +kernel
theorem dX7_stopAt_23 : decode cX7_stopAt 23 = .ok (.athrow, 1) := by decide +kernel
theorem dX7_stopAt_24 : decode cX7_stopAt 24 = .ok (.aload_n 0, 1) := by decide +kernel
theorem dX7_stopAt_25 : decode cX7_stopAt 25 = .ok (.getfield 33, 3) := by decide +kernel
theorem dX7_stopAt_28 : decode cX7_stopAt 28 = .ok (.getfield 228, 3) := by decide +kernel
theorem dX7_stopAt_31 : decode cX7_stopAt 31 = .ok (.iload_n 1, 1) := by decide +kernel
theorem dX7_stopAt_32 : decode cX7_stopAt 32 = .ok (.invokevirtual 178, 3) := by decide +kernel
theorem dX7_stopAt_35 : decode cX7_stopAt 35 = .ok (.ireturn, 1) := by decide +kernel
theorem dX7_matching_0 : decode cX7_matching 0 = .ok (.aload_n 0, 1) := by decide +kernel
theorem dX7_matching_1 : decode cX7_matching 1 = .ok (.invokevirtual 211, 3) := by decide +kernel
theorem dX7_matching_4 : decode cX7_matching 4 = .ok (.ireturn, 1) := by decide +kernel
theorem dX7_matchingByLooking_0 : decode cX7_matchingByLooking 0 = .ok (.aload_n 0, 1) := by decide +kernel
theorem dX7_matchingByLooking_1 : decode cX7_matchingByLooking 1 = .ok (.invokevirtual 243, 3) := by decide +kernel
theorem dX7_matchingByLooking_4 : decode cX7_matchingByLooking 4 = .ok (.ireturn, 1) := by decide +kernel
theorem dX7_saved_0 : decode cX7_saved 0 = .ok (.aload_n 0, 1) := by decide +kernel
theorem dX7_saved_1 : decode cX7_saved 1 = .ok (.getfield 51, 3) := by decide +kernel
theorem dX7_saved_4 : decode cX7_saved 4 = .ok (.lreturn, 1) := by decide +kernel
theorem dX7_keptShare_0 : decode cX7_keptShare 0 = .ok (.aload_n 0, 1) := by decide +kernel
theorem dX7_keptShare_1 : decode cX7_keptShare 1 = .ok (.getfield 55, 3) := by decide +kernel
theorem dX7_keptShare_4 : decode cX7_keptShare 4 = .ok (.ifCond .gt 13, 3) := by decide +kernel
theorem dX7_keptShare_7 : decode cX7_keptShare 7 = .ok (.new 173, 3) := by decide +kernel
theorem dX7_keptShare_10 : decode cX7_keptShare 10 = .ok (.dup, 1) := by decide +kernel
theorem dX7_keptShare_11 : decode cX7_keptShare 11 = .ok (.ldc 246, 2) := by decide +kernel
theorem dX7_keptShare_13 : decode cX7_keptShare 13 = .ok (.invokespecial 177, 3) := by decide +kernel
theorem dX7_keptShare_16 : decode cX7_keptShare 16 = .ok (.athrow, 1) := by decide +kernel
theorem dX7_keptShare_17 : decode cX7_keptShare 17 = .ok (.aload_n 0, 1) := by decide +kernel
theorem dX7_keptShare_18 : decode cX7_keptShare 18 = .ok (.getfield 55, 3) := by decide +kernel
theorem dX7_keptShare_21 : decode cX7_keptShare 21 = .ok (.aload_n 0, 1) := by decide +kernel
theorem dX7_keptShare_22 : decode cX7_keptShare 22 = .ok (.getfield 58, 3) := by decide +kernel
theorem dX7_keptShare_25 : decode cX7_keptShare 25 = .ok (.isub, 1) := by decide +kernel
theorem dX7_keptShare_26 : decode cX7_keptShare 26 = .ok (.i2f, 1) := by decide +kernel
theorem dX7_keptShare_27 : decode cX7_keptShare 27 = .ok (.aload_n 0, 1) := by decide +kernel
theorem dX7_keptShare_28 : decode cX7_keptShare 28 = .ok (.getfield 55, 3) := by decide +kernel
theorem dX7_keptShare_31 : decode cX7_keptShare 31 = .ok (.i2f, 1) := by decide +kernel
theorem dX7_keptShare_32 : decode cX7_keptShare 32 = .ok (.fdiv, 1) := by decide +kernel
theorem dX7_keptShare_33 : decode cX7_keptShare 33 = .ok (.freturn, 1) := by decide +kernel
theorem dX7_requireSnippet_0 : decode cX7_requireSnippet 0 = .ok (.iload_n 1, 1) := by decide +kernel
theorem dX7_requireSnippet_1 : decode cX7_requireSnippet 1 = .ok (.ifCond .lt 14, 3) := by decide +kernel
theorem dX7_requireSnippet_4 : decode cX7_requireSnippet 4 = .ok (.iload_n 1, 1) := by decide +kernel
theorem dX7_requireSnippet_5 : decode cX7_requireSnippet 5 = .ok (.aload_n 0, 1) := by decide +kernel
theorem dX7_requireSnippet_6 : decode cX7_requireSnippet 6 = .ok (.getfield 12, 3) := by decide +kernel
theorem dX7_requireSnippet_9 : decode cX7_requireSnippet 9 = .ok (.invokevirtual 61, 3) := by decide +kernel
theorem dX7_requireSnippet_12 : decode cX7_requireSnippet 12 = .ok (.if_icmp .lt 13, 3) := by decide +kernel
theorem dX7_requireSnippet_15 : decode cX7_requireSnippet 15 = .ok (.new 240, 3) := by decide +kernel
theorem dX7_requireSnippet_18 : decode cX7_requireSnippet 18 = .ok (.dup, 1) := by decide +kernel
theorem dX7_requireSnippet_19 : decode cX7_requireSnippet 19 = .ok (.ldc 248, 2) := by decide +kernel
theorem dX7_requireSnippet_21 : decode cX7_requireSnippet 21 = .ok (.invokespecial 242, 3) := by decide +kernel
theorem dX7_requireSnippet_24 : decode cX7_requireSnippet 24 = .ok (.athrow, 1) := by decide +kernel
theorem dX7_requireSnippet_25 : decode cX7_requireSnippet 25 = .ok (.return_, 1) := by decide +kernel
theorem dX7_snippetAt_0 : decode cX7_snippetAt 0 = .ok (.aload_n 0, 1) := by decide +kernel
theorem dX7_snippetAt_1 : decode cX7_snippetAt 1 = .ok (.iload_n 1, 1) := by decide +kernel
theorem dX7_snippetAt_2 : decode cX7_snippetAt 2 = .ok (.invokevirtual 187, 3) := by decide +kernel
theorem dX7_snippetAt_5 : decode cX7_snippetAt 5 = .ok (.aload_n 0, 1) := by decide +kernel
theorem dX7_snippetAt_6 : decode cX7_snippetAt 6 = .ok (.getfield 12, 3) := by decide +kernel
theorem dX7_snippetAt_9 : decode cX7_snippetAt 9 = .ok (.iload_n 1, 1) := by decide +kernel
theorem dX7_snippetAt_10 : decode cX7_snippetAt 10 = .ok (.invokevirtual 250, 3) := by decide +kernel
theorem dX7_snippetAt_13 : decode cX7_snippetAt 13 = .ok (.checkcast 72, 3) := by decide +kernel
theorem dX7_snippetAt_16 : decode cX7_snippetAt 16 = .ok (.areturn, 1) := by decide +kernel
theorem dX7_requireTypeable_0 : decode cX7_requireTypeable 0 = .ok (.iload_n 0, 1) := by decide +kernel
theorem dX7_requireTypeable_1 : decode cX7_requireTypeable 1 = .ok (.bipush 32, 2) := by decide +kernel
theorem dX7_requireTypeable_3 : decode cX7_requireTypeable 3 = .ok (.if_icmp .eq 15, 3) := by decide +kernel
theorem dX7_requireTypeable_6 : decode cX7_requireTypeable 6 = .ok (.iload_n 0, 1) := by decide +kernel
theorem dX7_requireTypeable_7 : decode cX7_requireTypeable 7 = .ok (.bipush 59, 2) := by decide +kernel
theorem dX7_requireTypeable_9 : decode cX7_requireTypeable 9 = .ok (.if_icmp .eq 9, 3) := by decide +kernel
theorem dX7_requireTypeable_12 : decode cX7_requireTypeable 12 = .ok (.iload_n 0, 1) := by decide +kernel
theorem dX7_requireTypeable_13 : decode cX7_requireTypeable 13 = .ok (.bipush 46, 2) := by decide +kernel
theorem dX7_requireTypeable_15 : decode cX7_requireTypeable 15 = .ok (.if_icmp .ne 7, 3) := by decide +kernel
theorem dX7_requireTypeable_18 : decode cX7_requireTypeable 18 = .ok (.iconst 1, 1) := by decide +kernel
theorem dX7_requireTypeable_19 : decode cX7_requireTypeable 19 = .ok (.goto 4, 3) := by decide +kernel
theorem dX7_requireTypeable_22 : decode cX7_requireTypeable 22 = .ok (.iconst 0, 1) := by decide +kernel
theorem dX7_requireTypeable_23 : decode cX7_requireTypeable 23 = .ok (.istore_n 1, 1) := by decide +kernel
theorem dX7_requireTypeable_24 : decode cX7_requireTypeable 24 = .ok (.iload_n 1, 1) := by decide +kernel
theorem dX7_requireTypeable_25 : decode cX7_requireTypeable 25 = .ok (.ifCond .ne 21, 3) := by decide +kernel
theorem dX7_requireTypeable_28 : decode cX7_requireTypeable 28 = .ok (.iload_n 0, 1) := by decide +kernel
theorem dX7_requireTypeable_29 : decode cX7_requireTypeable 29 = .ok (.invokestatic 254, 3) := by decide +kernel
theorem dX7_requireTypeable_32 : decode cX7_requireTypeable 32 = .ok (.ifCond .ne 14, 3) := by decide +kernel
theorem dX7_requireTypeable_35 : decode cX7_requireTypeable 35 = .ok (.new 135, 3) := by decide +kernel
theorem dX7_requireTypeable_38 : decode cX7_requireTypeable 38 = .ok (.dup, 1) := by decide +kernel
theorem dX7_requireTypeable_39 : decode cX7_requireTypeable 39 = .ok (.ldc_w 257, 3) := by decide +kernel
theorem dX7_requireTypeable_42 : decode cX7_requireTypeable 42 = .ok (.invokespecial 139, 3) := by decide +kernel
theorem dX7_requireTypeable_45 : decode cX7_requireTypeable 45 = .ok (.athrow, 1) := by decide +kernel
theorem dX7_requireTypeable_46 : decode cX7_requireTypeable 46 = .ok (.return_, 1) := by decide +kernel
theorem dX7_isLetterOrDigit_0 : decode cX7_isLetterOrDigit 0 = .ok (.iload_n 0, 1) := by decide +kernel
theorem dX7_isLetterOrDigit_1 : decode cX7_isLetterOrDigit 1 = .ok (.bipush 97, 2) := by decide +kernel
theorem dX7_isLetterOrDigit_3 : decode cX7_isLetterOrDigit 3 = .ok (.if_icmp .lt 9, 3) := by decide +kernel
theorem dX7_isLetterOrDigit_6 : decode cX7_isLetterOrDigit 6 = .ok (.iload_n 0, 1) := by decide +kernel
theorem dX7_isLetterOrDigit_7 : decode cX7_isLetterOrDigit 7 = .ok (.bipush 122, 2) := by decide +kernel
theorem dX7_isLetterOrDigit_9 : decode cX7_isLetterOrDigit 9 = .ok (.if_icmp .le 15, 3) := by decide +kernel
theorem dX7_isLetterOrDigit_12 : decode cX7_isLetterOrDigit 12 = .ok (.iload_n 0, 1) := by decide +kernel
theorem dX7_isLetterOrDigit_13 : decode cX7_isLetterOrDigit 13 = .ok (.bipush 48, 2) := by decide +kernel
theorem dX7_isLetterOrDigit_15 : decode cX7_isLetterOrDigit 15 = .ok (.if_icmp .lt 13, 3) := by decide +kernel
theorem dX7_isLetterOrDigit_18 : decode cX7_isLetterOrDigit 18 = .ok (.iload_n 0, 1) := by decide +kernel
theorem dX7_isLetterOrDigit_19 : decode cX7_isLetterOrDigit 19 = .ok (.bipush 57, 2) := by decide +kernel
theorem dX7_isLetterOrDigit_21 : decode cX7_isLetterOrDigit 21 = .ok (.if_icmp .gt 7, 3) := by decide +kernel
theorem dX7_isLetterOrDigit_24 : decode cX7_isLetterOrDigit 24 = .ok (.iconst 1, 1) := by decide +kernel
theorem dX7_isLetterOrDigit_25 : decode cX7_isLetterOrDigit 25 = .ok (.goto 4, 3) := by decide +kernel
theorem dX7_isLetterOrDigit_28 : decode cX7_isLetterOrDigit 28 = .ok (.iconst 0, 1) := by decide +kernel
theorem dX7_isLetterOrDigit_29 : decode cX7_isLetterOrDigit 29 = .ok (.ireturn, 1) := by decide +kernel
theorem dX7_innerPart_0 : decode cX7_innerPart 0 = .ok (.aload_n 0, 1) := by decide +kernel
theorem dX7_innerPart_1 : decode cX7_innerPart 1 = .ok (.iload_n 2, 1) := by decide +kernel
theorem dX7_innerPart_2 : decode cX7_innerPart 2 = .ok (.invokevirtual 81, 3) := by decide +kernel
theorem dX7_innerPart_5 : decode cX7_innerPart 5 = .ok (.astore 4, 2) := by decide +kernel
theorem dX7_innerPart_7 : decode cX7_innerPart 7 = .ok (.aload_n 0, 1) := by decide +kernel
theorem dX7_innerPart_8 : decode cX7_innerPart 8 = .ok (.iload_n 3, 1) := by decide +kernel
theorem dX7_innerPart_9 : decode cX7_innerPart 9 = .ok (.invokevirtual 81, 3) := by decide +kernel
theorem dX7_innerPart_12 : decode cX7_innerPart 12 = .ok (.astore 5, 2) := by decide +kernel
theorem dX7_innerPart_14 : decode cX7_innerPart 14 = .ok (.iload_n 2, 1) := by decide +kernel
theorem dX7_innerPart_15 : decode cX7_innerPart 15 = .ok (.iload_n 1, 1) := by decide +kernel
theorem dX7_innerPart_16 : decode cX7_innerPart 16 = .ok (.if_icmp .eq 26, 3) := by decide +kernel
theorem dX7_innerPart_19 : decode cX7_innerPart 19 = .ok (.aload 4, 2) := by decide +kernel
theorem dX7_innerPart_21 : decode cX7_innerPart 21 = .ok (.iload_n 1, 1) := by decide +kernel
theorem dX7_innerPart_22 : decode cX7_innerPart 22 = .ok (.invokevirtual 190, 3) := by decide +kernel
theorem dX7_innerPart_25 : decode cX7_innerPart 25 = .ok (.ifCond .ne 17, 3) := by decide +kernel
theorem dX7_innerPart_28 : decode cX7_innerPart 28 = .ok (.iload_n 3, 1) := by decide +kernel
theorem dX7_innerPart_29 : decode cX7_innerPart 29 = .ok (.iload_n 1, 1) := by decide +kernel
theorem dX7_innerPart_30 : decode cX7_innerPart 30 = .ok (.if_icmp .eq 12, 3) := by decide +kernel
theorem dX7_innerPart_33 : decode cX7_innerPart 33 = .ok (.aload 5, 2) := by decide +kernel
theorem dX7_innerPart_35 : decode cX7_innerPart 35 = .ok (.iload_n 1, 1) := by decide +kernel
theorem dX7_innerPart_36 : decode cX7_innerPart 36 = .ok (.invokevirtual 190, 3) := by decide +kernel
theorem dX7_innerPart_39 : decode cX7_innerPart 39 = .ok (.ifCond .eq 14, 3) := by decide +kernel
theorem dX7_innerPart_42 : decode cX7_innerPart 42 = .ok (.new 259, 3) := by decide +kernel
theorem dX7_innerPart_45 : decode cX7_innerPart 45 = .ok (.dup, 1) := by decide +kernel
theorem dX7_innerPart_46 : decode cX7_innerPart 46 = .ok (.ldc_w 261, 3) := by decide +kernel
theorem dX7_innerPart_49 : decode cX7_innerPart 49 = .ok (.invokespecial 263, 3) := by decide +kernel
theorem dX7_innerPart_52 : decode cX7_innerPart 52 = .ok (.athrow, 1) := by decide +kernel
theorem dX7_innerPart_53 : decode cX7_innerPart 53 = .ok (.new 116, 3) := by decide +kernel
theorem dX7_innerPart_56 : decode cX7_innerPart 56 = .ok (.dup, 1) := by decide +kernel
theorem dX7_innerPart_57 : decode cX7_innerPart 57 = .ok (.getstatic 264, 3) := by decide +kernel
theorem dX7_innerPart_60 : decode cX7_innerPart 60 = .ok (.iload_n 2, 1) := by decide +kernel
theorem dX7_innerPart_61 : decode cX7_innerPart 61 = .ok (.iload_n 3, 1) := by decide +kernel
theorem dX7_innerPart_62 : decode cX7_innerPart 62 = .ok (.invokespecial 124, 3) := by decide +kernel
theorem dX7_innerPart_65 : decode cX7_innerPart 65 = .ok (.areturn, 1) := by decide +kernel
theorem dX7_addPart_0 : decode cX7_addPart 0 = .ok (.aload_n 1, 1) := by decide +kernel
theorem dX7_addPart_1 : decode cX7_addPart 1 = .ok (.getfield 148, 3) := by decide +kernel
theorem dX7_addPart_4 : decode cX7_addPart 4 = .ok (.invokevirtual 61, 3) := by decide +kernel
theorem dX7_addPart_7 : decode cX7_addPart 7 = .ok (.bipush 12, 2) := by decide +kernel
theorem dX7_addPart_9 : decode cX7_addPart 9 = .ok (.if_icmp .lt 14, 3) := by decide +kernel
theorem dX7_addPart_12 : decode cX7_addPart 12 = .ok (.new 65, 3) := by decide +kernel
theorem dX7_addPart_15 : decode cX7_addPart 15 = .ok (.dup, 1) := by decide +kernel
theorem dX7_addPart_16 : decode cX7_addPart 16 = .ok (.ldc_w 267, 3) := by decide +kernel
theorem dX7_addPart_19 : decode cX7_addPart 19 = .ok (.invokespecial 69, 3) := by decide +kernel
theorem dX7_addPart_22 : decode cX7_addPart 22 = .ok (.athrow, 1) := by decide +kernel
theorem dX7_addPart_23 : decode cX7_addPart 23 = .ok (.aload_n 1, 1) := by decide +kernel
theorem dX7_addPart_24 : decode cX7_addPart 24 = .ok (.getfield 148, 3) := by decide +kernel
theorem dX7_addPart_27 : decode cX7_addPart 27 = .ok (.aload_n 2, 1) := by decide +kernel
theorem dX7_addPart_28 : decode cX7_addPart 28 = .ok (.invokevirtual 77, 3) := by decide +kernel
theorem dX7_addPart_31 : decode cX7_addPart 31 = .ok (.pop, 1) := by decide +kernel
theorem dX7_addPart_32 : decode cX7_addPart 32 = .ok (.aload_n 0, 1) := by decide +kernel
theorem dX7_addPart_33 : decode cX7_addPart 33 = .ok (.invokevirtual 154, 3) := by decide +kernel
theorem dX7_addPart_36 : decode cX7_addPart 36 = .ok (.aload_n 0, 1) := by decide +kernel
theorem dX7_addPart_37 : decode cX7_addPart 37 = .ok (.invokevirtual 269, 3) := by decide +kernel
theorem dX7_addPart_40 : decode cX7_addPart 40 = .ok (.ifCond .eq 22, 3) := by decide +kernel
theorem dX7_addPart_43 : decode cX7_addPart 43 = .ok (.aload_n 1, 1) := by decide +kernel
theorem dX7_addPart_44 : decode cX7_addPart 44 = .ok (.invokevirtual 272, 3) := by decide +kernel
theorem dX7_addPart_47 : decode cX7_addPart 47 = .ok (.aload_n 0, 1) := by decide +kernel
theorem dX7_addPart_48 : decode cX7_addPart 48 = .ok (.invokevirtual 154, 3) := by decide +kernel
theorem dX7_addPart_51 : decode cX7_addPart 51 = .ok (.new 65, 3) := by decide +kernel
theorem dX7_addPart_54 : decode cX7_addPart 54 = .ok (.dup, 1) := by decide +kernel
theorem dX7_addPart_55 : decode cX7_addPart 55 = .ok (.ldc_w 275, 3) := by decide +kernel
theorem dX7_addPart_58 : decode cX7_addPart 58 = .ok (.invokespecial 69, 3) := by decide +kernel
theorem dX7_addPart_61 : decode cX7_addPart 61 = .ok (.athrow, 1) := by decide +kernel
theorem dX7_addPart_62 : decode cX7_addPart 62 = .ok (.aload_n 1, 1) := by decide +kernel
theorem dX7_addPart_63 : decode cX7_addPart 63 = .ok (.getfield 148, 3) := by decide +kernel
theorem dX7_addPart_66 : decode cX7_addPart 66 = .ok (.invokevirtual 61, 3) := by decide +kernel
theorem dX7_addPart_69 : decode cX7_addPart 69 = .ok (.ireturn, 1) := by decide +kernel
theorem dX7_isSomeTooLarge_0 : decode cX7_isSomeTooLarge 0 = .ok (.iconst 0, 1) := by decide +kernel
theorem dX7_isSomeTooLarge_1 : decode cX7_isSomeTooLarge 1 = .ok (.istore_n 1, 1) := by decide +kernel
theorem dX7_isSomeTooLarge_2 : decode cX7_isSomeTooLarge 2 = .ok (.iload_n 1, 1) := by decide +kernel
theorem dX7_isSomeTooLarge_3 : decode cX7_isSomeTooLarge 3 = .ok (.aload_n 0, 1) := by decide +kernel
theorem dX7_isSomeTooLarge_4 : decode cX7_isSomeTooLarge 4 = .ok (.getfield 12, 3) := by decide +kernel
theorem dX7_isSomeTooLarge_7 : decode cX7_isSomeTooLarge 7 = .ok (.invokevirtual 61, 3) := by decide +kernel
theorem dX7_isSomeTooLarge_10 : decode cX7_isSomeTooLarge 10 = .ok (.if_icmp .ge 25, 3) := by decide +kernel
theorem dX7_isSomeTooLarge_13 : decode cX7_isSomeTooLarge 13 = .ok (.aload_n 0, 1) := by decide +kernel
theorem dX7_isSomeTooLarge_14 : decode cX7_isSomeTooLarge 14 = .ok (.iload_n 1, 1) := by decide +kernel
theorem dX7_isSomeTooLarge_15 : decode cX7_isSomeTooLarge 15 = .ok (.invokevirtual 81, 3) := by decide +kernel
theorem dX7_isSomeTooLarge_18 : decode cX7_isSomeTooLarge 18 = .ok (.getfield 277, 3) := by decide +kernel
theorem dX7_isSomeTooLarge_21 : decode cX7_isSomeTooLarge 21 = .ok (.sipush 200, 3) := by decide +kernel
theorem dX7_isSomeTooLarge_24 : decode cX7_isSomeTooLarge 24 = .ok (.if_icmp .le 5, 3) := by decide +kernel
theorem dX7_isSomeTooLarge_27 : decode cX7_isSomeTooLarge 27 = .ok (.iconst 1, 1) := by decide +kernel
theorem dX7_isSomeTooLarge_28 : decode cX7_isSomeTooLarge 28 = .ok (.ireturn, 1) := by decide +kernel
theorem dX7_isSomeTooLarge_29 : decode cX7_isSomeTooLarge 29 = .ok (.iinc 1 1, 3) := by decide +kernel
theorem dX7_isSomeTooLarge_32 : decode cX7_isSomeTooLarge 32 = .ok (.goto (-30), 3) := by decide +kernel
theorem dX7_isSomeTooLarge_35 : decode cX7_isSomeTooLarge 35 = .ok (.iconst 0, 1) := by decide +kernel
theorem dX7_isSomeTooLarge_36 : decode cX7_isSomeTooLarge 36 = .ok (.ireturn, 1) := by decide +kernel
theorem dX7_measureAll_0 : decode cX7_measureAll 0 = .ok (.iconst 0, 1) := by decide +kernel
theorem dX7_measureAll_1 : decode cX7_measureAll 1 = .ok (.istore_n 1, 1) := by decide +kernel
theorem dX7_measureAll_2 : decode cX7_measureAll 2 = .ok (.iload_n 1, 1) := by decide +kernel
theorem dX7_measureAll_3 : decode cX7_measureAll 3 = .ok (.bipush 8, 2) := by decide +kernel
theorem dX7_measureAll_5 : decode cX7_measureAll 5 = .ok (.if_icmp .ge 37, 3) := by decide +kernel
theorem dX7_measureAll_8 : decode cX7_measureAll 8 = .ok (.iconst 0, 1) := by decide +kernel
theorem dX7_measureAll_9 : decode cX7_measureAll 9 = .ok (.istore_n 2, 1) := by decide +kernel
theorem dX7_measureAll_10 : decode cX7_measureAll 10 = .ok (.iload_n 2, 1) := by decide +kernel
theorem dX7_measureAll_11 : decode cX7_measureAll 11 = .ok (.aload_n 0, 1) := by decide +kernel
theorem dX7_measureAll_12 : decode cX7_measureAll 12 = .ok (.getfield 12, 3) := by decide +kernel
theorem dX7_measureAll_15 : decode cX7_measureAll 15 = .ok (.invokevirtual 61, 3) := by decide +kernel
theorem dX7_measureAll_18 : decode cX7_measureAll 18 = .ok (.if_icmp .ge 18, 3) := by decide +kernel
theorem dX7_measureAll_21 : decode cX7_measureAll 21 = .ok (.aload_n 0, 1) := by decide +kernel
theorem dX7_measureAll_22 : decode cX7_measureAll 22 = .ok (.aload_n 0, 1) := by decide +kernel
theorem dX7_measureAll_23 : decode cX7_measureAll 23 = .ok (.iload_n 2, 1) := by decide +kernel
theorem dX7_measureAll_24 : decode cX7_measureAll 24 = .ok (.invokevirtual 81, 3) := by decide +kernel
theorem dX7_measureAll_27 : decode cX7_measureAll 27 = .ok (.invokevirtual 279, 3) := by decide +kernel
theorem dX7_measureAll_30 : decode cX7_measureAll 30 = .ok (.iinc 2 1, 3) := by decide +kernel
theorem dX7_measureAll_33 : decode cX7_measureAll 33 = .ok (.goto (-23), 3) := by decide +kernel
theorem dX7_measureAll_36 : decode cX7_measureAll 36 = .ok (.iinc 1 1, 3) := by decide +kernel
theorem dX7_measureAll_39 : decode cX7_measureAll 39 = .ok (.goto (-37), 3) := by decide +kernel
theorem dX7_measureAll_42 : decode cX7_measureAll 42 = .ok (.return_, 1) := by decide +kernel
theorem dX7_measure_0 : decode cX7_measure 0 = .ok (.aload_n 1, 1) := by decide +kernel
theorem dX7_measure_1 : decode cX7_measure 1 = .ok (.iconst 0, 1) := by decide +kernel
theorem dX7_measure_2 : decode cX7_measure 2 = .ok (.putfield 277, 3) := by decide +kernel
theorem dX7_measure_5 : decode cX7_measure 5 = .ok (.aload_n 1, 1) := by decide +kernel
theorem dX7_measure_6 : decode cX7_measure 6 = .ok (.iconst 1, 1) := by decide +kernel
theorem dX7_measure_7 : decode cX7_measure 7 = .ok (.putfield 193, 3) := by decide +kernel
theorem dX7_measure_10 : decode cX7_measure 10 = .ok (.aload_n 1, 1) := by decide +kernel
theorem dX7_measure_11 : decode cX7_measure 11 = .ok (.iconst 0, 1) := by decide +kernel
theorem dX7_measure_12 : decode cX7_measure 12 = .ok (.putfield 282, 3) := by decide +kernel
theorem dX7_measure_15 : decode cX7_measure 15 = .ok (.iconst 0, 1) := by decide +kernel
theorem dX7_measure_16 : decode cX7_measure 16 = .ok (.istore_n 2, 1) := by decide +kernel
theorem dX7_measure_17 : decode cX7_measure 17 = .ok (.iload_n 2, 1) := by decide +kernel
theorem dX7_measure_18 : decode cX7_measure 18 = .ok (.aload_n 1, 1) := by decide +kernel
theorem dX7_measure_19 : decode cX7_measure 19 = .ok (.getfield 148, 3) := by decide +kernel
theorem dX7_measure_22 : decode cX7_measure 22 = .ok (.invokevirtual 61, 3) := by decide +kernel
theorem dX7_measure_25 : decode cX7_measure 25 = .ok (.if_icmp .ge 66, 3) := by decide +kernel
theorem dX7_measure_28 : decode cX7_measure 28 = .ok (.aload_n 1, 1) := by decide +kernel
theorem dX7_measure_29 : decode cX7_measure 29 = .ok (.getfield 148, 3) := by decide +kernel
theorem dX7_measure_32 : decode cX7_measure 32 = .ok (.iload_n 2, 1) := by decide +kernel
theorem dX7_measure_33 : decode cX7_measure 33 = .ok (.invokevirtual 250, 3) := by decide +kernel
theorem dX7_measure_36 : decode cX7_measure 36 = .ok (.checkcast 116, 3) := by decide +kernel
theorem dX7_measure_39 : decode cX7_measure 39 = .ok (.astore_n 3, 1) := by decide +kernel
theorem dX7_measure_40 : decode cX7_measure 40 = .ok (.aload_n 3, 1) := by decide +kernel
theorem dX7_measure_41 : decode cX7_measure 41 = .ok (.getfield 285, 3) := by decide +kernel
theorem dX7_measure_44 : decode cX7_measure 44 = .ok (.getstatic 264, 3) := by decide +kernel
theorem dX7_measure_47 : decode cX7_measure 47 = .ok (.if_acmp .ne 19, 3) := by decide +kernel
theorem dX7_measure_50 : decode cX7_measure 50 = .ok (.aload_n 0, 1) := by decide +kernel
theorem dX7_measure_51 : decode cX7_measure 51 = .ok (.aload_n 1, 1) := by decide +kernel
theorem dX7_measure_52 : decode cX7_measure 52 = .ok (.aload_n 3, 1) := by decide +kernel
theorem dX7_measure_53 : decode cX7_measure 53 = .ok (.getfield 288, 3) := by decide +kernel
theorem dX7_measure_56 : decode cX7_measure 56 = .ok (.aload_n 3, 1) := by decide +kernel
theorem dX7_measure_57 : decode cX7_measure 57 = .ok (.getfield 291, 3) := by decide +kernel
theorem dX7_measure_60 : decode cX7_measure 60 = .ok (.invokevirtual 294, 3) := by decide +kernel
theorem dX7_measure_63 : decode cX7_measure 63 = .ok (.goto 22, 3) := by decide +kernel
theorem dX7_measure_66 : decode cX7_measure 66 = .ok (.aload_n 1, 1) := by decide +kernel
theorem dX7_measure_67 : decode cX7_measure 67 = .ok (.aload_n 3, 1) := by decide +kernel
theorem dX7_measure_68 : decode cX7_measure 68 = .ok (.getfield 285, 3) := by decide +kernel
theorem dX7_measure_71 : decode cX7_measure 71 = .ok (.getstatic 142, 3) := by decide +kernel
theorem dX7_measure_74 : decode cX7_measure 74 = .ok (.if_acmp .ne 7, 3) := by decide +kernel
theorem dX7_measure_77 : decode cX7_measure 77 = .ok (.iconst 5, 1) := by decide +kernel
theorem dX7_measure_78 : decode cX7_measure 78 = .ok (.goto 4, 3) := by decide +kernel
theorem dX7_measure_81 : decode cX7_measure 81 = .ok (.iconst 1, 1) := by decide +kernel
theorem dX7_measure_82 : decode cX7_measure 82 = .ok (.invokevirtual 298, 3) := by decide +kernel
theorem dX7_measure_85 : decode cX7_measure 85 = .ok (.iinc 2 1, 3) := by decide +kernel
theorem dX7_measure_88 : decode cX7_measure 88 = .ok (.goto (-71), 3) := by decide +kernel
theorem dX7_measure_91 : decode cX7_measure 91 = .ok (.return_, 1) := by decide +kernel
theorem dX7_measureInner_0 : decode cX7_measureInner 0 = .ok (.aload_n 0, 1) := by decide +kernel
theorem dX7_measureInner_1 : decode cX7_measureInner 1 = .ok (.iload_n 2, 1) := by decide +kernel
theorem dX7_measureInner_2 : decode cX7_measureInner 2 = .ok (.invokevirtual 81, 3) := by decide +kernel
theorem dX7_measureInner_5 : decode cX7_measureInner 5 = .ok (.astore 4, 2) := by decide +kernel
theorem dX7_measureInner_7 : decode cX7_measureInner 7 = .ok (.aload_n 0, 1) := by decide +kernel
theorem dX7_measureInner_8 : decode cX7_measureInner 8 = .ok (.iload_n 3, 1) := by decide +kernel
theorem dX7_measureInner_9 : decode cX7_measureInner 9 = .ok (.invokevirtual 81, 3) := by decide +kernel
theorem dX7_measureInner_12 : decode cX7_measureInner 12 = .ok (.astore 5, 2) := by decide +kernel
theorem dX7_measureInner_14 : decode cX7_measureInner 14 = .ok (.aload_n 1, 1) := by decide +kernel
theorem dX7_measureInner_15 : decode cX7_measureInner 15 = .ok (.iconst 1, 1) := by decide +kernel
theorem dX7_measureInner_16 : decode cX7_measureInner 16 = .ok (.aload 4, 2) := by decide +kernel
theorem dX7_measureInner_18 : decode cX7_measureInner 18 = .ok (.getfield 277, 3) := by decide +kernel
theorem dX7_measureInner_21 : decode cX7_measureInner 21 = .ok (.aload 5, 2) := by decide +kernel
theorem dX7_measureInner_23 : decode cX7_measureInner 23 = .ok (.getfield 277, 3) := by decide +kernel
theorem dX7_measureInner_26 : decode cX7_measureInner 26 = .ok (.invokestatic 301, 3) := by decide +kernel
theorem dX7_measureInner_29 : decode cX7_measureInner 29 = .ok (.iadd, 1) := by decide +kernel
theorem dX7_measureInner_30 : decode cX7_measureInner 30 = .ok (.invokevirtual 298, 3) := by decide +kernel
theorem dX7_measureInner_33 : decode cX7_measureInner 33 = .ok (.aload 4, 2) := by decide +kernel
theorem dX7_measureInner_35 : decode cX7_measureInner 35 = .ok (.getfield 193, 3) := by decide +kernel
theorem dX7_measureInner_38 : decode cX7_measureInner 38 = .ok (.aload 5, 2) := by decide +kernel
theorem dX7_measureInner_40 : decode cX7_measureInner 40 = .ok (.getfield 193, 3) := by decide +kernel
theorem dX7_measureInner_43 : decode cX7_measureInner 43 = .ok (.invokestatic 301, 3) := by decide +kernel
theorem dX7_measureInner_46 : decode cX7_measureInner 46 = .ok (.istore 6, 2) := by decide +kernel
theorem dX7_measureInner_48 : decode cX7_measureInner 48 = .ok (.aload_n 1, 1) := by decide +kernel
theorem dX7_measureInner_49 : decode cX7_measureInner 49 = .ok (.aload_n 1, 1) := by decide +kernel
theorem dX7_measureInner_50 : decode cX7_measureInner 50 = .ok (.getfield 193, 3) := by decide +kernel
theorem dX7_measureInner_53 : decode cX7_measureInner 53 = .ok (.iconst 1, 1) := by decide +kernel
theorem dX7_measureInner_54 : decode cX7_measureInner 54 = .ok (.iload 6, 2) := by decide +kernel
theorem dX7_measureInner_56 : decode cX7_measureInner 56 = .ok (.iadd, 1) := by decide +kernel
theorem dX7_measureInner_57 : decode cX7_measureInner 57 = .ok (.invokestatic 301, 3) := by decide +kernel
theorem dX7_measureInner_60 : decode cX7_measureInner 60 = .ok (.putfield 193, 3) := by decide +kernel
theorem dX7_measureInner_63 : decode cX7_measureInner 63 = .ok (.aload_n 1, 1) := by decide +kernel
theorem dX7_measureInner_64 : decode cX7_measureInner 64 = .ok (.dup, 1) := by decide +kernel
theorem dX7_measureInner_65 : decode cX7_measureInner 65 = .ok (.getfield 282, 3) := by decide +kernel
theorem dX7_measureInner_68 : decode cX7_measureInner 68 = .ok (.aload 4, 2) := by decide +kernel
theorem dX7_measureInner_70 : decode cX7_measureInner 70 = .ok (.getfield 282, 3) := by decide +kernel
theorem dX7_measureInner_73 : decode cX7_measureInner 73 = .ok (.aload 5, 2) := by decide +kernel
theorem dX7_measureInner_75 : decode cX7_measureInner 75 = .ok (.getfield 282, 3) := by decide +kernel
theorem dX7_measureInner_78 : decode cX7_measureInner 78 = .ok (.ior, 1) := by decide +kernel
theorem dX7_measureInner_79 : decode cX7_measureInner 79 = .ok (.iconst 1, 1) := by decide +kernel
theorem dX7_measureInner_80 : decode cX7_measureInner 80 = .ok (.iload_n 2, 1) := by decide +kernel
theorem dX7_measureInner_81 : decode cX7_measureInner 81 = .ok (.ishl, 1) := by decide +kernel
theorem dX7_measureInner_82 : decode cX7_measureInner 82 = .ok (.ior, 1) := by decide +kernel
theorem dX7_measureInner_83 : decode cX7_measureInner 83 = .ok (.iconst 1, 1) := by decide +kernel
theorem dX7_measureInner_84 : decode cX7_measureInner 84 = .ok (.iload_n 3, 1) := by decide +kernel
theorem dX7_measureInner_85 : decode cX7_measureInner 85 = .ok (.ishl, 1) := by decide +kernel
theorem dX7_measureInner_86 : decode cX7_measureInner 86 = .ok (.ior, 1) := by decide +kernel
theorem dX7_measureInner_87 : decode cX7_measureInner 87 = .ok (.ior, 1) := by decide +kernel
theorem dX7_measureInner_88 : decode cX7_measureInner 88 = .ok (.putfield 282, 3) := by decide +kernel
theorem dX7_measureInner_91 : decode cX7_measureInner 91 = .ok (.return_, 1) := by decide +kernel
theorem dX7_gather_0 : decode cX7_gather 0 = .ok (.aload_n 0, 1) := by decide +kernel
theorem dX7_gather_1 : decode cX7_gather 1 = .ok (.getfield 26, 3) := by decide +kernel
theorem dX7_gather_4 : decode cX7_gather 4 = .ok (.invokevirtual 307, 3) := by decide +kernel
theorem dX7_gather_7 : decode cX7_gather 7 = .ok (.aload_n 0, 1) := by decide +kernel
theorem dX7_gather_8 : decode cX7_gather 8 = .ok (.aload_n 1, 1) := by decide +kernel
theorem dX7_gather_9 : decode cX7_gather 9 = .ok (.iconst 1, 1) := by decide +kernel
theorem dX7_gather_10 : decode cX7_gather 10 = .ok (.invokevirtual 308, 3) := by decide +kernel
theorem dX7_gather_13 : decode cX7_gather 13 = .ok (.return_, 1) := by decide +kernel
theorem dX7_give_0 : decode cX7_give 0 = .ok (.iload_n 2, 1) := by decide +kernel
theorem dX7_give_1 : decode cX7_give 1 = .ok (.bipush 8, 2) := by decide +kernel
theorem dX7_give_3 : decode cX7_give 3 = .ok (.if_icmp .le 4, 3) := by decide +kernel
theorem dX7_give_6 : decode cX7_give 6 = .ok (.return_, 1) := by decide +kernel
theorem dX7_give_7 : decode cX7_give 7 = .ok (.iconst 0, 1) := by decide +kernel
theorem dX7_give_8 : decode cX7_give 8 = .ok (.istore_n 3, 1) := by decide +kernel
theorem dX7_give_9 : decode cX7_give 9 = .ok (.iload_n 3, 1) := by decide +kernel
theorem dX7_give_10 : decode cX7_give 10 = .ok (.aload_n 1, 1) := by decide +kernel
theorem dX7_give_11 : decode cX7_give 11 = .ok (.getfield 148, 3) := by decide +kernel
theorem dX7_give_14 : decode cX7_give 14 = .ok (.invokevirtual 61, 3) := by decide +kernel
theorem dX7_give_17 : decode cX7_give 17 = .ok (.if_icmp .ge 26, 3) := by decide +kernel
theorem dX7_give_20 : decode cX7_give 20 = .ok (.aload_n 0, 1) := by decide +kernel
theorem dX7_give_21 : decode cX7_give 21 = .ok (.aload_n 1, 1) := by decide +kernel
theorem dX7_give_22 : decode cX7_give 22 = .ok (.aload_n 1, 1) := by decide +kernel
theorem dX7_give_23 : decode cX7_give 23 = .ok (.getfield 148, 3) := by decide +kernel
theorem dX7_give_26 : decode cX7_give 26 = .ok (.iload_n 3, 1) := by decide +kernel
theorem dX7_give_27 : decode cX7_give 27 = .ok (.invokevirtual 250, 3) := by decide +kernel
theorem dX7_give_30 : decode cX7_give 30 = .ok (.checkcast 116, 3) := by decide +kernel
theorem dX7_give_33 : decode cX7_give 33 = .ok (.iload_n 2, 1) := by decide +kernel
theorem dX7_give_34 : decode cX7_give 34 = .ok (.invokevirtual 312, 3) := by decide +kernel
theorem dX7_give_37 : decode cX7_give 37 = .ok (.iinc 3 1, 3) := by decide +kernel
theorem dX7_give_40 : decode cX7_give 40 = .ok (.goto (-31), 3) := by decide +kernel
theorem dX7_give_43 : decode cX7_give 43 = .ok (.return_, 1) := by decide +kernel
theorem dX7_givePart_0 : decode cX7_givePart 0 = .ok (.aload_n 2, 1) := by decide +kernel
theorem dX7_givePart_1 : decode cX7_givePart 1 = .ok (.getfield 285, 3) := by decide +kernel
theorem dX7_givePart_4 : decode cX7_givePart 4 = .ok (.getstatic 118, 3) := by decide +kernel
theorem dX7_givePart_7 : decode cX7_givePart 7 = .ok (.if_acmp .ne 20, 3) := by decide +kernel
theorem dX7_givePart_10 : decode cX7_givePart 10 = .ok (.aload_n 0, 1) := by decide +kernel
theorem dX7_givePart_11 : decode cX7_givePart 11 = .ok (.getfield 26, 3) := by decide +kernel
theorem dX7_givePart_14 : decode cX7_givePart 14 = .ok (.getfield 166, 3) := by decide +kernel
theorem dX7_givePart_17 : decode cX7_givePart 17 = .ok (.aload_n 2, 1) := by decide +kernel
theorem dX7_givePart_18 : decode cX7_givePart 18 = .ok (.getfield 288, 3) := by decide +kernel
theorem dX7_givePart_21 : decode cX7_givePart 21 = .ok (.invokevirtual 101, 3) := by decide +kernel
theorem dX7_givePart_24 : decode cX7_givePart 24 = .ok (.goto 98, 3) := by decide +kernel
theorem dX7_givePart_27 : decode cX7_givePart 27 = .ok (.aload_n 2, 1) := by decide +kernel
theorem dX7_givePart_28 : decode cX7_givePart 28 = .ok (.getfield 285, 3) := by decide +kernel
theorem dX7_givePart_31 : decode cX7_givePart 31 = .ok (.getstatic 145, 3) := by decide +kernel
theorem dX7_givePart_34 : decode cX7_givePart 34 = .ok (.if_acmp .ne 26, 3) := by decide +kernel
theorem dX7_givePart_37 : decode cX7_givePart 37 = .ok (.aload_n 0, 1) := by decide +kernel
theorem dX7_givePart_38 : decode cX7_givePart 38 = .ok (.getfield 26, 3) := by decide +kernel
theorem dX7_givePart_41 : decode cX7_givePart 41 = .ok (.getfield 182, 3) := by decide +kernel
theorem dX7_givePart_44 : decode cX7_givePart 44 = .ok (.aload_n 0, 1) := by decide +kernel
theorem dX7_givePart_45 : decode cX7_givePart 45 = .ok (.getfield 26, 3) := by decide +kernel
theorem dX7_givePart_48 : decode cX7_givePart 48 = .ok (.getfield 166, 3) := by decide +kernel
theorem dX7_givePart_51 : decode cX7_givePart 51 = .ok (.invokevirtual 107, 3) := by decide +kernel
theorem dX7_givePart_54 : decode cX7_givePart 54 = .ok (.invokevirtual 101, 3) := by decide +kernel
theorem dX7_givePart_57 : decode cX7_givePart 57 = .ok (.goto 65, 3) := by decide +kernel
theorem dX7_givePart_60 : decode cX7_givePart 60 = .ok (.aload_n 2, 1) := by decide +kernel
theorem dX7_givePart_61 : decode cX7_givePart 61 = .ok (.getfield 285, 3) := by decide +kernel
theorem dX7_givePart_64 : decode cX7_givePart 64 = .ok (.getstatic 142, 3) := by decide +kernel
theorem dX7_givePart_67 : decode cX7_givePart 67 = .ok (.if_acmp .ne 26, 3) := by decide +kernel
theorem dX7_givePart_70 : decode cX7_givePart 70 = .ok (.aload_n 0, 1) := by decide +kernel
theorem dX7_givePart_71 : decode cX7_givePart 71 = .ok (.getfield 26, 3) := by decide +kernel
theorem dX7_givePart_74 : decode cX7_givePart 74 = .ok (.aload_n 0, 1) := by decide +kernel
theorem dX7_givePart_75 : decode cX7_givePart 75 = .ok (.getfield 40, 3) := by decide +kernel
theorem dX7_givePart_78 : decode cX7_givePart 78 = .ok (.aload_n 2, 1) := by decide +kernel
theorem dX7_givePart_79 : decode cX7_givePart 79 = .ok (.getfield 288, 3) := by decide +kernel
theorem dX7_givePart_82 : decode cX7_givePart 82 = .ok (.iadd, 1) := by decide +kernel
theorem dX7_givePart_83 : decode cX7_givePart 83 = .ok (.aload_n 2, 1) := by decide +kernel
theorem dX7_givePart_84 : decode cX7_givePart 84 = .ok (.getfield 291, 3) := by decide +kernel
theorem dX7_givePart_87 : decode cX7_givePart 87 = .ok (.invokevirtual 316, 3) := by decide +kernel
theorem dX7_givePart_90 : decode cX7_givePart 90 = .ok (.goto 32, 3) := by decide +kernel
theorem dX7_givePart_93 : decode cX7_givePart 93 = .ok (.aload_n 0, 1) := by decide +kernel
theorem dX7_givePart_94 : decode cX7_givePart 94 = .ok (.aload_n 0, 1) := by decide +kernel
theorem dX7_givePart_95 : decode cX7_givePart 95 = .ok (.aload_n 1, 1) := by decide +kernel
theorem dX7_givePart_96 : decode cX7_givePart 96 = .ok (.getfield 157, 3) := by decide +kernel
theorem dX7_givePart_99 : decode cX7_givePart 99 = .ok (.ifCond .eq 10, 3) := by decide +kernel
theorem dX7_givePart_102 : decode cX7_givePart 102 = .ok (.aload_n 2, 1) := by decide +kernel
theorem dX7_givePart_103 : decode cX7_givePart 103 = .ok (.getfield 291, 3) := by decide +kernel
theorem dX7_givePart_106 : decode cX7_givePart 106 = .ok (.goto 7, 3) := by decide +kernel
theorem dX7_givePart_109 : decode cX7_givePart 109 = .ok (.aload_n 2, 1) := by decide +kernel
theorem dX7_givePart_110 : decode cX7_givePart 110 = .ok (.getfield 288, 3) := by decide +kernel
theorem dX7_givePart_113 : decode cX7_givePart 113 = .ok (.invokevirtual 81, 3) := by decide +kernel
theorem dX7_givePart_116 : decode cX7_givePart 116 = .ok (.iload_n 3, 1) := by decide +kernel
theorem dX7_givePart_117 : decode cX7_givePart 117 = .ok (.iconst 1, 1) := by decide +kernel
theorem dX7_givePart_118 : decode cX7_givePart 118 = .ok (.iadd, 1) := by decide +kernel
theorem dX7_givePart_119 : decode cX7_givePart 119 = .ok (.invokevirtual 308, 3) := by decide +kernel
theorem dX7_givePart_122 : decode cX7_givePart 122 = .ok (.return_, 1) := by decide +kernel
theorem dX7_isInShadow_0 : decode cX7_isInShadow 0 = .ok (.aload_n 0, 1) := by decide +kernel
theorem dX7_isInShadow_1 : decode cX7_isInShadow 1 = .ok (.iload_n 1, 1) := by decide +kernel
theorem dX7_isInShadow_2 : decode cX7_isInShadow 2 = .ok (.invokevirtual 81, 3) := by decide +kernel
theorem dX7_isInShadow_5 : decode cX7_isInShadow 5 = .ok (.astore_n 3, 1) := by decide +kernel
theorem dX7_isInShadow_6 : decode cX7_isInShadow 6 = .ok (.aload_n 0, 1) := by decide +kernel
theorem dX7_isInShadow_7 : decode cX7_isInShadow 7 = .ok (.iload_n 2, 1) := by decide +kernel
theorem dX7_isInShadow_8 : decode cX7_isInShadow 8 = .ok (.invokevirtual 81, 3) := by decide +kernel
theorem dX7_isInShadow_11 : decode cX7_isInShadow 11 = .ok (.astore 4, 2) := by decide +kernel
theorem dX7_isInShadow_13 : decode cX7_isInShadow 13 = .ok (.aload_n 3, 1) := by decide +kernel
theorem dX7_isInShadow_14 : decode cX7_isInShadow 14 = .ok (.getfield 113, 3) := by decide +kernel
theorem dX7_isInShadow_17 : decode cX7_isInShadow 17 = .ok (.ifCond .eq 32, 3) := by decide +kernel
theorem dX7_isInShadow_20 : decode cX7_isInShadow 20 = .ok (.aload 4, 2) := by decide +kernel
theorem dX7_isInShadow_22 : decode cX7_isInShadow 22 = .ok (.getfield 113, 3) := by decide +kernel
theorem dX7_isInShadow_25 : decode cX7_isInShadow 25 = .ok (.ifCond .eq 24, 3) := by decide +kernel
theorem dX7_isInShadow_28 : decode cX7_isInShadow 28 = .ok (.aload_n 3, 1) := by decide +kernel
theorem dX7_isInShadow_29 : decode cX7_isInShadow 29 = .ok (.getfield 89, 3) := by decide +kernel
theorem dX7_isInShadow_32 : decode cX7_isInShadow 32 = .ok (.invokevirtual 320, 3) := by decide +kernel
theorem dX7_isInShadow_35 : decode cX7_isInShadow 35 = .ok (.ifCond .ne 14, 3) := by decide +kernel
theorem dX7_isInShadow_38 : decode cX7_isInShadow 38 = .ok (.aload 4, 2) := by decide +kernel
theorem dX7_isInShadow_40 : decode cX7_isInShadow 40 = .ok (.getfield 89, 3) := by decide +kernel
theorem dX7_isInShadow_43 : decode cX7_isInShadow 43 = .ok (.invokevirtual 320, 3) := by decide +kernel
theorem dX7_isInShadow_46 : decode cX7_isInShadow 46 = .ok (.ifCond .eq 5, 3) := by decide +kernel
theorem dX7_isInShadow_49 : decode cX7_isInShadow 49 = .ok (.iconst 0, 1) := by decide +kernel
theorem dX7_isInShadow_50 : decode cX7_isInShadow 50 = .ok (.ireturn, 1) := by decide +kernel
theorem dX7_isInShadow_51 : decode cX7_isInShadow 51 = .ok (.iload_n 2, 1) := by decide +kernel
theorem dX7_isInShadow_52 : decode cX7_isInShadow 52 = .ok (.iload_n 1, 1) := by decide +kernel
theorem dX7_isInShadow_53 : decode cX7_isInShadow 53 = .ok (.if_icmp .ge 18, 3) := by decide +kernel
theorem dX7_isInShadow_56 : decode cX7_isInShadow 56 = .ok (.aload_n 3, 1) := by decide +kernel
theorem dX7_isInShadow_57 : decode cX7_isInShadow 57 = .ok (.getfield 89, 3) := by decide +kernel
theorem dX7_isInShadow_60 : decode cX7_isInShadow 60 = .ok (.aload 4, 2) := by decide +kernel
theorem dX7_isInShadow_62 : decode cX7_isInShadow 62 = .ok (.getfield 89, 3) := by decide +kernel
theorem dX7_isInShadow_65 : decode cX7_isInShadow 65 = .ok (.invokevirtual 323, 3) := by decide +kernel
theorem dX7_isInShadow_68 : decode cX7_isInShadow 68 = .ok (.ifCond .ne 18, 3) := by decide +kernel
theorem dX7_isInShadow_71 : decode cX7_isInShadow 71 = .ok (.aload 4, 2) := by decide +kernel
theorem dX7_isInShadow_73 : decode cX7_isInShadow 73 = .ok (.getfield 89, 3) := by decide +kernel
theorem dX7_isInShadow_76 : decode cX7_isInShadow 76 = .ok (.aload_n 3, 1) := by decide +kernel
theorem dX7_isInShadow_77 : decode cX7_isInShadow 77 = .ok (.getfield 89, 3) := by decide +kernel
theorem dX7_isInShadow_80 : decode cX7_isInShadow 80 = .ok (.invokestatic 327, 3) := by decide +kernel
theorem dX7_isInShadow_83 : decode cX7_isInShadow 83 = .ok (.ifCond .eq 7, 3) := by decide +kernel
theorem dX7_isInShadow_86 : decode cX7_isInShadow 86 = .ok (.iconst 1, 1) := by decide +kernel
theorem dX7_isInShadow_87 : decode cX7_isInShadow 87 = .ok (.goto 4, 3) := by decide +kernel
theorem dX7_isInShadow_90 : decode cX7_isInShadow 90 = .ok (.iconst 0, 1) := by decide +kernel
theorem dX7_isInShadow_91 : decode cX7_isInShadow 91 = .ok (.ireturn, 1) := by decide +kernel
theorem dX7_isTypedEarlier_0 : decode cX7_isTypedEarlier 0 = .ok (.iconst 1, 1) := by decide +kernel
theorem dX7_isTypedEarlier_1 : decode cX7_isTypedEarlier 1 = .ok (.istore_n 2, 1) := by decide +kernel
theorem dX7_isTypedEarlier_2 : decode cX7_isTypedEarlier 2 = .ok (.iload_n 2, 1) := by decide +kernel
theorem dX7_isTypedEarlier_3 : decode cX7_isTypedEarlier 3 = .ok (.aload_n 1, 1) := by decide +kernel
theorem dX7_isTypedEarlier_4 : decode cX7_isTypedEarlier 4 = .ok (.invokevirtual 107, 3) := by decide +kernel
theorem dX7_isTypedEarlier_7 : decode cX7_isTypedEarlier 7 = .ok (.if_icmp .ge 20, 3) := by decide +kernel
theorem dX7_isTypedEarlier_10 : decode cX7_isTypedEarlier 10 = .ok (.aload_n 1, 1) := by decide +kernel
theorem dX7_isTypedEarlier_11 : decode cX7_isTypedEarlier 11 = .ok (.aload_n 0, 1) := by decide +kernel
theorem dX7_isTypedEarlier_12 : decode cX7_isTypedEarlier 12 = .ok (.iload_n 2, 1) := by decide +kernel
theorem dX7_isTypedEarlier_13 : decode cX7_isTypedEarlier 13 = .ok (.invokevirtual 331, 3) := by decide +kernel
theorem dX7_isTypedEarlier_16 : decode cX7_isTypedEarlier 16 = .ok (.ifCond .eq 5, 3) := by decide +kernel
theorem dX7_isTypedEarlier_19 : decode cX7_isTypedEarlier 19 = .ok (.iconst 1, 1) := by decide +kernel
theorem dX7_isTypedEarlier_20 : decode cX7_isTypedEarlier 20 = .ok (.ireturn, 1) := by decide +kernel
theorem dX7_isTypedEarlier_21 : decode cX7_isTypedEarlier 21 = .ok (.iinc 2 1, 3) := by decide +kernel
theorem dX7_isTypedEarlier_24 : decode cX7_isTypedEarlier 24 = .ok (.goto (-22), 3) := by decide +kernel
theorem dX7_isTypedEarlier_27 : decode cX7_isTypedEarlier 27 = .ok (.iconst 0, 1) := by decide +kernel
theorem dX7_isTypedEarlier_28 : decode cX7_isTypedEarlier 28 = .ok (.ireturn, 1) := by decide +kernel
theorem dX7_lowestShadower_0 : decode cX7_lowestShadower 0 = .ok (.iconst 0, 1) := by decide +kernel
theorem dX7_lowestShadower_1 : decode cX7_lowestShadower 1 = .ok (.istore_n 2, 1) := by decide +kernel
theorem dX7_lowestShadower_2 : decode cX7_lowestShadower 2 = .ok (.iload_n 2, 1) := by decide +kernel
theorem dX7_lowestShadower_3 : decode cX7_lowestShadower 3 = .ok (.aload_n 0, 1) := by decide +kernel
theorem dX7_lowestShadower_4 : decode cX7_lowestShadower 4 = .ok (.getfield 12, 3) := by decide +kernel
theorem dX7_lowestShadower_7 : decode cX7_lowestShadower 7 = .ok (.invokevirtual 61, 3) := by decide +kernel
theorem dX7_lowestShadower_10 : decode cX7_lowestShadower 10 = .ok (.if_icmp .ge 20, 3) := by decide +kernel
theorem dX7_lowestShadower_13 : decode cX7_lowestShadower 13 = .ok (.aload_n 0, 1) := by decide +kernel
theorem dX7_lowestShadower_14 : decode cX7_lowestShadower 14 = .ok (.iload_n 1, 1) := by decide +kernel
theorem dX7_lowestShadower_15 : decode cX7_lowestShadower 15 = .ok (.iload_n 2, 1) := by decide +kernel
theorem dX7_lowestShadower_16 : decode cX7_lowestShadower 16 = .ok (.invokevirtual 196, 3) := by decide +kernel
theorem dX7_lowestShadower_19 : decode cX7_lowestShadower 19 = .ok (.ifCond .eq 5, 3) := by decide +kernel
theorem dX7_lowestShadower_22 : decode cX7_lowestShadower 22 = .ok (.iload_n 2, 1) := by decide +kernel
theorem dX7_lowestShadower_23 : decode cX7_lowestShadower 23 = .ok (.ireturn, 1) := by decide +kernel
theorem dX7_lowestShadower_24 : decode cX7_lowestShadower 24 = .ok (.iinc 2 1, 3) := by decide +kernel
theorem dX7_lowestShadower_27 : decode cX7_lowestShadower 27 = .ok (.goto (-25), 3) := by decide +kernel
theorem dX7_lowestShadower_30 : decode cX7_lowestShadower 30 = .ok (.iconst (-1), 1) := by decide +kernel
theorem dX7_lowestShadower_31 : decode cX7_lowestShadower 31 = .ok (.ireturn, 1) := by decide +kernel
theorem dX7_growTree_0 : decode cX7_growTree 0 = .ok (.aload_n 0, 1) := by decide +kernel
theorem dX7_growTree_1 : decode cX7_growTree 1 = .ok (.getfield 19, 3) := by decide +kernel
theorem dX7_growTree_4 : decode cX7_growTree 4 = .ok (.invokevirtual 335, 3) := by decide +kernel
theorem dX7_growTree_7 : decode cX7_growTree 7 = .ok (.iconst 0, 1) := by decide +kernel
theorem dX7_growTree_8 : decode cX7_growTree 8 = .ok (.istore_n 1, 1) := by decide +kernel
theorem dX7_growTree_9 : decode cX7_growTree 9 = .ok (.iload_n 1, 1) := by decide +kernel
theorem dX7_growTree_10 : decode cX7_growTree 10 = .ok (.aload_n 0, 1) := by decide +kernel
theorem dX7_growTree_11 : decode cX7_growTree 11 = .ok (.getfield 12, 3) := by decide +kernel
theorem dX7_growTree_14 : decode cX7_growTree 14 = .ok (.invokevirtual 61, 3) := by decide +kernel
theorem dX7_growTree_17 : decode cX7_growTree 17 = .ok (.if_icmp .ge 34, 3) := by decide +kernel
theorem dX7_growTree_20 : decode cX7_growTree 20 = .ok (.aload_n 0, 1) := by decide +kernel
theorem dX7_growTree_21 : decode cX7_growTree 21 = .ok (.iload_n 1, 1) := by decide +kernel
theorem dX7_growTree_22 : decode cX7_growTree 22 = .ok (.invokevirtual 81, 3) := by decide +kernel
theorem dX7_growTree_25 : decode cX7_growTree 25 = .ok (.getfield 89, 3) := by decide +kernel
theorem dX7_growTree_28 : decode cX7_growTree 28 = .ok (.astore_n 2, 1) := by decide +kernel
theorem dX7_growTree_29 : decode cX7_growTree 29 = .ok (.aload_n 2, 1) := by decide +kernel
theorem dX7_growTree_30 : decode cX7_growTree 30 = .ok (.invokevirtual 320, 3) := by decide +kernel
theorem dX7_growTree_33 : decode cX7_growTree 33 = .ok (.ifCond .ne 12, 3) := by decide +kernel
theorem dX7_growTree_36 : decode cX7_growTree 36 = .ok (.aload_n 0, 1) := by decide +kernel
theorem dX7_growTree_37 : decode cX7_growTree 37 = .ok (.getfield 19, 3) := by decide +kernel
theorem dX7_growTree_40 : decode cX7_growTree 40 = .ok (.aload_n 2, 1) := by decide +kernel
theorem dX7_growTree_41 : decode cX7_growTree 41 = .ok (.iload_n 1, 1) := by decide +kernel
theorem dX7_growTree_42 : decode cX7_growTree 42 = .ok (.invokevirtual 336, 3) := by decide +kernel
theorem dX7_growTree_45 : decode cX7_growTree 45 = .ok (.iinc 1 1, 3) := by decide +kernel
theorem dX7_growTree_48 : decode cX7_growTree 48 = .ok (.goto (-39), 3) := by decide +kernel
theorem dX7_growTree_51 : decode cX7_growTree 51 = .ok (.return_, 1) := by decide +kernel
theorem dX7_findInTree_0 : decode cX7_findInTree 0 = .ok (.iconst (-1), 1) := by decide +kernel
theorem dX7_findInTree_1 : decode cX7_findInTree 1 = .ok (.istore_n 1, 1) := by decide +kernel
theorem dX7_findInTree_2 : decode cX7_findInTree 2 = .ok (.iconst 0, 1) := by decide +kernel
theorem dX7_findInTree_3 : decode cX7_findInTree 3 = .ok (.istore_n 2, 1) := by decide +kernel
theorem dX7_findInTree_4 : decode cX7_findInTree 4 = .ok (.iconst 1, 1) := by decide +kernel
theorem dX7_findInTree_5 : decode cX7_findInTree 5 = .ok (.istore_n 3, 1) := by decide +kernel
theorem dX7_findInTree_6 : decode cX7_findInTree 6 = .ok (.iload_n 3, 1) := by decide +kernel
theorem dX7_findInTree_7 : decode cX7_findInTree 7 = .ok (.bipush 6, 2) := by decide +kernel
theorem dX7_findInTree_9 : decode cX7_findInTree 9 = .ok (.if_icmp .gt 88, 3) := by decide +kernel
theorem dX7_findInTree_12 : decode cX7_findInTree 12 = .ok (.iload_n 3, 1) := by decide +kernel
theorem dX7_findInTree_13 : decode cX7_findInTree 13 = .ok (.aload_n 0, 1) := by decide +kernel
theorem dX7_findInTree_14 : decode cX7_findInTree 14 = .ok (.getfield 33, 3) := by decide +kernel
theorem dX7_findInTree_17 : decode cX7_findInTree 17 = .ok (.getfield 218, 3) := by decide +kernel
theorem dX7_findInTree_20 : decode cX7_findInTree 20 = .ok (.if_icmp .gt 77, 3) := by decide +kernel
theorem dX7_findInTree_23 : decode cX7_findInTree 23 = .ok (.aload_n 0, 1) := by decide +kernel
theorem dX7_findInTree_24 : decode cX7_findInTree 24 = .ok (.getfield 33, 3) := by decide +kernel
theorem dX7_findInTree_27 : decode cX7_findInTree 27 = .ok (.getfield 218, 3) := by decide +kernel
theorem dX7_findInTree_30 : decode cX7_findInTree 30 = .ok (.iload_n 3, 1) := by decide +kernel
theorem dX7_findInTree_31 : decode cX7_findInTree 31 = .ok (.isub, 1) := by decide +kernel
theorem dX7_findInTree_32 : decode cX7_findInTree 32 = .ok (.istore 4, 2) := by decide +kernel
theorem dX7_findInTree_34 : decode cX7_findInTree 34 = .ok (.aload_n 0, 1) := by decide +kernel
theorem dX7_findInTree_35 : decode cX7_findInTree 35 = .ok (.getfield 19, 3) := by decide +kernel
theorem dX7_findInTree_38 : decode cX7_findInTree 38 = .ok (.iload_n 2, 1) := by decide +kernel
theorem dX7_findInTree_39 : decode cX7_findInTree 39 = .ok (.aload_n 0, 1) := by decide +kernel
theorem dX7_findInTree_40 : decode cX7_findInTree 40 = .ok (.getfield 33, 3) := by decide +kernel
theorem dX7_findInTree_43 : decode cX7_findInTree 43 = .ok (.getfield 205, 3) := by decide +kernel
theorem dX7_findInTree_46 : decode cX7_findInTree 46 = .ok (.iload 4, 2) := by decide +kernel
theorem dX7_findInTree_48 : decode cX7_findInTree 48 = .ok (.invokevirtual 178, 3) := by decide +kernel
theorem dX7_findInTree_51 : decode cX7_findInTree 51 = .ok (.invokevirtual 339, 3) := by decide +kernel
theorem dX7_findInTree_54 : decode cX7_findInTree 54 = .ok (.istore_n 2, 1) := by decide +kernel
theorem dX7_findInTree_55 : decode cX7_findInTree 55 = .ok (.iload_n 2, 1) := by decide +kernel
theorem dX7_findInTree_56 : decode cX7_findInTree 56 = .ok (.iconst (-1), 1) := by decide +kernel
theorem dX7_findInTree_57 : decode cX7_findInTree 57 = .ok (.if_icmp .ne 5, 3) := by decide +kernel
theorem dX7_findInTree_60 : decode cX7_findInTree 60 = .ok (.iload_n 1, 1) := by decide +kernel
theorem dX7_findInTree_61 : decode cX7_findInTree 61 = .ok (.ireturn, 1) := by decide +kernel
theorem dX7_findInTree_62 : decode cX7_findInTree 62 = .ok (.aload_n 0, 1) := by decide +kernel
theorem dX7_findInTree_63 : decode cX7_findInTree 63 = .ok (.aload_n 0, 1) := by decide +kernel
theorem dX7_findInTree_64 : decode cX7_findInTree 64 = .ok (.getfield 19, 3) := by decide +kernel
theorem dX7_findInTree_67 : decode cX7_findInTree 67 = .ok (.iload_n 2, 1) := by decide +kernel
theorem dX7_findInTree_68 : decode cX7_findInTree 68 = .ok (.invokevirtual 342, 3) := by decide +kernel
theorem dX7_findInTree_71 : decode cX7_findInTree 71 = .ok (.iload 4, 2) := by decide +kernel
theorem dX7_findInTree_73 : decode cX7_findInTree 73 = .ok (.invokevirtual 345, 3) := by decide +kernel
theorem dX7_findInTree_76 : decode cX7_findInTree 76 = .ok (.istore 5, 2) := by decide +kernel
theorem dX7_findInTree_78 : decode cX7_findInTree 78 = .ok (.iload 5, 2) := by decide +kernel
theorem dX7_findInTree_80 : decode cX7_findInTree 80 = .ok (.iconst (-1), 1) := by decide +kernel
theorem dX7_findInTree_81 : decode cX7_findInTree 81 = .ok (.if_icmp .ne 7, 3) := by decide +kernel
theorem dX7_findInTree_84 : decode cX7_findInTree 84 = .ok (.iload_n 1, 1) := by decide +kernel
theorem dX7_findInTree_85 : decode cX7_findInTree 85 = .ok (.goto 5, 3) := by decide +kernel
theorem dX7_findInTree_88 : decode cX7_findInTree 88 = .ok (.iload 5, 2) := by decide +kernel
theorem dX7_findInTree_90 : decode cX7_findInTree 90 = .ok (.istore_n 1, 1) := by decide +kernel
theorem dX7_findInTree_91 : decode cX7_findInTree 91 = .ok (.iinc 3 1, 3) := by decide +kernel
theorem dX7_findInTree_94 : decode cX7_findInTree 94 = .ok (.goto (-88), 3) := by decide +kernel
theorem dX7_findInTree_97 : decode cX7_findInTree 97 = .ok (.iload_n 1, 1) := by decide +kernel
theorem dX7_findInTree_98 : decode cX7_findInTree 98 = .ok (.ireturn, 1) := by decide +kernel
theorem dX7_lowestReady_0 : decode cX7_lowestReady 0 = .ok (.iconst 0, 1) := by decide +kernel
theorem dX7_lowestReady_1 : decode cX7_lowestReady 1 = .ok (.istore_n 3, 1) := by decide +kernel
theorem dX7_lowestReady_2 : decode cX7_lowestReady 2 = .ok (.iload_n 3, 1) := by decide +kernel
theorem dX7_lowestReady_3 : decode cX7_lowestReady 3 = .ok (.aload_n 0, 1) := by decide +kernel
theorem dX7_lowestReady_4 : decode cX7_lowestReady 4 = .ok (.getfield 12, 3) := by decide +kernel
theorem dX7_lowestReady_7 : decode cX7_lowestReady 7 = .ok (.invokevirtual 61, 3) := by decide +kernel
theorem dX7_lowestReady_10 : decode cX7_lowestReady 10 = .ok (.if_icmp .ge 33, 3) := by decide +kernel
theorem dX7_lowestReady_13 : decode cX7_lowestReady 13 = .ok (.iload_n 1, 1) := by decide +kernel
theorem dX7_lowestReady_14 : decode cX7_lowestReady 14 = .ok (.iload_n 3, 1) := by decide +kernel
theorem dX7_lowestReady_15 : decode cX7_lowestReady 15 = .ok (.ishr, 1) := by decide +kernel
theorem dX7_lowestReady_16 : decode cX7_lowestReady 16 = .ok (.iconst 1, 1) := by decide +kernel
theorem dX7_lowestReady_17 : decode cX7_lowestReady 17 = .ok (.iand, 1) := by decide +kernel
theorem dX7_lowestReady_18 : decode cX7_lowestReady 18 = .ok (.iconst 1, 1) := by decide +kernel
theorem dX7_lowestReady_19 : decode cX7_lowestReady 19 = .ok (.if_icmp .ne 18, 3) := by decide +kernel
theorem dX7_lowestReady_22 : decode cX7_lowestReady 22 = .ok (.aload_n 0, 1) := by decide +kernel
theorem dX7_lowestReady_23 : decode cX7_lowestReady 23 = .ok (.aload_n 0, 1) := by decide +kernel
theorem dX7_lowestReady_24 : decode cX7_lowestReady 24 = .ok (.iload_n 3, 1) := by decide +kernel
theorem dX7_lowestReady_25 : decode cX7_lowestReady 25 = .ok (.invokevirtual 81, 3) := by decide +kernel
theorem dX7_lowestReady_28 : decode cX7_lowestReady 28 = .ok (.iload_n 2, 1) := by decide +kernel
theorem dX7_lowestReady_29 : decode cX7_lowestReady 29 = .ok (.invokevirtual 348, 3) := by decide +kernel
theorem dX7_lowestReady_32 : decode cX7_lowestReady 32 = .ok (.ifCond .eq 5, 3) := by decide +kernel
theorem dX7_lowestReady_35 : decode cX7_lowestReady 35 = .ok (.iload_n 3, 1) := by decide +kernel
theorem dX7_lowestReady_36 : decode cX7_lowestReady 36 = .ok (.ireturn, 1) := by decide +kernel
theorem dX7_lowestReady_37 : decode cX7_lowestReady 37 = .ok (.iinc 3 1, 3) := by decide +kernel
theorem dX7_lowestReady_40 : decode cX7_lowestReady 40 = .ok (.goto (-38), 3) := by decide +kernel
theorem dX7_lowestReady_43 : decode cX7_lowestReady 43 = .ok (.iconst (-1), 1) := by decide +kernel
theorem dX7_lowestReady_44 : decode cX7_lowestReady 44 = .ok (.ireturn, 1) := by decide +kernel
theorem dX7_findByLooking_0 : decode cX7_findByLooking 0 = .ok (.iconst (-1), 1) := by decide +kernel
theorem dX7_findByLooking_1 : decode cX7_findByLooking 1 = .ok (.istore_n 1, 1) := by decide +kernel
theorem dX7_findByLooking_2 : decode cX7_findByLooking 2 = .ok (.iconst 0, 1) := by decide +kernel
theorem dX7_findByLooking_3 : decode cX7_findByLooking 3 = .ok (.istore_n 2, 1) := by decide +kernel
theorem dX7_findByLooking_4 : decode cX7_findByLooking 4 = .ok (.iconst 0, 1) := by decide +kernel
theorem dX7_findByLooking_5 : decode cX7_findByLooking 5 = .ok (.istore_n 3, 1) := by decide +kernel
theorem dX7_findByLooking_6 : decode cX7_findByLooking 6 = .ok (.iload_n 3, 1) := by decide +kernel
theorem dX7_findByLooking_7 : decode cX7_findByLooking 7 = .ok (.aload_n 0, 1) := by decide +kernel
theorem dX7_findByLooking_8 : decode cX7_findByLooking 8 = .ok (.getfield 12, 3) := by decide +kernel
theorem dX7_findByLooking_11 : decode cX7_findByLooking 11 = .ok (.invokevirtual 61, 3) := by decide +kernel
theorem dX7_findByLooking_14 : decode cX7_findByLooking 14 = .ok (.if_icmp .ge 81, 3) := by decide +kernel
theorem dX7_findByLooking_17 : decode cX7_findByLooking 17 = .ok (.aload_n 0, 1) := by decide +kernel
theorem dX7_findByLooking_18 : decode cX7_findByLooking 18 = .ok (.iload_n 3, 1) := by decide +kernel
theorem dX7_findByLooking_19 : decode cX7_findByLooking 19 = .ok (.invokevirtual 81, 3) := by decide +kernel
theorem dX7_findByLooking_22 : decode cX7_findByLooking 22 = .ok (.astore 4, 2) := by decide +kernel
theorem dX7_findByLooking_24 : decode cX7_findByLooking 24 = .ok (.aload 4, 2) := by decide +kernel
theorem dX7_findByLooking_26 : decode cX7_findByLooking 26 = .ok (.getfield 89, 3) := by decide +kernel
theorem dX7_findByLooking_29 : decode cX7_findByLooking 29 = .ok (.invokevirtual 107, 3) := by decide +kernel
theorem dX7_findByLooking_32 : decode cX7_findByLooking 32 = .ok (.istore 5, 2) := by decide +kernel
theorem dX7_findByLooking_34 : decode cX7_findByLooking 34 = .ok (.iload 5, 2) := by decide +kernel
theorem dX7_findByLooking_36 : decode cX7_findByLooking 36 = .ok (.iload_n 2, 1) := by decide +kernel
theorem dX7_findByLooking_37 : decode cX7_findByLooking 37 = .ok (.if_icmp .le 52, 3) := by decide +kernel
theorem dX7_findByLooking_40 : decode cX7_findByLooking 40 = .ok (.aload_n 0, 1) := by decide +kernel
theorem dX7_findByLooking_41 : decode cX7_findByLooking 41 = .ok (.getfield 33, 3) := by decide +kernel
theorem dX7_findByLooking_44 : decode cX7_findByLooking 44 = .ok (.getfield 205, 3) := by decide +kernel
theorem dX7_findByLooking_47 : decode cX7_findByLooking 47 = .ok (.aload 4, 2) := by decide +kernel
theorem dX7_findByLooking_49 : decode cX7_findByLooking 49 = .ok (.getfield 89, 3) := by decide +kernel
theorem dX7_findByLooking_52 : decode cX7_findByLooking 52 = .ok (.aload_n 0, 1) := by decide +kernel
theorem dX7_findByLooking_53 : decode cX7_findByLooking 53 = .ok (.getfield 33, 3) := by decide +kernel
theorem dX7_findByLooking_56 : decode cX7_findByLooking 56 = .ok (.getfield 218, 3) := by decide +kernel
theorem dX7_findByLooking_59 : decode cX7_findByLooking 59 = .ok (.invokevirtual 331, 3) := by decide +kernel
theorem dX7_findByLooking_62 : decode cX7_findByLooking 62 = .ok (.ifCond .eq 27, 3) := by decide +kernel
theorem dX7_findByLooking_65 : decode cX7_findByLooking 65 = .ok (.aload_n 0, 1) := by decide +kernel
theorem dX7_findByLooking_66 : decode cX7_findByLooking 66 = .ok (.aload 4, 2) := by decide +kernel
theorem dX7_findByLooking_68 : decode cX7_findByLooking 68 = .ok (.aload_n 0, 1) := by decide +kernel
theorem dX7_findByLooking_69 : decode cX7_findByLooking 69 = .ok (.getfield 33, 3) := by decide +kernel
theorem dX7_findByLooking_72 : decode cX7_findByLooking 72 = .ok (.getfield 218, 3) := by decide +kernel
theorem dX7_findByLooking_75 : decode cX7_findByLooking 75 = .ok (.iload 5, 2) := by decide +kernel
theorem dX7_findByLooking_77 : decode cX7_findByLooking 77 = .ok (.isub, 1) := by decide +kernel
theorem dX7_findByLooking_78 : decode cX7_findByLooking 78 = .ok (.invokevirtual 348, 3) := by decide +kernel
theorem dX7_findByLooking_81 : decode cX7_findByLooking 81 = .ok (.ifCond .eq 8, 3) := by decide +kernel
theorem dX7_findByLooking_84 : decode cX7_findByLooking 84 = .ok (.iload_n 3, 1) := by decide +kernel
theorem dX7_findByLooking_85 : decode cX7_findByLooking 85 = .ok (.istore_n 1, 1) := by decide +kernel
theorem dX7_findByLooking_86 : decode cX7_findByLooking 86 = .ok (.iload 5, 2) := by decide +kernel
theorem dX7_findByLooking_88 : decode cX7_findByLooking 88 = .ok (.istore_n 2, 1) := by decide +kernel
theorem dX7_findByLooking_89 : decode cX7_findByLooking 89 = .ok (.iinc 3 1, 3) := by decide +kernel
theorem dX7_findByLooking_92 : decode cX7_findByLooking 92 = .ok (.goto (-86), 3) := by decide +kernel
theorem dX7_findByLooking_95 : decode cX7_findByLooking 95 = .ok (.iload_n 1, 1) := by decide +kernel
theorem dX7_findByLooking_96 : decode cX7_findByLooking 96 = .ok (.ireturn, 1) := by decide +kernel
theorem dX7_isReady_0 : decode cX7_isReady 0 = .ok (.aload_n 1, 1) := by decide +kernel
theorem dX7_isReady_1 : decode cX7_isReady 1 = .ok (.getfield 113, 3) := by decide +kernel
theorem dX7_isReady_4 : decode cX7_isReady 4 = .ok (.ifCond .eq 22, 3) := by decide +kernel
theorem dX7_isReady_7 : decode cX7_isReady 7 = .ok (.aload_n 1, 1) := by decide +kernel
theorem dX7_isReady_8 : decode cX7_isReady 8 = .ok (.getfield 352, 3) := by decide +kernel
theorem dX7_isReady_11 : decode cX7_isReady 11 = .ok (.ifCond .eq 11, 3) := by decide +kernel
theorem dX7_isReady_14 : decode cX7_isReady 14 = .ok (.aload_n 0, 1) := by decide +kernel
theorem dX7_isReady_15 : decode cX7_isReady 15 = .ok (.iload_n 2, 1) := by decide +kernel
theorem dX7_isReady_16 : decode cX7_isReady 16 = .ok (.invokevirtual 355, 3) := by decide +kernel
theorem dX7_isReady_19 : decode cX7_isReady 19 = .ok (.ifCond .eq 7, 3) := by decide +kernel
theorem dX7_isReady_22 : decode cX7_isReady 22 = .ok (.iconst 1, 1) := by decide +kernel
theorem dX7_isReady_23 : decode cX7_isReady 23 = .ok (.goto 4, 3) := by decide +kernel
theorem dX7_isReady_26 : decode cX7_isReady 26 = .ok (.iconst 0, 1) := by decide +kernel
theorem dX7_isReady_27 : decode cX7_isReady 27 = .ok (.ireturn, 1) := by decide +kernel
theorem dX7_isWordStart_0 : decode cX7_isWordStart 0 = .ok (.iload_n 1, 1) := by decide +kernel
theorem dX7_isWordStart_1 : decode cX7_isWordStart 1 = .ok (.ifCond .le 22, 3) := by decide +kernel
theorem dX7_isWordStart_4 : decode cX7_isWordStart 4 = .ok (.aload_n 0, 1) := by decide +kernel
theorem dX7_isWordStart_5 : decode cX7_isWordStart 5 = .ok (.getfield 33, 3) := by decide +kernel
theorem dX7_isWordStart_8 : decode cX7_isWordStart 8 = .ok (.getfield 205, 3) := by decide +kernel
theorem dX7_isWordStart_11 : decode cX7_isWordStart 11 = .ok (.iload_n 1, 1) := by decide +kernel
theorem dX7_isWordStart_12 : decode cX7_isWordStart 12 = .ok (.iconst 1, 1) := by decide +kernel
theorem dX7_isWordStart_13 : decode cX7_isWordStart 13 = .ok (.isub, 1) := by decide +kernel
theorem dX7_isWordStart_14 : decode cX7_isWordStart 14 = .ok (.invokevirtual 178, 3) := by decide +kernel
theorem dX7_isWordStart_17 : decode cX7_isWordStart 17 = .ok (.invokestatic 254, 3) := by decide +kernel
theorem dX7_isWordStart_20 : decode cX7_isWordStart 20 = .ok (.ifCond .ne 7, 3) := by decide +kernel
theorem dX7_isWordStart_23 : decode cX7_isWordStart 23 = .ok (.iconst 1, 1) := by decide +kernel
theorem dX7_isWordStart_24 : decode cX7_isWordStart 24 = .ok (.goto 4, 3) := by decide +kernel
theorem dX7_isWordStart_27 : decode cX7_isWordStart 27 = .ok (.iconst 0, 1) := by decide +kernel
theorem dX7_isWordStart_28 : decode cX7_isWordStart 28 = .ok (.ireturn, 1) := by decide +kernel
theorem dX7_expand_0 : decode cX7_expand 0 = .ok (.aload_n 0, 1) := by decide +kernel
theorem dX7_expand_1 : decode cX7_expand 1 = .ok (.aload_n 1, 1) := by decide +kernel
theorem dX7_expand_2 : decode cX7_expand 2 = .ok (.invokevirtual 162, 3) := by decide +kernel
theorem dX7_expand_5 : decode cX7_expand 5 = .ok (.aload_n 1, 1) := by decide +kernel
theorem dX7_expand_6 : decode cX7_expand 6 = .ok (.getfield 89, 3) := by decide +kernel
theorem dX7_expand_9 : decode cX7_expand 9 = .ok (.invokevirtual 107, 3) := by decide +kernel
theorem dX7_expand_12 : decode cX7_expand 12 = .ok (.istore_n 2, 1) := by decide +kernel
theorem dX7_expand_13 : decode cX7_expand 13 = .ok (.aload_n 0, 1) := by decide +kernel
theorem dX7_expand_14 : decode cX7_expand 14 = .ok (.getfield 26, 3) := by decide +kernel
theorem dX7_expand_17 : decode cX7_expand 17 = .ok (.getfield 166, 3) := by decide +kernel
theorem dX7_expand_20 : decode cX7_expand 20 = .ok (.invokevirtual 107, 3) := by decide +kernel
theorem dX7_expand_23 : decode cX7_expand 23 = .ok (.iload_n 2, 1) := by decide +kernel
theorem dX7_expand_24 : decode cX7_expand 24 = .ok (.isub, 1) := by decide +kernel
theorem dX7_expand_25 : decode cX7_expand 25 = .ok (.istore_n 3, 1) := by decide +kernel
theorem dX7_expand_26 : decode cX7_expand 26 = .ok (.aload_n 0, 1) := by decide +kernel
theorem dX7_expand_27 : decode cX7_expand 27 = .ok (.getfield 33, 3) := by decide +kernel
theorem dX7_expand_30 : decode cX7_expand 30 = .ok (.getfield 205, 3) := by decide +kernel
theorem dX7_expand_33 : decode cX7_expand 33 = .ok (.invokevirtual 107, 3) := by decide +kernel
theorem dX7_expand_36 : decode cX7_expand 36 = .ok (.iload_n 3, 1) := by decide +kernel
theorem dX7_expand_37 : decode cX7_expand 37 = .ok (.iadd, 1) := by decide +kernel
theorem dX7_expand_38 : decode cX7_expand 38 = .ok (.bipush 80, 2) := by decide +kernel
theorem dX7_expand_40 : decode cX7_expand 40 = .ok (.if_icmp .le 5, 3) := by decide +kernel
theorem dX7_expand_43 : decode cX7_expand 43 = .ok (.iconst 0, 1) := by decide +kernel
theorem dX7_expand_44 : decode cX7_expand 44 = .ok (.ireturn, 1) := by decide +kernel
theorem dX7_expand_45 : decode cX7_expand 45 = .ok (.aload_n 0, 1) := by decide +kernel
theorem dX7_expand_46 : decode cX7_expand 46 = .ok (.getfield 37, 3) := by decide +kernel
theorem dX7_expand_49 : decode cX7_expand 49 = .ok (.aload_n 0, 1) := by decide +kernel
theorem dX7_expand_50 : decode cX7_expand 50 = .ok (.getfield 33, 3) := by decide +kernel
theorem dX7_expand_53 : decode cX7_expand 53 = .ok (.invokevirtual 236, 3) := by decide +kernel
theorem dX7_expand_56 : decode cX7_expand 56 = .ok (.aload_n 0, 1) := by decide +kernel
theorem dX7_expand_57 : decode cX7_expand 57 = .ok (.getfield 33, 3) := by decide +kernel
theorem dX7_expand_60 : decode cX7_expand 60 = .ok (.iload_n 2, 1) := by decide +kernel
theorem dX7_expand_61 : decode cX7_expand 61 = .ok (.aload_n 0, 1) := by decide +kernel
theorem dX7_expand_62 : decode cX7_expand 62 = .ok (.getfield 26, 3) := by decide +kernel
theorem dX7_expand_65 : decode cX7_expand 65 = .ok (.invokevirtual 358, 3) := by decide +kernel
theorem dX7_expand_68 : decode cX7_expand 68 = .ok (.aload_n 0, 1) := by decide +kernel
theorem dX7_expand_69 : decode cX7_expand 69 = .ok (.iconst 1, 1) := by decide +kernel
theorem dX7_expand_70 : decode cX7_expand 70 = .ok (.putfield 44, 3) := by decide +kernel
theorem dX7_expand_73 : decode cX7_expand 73 = .ok (.aload_n 0, 1) := by decide +kernel
theorem dX7_expand_74 : decode cX7_expand 74 = .ok (.dup, 1) := by decide +kernel
theorem dX7_expand_75 : decode cX7_expand 75 = .ok (.getfield 55, 3) := by decide +kernel
theorem dX7_expand_78 : decode cX7_expand 78 = .ok (.iconst 1, 1) := by decide +kernel
theorem dX7_expand_79 : decode cX7_expand 79 = .ok (.iadd, 1) := by decide +kernel
theorem dX7_expand_80 : decode cX7_expand 80 = .ok (.putfield 55, 3) := by decide +kernel
theorem dX7_expand_83 : decode cX7_expand 83 = .ok (.aload_n 0, 1) := by decide +kernel
theorem dX7_expand_84 : decode cX7_expand 84 = .ok (.iload_n 3, 1) := by decide +kernel
theorem dX7_expand_85 : decode cX7_expand 85 = .ok (.putfield 48, 3) := by decide +kernel
theorem dX7_expand_88 : decode cX7_expand 88 = .ok (.aload_n 0, 1) := by decide +kernel
theorem dX7_expand_89 : decode cX7_expand 89 = .ok (.dup, 1) := by decide +kernel
theorem dX7_expand_90 : decode cX7_expand 90 = .ok (.getfield 51, 3) := by decide +kernel
theorem dX7_expand_93 : decode cX7_expand 93 = .ok (.iload_n 3, 1) := by decide +kernel
theorem dX7_expand_94 : decode cX7_expand 94 = .ok (.i2l, 1) := by decide +kernel
theorem dX7_expand_95 : decode cX7_expand 95 = .ok (.ladd, 1) := by decide +kernel
theorem dX7_expand_96 : decode cX7_expand 96 = .ok (.putfield 51, 3) := by decide +kernel
theorem dX7_expand_99 : decode cX7_expand 99 = .ok (.iconst 1, 1) := by decide +kernel
theorem dX7_expand_100 : decode cX7_expand 100 = .ok (.ireturn, 1) := by decide +kernel
