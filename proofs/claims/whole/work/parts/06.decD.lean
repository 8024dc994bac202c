theorem dL_addSnippet_0 : decode cL_addSnippet 0 = .ok (.aload_n 2, 1) := by decide +kernel
theorem dL_addSnippet_1 : decode cL_addSnippet 1 = .ok (.iconst 0, 1) := by decide +kernel
theorem dL_addSnippet_2 : decode cL_addSnippet 2 = .ok (.aload_n 0, 1) := by decide +kernel
theorem dL_addSnippet_3 : decode cL_addSnippet 3 = .ok (.iload_n 1, 1) := by decide +kernel
theorem dL_addSnippet_4 : decode cL_addSnippet 4 = .ok (.invokevirtual 7, 3) := by decide +kernel
theorem dL_addSnippet_7 : decode cL_addSnippet 7 = .ok (.i2l, 1) := by decide +kernel
theorem dL_addSnippet_8 : decode cL_addSnippet 8 = .ok (.lastore, 1) := by decide +kernel
theorem dL_addSnippet_9 : decode cL_addSnippet 9 = .ok (.goto 6, 3) := by decide +kernel
theorem dL_addSnippet_12 : decode cL_addSnippet 12 = .ok (.astore_n 3, 1) := by decide +kernel
theorem dL_addSnippet_13 : decode cL_addSnippet 13 = .ok (.iconst 1, 1) := by decide +kernel
theorem dL_addSnippet_14 : decode cL_addSnippet 14 = .ok (.ireturn, 1) := by decide +kernel
theorem dL_addSnippet_15 : decode cL_addSnippet 15 = .ok (.iconst 0, 1) := by decide +kernel
theorem dL_addSnippet_16 : decode cL_addSnippet 16 = .ok (.ireturn, 1) := by decide +kernel
theorem dL_addToTrigger_0 : decode cL_addToTrigger 0 = .ok (.aload_n 3, 1) := by decide +kernel
theorem dL_addToTrigger_1 : decode cL_addToTrigger 1 = .ok (.iconst 0, 1) := by decide +kernel
theorem dL_addToTrigger_2 : decode cL_addToTrigger 2 = .ok (.aload_n 0, 1) := by decide +kernel
theorem dL_addToTrigger_3 : decode cL_addToTrigger 3 = .ok (.iload_n 1, 1) := by decide +kernel
theorem dL_addToTrigger_4 : decode cL_addToTrigger 4 = .ok (.iload_n 2, 1) := by decide +kernel
theorem dL_addToTrigger_5 : decode cL_addToTrigger 5 = .ok (.invokevirtual 15, 3) := by decide +kernel
theorem dL_addToTrigger_8 : decode cL_addToTrigger 8 = .ok (.i2l, 1) := by decide +kernel
theorem dL_addToTrigger_9 : decode cL_addToTrigger 9 = .ok (.lastore, 1) := by decide +kernel
theorem dL_addToTrigger_10 : decode cL_addToTrigger 10 = .ok (.goto 15, 3) := by decide +kernel
theorem dL_addToTrigger_13 : decode cL_addToTrigger 13 = .ok (.astore 4, 2) := by decide +kernel
theorem dL_addToTrigger_15 : decode cL_addToTrigger 15 = .ok (.iconst 1, 1) := by decide +kernel
theorem dL_addToTrigger_16 : decode cL_addToTrigger 16 = .ok (.ireturn, 1) := by decide +kernel
theorem dL_addToTrigger_17 : decode cL_addToTrigger 17 = .ok (.astore 4, 2) := by decide +kernel
theorem dL_addToTrigger_19 : decode cL_addToTrigger 19 = .ok (.iconst 2, 1) := by decide +kernel
theorem dL_addToTrigger_20 : decode cL_addToTrigger 20 = .ok (.ireturn, 1) := by decide +kernel
theorem dL_addToTrigger_21 : decode cL_addToTrigger 21 = .ok (.astore 4, 2) := by decide +kernel
theorem dL_addToTrigger_23 : decode cL_addToTrigger 23 = .ok (.iconst 3, 1) := by decide +kernel
theorem dL_addToTrigger_24 : decode cL_addToTrigger 24 = .ok (.ireturn, 1) := by decide +kernel
theorem dL_addToTrigger_25 : decode cL_addToTrigger 25 = .ok (.iconst 0, 1) := by decide +kernel
theorem dL_addToTrigger_26 : decode cL_addToTrigger 26 = .ok (.ireturn, 1) := by decide +kernel
theorem dL_clearTrigger_0 : decode cL_clearTrigger 0 = .ok (.aload_n 2, 1) := by decide +kernel
theorem dL_clearTrigger_1 : decode cL_clearTrigger 1 = .ok (.iconst 0, 1) := by decide +kernel
theorem dL_clearTrigger_2 : decode cL_clearTrigger 2 = .ok (.aload_n 0, 1) := by decide +kernel
theorem dL_clearTrigger_3 : decode cL_clearTrigger 3 = .ok (.iload_n 1, 1) := by decide +kernel
theorem dL_clearTrigger_4 : decode cL_clearTrigger 4 = .ok (.invokevirtual 23, 3) := by decide +kernel
theorem dL_clearTrigger_7 : decode cL_clearTrigger 7 = .ok (.i2l, 1) := by decide +kernel
theorem dL_clearTrigger_8 : decode cL_clearTrigger 8 = .ok (.lastore, 1) := by decide +kernel
theorem dL_clearTrigger_9 : decode cL_clearTrigger 9 = .ok (.goto 6, 3) := by decide +kernel
theorem dL_clearTrigger_12 : decode cL_clearTrigger 12 = .ok (.astore_n 3, 1) := by decide +kernel
theorem dL_clearTrigger_13 : decode cL_clearTrigger 13 = .ok (.iconst 1, 1) := by decide +kernel
theorem dL_clearTrigger_14 : decode cL_clearTrigger 14 = .ok (.ireturn, 1) := by decide +kernel
theorem dL_clearTrigger_15 : decode cL_clearTrigger 15 = .ok (.iconst 0, 1) := by decide +kernel
theorem dL_clearTrigger_16 : decode cL_clearTrigger 16 = .ok (.ireturn, 1) := by decide +kernel
theorem dL_setOn_0 : decode cL_setOn 0 = .ok (.aload_n 3, 1) := by decide +kernel
theorem dL_setOn_1 : decode cL_setOn 1 = .ok (.iconst 0, 1) := by decide +kernel
theorem dL_setOn_2 : decode cL_setOn 2 = .ok (.aload_n 0, 1) := by decide +kernel
theorem dL_setOn_3 : decode cL_setOn 3 = .ok (.iload_n 1, 1) := by decide +kernel
theorem dL_setOn_4 : decode cL_setOn 4 = .ok (.iload_n 2, 1) := by decide +kernel
theorem dL_setOn_5 : decode cL_setOn 5 = .ok (.invokevirtual 27, 3) := by decide +kernel
theorem dL_setOn_8 : decode cL_setOn 8 = .ok (.ifCond .eq 7, 3) := by decide +kernel
theorem dL_setOn_11 : decode cL_setOn 11 = .ok (.lconst 1, 1) := by decide +kernel
theorem dL_setOn_12 : decode cL_setOn 12 = .ok (.goto 4, 3) := by decide +kernel
theorem dL_setOn_15 : decode cL_setOn 15 = .ok (.lconst 0, 1) := by decide +kernel
theorem dL_setOn_16 : decode cL_setOn 16 = .ok (.lastore, 1) := by decide +kernel
theorem dL_setOn_17 : decode cL_setOn 17 = .ok (.goto 7, 3) := by decide +kernel
theorem dL_setOn_20 : decode cL_setOn 20 = .ok (.astore 4, 2) := by decide +kernel
theorem dL_setOn_22 : decode cL_setOn 22 = .ok (.iconst 1, 1) := by decide +kernel
theorem dL_setOn_23 : decode cL_setOn 23 = .ok (.ireturn, 1) := by decide +kernel
theorem dL_setOn_24 : decode cL_setOn 24 = .ok (.iconst 0, 1) := by decide +kernel
theorem dL_setOn_25 : decode cL_setOn 25 = .ok (.ireturn, 1) := by decide +kernel
theorem dL_putCharacter_0 : decode cL_putCharacter 0 = .ok (.aload_n 3, 1) := by decide +kernel
theorem dL_putCharacter_1 : decode cL_putCharacter 1 = .ok (.iconst 0, 1) := by decide +kernel
theorem dL_putCharacter_2 : decode cL_putCharacter 2 = .ok (.aload_n 0, 1) := by decide +kernel
theorem dL_putCharacter_3 : decode cL_putCharacter 3 = .ok (.iload_n 1, 1) := by decide +kernel
theorem dL_putCharacter_4 : decode cL_putCharacter 4 = .ok (.iload_n 2, 1) := by decide +kernel
theorem dL_putCharacter_5 : decode cL_putCharacter 5 = .ok (.invokevirtual 31, 3) := by decide +kernel
theorem dL_putCharacter_8 : decode cL_putCharacter 8 = .ok (.i2l, 1) := by decide +kernel
theorem dL_putCharacter_9 : decode cL_putCharacter 9 = .ok (.lastore, 1) := by decide +kernel
theorem dL_putCharacter_10 : decode cL_putCharacter 10 = .ok (.goto 15, 3) := by decide +kernel
theorem dL_putCharacter_13 : decode cL_putCharacter 13 = .ok (.astore 4, 2) := by decide +kernel
theorem dL_putCharacter_15 : decode cL_putCharacter 15 = .ok (.iconst 1, 1) := by decide +kernel
theorem dL_putCharacter_16 : decode cL_putCharacter 16 = .ok (.ireturn, 1) := by decide +kernel
theorem dL_putCharacter_17 : decode cL_putCharacter 17 = .ok (.astore 4, 2) := by decide +kernel
theorem dL_putCharacter_19 : decode cL_putCharacter 19 = .ok (.iconst 2, 1) := by decide +kernel
theorem dL_putCharacter_20 : decode cL_putCharacter 20 = .ok (.ireturn, 1) := by decide +kernel
theorem dL_putCharacter_21 : decode cL_putCharacter 21 = .ok (.astore 4, 2) := by decide +kernel
theorem dL_putCharacter_23 : decode cL_putCharacter 23 = .ok (.iconst 3, 1) := by decide +kernel
theorem dL_putCharacter_24 : decode cL_putCharacter 24 = .ok (.ireturn, 1) := by decide +kernel
theorem dL_putCharacter_25 : decode cL_putCharacter 25 = .ok (.iconst 0, 1) := by decide +kernel
theorem dL_putCharacter_26 : decode cL_putCharacter 26 = .ok (.ireturn, 1) := by decide +kernel
theorem dL_putSnippet_0 : decode cL_putSnippet 0 = .ok (.aload_n 3, 1) := by decide +kernel
theorem dL_putSnippet_1 : decode cL_putSnippet 1 = .ok (.iconst 0, 1) := by decide +kernel
theorem dL_putSnippet_2 : decode cL_putSnippet 2 = .ok (.aload_n 0, 1) := by decide +kernel
theorem dL_putSnippet_3 : decode cL_putSnippet 3 = .ok (.iload_n 1, 1) := by decide +kernel
theorem dL_putSnippet_4 : decode cL_putSnippet 4 = .ok (.iload_n 2, 1) := by decide +kernel
theorem dL_putSnippet_5 : decode cL_putSnippet 5 = .ok (.invokevirtual 34, 3) := by decide +kernel
theorem dL_putSnippet_8 : decode cL_putSnippet 8 = .ok (.i2l, 1) := by decide +kernel
theorem dL_putSnippet_9 : decode cL_putSnippet 9 = .ok (.lastore, 1) := by decide +kernel
theorem dL_putSnippet_10 : decode cL_putSnippet 10 = .ok (.goto 15, 3) := by decide +kernel
theorem dL_putSnippet_13 : decode cL_putSnippet 13 = .ok (.astore 4, 2) := by decide +kernel
theorem dL_putSnippet_15 : decode cL_putSnippet 15 = .ok (.iconst 1, 1) := by decide +kernel
theorem dL_putSnippet_16 : decode cL_putSnippet 16 = .ok (.ireturn, 1) := by decide +kernel
theorem dL_putSnippet_17 : decode cL_putSnippet 17 = .ok (.astore 4, 2) := by decide +kernel
theorem dL_putSnippet_19 : decode cL_putSnippet 19 = .ok (.iconst 2, 1) := by decide +kernel
theorem dL_putSnippet_20 : decode cL_putSnippet 20 = .ok (.ireturn, 1) := by decide +kernel
theorem dL_putSnippet_21 : decode cL_putSnippet 21 = .ok (.astore 4, 2) := by decide +kernel
theorem dL_putSnippet_23 : decode cL_putSnippet 23 = .ok (.iconst 3, 1) := by decide +kernel
theorem dL_putSnippet_24 : decode cL_putSnippet 24 = .ok (.ireturn, 1) := by decide +kernel
theorem dL_putSnippet_25 : decode cL_putSnippet 25 = .ok (.iconst 0, 1) := by decide +kernel
theorem dL_putSnippet_26 : decode cL_putSnippet 26 = .ok (.ireturn, 1) := by decide +kernel
theorem dL_putChoice_0 : decode cL_putChoice 0 = .ok (.aload 4, 2) := by decide +kernel
theorem dL_putChoice_2 : decode cL_putChoice 2 = .ok (.iconst 0, 1) := by decide +kernel
theorem dL_putChoice_3 : decode cL_putChoice 3 = .ok (.aload_n 0, 1) := by decide +kernel
theorem dL_putChoice_4 : decode cL_putChoice 4 = .ok (.iload_n 1, 1) := by decide +kernel
theorem dL_putChoice_5 : decode cL_putChoice 5 = .ok (.iload_n 2, 1) := by decide +kernel
theorem dL_putChoice_6 : decode cL_putChoice 6 = .ok (.iload_n 3, 1) := by decide +kernel
theorem dL_putChoice_7 : decode cL_putChoice 7 = .ok (.invokevirtual 40, 3) := by decide +kernel
theorem dL_putChoice_10 : decode cL_putChoice 10 = .ok (.i2l, 1) := by decide +kernel
theorem dL_putChoice_11 : decode cL_putChoice 11 = .ok (.lastore, 1) := by decide +kernel
theorem dL_putChoice_12 : decode cL_putChoice 12 = .ok (.goto 15, 3) := by decide +kernel
theorem dL_putChoice_15 : decode cL_putChoice 15 = .ok (.astore 5, 2) := by decide +kernel
theorem dL_putChoice_17 : decode cL_putChoice 17 = .ok (.iconst 1, 1) := by decide +kernel
theorem dL_putChoice_18 : decode cL_putChoice 18 = .ok (.ireturn, 1) := by decide +kernel
theorem dL_putChoice_19 : decode cL_putChoice 19 = .ok (.astore 5, 2) := by decide +kernel
theorem dL_putChoice_21 : decode cL_putChoice 21 = .ok (.iconst 2, 1) := by decide +kernel
theorem dL_putChoice_22 : decode cL_putChoice 22 = .ok (.ireturn, 1) := by decide +kernel
theorem dL_putChoice_23 : decode cL_putChoice 23 = .ok (.astore 5, 2) := by decide +kernel
theorem dL_putChoice_25 : decode cL_putChoice 25 = .ok (.iconst 3, 1) := by decide +kernel
theorem dL_putChoice_26 : decode cL_putChoice 26 = .ok (.ireturn, 1) := by decide +kernel
theorem dL_putChoice_27 : decode cL_putChoice 27 = .ok (.iconst 0, 1) := by decide +kernel
theorem dL_putChoice_28 : decode cL_putChoice 28 = .ok (.ireturn, 1) := by decide +kernel
theorem dL_putDate_0 : decode cL_putDate 0 = .ok (.aload 4, 2) := by decide +kernel
theorem dL_putDate_2 : decode cL_putDate 2 = .ok (.iconst 0, 1) := by decide +kernel
theorem dL_putDate_3 : decode cL_putDate 3 = .ok (.aload_n 0, 1) := by decide +kernel
theorem dL_putDate_4 : decode cL_putDate 4 = .ok (.iload_n 1, 1) := by decide +kernel
theorem dL_putDate_5 : decode cL_putDate 5 = .ok (.iload_n 2, 1) := by decide +kernel
theorem dL_putDate_6 : decode cL_putDate 6 = .ok (.iload_n 3, 1) := by decide +kernel
theorem dL_putDate_7 : decode cL_putDate 7 = .ok (.invokevirtual 44, 3) := by decide +kernel
theorem dL_putDate_10 : decode cL_putDate 10 = .ok (.i2l, 1) := by decide +kernel
theorem dL_putDate_11 : decode cL_putDate 11 = .ok (.lastore, 1) := by decide +kernel
theorem dL_putDate_12 : decode cL_putDate 12 = .ok (.goto 15, 3) := by decide +kernel
theorem dL_putDate_15 : decode cL_putDate 15 = .ok (.astore 5, 2) := by decide +kernel
theorem dL_putDate_17 : decode cL_putDate 17 = .ok (.iconst 1, 1) := by decide +kernel
theorem dL_putDate_18 : decode cL_putDate 18 = .ok (.ireturn, 1) := by decide +kernel
theorem dL_putDate_19 : decode cL_putDate 19 = .ok (.astore 5, 2) := by decide +kernel
theorem dL_putDate_21 : decode cL_putDate 21 = .ok (.iconst 2, 1) := by decide +kernel
theorem dL_putDate_22 : decode cL_putDate 22 = .ok (.ireturn, 1) := by decide +kernel
theorem dL_putDate_23 : decode cL_putDate 23 = .ok (.astore 5, 2) := by decide +kernel
theorem dL_putDate_25 : decode cL_putDate 25 = .ok (.iconst 3, 1) := by decide +kernel
theorem dL_putDate_26 : decode cL_putDate 26 = .ok (.ireturn, 1) := by decide +kernel
theorem dL_putDate_27 : decode cL_putDate 27 = .ok (.iconst 0, 1) := by decide +kernel
theorem dL_putDate_28 : decode cL_putDate 28 = .ok (.ireturn, 1) := by decide +kernel
theorem dL_putStop_0 : decode cL_putStop 0 = .ok (.aload_n 2, 1) := by decide +kernel
theorem dL_putStop_1 : decode cL_putStop 1 = .ok (.iconst 0, 1) := by decide +kernel
theorem dL_putStop_2 : decode cL_putStop 2 = .ok (.aload_n 0, 1) := by decide +kernel
theorem dL_putStop_3 : decode cL_putStop 3 = .ok (.iload_n 1, 1) := by decide +kernel
theorem dL_putStop_4 : decode cL_putStop 4 = .ok (.invokevirtual 48, 3) := by decide +kernel
theorem dL_putStop_7 : decode cL_putStop 7 = .ok (.i2l, 1) := by decide +kernel
theorem dL_putStop_8 : decode cL_putStop 8 = .ok (.lastore, 1) := by decide +kernel
theorem dL_putStop_9 : decode cL_putStop 9 = .ok (.goto 9, 3) := by decide +kernel
theorem dL_putStop_12 : decode cL_putStop 12 = .ok (.astore_n 3, 1) := by decide +kernel
theorem dL_putStop_13 : decode cL_putStop 13 = .ok (.iconst 1, 1) := by decide +kernel
theorem dL_putStop_14 : decode cL_putStop 14 = .ok (.ireturn, 1) := by decide +kernel
theorem dL_putStop_15 : decode cL_putStop 15 = .ok (.astore_n 3, 1) := by decide +kernel
theorem dL_putStop_16 : decode cL_putStop 16 = .ok (.iconst 2, 1) := by decide +kernel
theorem dL_putStop_17 : decode cL_putStop 17 = .ok (.ireturn, 1) := by decide +kernel
theorem dL_putStop_18 : decode cL_putStop 18 = .ok (.iconst 0, 1) := by decide +kernel
theorem dL_putStop_19 : decode cL_putStop 19 = .ok (.ireturn, 1) := by decide +kernel
theorem dL_clearBody_0 : decode cL_clearBody 0 = .ok (.aload_n 2, 1) := by decide +kernel
theorem dL_clearBody_1 : decode cL_clearBody 1 = .ok (.iconst 0, 1) := by decide +kernel
theorem dL_clearBody_2 : decode cL_clearBody 2 = .ok (.aload_n 0, 1) := by decide +kernel
theorem dL_clearBody_3 : decode cL_clearBody 3 = .ok (.iload_n 1, 1) := by decide +kernel
theorem dL_clearBody_4 : decode cL_clearBody 4 = .ok (.invokevirtual 51, 3) := by decide +kernel
theorem dL_clearBody_7 : decode cL_clearBody 7 = .ok (.i2l, 1) := by decide +kernel
theorem dL_clearBody_8 : decode cL_clearBody 8 = .ok (.lastore, 1) := by decide +kernel
theorem dL_clearBody_9 : decode cL_clearBody 9 = .ok (.goto 6, 3) := by decide +kernel
theorem dL_clearBody_12 : decode cL_clearBody 12 = .ok (.astore_n 3, 1) := by decide +kernel
theorem dL_clearBody_13 : decode cL_clearBody 13 = .ok (.iconst 1, 1) := by decide +kernel
theorem dL_clearBody_14 : decode cL_clearBody 14 = .ok (.ireturn, 1) := by decide +kernel
theorem dL_clearBody_15 : decode cL_clearBody 15 = .ok (.iconst 0, 1) := by decide +kernel
theorem dL_clearBody_16 : decode cL_clearBody 16 = .ok (.ireturn, 1) := by decide +kernel
theorem dL_choose_0 : decode cL_choose 0 = .ok (.aload_n 3, 1) := by decide +kernel
theorem dL_choose_1 : decode cL_choose 1 = .ok (.iconst 0, 1) := by decide +kernel
theorem dL_choose_2 : decode cL_choose 2 = .ok (.aload_n 0, 1) := by decide +kernel
theorem dL_choose_3 : decode cL_choose 3 = .ok (.iload_n 1, 1) := by decide +kernel
theorem dL_choose_4 : decode cL_choose 4 = .ok (.iload_n 2, 1) := by decide +kernel
theorem dL_choose_5 : decode cL_choose 5 = .ok (.invokevirtual 54, 3) := by decide +kernel
theorem dL_choose_8 : decode cL_choose 8 = .ok (.ifCond .eq 7, 3) := by decide +kernel
theorem dL_choose_11 : decode cL_choose 11 = .ok (.lconst 1, 1) := by decide +kernel
theorem dL_choose_12 : decode cL_choose 12 = .ok (.goto 4, 3) := by decide +kernel
theorem dL_choose_15 : decode cL_choose 15 = .ok (.lconst 0, 1) := by decide +kernel
theorem dL_choose_16 : decode cL_choose 16 = .ok (.lastore, 1) := by decide +kernel
theorem dL_choose_17 : decode cL_choose 17 = .ok (.goto 7, 3) := by decide +kernel
theorem dL_choose_20 : decode cL_choose 20 = .ok (.astore 4, 2) := by decide +kernel
theorem dL_choose_22 : decode cL_choose 22 = .ok (.iconst 1, 1) := by decide +kernel
theorem dL_choose_23 : decode cL_choose 23 = .ok (.ireturn, 1) := by decide +kernel
theorem dL_choose_24 : decode cL_choose 24 = .ok (.iconst 0, 1) := by decide +kernel
theorem dL_choose_25 : decode cL_choose 25 = .ok (.ireturn, 1) := by decide +kernel
theorem dL_setToday_0 : decode cL_setToday 0 = .ok (.aload_n 2, 1) := by decide +kernel
theorem dL_setToday_1 : decode cL_setToday 1 = .ok (.iconst 0, 1) := by decide +kernel
theorem dL_setToday_2 : decode cL_setToday 2 = .ok (.aload_n 0, 1) := by decide +kernel
theorem dL_setToday_3 : decode cL_setToday 3 = .ok (.iload_n 1, 1) := by decide +kernel
theorem dL_setToday_4 : decode cL_setToday 4 = .ok (.invokevirtual 57, 3) := by decide +kernel
theorem dL_setToday_7 : decode cL_setToday 7 = .ok (.i2l, 1) := by decide +kernel
theorem dL_setToday_8 : decode cL_setToday 8 = .ok (.lastore, 1) := by decide +kernel
theorem dL_setToday_9 : decode cL_setToday 9 = .ok (.goto 6, 3) := by decide +kernel
theorem dL_setToday_12 : decode cL_setToday 12 = .ok (.astore_n 3, 1) := by decide +kernel
theorem dL_setToday_13 : decode cL_setToday 13 = .ok (.iconst 1, 1) := by decide +kernel
theorem dL_setToday_14 : decode cL_setToday 14 = .ok (.ireturn, 1) := by decide +kernel
theorem dL_setToday_15 : decode cL_setToday 15 = .ok (.iconst 0, 1) := by decide +kernel
theorem dL_setToday_16 : decode cL_setToday 16 = .ok (.ireturn, 1) := by decide +kernel
theorem dL_lengthOf_0 : decode cL_lengthOf 0 = .ok (.aload_n 2, 1) := by decide +kernel
theorem dL_lengthOf_1 : decode cL_lengthOf 1 = .ok (.iconst 0, 1) := by decide +kernel
theorem dL_lengthOf_2 : decode cL_lengthOf 2 = .ok (.aload_n 0, 1) := by decide +kernel
theorem dL_lengthOf_3 : decode cL_lengthOf 3 = .ok (.iload_n 1, 1) := by decide +kernel
theorem dL_lengthOf_4 : decode cL_lengthOf 4 = .ok (.invokevirtual 60, 3) := by decide +kernel
theorem dL_lengthOf_7 : decode cL_lengthOf 7 = .ok (.i2l, 1) := by decide +kernel
theorem dL_lengthOf_8 : decode cL_lengthOf 8 = .ok (.lastore, 1) := by decide +kernel
theorem dL_lengthOf_9 : decode cL_lengthOf 9 = .ok (.goto 6, 3) := by decide +kernel
theorem dL_lengthOf_12 : decode cL_lengthOf 12 = .ok (.astore_n 3, 1) := by decide +kernel
theorem dL_lengthOf_13 : decode cL_lengthOf 13 = .ok (.iconst 1, 1) := by decide +kernel
theorem dL_lengthOf_14 : decode cL_lengthOf 14 = .ok (.ireturn, 1) := by decide +kernel
theorem dL_lengthOf_15 : decode cL_lengthOf 15 = .ok (.iconst 0, 1) := by decide +kernel
theorem dL_lengthOf_16 : decode cL_lengthOf 16 = .ok (.ireturn, 1) := by decide +kernel
theorem dL_characterOf_0 : decode cL_characterOf 0 = .ok (.aload_n 3, 1) := by decide +kernel
theorem dL_characterOf_1 : decode cL_characterOf 1 = .ok (.iconst 0, 1) := by decide +kernel
theorem dL_characterOf_2 : decode cL_characterOf 2 = .ok (.aload_n 0, 1) := by decide +kernel
theorem dL_characterOf_3 : decode cL_characterOf 3 = .ok (.iload_n 1, 1) := by decide +kernel
theorem dL_characterOf_4 : decode cL_characterOf 4 = .ok (.iload_n 2, 1) := by decide +kernel
theorem dL_characterOf_5 : decode cL_characterOf 5 = .ok (.invokevirtual 63, 3) := by decide +kernel
theorem dL_characterOf_8 : decode cL_characterOf 8 = .ok (.i2l, 1) := by decide +kernel
theorem dL_characterOf_9 : decode cL_characterOf 9 = .ok (.lastore, 1) := by decide +kernel
theorem dL_characterOf_10 : decode cL_characterOf 10 = .ok (.goto 11, 3) := by decide +kernel
theorem dL_characterOf_13 : decode cL_characterOf 13 = .ok (.astore 4, 2) := by decide +kernel
theorem dL_characterOf_15 : decode cL_characterOf 15 = .ok (.iconst 1, 1) := by decide +kernel
theorem dL_characterOf_16 : decode cL_characterOf 16 = .ok (.ireturn, 1) := by decide +kernel
theorem dL_characterOf_17 : decode cL_characterOf 17 = .ok (.astore 4, 2) := by decide +kernel
theorem dL_characterOf_19 : decode cL_characterOf 19 = .ok (.iconst 2, 1) := by decide +kernel
theorem dL_characterOf_20 : decode cL_characterOf 20 = .ok (.ireturn, 1) := by decide +kernel
theorem dL_characterOf_21 : decode cL_characterOf 21 = .ok (.iconst 0, 1) := by decide +kernel
theorem dL_characterOf_22 : decode cL_characterOf 22 = .ok (.ireturn, 1) := by decide +kernel
theorem dL_stopsOf_0 : decode cL_stopsOf 0 = .ok (.aload_n 2, 1) := by decide +kernel
theorem dL_stopsOf_1 : decode cL_stopsOf 1 = .ok (.iconst 0, 1) := by decide +kernel
theorem dL_stopsOf_2 : decode cL_stopsOf 2 = .ok (.aload_n 0, 1) := by decide +kernel
theorem dL_stopsOf_3 : decode cL_stopsOf 3 = .ok (.iload_n 1, 1) := by decide +kernel
theorem dL_stopsOf_4 : decode cL_stopsOf 4 = .ok (.invokevirtual 69, 3) := by decide +kernel
theorem dL_stopsOf_7 : decode cL_stopsOf 7 = .ok (.i2l, 1) := by decide +kernel
theorem dL_stopsOf_8 : decode cL_stopsOf 8 = .ok (.lastore, 1) := by decide +kernel
theorem dL_stopsOf_9 : decode cL_stopsOf 9 = .ok (.goto 6, 3) := by decide +kernel
theorem dL_stopsOf_12 : decode cL_stopsOf 12 = .ok (.astore_n 3, 1) := by decide +kernel
theorem dL_stopsOf_13 : decode cL_stopsOf 13 = .ok (.iconst 1, 1) := by decide +kernel
theorem dL_stopsOf_14 : decode cL_stopsOf 14 = .ok (.ireturn, 1) := by decide +kernel
theorem dL_stopsOf_15 : decode cL_stopsOf 15 = .ok (.iconst 0, 1) := by decide +kernel
theorem dL_stopsOf_16 : decode cL_stopsOf 16 = .ok (.ireturn, 1) := by decide +kernel
theorem dL_stopOf_0 : decode cL_stopOf 0 = .ok (.aload_n 3, 1) := by decide +kernel
theorem dL_stopOf_1 : decode cL_stopOf 1 = .ok (.iconst 0, 1) := by decide +kernel
theorem dL_stopOf_2 : decode cL_stopOf 2 = .ok (.aload_n 0, 1) := by decide +kernel
theorem dL_stopOf_3 : decode cL_stopOf 3 = .ok (.iload_n 1, 1) := by decide +kernel
theorem dL_stopOf_4 : decode cL_stopOf 4 = .ok (.iload_n 2, 1) := by decide +kernel
theorem dL_stopOf_5 : decode cL_stopOf 5 = .ok (.invokevirtual 72, 3) := by decide +kernel
theorem dL_stopOf_8 : decode cL_stopOf 8 = .ok (.i2l, 1) := by decide +kernel
theorem dL_stopOf_9 : decode cL_stopOf 9 = .ok (.lastore, 1) := by decide +kernel
theorem dL_stopOf_10 : decode cL_stopOf 10 = .ok (.goto 11, 3) := by decide +kernel
theorem dL_stopOf_13 : decode cL_stopOf 13 = .ok (.astore 4, 2) := by decide +kernel
theorem dL_stopOf_15 : decode cL_stopOf 15 = .ok (.iconst 1, 1) := by decide +kernel
theorem dL_stopOf_16 : decode cL_stopOf 16 = .ok (.ireturn, 1) := by decide +kernel
theorem dL_stopOf_17 : decode cL_stopOf 17 = .ok (.astore 4, 2) := by decide +kernel
theorem dL_stopOf_19 : decode cL_stopOf 19 = .ok (.iconst 2, 1) := by decide +kernel
theorem dL_stopOf_20 : decode cL_stopOf 20 = .ok (.ireturn, 1) := by decide +kernel
theorem dL_stopOf_21 : decode cL_stopOf 21 = .ok (.iconst 0, 1) := by decide +kernel
theorem dL_stopOf_22 : decode cL_stopOf 22 = .ok (.ireturn, 1) := by decide +kernel
theorem dL_comesTo_0 : decode cL_comesTo 0 = .ok (.aload_n 3, 1) := by decide +kernel
theorem dL_comesTo_1 : decode cL_comesTo 1 = .ok (.iconst 0, 1) := by decide +kernel
theorem dL_comesTo_2 : decode cL_comesTo 2 = .ok (.aload_n 0, 1) := by decide +kernel
theorem dL_comesTo_3 : decode cL_comesTo 3 = .ok (.iload_n 1, 1) := by decide +kernel
theorem dL_comesTo_4 : decode cL_comesTo 4 = .ok (.iload_n 2, 1) := by decide +kernel
theorem dL_comesTo_5 : decode cL_comesTo 5 = .ok (.invokevirtual 75, 3) := by decide +kernel
theorem dL_comesTo_8 : decode cL_comesTo 8 = .ok (.ifCond .eq 7, 3) := by decide +kernel
theorem dL_comesTo_11 : decode cL_comesTo 11 = .ok (.lconst 1, 1) := by decide +kernel
theorem dL_comesTo_12 : decode cL_comesTo 12 = .ok (.goto 4, 3) := by decide +kernel
theorem dL_comesTo_15 : decode cL_comesTo 15 = .ok (.lconst 0, 1) := by decide +kernel
theorem dL_comesTo_16 : decode cL_comesTo 16 = .ok (.lastore, 1) := by decide +kernel
theorem dL_comesTo_17 : decode cL_comesTo 17 = .ok (.goto 7, 3) := by decide +kernel
theorem dL_comesTo_20 : decode cL_comesTo 20 = .ok (.astore 4, 2) := by decide +kernel
theorem dL_comesTo_22 : decode cL_comesTo 22 = .ok (.iconst 1, 1) := by decide +kernel
theorem dL_comesTo_23 : decode cL_comesTo 23 = .ok (.ireturn, 1) := by decide +kernel
theorem dL_comesTo_24 : decode cL_comesTo 24 = .ok (.iconst 0, 1) := by decide +kernel
theorem dL_comesTo_25 : decode cL_comesTo 25 = .ok (.ireturn, 1) := by decide +kernel
theorem dL_depth_0 : decode cL_depth 0 = .ok (.aload_n 2, 1) := by decide +kernel
theorem dL_depth_1 : decode cL_depth 1 = .ok (.iconst 0, 1) := by decide +kernel
theorem dL_depth_2 : decode cL_depth 2 = .ok (.aload_n 0, 1) := by decide +kernel
theorem dL_depth_3 : decode cL_depth 3 = .ok (.iload_n 1, 1) := by decide +kernel
theorem dL_depth_4 : decode cL_depth 4 = .ok (.invokevirtual 79, 3) := by decide +kernel
theorem dL_depth_7 : decode cL_depth 7 = .ok (.i2l, 1) := by decide +kernel
theorem dL_depth_8 : decode cL_depth 8 = .ok (.lastore, 1) := by decide +kernel
theorem dL_depth_9 : decode cL_depth 9 = .ok (.goto 6, 3) := by decide +kernel
theorem dL_depth_12 : decode cL_depth 12 = .ok (.astore_n 3, 1) := by decide +kernel
theorem dL_depth_13 : decode cL_depth 13 = .ok (.iconst 1, 1) := by decide +kernel
theorem dL_depth_14 : decode cL_depth 14 = .ok (.ireturn, 1) := by decide +kernel
theorem dL_depth_15 : decode cL_depth 15 = .ok (.iconst 0, 1) := by decide +kernel
theorem dL_depth_16 : decode cL_depth 16 = .ok (.ireturn, 1) := by decide +kernel
theorem dL_isShadowedBy_0 : decode cL_isShadowedBy 0 = .ok (.aload_n 3, 1) := by decide +kernel
theorem dL_isShadowedBy_1 : decode cL_isShadowedBy 1 = .ok (.iconst 0, 1) := by decide +kernel
theorem dL_isShadowedBy_2 : decode cL_isShadowedBy 2 = .ok (.aload_n 0, 1) := by decide +kernel
theorem dL_isShadowedBy_3 : decode cL_isShadowedBy 3 = .ok (.iload_n 1, 1) := by decide +kernel
theorem dL_isShadowedBy_4 : decode cL_isShadowedBy 4 = .ok (.iload_n 2, 1) := by decide +kernel
theorem dL_isShadowedBy_5 : decode cL_isShadowedBy 5 = .ok (.invokevirtual 82, 3) := by decide +kernel
theorem dL_isShadowedBy_8 : decode cL_isShadowedBy 8 = .ok (.ifCond .eq 7, 3) := by decide +kernel
theorem dL_isShadowedBy_11 : decode cL_isShadowedBy 11 = .ok (.lconst 1, 1) := by decide +kernel
theorem dL_isShadowedBy_12 : decode cL_isShadowedBy 12 = .ok (.goto 4, 3) := by decide +kernel
theorem dL_isShadowedBy_15 : decode cL_isShadowedBy 15 = .ok (.lconst 0, 1) := by decide +kernel
theorem dL_isShadowedBy_16 : decode cL_isShadowedBy 16 = .ok (.lastore, 1) := by decide +kernel
theorem dL_isShadowedBy_17 : decode cL_isShadowedBy 17 = .ok (.goto 7, 3) := by decide +kernel
theorem dL_isShadowedBy_20 : decode cL_isShadowedBy 20 = .ok (.astore 4, 2) := by decide +kernel
theorem dL_isShadowedBy_22 : decode cL_isShadowedBy 22 = .ok (.iconst 1, 1) := by decide +kernel
theorem dL_isShadowedBy_23 : decode cL_isShadowedBy 23 = .ok (.ireturn, 1) := by decide +kernel
theorem dL_isShadowedBy_24 : decode cL_isShadowedBy 24 = .ok (.iconst 0, 1) := by decide +kernel
theorem dL_isShadowedBy_25 : decode cL_isShadowedBy 25 = .ok (.ireturn, 1) := by decide +kernel
theorem dL_shadower_0 : decode cL_shadower 0 = .ok (.aload_n 2, 1) := by decide +kernel
theorem dL_shadower_1 : decode cL_shadower 1 = .ok (.iconst 0, 1) := by decide +kernel
theorem dL_shadower_2 : decode cL_shadower 2 = .ok (.aload_n 0, 1) := by decide +kernel
theorem dL_shadower_3 : decode cL_shadower 3 = .ok (.iload_n 1, 1) := by decide +kernel
theorem dL_shadower_4 : decode cL_shadower 4 = .ok (.invokevirtual 85, 3) := by decide +kernel
theorem dL_shadower_7 : decode cL_shadower 7 = .ok (.i2l, 1) := by decide +kernel
theorem dL_shadower_8 : decode cL_shadower 8 = .ok (.lastore, 1) := by decide +kernel
theorem dL_shadower_9 : decode cL_shadower 9 = .ok (.goto 9, 3) := by decide +kernel
theorem dL_shadower_12 : decode cL_shadower 12 = .ok (.astore_n 3, 1) := by decide +kernel
theorem dL_shadower_13 : decode cL_shadower 13 = .ok (.iconst 1, 1) := by decide +kernel
theorem dL_shadower_14 : decode cL_shadower 14 = .ok (.ireturn, 1) := by decide +kernel
theorem dL_shadower_15 : decode cL_shadower 15 = .ok (.astore_n 3, 1) := by decide +kernel
theorem dL_shadower_16 : decode cL_shadower 16 = .ok (.iconst 2, 1) := by decide +kernel
theorem dL_shadower_17 : decode cL_shadower 17 = .ok (.ireturn, 1) := by decide +kernel
theorem dL_shadower_18 : decode cL_shadower 18 = .ok (.iconst 0, 1) := by decide +kernel
theorem dL_shadower_19 : decode cL_shadower 19 = .ok (.ireturn, 1) := by decide +kernel
theorem dL_key_0 : decode cL_key 0 = .ok (.aload_n 2, 1) := by decide +kernel
theorem dL_key_1 : decode cL_key 1 = .ok (.iconst 0, 1) := by decide +kernel
theorem dL_key_2 : decode cL_key 2 = .ok (.aload_n 0, 1) := by decide +kernel
theorem dL_key_3 : decode cL_key 3 = .ok (.iload_n 1, 1) := by decide +kernel
theorem dL_key_4 : decode cL_key 4 = .ok (.invokevirtual 88, 3) := by decide +kernel
theorem dL_key_7 : decode cL_key 7 = .ok (.i2l, 1) := by decide +kernel
theorem dL_key_8 : decode cL_key 8 = .ok (.lastore, 1) := by decide +kernel
theorem dL_key_9 : decode cL_key 9 = .ok (.goto 9, 3) := by decide +kernel
theorem dL_key_12 : decode cL_key 12 = .ok (.astore_n 3, 1) := by decide +kernel
theorem dL_key_13 : decode cL_key 13 = .ok (.iconst 1, 1) := by decide +kernel
theorem dL_key_14 : decode cL_key 14 = .ok (.ireturn, 1) := by decide +kernel
theorem dL_key_15 : decode cL_key 15 = .ok (.astore_n 3, 1) := by decide +kernel
theorem dL_key_16 : decode cL_key 16 = .ok (.iconst 2, 1) := by decide +kernel
theorem dL_key_17 : decode cL_key 17 = .ok (.ireturn, 1) := by decide +kernel
theorem dL_key_18 : decode cL_key 18 = .ok (.iconst 0, 1) := by decide +kernel
theorem dL_key_19 : decode cL_key 19 = .ok (.ireturn, 1) := by decide +kernel
theorem dL_erase_0 : decode cL_erase 0 = .ok (.aload_n 1, 1) := by decide +kernel
theorem dL_erase_1 : decode cL_erase 1 = .ok (.iconst 0, 1) := by decide +kernel
theorem dL_erase_2 : decode cL_erase 2 = .ok (.aload_n 0, 1) := by decide +kernel
theorem dL_erase_3 : decode cL_erase 3 = .ok (.invokevirtual 92, 3) := by decide +kernel
theorem dL_erase_6 : decode cL_erase 6 = .ok (.i2l, 1) := by decide +kernel
theorem dL_erase_7 : decode cL_erase 7 = .ok (.lastore, 1) := by decide +kernel
theorem dL_erase_8 : decode cL_erase 8 = .ok (.goto 6, 3) := by decide +kernel
theorem dL_erase_11 : decode cL_erase 11 = .ok (.astore_n 2, 1) := by decide +kernel
theorem dL_erase_12 : decode cL_erase 12 = .ok (.iconst 1, 1) := by decide +kernel
theorem dL_erase_13 : decode cL_erase 13 = .ok (.ireturn, 1) := by decide +kernel
theorem dL_erase_14 : decode cL_erase 14 = .ok (.iconst 0, 1) := by decide +kernel
theorem dL_erase_15 : decode cL_erase 15 = .ok (.ireturn, 1) := by decide +kernel
theorem dL_moveCaret_0 : decode cL_moveCaret 0 = .ok (.aload_n 2, 1) := by decide +kernel
theorem dL_moveCaret_1 : decode cL_moveCaret 1 = .ok (.iconst 0, 1) := by decide +kernel
theorem dL_moveCaret_2 : decode cL_moveCaret 2 = .ok (.aload_n 0, 1) := by decide +kernel
theorem dL_moveCaret_3 : decode cL_moveCaret 3 = .ok (.iload_n 1, 1) := by decide +kernel
theorem dL_moveCaret_4 : decode cL_moveCaret 4 = .ok (.invokevirtual 96, 3) := by decide +kernel
theorem dL_moveCaret_7 : decode cL_moveCaret 7 = .ok (.i2l, 1) := by decide +kernel
theorem dL_moveCaret_8 : decode cL_moveCaret 8 = .ok (.lastore, 1) := by decide +kernel
theorem dL_moveCaret_9 : decode cL_moveCaret 9 = .ok (.goto 6, 3) := by decide +kernel
theorem dL_moveCaret_12 : decode cL_moveCaret 12 = .ok (.astore_n 3, 1) := by decide +kernel
theorem dL_moveCaret_13 : decode cL_moveCaret 13 = .ok (.iconst 1, 1) := by decide +kernel
theorem dL_moveCaret_14 : decode cL_moveCaret 14 = .ok (.ireturn, 1) := by decide +kernel
theorem dL_moveCaret_15 : decode cL_moveCaret 15 = .ok (.iconst 0, 1) := by decide +kernel
theorem dL_moveCaret_16 : decode cL_moveCaret 16 = .ok (.ireturn, 1) := by decide +kernel
theorem dL_nextStop_0 : decode cL_nextStop 0 = .ok (.aload_n 1, 1) := by decide +kernel
theorem dL_nextStop_1 : decode cL_nextStop 1 = .ok (.iconst 0, 1) := by decide +kernel
theorem dL_nextStop_2 : decode cL_nextStop 2 = .ok (.aload_n 0, 1) := by decide +kernel
theorem dL_nextStop_3 : decode cL_nextStop 3 = .ok (.invokevirtual 99, 3) := by decide +kernel
theorem dL_nextStop_6 : decode cL_nextStop 6 = .ok (.i2l, 1) := by decide +kernel
theorem dL_nextStop_7 : decode cL_nextStop 7 = .ok (.lastore, 1) := by decide +kernel
theorem dL_nextStop_8 : decode cL_nextStop 8 = .ok (.goto 6, 3) := by decide +kernel
theorem dL_nextStop_11 : decode cL_nextStop 11 = .ok (.astore_n 2, 1) := by decide +kernel
theorem dL_nextStop_12 : decode cL_nextStop 12 = .ok (.iconst 1, 1) := by decide +kernel
theorem dL_nextStop_13 : decode cL_nextStop 13 = .ok (.ireturn, 1) := by decide +kernel
theorem dL_nextStop_14 : decode cL_nextStop 14 = .ok (.iconst 0, 1) := by decide +kernel
theorem dL_nextStop_15 : decode cL_nextStop 15 = .ok (.ireturn, 1) := by decide +kernel
theorem dL_undo_0 : decode cL_undo 0 = .ok (.aload_n 1, 1) := by decide +kernel
theorem dL_undo_1 : decode cL_undo 1 = .ok (.iconst 0, 1) := by decide +kernel
theorem dL_undo_2 : decode cL_undo 2 = .ok (.aload_n 0, 1) := by decide +kernel
theorem dL_undo_3 : decode cL_undo 3 = .ok (.invokevirtual 103, 3) := by decide +kernel
theorem dL_undo_6 : decode cL_undo 6 = .ok (.i2l, 1) := by decide +kernel
theorem dL_undo_7 : decode cL_undo 7 = .ok (.lastore, 1) := by decide +kernel
theorem dL_undo_8 : decode cL_undo 8 = .ok (.goto 6, 3) := by decide +kernel
theorem dL_undo_11 : decode cL_undo 11 = .ok (.astore_n 2, 1) := by decide +kernel
theorem dL_undo_12 : decode cL_undo 12 = .ok (.iconst 1, 1) := by decide +kernel
theorem dL_undo_13 : decode cL_undo 13 = .ok (.ireturn, 1) := by decide +kernel
theorem dL_undo_14 : decode cL_undo 14 = .ok (.iconst 0, 1) := by decide +kernel
theorem dL_undo_15 : decode cL_undo 15 = .ok (.ireturn, 1) := by decide +kernel
theorem dL_characterAt_0 : decode cL_characterAt 0 = .ok (.aload_n 2, 1) := by decide +kernel
theorem dL_characterAt_1 : decode cL_characterAt 1 = .ok (.iconst 0, 1) := by decide +kernel
theorem dL_characterAt_2 : decode cL_characterAt 2 = .ok (.aload_n 0, 1) := by decide +kernel
theorem dL_characterAt_3 : decode cL_characterAt 3 = .ok (.iload_n 1, 1) := by decide +kernel
theorem dL_characterAt_4 : decode cL_characterAt 4 = .ok (.invokevirtual 106, 3) := by decide +kernel
theorem dL_characterAt_7 : decode cL_characterAt 7 = .ok (.i2l, 1) := by decide +kernel
theorem dL_characterAt_8 : decode cL_characterAt 8 = .ok (.lastore, 1) := by decide +kernel
theorem dL_characterAt_9 : decode cL_characterAt 9 = .ok (.goto 6, 3) := by decide +kernel
theorem dL_characterAt_12 : decode cL_characterAt 12 = .ok (.astore_n 3, 1) := by decide +kernel
theorem dL_characterAt_13 : decode cL_characterAt 13 = .ok (.iconst 1, 1) := by decide +kernel
theorem dL_characterAt_14 : decode cL_characterAt 14 = .ok (.ireturn, 1) := by decide +kernel
theorem dL_characterAt_15 : decode cL_characterAt 15 = .ok (.iconst 0, 1) := by decide +kernel
theorem dL_characterAt_16 : decode cL_characterAt 16 = .ok (.ireturn, 1) := by decide +kernel
theorem dL_stopAt_0 : decode cL_stopAt 0 = .ok (.aload_n 2, 1) := by decide +kernel
theorem dL_stopAt_1 : decode cL_stopAt 1 = .ok (.iconst 0, 1) := by decide +kernel
theorem dL_stopAt_2 : decode cL_stopAt 2 = .ok (.aload_n 0, 1) := by decide +kernel
theorem dL_stopAt_3 : decode cL_stopAt 3 = .ok (.iload_n 1, 1) := by decide +kernel
theorem dL_stopAt_4 : decode cL_stopAt 4 = .ok (.invokevirtual 110, 3) := by decide +kernel
theorem dL_stopAt_7 : decode cL_stopAt 7 = .ok (.i2l, 1) := by decide +kernel
theorem dL_stopAt_8 : decode cL_stopAt 8 = .ok (.lastore, 1) := by decide +kernel
theorem dL_stopAt_9 : decode cL_stopAt 9 = .ok (.goto 6, 3) := by decide +kernel
theorem dL_stopAt_12 : decode cL_stopAt 12 = .ok (.astore_n 3, 1) := by decide +kernel
theorem dL_stopAt_13 : decode cL_stopAt 13 = .ok (.iconst 1, 1) := by decide +kernel
theorem dL_stopAt_14 : decode cL_stopAt 14 = .ok (.ireturn, 1) := by decide +kernel
theorem dL_stopAt_15 : decode cL_stopAt 15 = .ok (.iconst 0, 1) := by decide +kernel
theorem dL_stopAt_16 : decode cL_stopAt 16 = .ok (.ireturn, 1) := by decide +kernel
theorem dL_keptShare_0 : decode cL_keptShare 0 = .ok (.aload_n 1, 1) := by decide +kernel
theorem dL_keptShare_1 : decode cL_keptShare 1 = .ok (.iconst 0, 1) := by decide +kernel
theorem dL_keptShare_2 : decode cL_keptShare 2 = .ok (.aload_n 0, 1) := by decide +kernel
theorem dL_keptShare_3 : decode cL_keptShare 3 = .ok (.invokevirtual 113, 3) := by decide +kernel
theorem dL_keptShare_6 : decode cL_keptShare 6 = .ok (.f2d, 1) := by decide +kernel
theorem dL_keptShare_7 : decode cL_keptShare 7 = .ok (.dastore, 1) := by decide +kernel
theorem dL_keptShare_8 : decode cL_keptShare 8 = .ok (.goto 6, 3) := by decide +kernel
theorem dL_keptShare_11 : decode cL_keptShare 11 = .ok (.astore_n 2, 1) := by decide +kernel
theorem dL_keptShare_12 : decode cL_keptShare 12 = .ok (.iconst 1, 1) := by decide +kernel
theorem dL_keptShare_13 : decode cL_keptShare 13 = .ok (.ireturn, 1) := by decide +kernel
theorem dL_keptShare_14 : decode cL_keptShare 14 = .ok (.iconst 0, 1) := by decide +kernel
theorem dL_keptShare_15 : decode cL_keptShare 15 = .ok (.ireturn, 1) := by decide +kernel
theorem dL_law_0 : decode cL_law 0 = .ok (.new 8, 3) := by decide +kernel
theorem dL_law_3 : decode cL_law 3 = .ok (.dup, 1) := by decide +kernel
theorem dL_law_4 : decode cL_law 4 = .ok (.invokespecial 117, 3) := by decide +kernel
theorem dL_law_7 : decode cL_law 7 = .ok (.astore_n 1, 1) := by decide +kernel
theorem dL_law_8 : decode cL_law 8 = .ok (.new 118, 3) := by decide +kernel
theorem dL_law_11 : decode cL_law 11 = .ok (.dup, 1) := by decide +kernel
theorem dL_law_12 : decode cL_law 12 = .ok (.invokespecial 120, 3) := by decide +kernel
theorem dL_law_15 : decode cL_law 15 = .ok (.astore_n 2, 1) := by decide +kernel
theorem dL_law_16 : decode cL_law 16 = .ok (.iconst 1, 1) := by decide +kernel
theorem dL_law_17 : decode cL_law 17 = .ok (.newarray .long, 2) := by decide +kernel
theorem dL_law_19 : decode cL_law 19 = .ok (.astore_n 3, 1) := by decide +kernel
theorem dL_law_20 : decode cL_law 20 = .ok (.iconst 1, 1) := by decide +kernel
theorem dL_law_21 : decode cL_law 21 = .ok (.newarray .double, 2) := by decide +kernel
theorem dL_law_23 : decode cL_law 23 = .ok (.astore 4, 2) := by decide +kernel
theorem dL_law_25 : decode cL_law 25 = .ok (.iconst 0, 1) := by decide +kernel
theorem dL_law_26 : decode cL_law 26 = .ok (.istore 5, 2) := by decide +kernel
theorem dL_law_28 : decode cL_law 28 = .ok (.iload 5, 2) := by decide +kernel
theorem dL_law_30 : decode cL_law 30 = .ok (.aload_n 0, 1) := by decide +kernel
theorem dL_law_31 : decode cL_law 31 = .ok (.arraylength, 1) := by decide +kernel
theorem dL_law_32 : decode cL_law 32 = .ok (.iconst 4, 1) := by decide +kernel
theorem dL_law_33 : decode cL_law 33 = .ok (.isub, 1) := by decide +kernel
theorem dL_law_34 : decode cL_law 34 = .ok (.if_icmp .gt 2046, 3) := by decide +kernel
theorem dL_law_37 : decode cL_law 37 = .ok (.aload_n 0, 1) := by decide +kernel
theorem dL_law_38 : decode cL_law 38 = .ok (.iload 5, 2) := by decide +kernel
theorem dL_law_40 : decode cL_law 40 = .ok (.iaload, 1) := by decide +kernel
theorem dL_law_41 : decode cL_law 41 = .ok (.bipush 63, 2) := by decide +kernel
theorem dL_law_43 : decode cL_law 43 = .ok (.iand, 1) := by decide +kernel
theorem dL_law_44 : decode cL_law 44 = .ok (.tableswitch 2030 0 34 #[156, 228, 298, 354, 445, 515, 583, 663, 745, 801, 857, 948, 1004, 1060, 1128, 1184, 1252, 1327, 1383, 1458, 1514, 1527, 1585, 1629, 1685, 1729, 1773, 1786, 1842, 1855, 1868, 1924, 1937, 1950, 1964], 156) := by decide +kernel
theorem dL_law_200 : decode cL_law 200 = .ok (.aload_n 1, 1) := by decide +kernel
theorem dL_law_201 : decode cL_law 201 = .ok (.aload_n 0, 1) := by decide +kernel
theorem dL_law_202 : decode cL_law 202 = .ok (.iload 5, 2) := by decide +kernel
theorem dL_law_204 : decode cL_law 204 = .ok (.iconst 1, 1) := by decide +kernel
theorem dL_law_205 : decode cL_law 205 = .ok (.iadd, 1) := by decide +kernel
theorem dL_law_206 : decode cL_law 206 = .ok (.iaload, 1) := by decide +kernel
theorem dL_law_207 : decode cL_law 207 = .ok (.ifCond .eq 7, 3) := by decide +kernel
theorem dL_law_210 : decode cL_law 210 = .ok (.iconst 1, 1) := by decide +kernel
theorem dL_law_211 : decode cL_law 211 = .ok (.goto 4, 3) := by decide +kernel
theorem dL_law_214 : decode cL_law 214 = .ok (.iconst 0, 1) := by decide +kernel
theorem dL_law_215 : decode cL_law 215 = .ok (.aload_n 3, 1) := by decide +kernel
theorem dL_law_216 : decode cL_law 216 = .ok (.invokestatic 121, 3) := by decide +kernel
theorem dL_law_219 : decode cL_law 219 = .ok (.istore 6, 2) := by decide +kernel
theorem dL_law_221 : decode cL_law 221 = .ok (.aload_n 2, 1) := by decide +kernel
theorem dL_law_222 : decode cL_law 222 = .ok (.aload_n 0, 1) := by decide +kernel
theorem dL_law_223 : decode cL_law 223 = .ok (.iload 5, 2) := by decide +kernel
theorem dL_law_225 : decode cL_law 225 = .ok (.iconst 1, 1) := by decide +kernel
theorem dL_law_226 : decode cL_law 226 = .ok (.iadd, 1) := by decide +kernel
theorem dL_law_227 : decode cL_law 227 = .ok (.iaload, 1) := by decide +kernel
theorem dL_law_228 : decode cL_law 228 = .ok (.ifCond .eq 7, 3) := by decide +kernel
theorem dL_law_231 : decode cL_law 231 = .ok (.iconst 1, 1) := by decide +kernel
theorem dL_law_232 : decode cL_law 232 = .ok (.goto 4, 3) := by decide +kernel
theorem dL_law_235 : decode cL_law 235 = .ok (.iconst 0, 1) := by decide +kernel
theorem dL_law_236 : decode cL_law 236 = .ok (.invokevirtual 126, 3) := by decide +kernel
theorem dL_law_239 : decode cL_law 239 = .ok (.istore 7, 2) := by decide +kernel
theorem dL_law_241 : decode cL_law 241 = .ok (.aload_n 2, 1) := by decide +kernel
theorem dL_law_242 : decode cL_law 242 = .ok (.invokevirtual 127, 3) := by decide +kernel
theorem dL_law_245 : decode cL_law 245 = .ok (.iload 6, 2) := by decide +kernel
theorem dL_law_247 : decode cL_law 247 = .ok (.if_icmp .eq 5, 3) := by decide +kernel
theorem dL_law_250 : decode cL_law 250 = .ok (.iconst 0, 1) := by decide +kernel
theorem dL_law_251 : decode cL_law 251 = .ok (.ireturn, 1) := by decide +kernel
theorem dL_law_252 : decode cL_law 252 = .ok (.iload 6, 2) := by decide +kernel
theorem dL_law_254 : decode cL_law 254 = .ok (.ifCond .ne 15, 3) := by decide +kernel
theorem dL_law_257 : decode cL_law 257 = .ok (.aload_n 3, 1) := by decide +kernel
theorem dL_law_258 : decode cL_law 258 = .ok (.iconst 0, 1) := by decide +kernel
theorem dL_law_259 : decode cL_law 259 = .ok (.laload, 1) := by decide +kernel
theorem dL_law_260 : decode cL_law 260 = .ok (.iload 7, 2) := by decide +kernel
theorem dL_law_262 : decode cL_law 262 = .ok (.i2l, 1) := by decide +kernel
theorem dL_law_263 : decode cL_law 263 = .ok (.lcmp, 1) := by decide +kernel
theorem dL_law_264 : decode cL_law 264 = .ok (.ifCond .eq 5, 3) := by decide +kernel
theorem dL_law_267 : decode cL_law 267 = .ok (.iconst 0, 1) := by decide +kernel
theorem dL_law_268 : decode cL_law 268 = .ok (.ireturn, 1) := by decide +kernel
theorem dL_law_269 : decode cL_law 269 = .ok (.goto 1805, 3) := by decide +kernel
theorem dL_law_272 : decode cL_law 272 = .ok (.aload_n 1, 1) := by decide +kernel
theorem dL_law_273 : decode cL_law 273 = .ok (.aload_n 0, 1) := by decide +kernel
theorem dL_law_274 : decode cL_law 274 = .ok (.iload 5, 2) := by decide +kernel
theorem dL_law_276 : decode cL_law 276 = .ok (.iconst 1, 1) := by decide +kernel
theorem dL_law_277 : decode cL_law 277 = .ok (.iadd, 1) := by decide +kernel
theorem dL_law_278 : decode cL_law 278 = .ok (.iaload, 1) := by decide +kernel
theorem dL_law_279 : decode cL_law 279 = .ok (.aload_n 0, 1) := by decide +kernel
theorem dL_law_280 : decode cL_law 280 = .ok (.iload 5, 2) := by decide +kernel
theorem dL_law_282 : decode cL_law 282 = .ok (.iconst 2, 1) := by decide +kernel
theorem dL_law_283 : decode cL_law 283 = .ok (.iadd, 1) := by decide +kernel
theorem dL_law_284 : decode cL_law 284 = .ok (.iaload, 1) := by decide +kernel
theorem dL_law_285 : decode cL_law 285 = .ok (.i2c, 1) := by decide +kernel
theorem dL_law_286 : decode cL_law 286 = .ok (.aload_n 3, 1) := by decide +kernel
theorem dL_law_287 : decode cL_law 287 = .ok (.invokestatic 130, 3) := by decide +kernel
theorem dL_law_290 : decode cL_law 290 = .ok (.istore 6, 2) := by decide +kernel
theorem dL_law_292 : decode cL_law 292 = .ok (.aload_n 2, 1) := by decide +kernel
theorem dL_law_293 : decode cL_law 293 = .ok (.aload_n 0, 1) := by decide +kernel
theorem dL_law_294 : decode cL_law 294 = .ok (.iload 5, 2) := by decide +kernel
theorem dL_law_296 : decode cL_law 296 = .ok (.iconst 1, 1) := by decide +kernel
theorem dL_law_297 : decode cL_law 297 = .ok (.iadd, 1) := by decide +kernel
theorem dL_law_298 : decode cL_law 298 = .ok (.iaload, 1) := by decide +kernel
theorem dL_law_299 : decode cL_law 299 = .ok (.aload_n 0, 1) := by decide +kernel
theorem dL_law_300 : decode cL_law 300 = .ok (.iload 5, 2) := by decide +kernel
theorem dL_law_302 : decode cL_law 302 = .ok (.iconst 2, 1) := by decide +kernel
theorem dL_law_303 : decode cL_law 303 = .ok (.iadd, 1) := by decide +kernel
theorem dL_law_304 : decode cL_law 304 = .ok (.iaload, 1) := by decide +kernel
theorem dL_law_305 : decode cL_law 305 = .ok (.i2c, 1) := by decide +kernel
theorem dL_law_306 : decode cL_law 306 = .ok (.invokevirtual 133, 3) := by decide +kernel
theorem dL_law_309 : decode cL_law 309 = .ok (.istore 7, 2) := by decide +kernel
theorem dL_law_311 : decode cL_law 311 = .ok (.aload_n 2, 1) := by decide +kernel
theorem dL_law_312 : decode cL_law 312 = .ok (.invokevirtual 127, 3) := by decide +kernel
theorem dL_law_315 : decode cL_law 315 = .ok (.iload 6, 2) := by decide +kernel
theorem dL_law_317 : decode cL_law 317 = .ok (.if_icmp .eq 5, 3) := by decide +kernel
theorem dL_law_320 : decode cL_law 320 = .ok (.iconst 0, 1) := by decide +kernel
theorem dL_law_321 : decode cL_law 321 = .ok (.ireturn, 1) := by decide +kernel
theorem dL_law_322 : decode cL_law 322 = .ok (.iload 6, 2) := by decide +kernel
theorem dL_law_324 : decode cL_law 324 = .ok (.ifCond .ne 15, 3) := by decide +kernel
theorem dL_law_327 : decode cL_law 327 = .ok (.aload_n 3, 1) := by decide +kernel
theorem dL_law_328 : decode cL_law 328 = .ok (.iconst 0, 1) := by decide +kernel
theorem dL_law_329 : decode cL_law 329 = .ok (.laload, 1) := by decide +kernel
theorem dL_law_330 : decode cL_law 330 = .ok (.iload 7, 2) := by decide +kernel
theorem dL_law_332 : decode cL_law 332 = .ok (.i2l, 1) := by decide +kernel
theorem dL_law_333 : decode cL_law 333 = .ok (.lcmp, 1) := by decide +kernel
theorem dL_law_334 : decode cL_law 334 = .ok (.ifCond .eq 5, 3) := by decide +kernel
theorem dL_law_337 : decode cL_law 337 = .ok (.iconst 0, 1) := by decide +kernel
theorem dL_law_338 : decode cL_law 338 = .ok (.ireturn, 1) := by decide +kernel
theorem dL_law_339 : decode cL_law 339 = .ok (.goto 1735, 3) := by decide +kernel
theorem dL_law_342 : decode cL_law 342 = .ok (.aload_n 1, 1) := by decide +kernel
theorem dL_law_343 : decode cL_law 343 = .ok (.aload_n 0, 1) := by decide +kernel
theorem dL_law_344 : decode cL_law 344 = .ok (.iload 5, 2) := by decide +kernel
theorem dL_law_346 : decode cL_law 346 = .ok (.iconst 1, 1) := by decide +kernel
theorem dL_law_347 : decode cL_law 347 = .ok (.iadd, 1) := by decide +kernel
theorem dL_law_348 : decode cL_law 348 = .ok (.iaload, 1) := by decide +kernel
theorem dL_law_349 : decode cL_law 349 = .ok (.aload_n 3, 1) := by decide +kernel
theorem dL_law_350 : decode cL_law 350 = .ok (.invokestatic 134, 3) := by decide +kernel
theorem dL_law_353 : decode cL_law 353 = .ok (.istore 6, 2) := by decide +kernel
theorem dL_law_355 : decode cL_law 355 = .ok (.aload_n 2, 1) := by decide +kernel
theorem dL_law_356 : decode cL_law 356 = .ok (.aload_n 0, 1) := by decide +kernel
theorem dL_law_357 : decode cL_law 357 = .ok (.iload 5, 2) := by decide +kernel
theorem dL_law_359 : decode cL_law 359 = .ok (.iconst 1, 1) := by decide +kernel
theorem dL_law_360 : decode cL_law 360 = .ok (.iadd, 1) := by decide +kernel
theorem dL_law_361 : decode cL_law 361 = .ok (.iaload, 1) := by decide +kernel
theorem dL_law_362 : decode cL_law 362 = .ok (.invokevirtual 137, 3) := by decide +kernel
theorem dL_law_365 : decode cL_law 365 = .ok (.istore 7, 2) := by decide +kernel
theorem dL_law_367 : decode cL_law 367 = .ok (.aload_n 2, 1) := by decide +kernel
theorem dL_law_368 : decode cL_law 368 = .ok (.invokevirtual 127, 3) := by decide +kernel
theorem dL_law_371 : decode cL_law 371 = .ok (.iload 6, 2) := by decide +kernel
theorem dL_law_373 : decode cL_law 373 = .ok (.if_icmp .eq 5, 3) := by decide +kernel
theorem dL_law_376 : decode cL_law 376 = .ok (.iconst 0, 1) := by decide +kernel
theorem dL_law_377 : decode cL_law 377 = .ok (.ireturn, 1) := by decide +kernel
theorem dL_law_378 : decode cL_law 378 = .ok (.iload 6, 2) := by decide +kernel
theorem dL_law_380 : decode cL_law 380 = .ok (.ifCond .ne 15, 3) := by decide +kernel
theorem dL_law_383 : decode cL_law 383 = .ok (.aload_n 3, 1) := by decide +kernel
theorem dL_law_384 : decode cL_law 384 = .ok (.iconst 0, 1) := by decide +kernel
theorem dL_law_385 : decode cL_law 385 = .ok (.laload, 1) := by decide +kernel
theorem dL_law_386 : decode cL_law 386 = .ok (.iload 7, 2) := by decide +kernel
theorem dL_law_388 : decode cL_law 388 = .ok (.i2l, 1) := by decide +kernel
theorem dL_law_389 : decode cL_law 389 = .ok (.lcmp, 1) := by decide +kernel
theorem dL_law_390 : decode cL_law 390 = .ok (.ifCond .eq 5, 3) := by decide +kernel
theorem dL_law_393 : decode cL_law 393 = .ok (.iconst 0, 1) := by decide +kernel
theorem dL_law_394 : decode cL_law 394 = .ok (.ireturn, 1) := by decide +kernel
theorem dL_law_395 : decode cL_law 395 = .ok (.goto 1679, 3) := by decide +kernel
theorem dL_law_398 : decode cL_law 398 = .ok (.aload_n 1, 1) := by decide +kernel
theorem dL_law_399 : decode cL_law 399 = .ok (.aload_n 0, 1) := by decide +kernel
theorem dL_law_400 : decode cL_law 400 = .ok (.iload 5, 2) := by decide +kernel
theorem dL_law_402 : decode cL_law 402 = .ok (.iconst 1, 1) := by decide +kernel
theorem dL_law_403 : decode cL_law 403 = .ok (.iadd, 1) := by decide +kernel
theorem dL_law_404 : decode cL_law 404 = .ok (.iaload, 1) := by decide +kernel
theorem dL_law_405 : decode cL_law 405 = .ok (.aload_n 0, 1) := by decide +kernel
theorem dL_law_406 : decode cL_law 406 = .ok (.iload 5, 2) := by decide +kernel
theorem dL_law_408 : decode cL_law 408 = .ok (.iconst 2, 1) := by decide +kernel
theorem dL_law_409 : decode cL_law 409 = .ok (.iadd, 1) := by decide +kernel
theorem dL_law_410 : decode cL_law 410 = .ok (.iaload, 1) := by decide +kernel
theorem dL_law_411 : decode cL_law 411 = .ok (.ifCond .eq 7, 3) := by decide +kernel
theorem dL_law_414 : decode cL_law 414 = .ok (.iconst 1, 1) := by decide +kernel
theorem dL_law_415 : decode cL_law 415 = .ok (.goto 4, 3) := by decide +kernel
theorem dL_law_418 : decode cL_law 418 = .ok (.iconst 0, 1) := by decide +kernel
theorem dL_law_419 : decode cL_law 419 = .ok (.aload_n 3, 1) := by decide +kernel
theorem dL_law_420 : decode cL_law 420 = .ok (.invokestatic 138, 3) := by decide +kernel
theorem dL_law_423 : decode cL_law 423 = .ok (.istore 6, 2) := by decide +kernel
theorem dL_law_425 : decode cL_law 425 = .ok (.aload_n 2, 1) := by decide +kernel
theorem dL_law_426 : decode cL_law 426 = .ok (.aload_n 0, 1) := by decide +kernel
theorem dL_law_427 : decode cL_law 427 = .ok (.iload 5, 2) := by decide +kernel
theorem dL_law_429 : decode cL_law 429 = .ok (.iconst 1, 1) := by decide +kernel
theorem dL_law_430 : decode cL_law 430 = .ok (.iadd, 1) := by decide +kernel
theorem dL_law_431 : decode cL_law 431 = .ok (.iaload, 1) := by decide +kernel
theorem dL_law_432 : decode cL_law 432 = .ok (.aload_n 0, 1) := by decide +kernel
theorem dL_law_433 : decode cL_law 433 = .ok (.iload 5, 2) := by decide +kernel
theorem dL_law_435 : decode cL_law 435 = .ok (.iconst 2, 1) := by decide +kernel
theorem dL_law_436 : decode cL_law 436 = .ok (.iadd, 1) := by decide +kernel
theorem dL_law_437 : decode cL_law 437 = .ok (.iaload, 1) := by decide +kernel
theorem dL_law_438 : decode cL_law 438 = .ok (.ifCond .eq 7, 3) := by decide +kernel
theorem dL_law_441 : decode cL_law 441 = .ok (.iconst 1, 1) := by decide +kernel
theorem dL_law_442 : decode cL_law 442 = .ok (.goto 4, 3) := by decide +kernel
theorem dL_law_445 : decode cL_law 445 = .ok (.iconst 0, 1) := by decide +kernel
theorem dL_law_446 : decode cL_law 446 = .ok (.invokevirtual 141, 3) := by decide +kernel
theorem dL_law_449 : decode cL_law 449 = .ok (.istore 7, 2) := by decide +kernel
theorem dL_law_451 : decode cL_law 451 = .ok (.aload_n 2, 1) := by decide +kernel
theorem dL_law_452 : decode cL_law 452 = .ok (.invokevirtual 127, 3) := by decide +kernel
theorem dL_law_455 : decode cL_law 455 = .ok (.iload 6, 2) := by decide +kernel
theorem dL_law_457 : decode cL_law 457 = .ok (.if_icmp .eq 5, 3) := by decide +kernel
theorem dL_law_460 : decode cL_law 460 = .ok (.iconst 0, 1) := by decide +kernel
theorem dL_law_461 : decode cL_law 461 = .ok (.ireturn, 1) := by decide +kernel
theorem dL_law_462 : decode cL_law 462 = .ok (.iload 6, 2) := by decide +kernel
theorem dL_law_464 : decode cL_law 464 = .ok (.ifCond .ne 22, 3) := by decide +kernel
theorem dL_law_467 : decode cL_law 467 = .ok (.aload_n 3, 1) := by decide +kernel
theorem dL_law_468 : decode cL_law 468 = .ok (.iconst 0, 1) := by decide +kernel
theorem dL_law_469 : decode cL_law 469 = .ok (.laload, 1) := by decide +kernel
theorem dL_law_470 : decode cL_law 470 = .ok (.iload 7, 2) := by decide +kernel
theorem dL_law_472 : decode cL_law 472 = .ok (.ifCond .eq 7, 3) := by decide +kernel
theorem dL_law_475 : decode cL_law 475 = .ok (.lconst 1, 1) := by decide +kernel
theorem dL_law_476 : decode cL_law 476 = .ok (.goto 4, 3) := by decide +kernel
theorem dL_law_479 : decode cL_law 479 = .ok (.lconst 0, 1) := by decide +kernel
theorem dL_law_480 : decode cL_law 480 = .ok (.lcmp, 1) := by decide +kernel
theorem dL_law_481 : decode cL_law 481 = .ok (.ifCond .eq 5, 3) := by decide +kernel
theorem dL_law_484 : decode cL_law 484 = .ok (.iconst 0, 1) := by decide +kernel
theorem dL_law_485 : decode cL_law 485 = .ok (.ireturn, 1) := by decide +kernel
theorem dL_law_486 : decode cL_law 486 = .ok (.goto 1588, 3) := by decide +kernel
theorem dL_law_489 : decode cL_law 489 = .ok (.aload_n 1, 1) := by decide +kernel
theorem dL_law_490 : decode cL_law 490 = .ok (.aload_n 0, 1) := by decide +kernel
theorem dL_law_491 : decode cL_law 491 = .ok (.iload 5, 2) := by decide +kernel
theorem dL_law_493 : decode cL_law 493 = .ok (.iconst 1, 1) := by decide +kernel
theorem dL_law_494 : decode cL_law 494 = .ok (.iadd, 1) := by decide +kernel
theorem dL_law_495 : decode cL_law 495 = .ok (.iaload, 1) := by decide +kernel
theorem dL_law_496 : decode cL_law 496 = .ok (.aload_n 0, 1) := by decide +kernel
theorem dL_law_497 : decode cL_law 497 = .ok (.iload 5, 2) := by decide +kernel
theorem dL_law_499 : decode cL_law 499 = .ok (.iconst 2, 1) := by decide +kernel
theorem dL_law_500 : decode cL_law 500 = .ok (.iadd, 1) := by decide +kernel
theorem dL_law_501 : decode cL_law 501 = .ok (.iaload, 1) := by decide +kernel
theorem dL_law_502 : decode cL_law 502 = .ok (.i2c, 1) := by decide +kernel
theorem dL_law_503 : decode cL_law 503 = .ok (.aload_n 3, 1) := by decide +kernel
theorem dL_law_504 : decode cL_law 504 = .ok (.invokestatic 142, 3) := by decide +kernel
theorem dL_law_507 : decode cL_law 507 = .ok (.istore 6, 2) := by decide +kernel
theorem dL_law_509 : decode cL_law 509 = .ok (.aload_n 2, 1) := by decide +kernel
theorem dL_law_510 : decode cL_law 510 = .ok (.aload_n 0, 1) := by decide +kernel
theorem dL_law_511 : decode cL_law 511 = .ok (.iload 5, 2) := by decide +kernel
theorem dL_law_513 : decode cL_law 513 = .ok (.iconst 1, 1) := by decide +kernel
theorem dL_law_514 : decode cL_law 514 = .ok (.iadd, 1) := by decide +kernel
theorem dL_law_515 : decode cL_law 515 = .ok (.iaload, 1) := by decide +kernel
theorem dL_law_516 : decode cL_law 516 = .ok (.aload_n 0, 1) := by decide +kernel
theorem dL_law_517 : decode cL_law 517 = .ok (.iload 5, 2) := by decide +kernel
theorem dL_law_519 : decode cL_law 519 = .ok (.iconst 2, 1) := by decide +kernel
theorem dL_law_520 : decode cL_law 520 = .ok (.iadd, 1) := by decide +kernel
theorem dL_law_521 : decode cL_law 521 = .ok (.iaload, 1) := by decide +kernel
theorem dL_law_522 : decode cL_law 522 = .ok (.i2c, 1) := by decide +kernel
theorem dL_law_523 : decode cL_law 523 = .ok (.invokevirtual 144, 3) := by decide +kernel
theorem dL_law_526 : decode cL_law 526 = .ok (.istore 7, 2) := by decide +kernel
theorem dL_law_528 : decode cL_law 528 = .ok (.aload_n 2, 1) := by decide +kernel
theorem dL_law_529 : decode cL_law 529 = .ok (.invokevirtual 127, 3) := by decide +kernel
theorem dL_law_532 : decode cL_law 532 = .ok (.iload 6, 2) := by decide +kernel
theorem dL_law_534 : decode cL_law 534 = .ok (.if_icmp .eq 5, 3) := by decide +kernel
theorem dL_law_537 : decode cL_law 537 = .ok (.iconst 0, 1) := by decide +kernel
theorem dL_law_538 : decode cL_law 538 = .ok (.ireturn, 1) := by decide +kernel
theorem dL_law_539 : decode cL_law 539 = .ok (.iload 6, 2) := by decide +kernel
theorem dL_law_541 : decode cL_law 541 = .ok (.ifCond .ne 15, 3) := by decide +kernel
theorem dL_law_544 : decode cL_law 544 = .ok (.aload_n 3, 1) := by decide +kernel
theorem dL_law_545 : decode cL_law 545 = .ok (.iconst 0, 1) := by decide +kernel
theorem dL_law_546 : decode cL_law 546 = .ok (.laload, 1) := by decide +kernel
theorem dL_law_547 : decode cL_law 547 = .ok (.iload 7, 2) := by decide +kernel
theorem dL_law_549 : decode cL_law 549 = .ok (.i2l, 1) := by decide +kernel
theorem dL_law_550 : decode cL_law 550 = .ok (.lcmp, 1) := by decide +kernel
theorem dL_law_551 : decode cL_law 551 = .ok (.ifCond .eq 5, 3) := by decide +kernel
theorem dL_law_554 : decode cL_law 554 = .ok (.iconst 0, 1) := by decide +kernel
theorem dL_law_555 : decode cL_law 555 = .ok (.ireturn, 1) := by decide +kernel
theorem dL_law_556 : decode cL_law 556 = .ok (.goto 1518, 3) := by decide +kernel
theorem dL_law_559 : decode cL_law 559 = .ok (.aload_n 1, 1) := by decide +kernel
theorem dL_law_560 : decode cL_law 560 = .ok (.aload_n 0, 1) := by decide +kernel
theorem dL_law_561 : decode cL_law 561 = .ok (.iload 5, 2) := by decide +kernel
theorem dL_law_563 : decode cL_law 563 = .ok (.iconst 1, 1) := by decide +kernel
theorem dL_law_564 : decode cL_law 564 = .ok (.iadd, 1) := by decide +kernel
theorem dL_law_565 : decode cL_law 565 = .ok (.iaload, 1) := by decide +kernel
theorem dL_law_566 : decode cL_law 566 = .ok (.aload_n 0, 1) := by decide +kernel
theorem dL_law_567 : decode cL_law 567 = .ok (.iload 5, 2) := by decide +kernel
theorem dL_law_569 : decode cL_law 569 = .ok (.iconst 2, 1) := by decide +kernel
theorem dL_law_570 : decode cL_law 570 = .ok (.iadd, 1) := by decide +kernel
theorem dL_law_571 : decode cL_law 571 = .ok (.iaload, 1) := by decide +kernel
theorem dL_law_572 : decode cL_law 572 = .ok (.aload_n 3, 1) := by decide +kernel
theorem dL_law_573 : decode cL_law 573 = .ok (.invokestatic 145, 3) := by decide +kernel
theorem dL_law_576 : decode cL_law 576 = .ok (.istore 6, 2) := by decide +kernel
theorem dL_law_578 : decode cL_law 578 = .ok (.aload_n 2, 1) := by decide +kernel
theorem dL_law_579 : decode cL_law 579 = .ok (.aload_n 0, 1) := by decide +kernel
theorem dL_law_580 : decode cL_law 580 = .ok (.iload 5, 2) := by decide +kernel
theorem dL_law_582 : decode cL_law 582 = .ok (.iconst 1, 1) := by decide +kernel
theorem dL_law_583 : decode cL_law 583 = .ok (.iadd, 1) := by decide +kernel
theorem dL_law_584 : decode cL_law 584 = .ok (.iaload, 1) := by decide +kernel
theorem dL_law_585 : decode cL_law 585 = .ok (.aload_n 0, 1) := by decide +kernel
theorem dL_law_586 : decode cL_law 586 = .ok (.iload 5, 2) := by decide +kernel
theorem dL_law_588 : decode cL_law 588 = .ok (.iconst 2, 1) := by decide +kernel
theorem dL_law_589 : decode cL_law 589 = .ok (.iadd, 1) := by decide +kernel
theorem dL_law_590 : decode cL_law 590 = .ok (.iaload, 1) := by decide +kernel
theorem dL_law_591 : decode cL_law 591 = .ok (.invokevirtual 148, 3) := by decide +kernel
theorem dL_law_594 : decode cL_law 594 = .ok (.istore 7, 2) := by decide +kernel
theorem dL_law_596 : decode cL_law 596 = .ok (.aload_n 2, 1) := by decide +kernel
theorem dL_law_597 : decode cL_law 597 = .ok (.invokevirtual 127, 3) := by decide +kernel
theorem dL_law_600 : decode cL_law 600 = .ok (.iload 6, 2) := by decide +kernel
theorem dL_law_602 : decode cL_law 602 = .ok (.if_icmp .eq 5, 3) := by decide +kernel
theorem dL_law_605 : decode cL_law 605 = .ok (.iconst 0, 1) := by decide +kernel
theorem dL_law_606 : decode cL_law 606 = .ok (.ireturn, 1) := by decide +kernel
theorem dL_law_607 : decode cL_law 607 = .ok (.iload 6, 2) := by decide +kernel
theorem dL_law_609 : decode cL_law 609 = .ok (.ifCond .ne 15, 3) := by decide +kernel
theorem dL_law_612 : decode cL_law 612 = .ok (.aload_n 3, 1) := by decide +kernel
theorem dL_law_613 : decode cL_law 613 = .ok (.iconst 0, 1) := by decide +kernel
theorem dL_law_614 : decode cL_law 614 = .ok (.laload, 1) := by decide +kernel
theorem dL_law_615 : decode cL_law 615 = .ok (.iload 7, 2) := by decide +kernel
theorem dL_law_617 : decode cL_law 617 = .ok (.i2l, 1) := by decide +kernel
theorem dL_law_618 : decode cL_law 618 = .ok (.lcmp, 1) := by decide +kernel
theorem dL_law_619 : decode cL_law 619 = .ok (.ifCond .eq 5, 3) := by decide +kernel
theorem dL_law_622 : decode cL_law 622 = .ok (.iconst 0, 1) := by decide +kernel
theorem dL_law_623 : decode cL_law 623 = .ok (.ireturn, 1) := by decide +kernel
theorem dL_law_624 : decode cL_law 624 = .ok (.goto 1450, 3) := by decide +kernel
theorem dL_law_627 : decode cL_law 627 = .ok (.aload_n 1, 1) := by decide +kernel
theorem dL_law_628 : decode cL_law 628 = .ok (.aload_n 0, 1) := by decide +kernel
theorem dL_law_629 : decode cL_law 629 = .ok (.iload 5, 2) := by decide +kernel
theorem dL_law_631 : decode cL_law 631 = .ok (.iconst 1, 1) := by decide +kernel
theorem dL_law_632 : decode cL_law 632 = .ok (.iadd, 1) := by decide +kernel
theorem dL_law_633 : decode cL_law 633 = .ok (.iaload, 1) := by decide +kernel
theorem dL_law_634 : decode cL_law 634 = .ok (.aload_n 0, 1) := by decide +kernel
theorem dL_law_635 : decode cL_law 635 = .ok (.iload 5, 2) := by decide +kernel
theorem dL_law_637 : decode cL_law 637 = .ok (.iconst 2, 1) := by decide +kernel
theorem dL_law_638 : decode cL_law 638 = .ok (.iadd, 1) := by decide +kernel
theorem dL_law_639 : decode cL_law 639 = .ok (.iaload, 1) := by decide +kernel
theorem dL_law_640 : decode cL_law 640 = .ok (.aload_n 0, 1) := by decide +kernel
theorem dL_law_641 : decode cL_law 641 = .ok (.iload 5, 2) := by decide +kernel
theorem dL_law_643 : decode cL_law 643 = .ok (.iconst 3, 1) := by decide +kernel
theorem dL_law_644 : decode cL_law 644 = .ok (.iadd, 1) := by decide +kernel
theorem dL_law_645 : decode cL_law 645 = .ok (.iaload, 1) := by decide +kernel
theorem dL_law_646 : decode cL_law 646 = .ok (.aload_n 3, 1) := by decide +kernel
theorem dL_law_647 : decode cL_law 647 = .ok (.invokestatic 149, 3) := by decide +kernel
theorem dL_law_650 : decode cL_law 650 = .ok (.istore 6, 2) := by decide +kernel
theorem dL_law_652 : decode cL_law 652 = .ok (.aload_n 2, 1) := by decide +kernel
theorem dL_law_653 : decode cL_law 653 = .ok (.aload_n 0, 1) := by decide +kernel
theorem dL_law_654 : decode cL_law 654 = .ok (.iload 5, 2) := by decide +kernel
theorem dL_law_656 : decode cL_law 656 = .ok (.iconst 1, 1) := by decide +kernel
theorem dL_law_657 : decode cL_law 657 = .ok (.iadd, 1) := by decide +kernel
theorem dL_law_658 : decode cL_law 658 = .ok (.iaload, 1) := by decide +kernel
theorem dL_law_659 : decode cL_law 659 = .ok (.aload_n 0, 1) := by decide +kernel
theorem dL_law_660 : decode cL_law 660 = .ok (.iload 5, 2) := by decide +kernel
theorem dL_law_662 : decode cL_law 662 = .ok (.iconst 2, 1) := by decide +kernel
theorem dL_law_663 : decode cL_law 663 = .ok (.iadd, 1) := by decide +kernel
theorem dL_law_664 : decode cL_law 664 = .ok (.iaload, 1) := by decide +kernel
theorem dL_law_665 : decode cL_law 665 = .ok (.aload_n 0, 1) := by decide +kernel
theorem dL_law_666 : decode cL_law 666 = .ok (.iload 5, 2) := by decide +kernel
theorem dL_law_668 : decode cL_law 668 = .ok (.iconst 3, 1) := by decide +kernel
theorem dL_law_669 : decode cL_law 669 = .ok (.iadd, 1) := by decide +kernel
theorem dL_law_670 : decode cL_law 670 = .ok (.iaload, 1) := by decide +kernel
theorem dL_law_671 : decode cL_law 671 = .ok (.invokevirtual 152, 3) := by decide +kernel
theorem dL_law_674 : decode cL_law 674 = .ok (.istore 7, 2) := by decide +kernel
theorem dL_law_676 : decode cL_law 676 = .ok (.aload_n 2, 1) := by decide +kernel
theorem dL_law_677 : decode cL_law 677 = .ok (.invokevirtual 127, 3) := by decide +kernel
theorem dL_law_680 : decode cL_law 680 = .ok (.iload 6, 2) := by decide +kernel
theorem dL_law_682 : decode cL_law 682 = .ok (.if_icmp .eq 5, 3) := by decide +kernel
theorem dL_law_685 : decode cL_law 685 = .ok (.iconst 0, 1) := by decide +kernel
theorem dL_law_686 : decode cL_law 686 = .ok (.ireturn, 1) := by decide +kernel
theorem dL_law_687 : decode cL_law 687 = .ok (.iload 6, 2) := by decide +kernel
theorem dL_law_689 : decode cL_law 689 = .ok (.ifCond .ne 15, 3) := by decide +kernel
theorem dL_law_692 : decode cL_law 692 = .ok (.aload_n 3, 1) := by decide +kernel
theorem dL_law_693 : decode cL_law 693 = .ok (.iconst 0, 1) := by decide +kernel
theorem dL_law_694 : decode cL_law 694 = .ok (.laload, 1) := by decide +kernel
theorem dL_law_695 : decode cL_law 695 = .ok (.iload 7, 2) := by decide +kernel
theorem dL_law_697 : decode cL_law 697 = .ok (.i2l, 1) := by decide +kernel
theorem dL_law_698 : decode cL_law 698 = .ok (.lcmp, 1) := by decide +kernel
theorem dL_law_699 : decode cL_law 699 = .ok (.ifCond .eq 5, 3) := by decide +kernel
theorem dL_law_702 : decode cL_law 702 = .ok (.iconst 0, 1) := by decide +kernel
theorem dL_law_703 : decode cL_law 703 = .ok (.ireturn, 1) := by decide +kernel
theorem dL_law_704 : decode cL_law 704 = .ok (.goto 1370, 3) := by decide +kernel
theorem dL_law_707 : decode cL_law 707 = .ok (.aload_n 1, 1) := by decide +kernel
theorem dL_law_708 : decode cL_law 708 = .ok (.aload_n 0, 1) := by decide +kernel
theorem dL_law_709 : decode cL_law 709 = .ok (.iload 5, 2) := by decide +kernel
theorem dL_law_711 : decode cL_law 711 = .ok (.iconst 1, 1) := by decide +kernel
theorem dL_law_712 : decode cL_law 712 = .ok (.iadd, 1) := by decide +kernel
theorem dL_law_713 : decode cL_law 713 = .ok (.iaload, 1) := by decide +kernel
theorem dL_law_714 : decode cL_law 714 = .ok (.aload_n 0, 1) := by decide +kernel
theorem dL_law_715 : decode cL_law 715 = .ok (.iload 5, 2) := by decide +kernel
theorem dL_law_717 : decode cL_law 717 = .ok (.iconst 2, 1) := by decide +kernel
theorem dL_law_718 : decode cL_law 718 = .ok (.iadd, 1) := by decide +kernel
theorem dL_law_719 : decode cL_law 719 = .ok (.iaload, 1) := by decide +kernel
theorem dL_law_720 : decode cL_law 720 = .ok (.aload_n 0, 1) := by decide +kernel
theorem dL_law_721 : decode cL_law 721 = .ok (.iload 5, 2) := by decide +kernel
theorem dL_law_723 : decode cL_law 723 = .ok (.iconst 3, 1) := by decide +kernel
theorem dL_law_724 : decode cL_law 724 = .ok (.iadd, 1) := by decide +kernel
theorem dL_law_725 : decode cL_law 725 = .ok (.iaload, 1) := by decide +kernel
theorem dL_law_726 : decode cL_law 726 = .ok (.i2c, 1) := by decide +kernel
theorem dL_law_727 : decode cL_law 727 = .ok (.aload_n 3, 1) := by decide +kernel
theorem dL_law_728 : decode cL_law 728 = .ok (.invokestatic 153, 3) := by decide +kernel
theorem dL_law_731 : decode cL_law 731 = .ok (.istore 6, 2) := by decide +kernel
theorem dL_law_733 : decode cL_law 733 = .ok (.aload_n 2, 1) := by decide +kernel
theorem dL_law_734 : decode cL_law 734 = .ok (.aload_n 0, 1) := by decide +kernel
theorem dL_law_735 : decode cL_law 735 = .ok (.iload 5, 2) := by decide +kernel
theorem dL_law_737 : decode cL_law 737 = .ok (.iconst 1, 1) := by decide +kernel
theorem dL_law_738 : decode cL_law 738 = .ok (.iadd, 1) := by decide +kernel
theorem dL_law_739 : decode cL_law 739 = .ok (.iaload, 1) := by decide +kernel
theorem dL_law_740 : decode cL_law 740 = .ok (.aload_n 0, 1) := by decide +kernel
theorem dL_law_741 : decode cL_law 741 = .ok (.iload 5, 2) := by decide +kernel
theorem dL_law_743 : decode cL_law 743 = .ok (.iconst 2, 1) := by decide +kernel
theorem dL_law_744 : decode cL_law 744 = .ok (.iadd, 1) := by decide +kernel
theorem dL_law_745 : decode cL_law 745 = .ok (.iaload, 1) := by decide +kernel
theorem dL_law_746 : decode cL_law 746 = .ok (.aload_n 0, 1) := by decide +kernel
theorem dL_law_747 : decode cL_law 747 = .ok (.iload 5, 2) := by decide +kernel
theorem dL_law_749 : decode cL_law 749 = .ok (.iconst 3, 1) := by decide +kernel
