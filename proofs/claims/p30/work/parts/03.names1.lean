/-! NAMES (printed): what each instruction is, 1 -/
theorem dX2_init_0 : decode cX2_init 0 = .ok (.aload_n 0, 1) := by decide +kernel
theorem dX2_init_1 : decode cX2_init 1 = .ok (.invokespecial 3, 3) := by decide +kernel
theorem dX2_init_4 : decode cX2_init 4 = .ok (.aload_n 0, 1) := by decide +kernel
theorem dX2_init_5 : decode cX2_init 5 = .ok (.sipush 150, 3) := by decide +kernel
theorem dX2_init_8 : decode cX2_init 8 = .ok (.newarray .byte, 2) := by decide +kernel
theorem dX2_init_10 : decode cX2_init 10 = .ok (.putfield 9, 3) := by decide +kernel
theorem dX2_init_13 : decode cX2_init 13 = .ok (.aload_n 0, 1) := by decide +kernel
theorem dX2_init_14 : decode cX2_init 14 = .ok (.iconst (-1), 1) := by decide +kernel
theorem dX2_init_15 : decode cX2_init 15 = .ok (.putfield 15, 3) := by decide +kernel
theorem dX2_init_18 : decode cX2_init 18 = .ok (.aload_n 0, 1) := by decide +kernel
theorem dX2_init_19 : decode cX2_init 19 = .ok (.iconst 3, 1) := by decide +kernel
theorem dX2_init_20 : decode cX2_init 20 = .ok (.newarray .int, 2) := by decide +kernel
theorem dX2_init_22 : decode cX2_init 22 = .ok (.putfield 19, 3) := by decide +kernel
theorem dX2_init_25 : decode cX2_init 25 = .ok (.return_, 1) := by decide +kernel
theorem dX2_byteAt_0 : decode cX2_byteAt 0 = .ok (.iload_n 1, 1) := by decide +kernel
theorem dX2_byteAt_1 : decode cX2_byteAt 1 = .ok (.ifCond .lt 29, 3) := by decide +kernel
theorem dX2_byteAt_4 : decode cX2_byteAt 4 = .ok (.iload_n 1, 1) := by decide +kernel
theorem dX2_byteAt_5 : decode cX2_byteAt 5 = .ok (.aload_n 0, 1) := by decide +kernel
theorem dX2_byteAt_6 : decode cX2_byteAt 6 = .ok (.getfield 23, 3) := by decide +kernel
theorem dX2_byteAt_9 : decode cX2_byteAt 9 = .ok (.if_icmp .ge 21, 3) := by decide +kernel
theorem dX2_byteAt_12 : decode cX2_byteAt 12 = .ok (.iload_n 1, 1) := by decide +kernel
theorem dX2_byteAt_13 : decode cX2_byteAt 13 = .ok (.aload_n 0, 1) := by decide +kernel
theorem dX2_byteAt_14 : decode cX2_byteAt 14 = .ok (.getfield 9, 3) := by decide +kernel
theorem dX2_byteAt_17 : decode cX2_byteAt 17 = .ok (.arraylength, 1) := by decide +kernel
theorem dX2_byteAt_18 : decode cX2_byteAt 18 = .ok (.if_icmp .ge 12, 3) := by decide +kernel
theorem dX2_byteAt_21 : decode cX2_byteAt 21 = .ok (.aload_n 0, 1) := by decide +kernel
theorem dX2_byteAt_22 : decode cX2_byteAt 22 = .ok (.getfield 9, 3) := by decide +kernel
theorem dX2_byteAt_25 : decode cX2_byteAt 25 = .ok (.iload_n 1, 1) := by decide +kernel
theorem dX2_byteAt_26 : decode cX2_byteAt 26 = .ok (.baload, 1) := by decide +kernel
theorem dX2_byteAt_27 : decode cX2_byteAt 27 = .ok (.goto 4, 3) := by decide +kernel
theorem dX2_byteAt_30 : decode cX2_byteAt 30 = .ok (.iconst (-1), 1) := by decide +kernel
theorem dX2_byteAt_31 : decode cX2_byteAt 31 = .ok (.ireturn, 1) := by decide +kernel
theorem dX2_number_0 : decode cX2_number 0 = .ok (.iload_n 1, 1) := by decide +kernel
theorem dX2_number_1 : decode cX2_number 1 = .ok (.ifCond .lt 21, 3) := by decide +kernel
theorem dX2_number_4 : decode cX2_number 4 = .ok (.iload_n 1, 1) := by decide +kernel
theorem dX2_number_5 : decode cX2_number 5 = .ok (.aload_n 0, 1) := by decide +kernel
theorem dX2_number_6 : decode cX2_number 6 = .ok (.getfield 19, 3) := by decide +kernel
theorem dX2_number_9 : decode cX2_number 9 = .ok (.arraylength, 1) := by decide +kernel
theorem dX2_number_10 : decode cX2_number 10 = .ok (.if_icmp .ge 12, 3) := by decide +kernel
theorem dX2_number_13 : decode cX2_number 13 = .ok (.aload_n 0, 1) := by decide +kernel
theorem dX2_number_14 : decode cX2_number 14 = .ok (.getfield 19, 3) := by decide +kernel
theorem dX2_number_17 : decode cX2_number 17 = .ok (.iload_n 1, 1) := by decide +kernel
theorem dX2_number_18 : decode cX2_number 18 = .ok (.iaload, 1) := by decide +kernel
theorem dX2_number_19 : decode cX2_number 19 = .ok (.goto 4, 3) := by decide +kernel
theorem dX2_number_22 : decode cX2_number 22 = .ok (.iconst 0, 1) := by decide +kernel
theorem dX2_number_23 : decode cX2_number 23 = .ok (.ireturn, 1) := by decide +kernel
theorem dX2_findFault_0 : decode cX2_findFault 0 = .ok (.aload_n 0, 1) := by decide +kernel
theorem dX2_findFault_1 : decode cX2_findFault 1 = .ok (.invokevirtual 26, 3) := by decide +kernel
theorem dX2_findFault_4 : decode cX2_findFault 4 = .ok (.iconst 0, 1) := by decide +kernel
theorem dX2_findFault_5 : decode cX2_findFault 5 = .ok (.istore_n 1, 1) := by decide +kernel
theorem dX2_findFault_6 : decode cX2_findFault 6 = .ok (.iload_n 1, 1) := by decide +kernel
theorem dX2_findFault_7 : decode cX2_findFault 7 = .ok (.sipush 150, 3) := by decide +kernel
theorem dX2_findFault_10 : decode cX2_findFault 10 = .ok (.if_icmp .ge 20, 3) := by decide +kernel
theorem dX2_findFault_13 : decode cX2_findFault 13 = .ok (.aload_n 0, 1) := by decide +kernel
theorem dX2_findFault_14 : decode cX2_findFault 14 = .ok (.invokevirtual 29, 3) := by decide +kernel
theorem dX2_findFault_17 : decode cX2_findFault 17 = .ok (.ifCond .eq 13, 3) := by decide +kernel
theorem dX2_findFault_20 : decode cX2_findFault 20 = .ok (.aload_n 0, 1) := by decide +kernel
theorem dX2_findFault_21 : decode cX2_findFault 21 = .ok (.invokevirtual 33, 3) := by decide +kernel
theorem dX2_findFault_24 : decode cX2_findFault 24 = .ok (.iinc 1 1, 3) := by decide +kernel
theorem dX2_findFault_27 : decode cX2_findFault 27 = .ok (.goto (-21), 3) := by decide +kernel
theorem dX2_findFault_30 : decode cX2_findFault 30 = .ok (.aload_n 0, 1) := by decide +kernel
theorem dX2_findFault_31 : decode cX2_findFault 31 = .ok (.getfield 15, 3) := by decide +kernel
theorem dX2_findFault_34 : decode cX2_findFault 34 = .ok (.ireturn, 1) := by decide +kernel
theorem dX2_startReading_0 : decode cX2_startReading 0 = .ok (.aload_n 0, 1) := by decide +kernel
theorem dX2_startReading_1 : decode cX2_startReading 1 = .ok (.iconst 0, 1) := by decide +kernel
theorem dX2_startReading_2 : decode cX2_startReading 2 = .ok (.putfield 36, 3) := by decide +kernel
theorem dX2_startReading_5 : decode cX2_startReading 5 = .ok (.aload_n 0, 1) := by decide +kernel
theorem dX2_startReading_6 : decode cX2_startReading 6 = .ok (.iconst (-1), 1) := by decide +kernel
theorem dX2_startReading_7 : decode cX2_startReading 7 = .ok (.putfield 15, 3) := by decide +kernel
theorem dX2_startReading_10 : decode cX2_startReading 10 = .ok (.aload_n 0, 1) := by decide +kernel
theorem dX2_startReading_11 : decode cX2_startReading 11 = .ok (.aconst_null, 1) := by decide +kernel
theorem dX2_startReading_12 : decode cX2_startReading 12 = .ok (.putfield 39, 3) := by decide +kernel
theorem dX2_startReading_15 : decode cX2_startReading 15 = .ok (.return_, 1) := by decide +kernel
theorem dX2_hasCommand_0 : decode cX2_hasCommand 0 = .ok (.aload_n 0, 1) := by decide +kernel
theorem dX2_hasCommand_1 : decode cX2_hasCommand 1 = .ok (.getfield 15, 3) := by decide +kernel
theorem dX2_hasCommand_4 : decode cX2_hasCommand 4 = .ok (.iconst (-1), 1) := by decide +kernel
theorem dX2_hasCommand_5 : decode cX2_hasCommand 5 = .ok (.if_icmp .eq 5, 3) := by decide +kernel
theorem dX2_hasCommand_8 : decode cX2_hasCommand 8 = .ok (.iconst 0, 1) := by decide +kernel
theorem dX2_hasCommand_9 : decode cX2_hasCommand 9 = .ok (.ireturn, 1) := by decide +kernel
theorem dX2_hasCommand_10 : decode cX2_hasCommand 10 = .ok (.aload_n 0, 1) := by decide +kernel
theorem dX2_hasCommand_11 : decode cX2_hasCommand 11 = .ok (.invokevirtual 43, 3) := by decide +kernel
theorem dX2_hasCommand_14 : decode cX2_hasCommand 14 = .ok (.aload_n 0, 1) := by decide +kernel
theorem dX2_hasCommand_15 : decode cX2_hasCommand 15 = .ok (.getfield 36, 3) := by decide +kernel
theorem dX2_hasCommand_18 : decode cX2_hasCommand 18 = .ok (.aload_n 0, 1) := by decide +kernel
theorem dX2_hasCommand_19 : decode cX2_hasCommand 19 = .ok (.getfield 23, 3) := by decide +kernel
theorem dX2_hasCommand_22 : decode cX2_hasCommand 22 = .ok (.if_icmp .ge 7, 3) := by decide +kernel
theorem dX2_hasCommand_25 : decode cX2_hasCommand 25 = .ok (.iconst 1, 1) := by decide +kernel
theorem dX2_hasCommand_26 : decode cX2_hasCommand 26 = .ok (.goto 4, 3) := by decide +kernel
theorem dX2_hasCommand_29 : decode cX2_hasCommand 29 = .ok (.iconst 0, 1) := by decide +kernel
theorem dX2_hasCommand_30 : decode cX2_hasCommand 30 = .ok (.ireturn, 1) := by decide +kernel
theorem dX2_readCommand_0 : decode cX2_readCommand 0 = .ok (.aload_n 0, 1) := by decide +kernel
theorem dX2_readCommand_1 : decode cX2_readCommand 1 = .ok (.getfield 36, 3) := by decide +kernel
theorem dX2_readCommand_4 : decode cX2_readCommand 4 = .ok (.istore_n 1, 1) := by decide +kernel
theorem dX2_readCommand_5 : decode cX2_readCommand 5 = .ok (.aload_n 0, 1) := by decide +kernel
theorem dX2_readCommand_6 : decode cX2_readCommand 6 = .ok (.invokevirtual 46, 3) := by decide +kernel
theorem dX2_readCommand_9 : decode cX2_readCommand 9 = .ok (.aload_n 0, 1) := by decide +kernel
theorem dX2_readCommand_10 : decode cX2_readCommand 10 = .ok (.iload_n 1, 1) := by decide +kernel
theorem dX2_readCommand_11 : decode cX2_readCommand 11 = .ok (.aload_n 0, 1) := by decide +kernel
theorem dX2_readCommand_12 : decode cX2_readCommand 12 = .ok (.getfield 36, 3) := by decide +kernel
theorem dX2_readCommand_15 : decode cX2_readCommand 15 = .ok (.invokevirtual 49, 3) := by decide +kernel
theorem dX2_readCommand_18 : decode cX2_readCommand 18 = .ok (.astore_n 2, 1) := by decide +kernel
theorem dX2_readCommand_19 : decode cX2_readCommand 19 = .ok (.aload_n 0, 1) := by decide +kernel
theorem dX2_readCommand_20 : decode cX2_readCommand 20 = .ok (.aload_n 2, 1) := by decide +kernel
theorem dX2_readCommand_21 : decode cX2_readCommand 21 = .ok (.putfield 39, 3) := by decide +kernel
theorem dX2_readCommand_24 : decode cX2_readCommand 24 = .ok (.aload_n 2, 1) := by decide +kernel
theorem dX2_readCommand_25 : decode cX2_readCommand 25 = .ok (.ifnonnull 9, 3) := by decide +kernel
theorem dX2_readCommand_28 : decode cX2_readCommand 28 = .ok (.aload_n 0, 1) := by decide +kernel
theorem dX2_readCommand_29 : decode cX2_readCommand 29 = .ok (.iload_n 1, 1) := by decide +kernel
theorem dX2_readCommand_30 : decode cX2_readCommand 30 = .ok (.putfield 15, 3) := by decide +kernel
theorem dX2_readCommand_33 : decode cX2_readCommand 33 = .ok (.return_, 1) := by decide +kernel
theorem dX2_readCommand_34 : decode cX2_readCommand 34 = .ok (.iconst 0, 1) := by decide +kernel
theorem dX2_readCommand_35 : decode cX2_readCommand 35 = .ok (.istore_n 3, 1) := by decide +kernel
theorem dX2_readCommand_36 : decode cX2_readCommand 36 = .ok (.iload_n 3, 1) := by decide +kernel
theorem dX2_readCommand_37 : decode cX2_readCommand 37 = .ok (.aload_n 2, 1) := by decide +kernel
theorem dX2_readCommand_38 : decode cX2_readCommand 38 = .ok (.getfield 53, 3) := by decide +kernel
theorem dX2_readCommand_41 : decode cX2_readCommand 41 = .ok (.if_icmp .ge 22, 3) := by decide +kernel
theorem dX2_readCommand_44 : decode cX2_readCommand 44 = .ok (.aload_n 0, 1) := by decide +kernel
theorem dX2_readCommand_45 : decode cX2_readCommand 45 = .ok (.getfield 15, 3) := by decide +kernel
theorem dX2_readCommand_48 : decode cX2_readCommand 48 = .ok (.iconst (-1), 1) := by decide +kernel
theorem dX2_readCommand_49 : decode cX2_readCommand 49 = .ok (.if_icmp .ne 14, 3) := by decide +kernel
theorem dX2_readCommand_52 : decode cX2_readCommand 52 = .ok (.aload_n 0, 1) := by decide +kernel
theorem dX2_readCommand_53 : decode cX2_readCommand 53 = .ok (.iload_n 3, 1) := by decide +kernel
theorem dX2_readCommand_54 : decode cX2_readCommand 54 = .ok (.invokevirtual 57, 3) := by decide +kernel
theorem dX2_readCommand_57 : decode cX2_readCommand 57 = .ok (.iinc 3 1, 3) := by decide +kernel
theorem dX2_readCommand_60 : decode cX2_readCommand 60 = .ok (.goto (-24), 3) := by decide +kernel
theorem dX2_readCommand_63 : decode cX2_readCommand 63 = .ok (.aload_n 0, 1) := by decide +kernel
theorem dX2_readCommand_64 : decode cX2_readCommand 64 = .ok (.getfield 15, 3) := by decide +kernel
theorem dX2_readCommand_67 : decode cX2_readCommand 67 = .ok (.iconst (-1), 1) := by decide +kernel
theorem dX2_readCommand_68 : decode cX2_readCommand 68 = .ok (.if_icmp .ne 7, 3) := by decide +kernel
theorem dX2_readCommand_71 : decode cX2_readCommand 71 = .ok (.aload_n 0, 1) := by decide +kernel
theorem dX2_readCommand_72 : decode cX2_readCommand 72 = .ok (.invokevirtual 61, 3) := by decide +kernel
theorem dX2_readCommand_75 : decode cX2_readCommand 75 = .ok (.return_, 1) := by decide +kernel
theorem dX2_readNumber_0 : decode cX2_readNumber 0 = .ok (.aload_n 0, 1) := by decide +kernel
theorem dX2_readNumber_1 : decode cX2_readNumber 1 = .ok (.getfield 36, 3) := by decide +kernel
theorem dX2_readNumber_4 : decode cX2_readNumber 4 = .ok (.istore_n 2, 1) := by decide +kernel
theorem dX2_readNumber_5 : decode cX2_readNumber 5 = .ok (.aload_n 0, 1) := by decide +kernel
theorem dX2_readNumber_6 : decode cX2_readNumber 6 = .ok (.invokevirtual 43, 3) := by decide +kernel
theorem dX2_readNumber_9 : decode cX2_readNumber 9 = .ok (.aload_n 0, 1) := by decide +kernel
theorem dX2_readNumber_10 : decode cX2_readNumber 10 = .ok (.getfield 36, 3) := by decide +kernel
theorem dX2_readNumber_13 : decode cX2_readNumber 13 = .ok (.iload_n 2, 1) := by decide +kernel
theorem dX2_readNumber_14 : decode cX2_readNumber 14 = .ok (.if_icmp .eq 17, 3) := by decide +kernel
theorem dX2_readNumber_17 : decode cX2_readNumber 17 = .ok (.aload_n 0, 1) := by decide +kernel
theorem dX2_readNumber_18 : decode cX2_readNumber 18 = .ok (.aload_n 0, 1) := by decide +kernel
theorem dX2_readNumber_19 : decode cX2_readNumber 19 = .ok (.getfield 36, 3) := by decide +kernel
theorem dX2_readNumber_22 : decode cX2_readNumber 22 = .ok (.invokevirtual 64, 3) := by decide +kernel
theorem dX2_readNumber_25 : decode cX2_readNumber 25 = .ok (.invokestatic 68, 3) := by decide +kernel
theorem dX2_readNumber_28 : decode cX2_readNumber 28 = .ok (.ifCond .ne 12, 3) := by decide +kernel
theorem dX2_readNumber_31 : decode cX2_readNumber 31 = .ok (.aload_n 0, 1) := by decide +kernel
theorem dX2_readNumber_32 : decode cX2_readNumber 32 = .ok (.aload_n 0, 1) := by decide +kernel
theorem dX2_readNumber_33 : decode cX2_readNumber 33 = .ok (.getfield 36, 3) := by decide +kernel
theorem dX2_readNumber_36 : decode cX2_readNumber 36 = .ok (.putfield 15, 3) := by decide +kernel
theorem dX2_readNumber_39 : decode cX2_readNumber 39 = .ok (.return_, 1) := by decide +kernel
theorem dX2_readNumber_40 : decode cX2_readNumber 40 = .ok (.aload_n 0, 1) := by decide +kernel
theorem dX2_readNumber_41 : decode cX2_readNumber 41 = .ok (.invokevirtual 72, 3) := by decide +kernel
theorem dX2_readNumber_44 : decode cX2_readNumber 44 = .ok (.istore_n 3, 1) := by decide +kernel
theorem dX2_readNumber_45 : decode cX2_readNumber 45 = .ok (.iload_n 1, 1) := by decide +kernel
theorem dX2_readNumber_46 : decode cX2_readNumber 46 = .ok (.ifCond .lt 19, 3) := by decide +kernel
theorem dX2_readNumber_49 : decode cX2_readNumber 49 = .ok (.iload_n 1, 1) := by decide +kernel
theorem dX2_readNumber_50 : decode cX2_readNumber 50 = .ok (.aload_n 0, 1) := by decide +kernel
theorem dX2_readNumber_51 : decode cX2_readNumber 51 = .ok (.getfield 19, 3) := by decide +kernel
theorem dX2_readNumber_54 : decode cX2_readNumber 54 = .ok (.arraylength, 1) := by decide +kernel
theorem dX2_readNumber_55 : decode cX2_readNumber 55 = .ok (.if_icmp .ge 10, 3) := by decide +kernel
theorem dX2_readNumber_58 : decode cX2_readNumber 58 = .ok (.aload_n 0, 1) := by decide +kernel
theorem dX2_readNumber_59 : decode cX2_readNumber 59 = .ok (.getfield 19, 3) := by decide +kernel
theorem dX2_readNumber_62 : decode cX2_readNumber 62 = .ok (.iload_n 1, 1) := by decide +kernel
theorem dX2_readNumber_63 : decode cX2_readNumber 63 = .ok (.iload_n 3, 1) := by decide +kernel
theorem dX2_readNumber_64 : decode cX2_readNumber 64 = .ok (.iastore, 1) := by decide +kernel
theorem dX2_readNumber_65 : decode cX2_readNumber 65 = .ok (.return_, 1) := by decide +kernel
theorem dX2_readDigits_0 : decode cX2_readDigits 0 = .ok (.iconst 0, 1) := by decide +kernel
theorem dX2_readDigits_1 : decode cX2_readDigits 1 = .ok (.istore_n 1, 1) := by decide +kernel
theorem dX2_readDigits_2 : decode cX2_readDigits 2 = .ok (.iconst 0, 1) := by decide +kernel
theorem dX2_readDigits_3 : decode cX2_readDigits 3 = .ok (.istore_n 2, 1) := by decide +kernel
theorem dX2_readDigits_4 : decode cX2_readDigits 4 = .ok (.iload_n 2, 1) := by decide +kernel
theorem dX2_readDigits_5 : decode cX2_readDigits 5 = .ok (.iconst 4, 1) := by decide +kernel
theorem dX2_readDigits_6 : decode cX2_readDigits 6 = .ok (.if_icmp .ge 50, 3) := by decide +kernel
theorem dX2_readDigits_9 : decode cX2_readDigits 9 = .ok (.aload_n 0, 1) := by decide +kernel
theorem dX2_readDigits_10 : decode cX2_readDigits 10 = .ok (.aload_n 0, 1) := by decide +kernel
theorem dX2_readDigits_11 : decode cX2_readDigits 11 = .ok (.getfield 36, 3) := by decide +kernel
theorem dX2_readDigits_14 : decode cX2_readDigits 14 = .ok (.invokevirtual 64, 3) := by decide +kernel
theorem dX2_readDigits_17 : decode cX2_readDigits 17 = .ok (.invokestatic 68, 3) := by decide +kernel
theorem dX2_readDigits_20 : decode cX2_readDigits 20 = .ok (.ifCond .eq 36, 3) := by decide +kernel
theorem dX2_readDigits_23 : decode cX2_readDigits 23 = .ok (.bipush 10, 2) := by decide +kernel
theorem dX2_readDigits_25 : decode cX2_readDigits 25 = .ok (.iload_n 1, 1) := by decide +kernel
theorem dX2_readDigits_26 : decode cX2_readDigits 26 = .ok (.imul, 1) := by decide +kernel
theorem dX2_readDigits_27 : decode cX2_readDigits 27 = .ok (.aload_n 0, 1) := by decide +kernel
theorem dX2_readDigits_28 : decode cX2_readDigits 28 = .ok (.aload_n 0, 1) := by decide +kernel
theorem dX2_readDigits_29 : decode cX2_readDigits 29 = .ok (.getfield 36, 3) := by decide +kernel
theorem dX2_readDigits_32 : decode cX2_readDigits 32 = .ok (.invokevirtual 64, 3) := by decide +kernel
theorem dX2_readDigits_35 : decode cX2_readDigits 35 = .ok (.iadd, 1) := by decide +kernel
theorem dX2_readDigits_36 : decode cX2_readDigits 36 = .ok (.bipush 48, 2) := by decide +kernel
theorem dX2_readDigits_38 : decode cX2_readDigits 38 = .ok (.isub, 1) := by decide +kernel
theorem dX2_readDigits_39 : decode cX2_readDigits 39 = .ok (.istore_n 1, 1) := by decide +kernel
theorem dX2_readDigits_40 : decode cX2_readDigits 40 = .ok (.aload_n 0, 1) := by decide +kernel
theorem dX2_readDigits_41 : decode cX2_readDigits 41 = .ok (.dup, 1) := by decide +kernel
theorem dX2_readDigits_42 : decode cX2_readDigits 42 = .ok (.getfield 36, 3) := by decide +kernel
theorem dX2_readDigits_45 : decode cX2_readDigits 45 = .ok (.iconst 1, 1) := by decide +kernel
theorem dX2_readDigits_46 : decode cX2_readDigits 46 = .ok (.iadd, 1) := by decide +kernel
theorem dX2_readDigits_47 : decode cX2_readDigits 47 = .ok (.putfield 36, 3) := by decide +kernel
theorem dX2_readDigits_50 : decode cX2_readDigits 50 = .ok (.iinc 2 1, 3) := by decide +kernel
theorem dX2_readDigits_53 : decode cX2_readDigits 53 = .ok (.goto (-49), 3) := by decide +kernel
theorem dX2_readDigits_56 : decode cX2_readDigits 56 = .ok (.iload_n 1, 1) := by decide +kernel
theorem dX2_readDigits_57 : decode cX2_readDigits 57 = .ok (.ireturn, 1) := by decide +kernel
theorem dX2_readSemicolon_0 : decode cX2_readSemicolon 0 = .ok (.aload_n 0, 1) := by decide +kernel
theorem dX2_readSemicolon_1 : decode cX2_readSemicolon 1 = .ok (.invokevirtual 43, 3) := by decide +kernel
theorem dX2_readSemicolon_4 : decode cX2_readSemicolon 4 = .ok (.aload_n 0, 1) := by decide +kernel
theorem dX2_readSemicolon_5 : decode cX2_readSemicolon 5 = .ok (.aload_n 0, 1) := by decide +kernel
theorem dX2_readSemicolon_6 : decode cX2_readSemicolon 6 = .ok (.getfield 36, 3) := by decide +kernel
theorem dX2_readSemicolon_9 : decode cX2_readSemicolon 9 = .ok (.invokevirtual 64, 3) := by decide +kernel
theorem dX2_readSemicolon_12 : decode cX2_readSemicolon 12 = .ok (.bipush 59, 2) := by decide +kernel
theorem dX2_readSemicolon_14 : decode cX2_readSemicolon 14 = .ok (.if_icmp .ne 16, 3) := by decide +kernel
theorem dX2_readSemicolon_17 : decode cX2_readSemicolon 17 = .ok (.aload_n 0, 1) := by decide +kernel
theorem dX2_readSemicolon_18 : decode cX2_readSemicolon 18 = .ok (.dup, 1) := by decide +kernel
theorem dX2_readSemicolon_19 : decode cX2_readSemicolon 19 = .ok (.getfield 36, 3) := by decide +kernel
theorem dX2_readSemicolon_22 : decode cX2_readSemicolon 22 = .ok (.iconst 1, 1) := by decide +kernel
theorem dX2_readSemicolon_23 : decode cX2_readSemicolon 23 = .ok (.iadd, 1) := by decide +kernel
theorem dX2_readSemicolon_24 : decode cX2_readSemicolon 24 = .ok (.putfield 36, 3) := by decide +kernel
theorem dX2_readSemicolon_27 : decode cX2_readSemicolon 27 = .ok (.goto 11, 3) := by decide +kernel
theorem dX2_readSemicolon_30 : decode cX2_readSemicolon 30 = .ok (.aload_n 0, 1) := by decide +kernel
theorem dX2_readSemicolon_31 : decode cX2_readSemicolon 31 = .ok (.aload_n 0, 1) := by decide +kernel
theorem dX2_readSemicolon_32 : decode cX2_readSemicolon 32 = .ok (.getfield 36, 3) := by decide +kernel
theorem dX2_readSemicolon_35 : decode cX2_readSemicolon 35 = .ok (.putfield 15, 3) := by decide +kernel
theorem dX2_readSemicolon_38 : decode cX2_readSemicolon 38 = .ok (.return_, 1) := by decide +kernel
theorem dX2_skipSpaces_0 : decode cX2_skipSpaces 0 = .ok (.aload_n 0, 1) := by decide +kernel
theorem dX2_skipSpaces_1 : decode cX2_skipSpaces 1 = .ok (.getfield 36, 3) := by decide +kernel
theorem dX2_skipSpaces_4 : decode cX2_skipSpaces 4 = .ok (.aload_n 0, 1) := by decide +kernel
theorem dX2_skipSpaces_5 : decode cX2_skipSpaces 5 = .ok (.getfield 23, 3) := by decide +kernel
theorem dX2_skipSpaces_8 : decode cX2_skipSpaces 8 = .ok (.if_icmp .ge 29, 3) := by decide +kernel
theorem dX2_skipSpaces_11 : decode cX2_skipSpaces 11 = .ok (.aload_n 0, 1) := by decide +kernel
theorem dX2_skipSpaces_12 : decode cX2_skipSpaces 12 = .ok (.aload_n 0, 1) := by decide +kernel
theorem dX2_skipSpaces_13 : decode cX2_skipSpaces 13 = .ok (.getfield 36, 3) := by decide +kernel
theorem dX2_skipSpaces_16 : decode cX2_skipSpaces 16 = .ok (.invokevirtual 64, 3) := by decide +kernel
theorem dX2_skipSpaces_19 : decode cX2_skipSpaces 19 = .ok (.bipush 32, 2) := by decide +kernel
theorem dX2_skipSpaces_21 : decode cX2_skipSpaces 21 = .ok (.if_icmp .ne 16, 3) := by decide +kernel
theorem dX2_skipSpaces_24 : decode cX2_skipSpaces 24 = .ok (.aload_n 0, 1) := by decide +kernel
theorem dX2_skipSpaces_25 : decode cX2_skipSpaces 25 = .ok (.dup, 1) := by decide +kernel
theorem dX2_skipSpaces_26 : decode cX2_skipSpaces 26 = .ok (.getfield 36, 3) := by decide +kernel
theorem dX2_skipSpaces_29 : decode cX2_skipSpaces 29 = .ok (.iconst 1, 1) := by decide +kernel
theorem dX2_skipSpaces_30 : decode cX2_skipSpaces 30 = .ok (.iadd, 1) := by decide +kernel
theorem dX2_skipSpaces_31 : decode cX2_skipSpaces 31 = .ok (.putfield 36, 3) := by decide +kernel
theorem dX2_skipSpaces_34 : decode cX2_skipSpaces 34 = .ok (.goto (-34), 3) := by decide +kernel
theorem dX2_skipSpaces_37 : decode cX2_skipSpaces 37 = .ok (.return_, 1) := by decide +kernel
theorem dX2_skipLetters_0 : decode cX2_skipLetters 0 = .ok (.aload_n 0, 1) := by decide +kernel
theorem dX2_skipLetters_1 : decode cX2_skipLetters 1 = .ok (.getfield 36, 3) := by decide +kernel
theorem dX2_skipLetters_4 : decode cX2_skipLetters 4 = .ok (.aload_n 0, 1) := by decide +kernel
theorem dX2_skipLetters_5 : decode cX2_skipLetters 5 = .ok (.getfield 23, 3) := by decide +kernel
theorem dX2_skipLetters_8 : decode cX2_skipLetters 8 = .ok (.if_icmp .ge 30, 3) := by decide +kernel
theorem dX2_skipLetters_11 : decode cX2_skipLetters 11 = .ok (.aload_n 0, 1) := by decide +kernel
theorem dX2_skipLetters_12 : decode cX2_skipLetters 12 = .ok (.aload_n 0, 1) := by decide +kernel
theorem dX2_skipLetters_13 : decode cX2_skipLetters 13 = .ok (.getfield 36, 3) := by decide +kernel
theorem dX2_skipLetters_16 : decode cX2_skipLetters 16 = .ok (.invokevirtual 64, 3) := by decide +kernel
theorem dX2_skipLetters_19 : decode cX2_skipLetters 19 = .ok (.invokestatic 76, 3) := by decide +kernel
theorem dX2_skipLetters_22 : decode cX2_skipLetters 22 = .ok (.ifCond .eq 16, 3) := by decide +kernel
theorem dX2_skipLetters_25 : decode cX2_skipLetters 25 = .ok (.aload_n 0, 1) := by decide +kernel
theorem dX2_skipLetters_26 : decode cX2_skipLetters 26 = .ok (.dup, 1) := by decide +kernel
theorem dX2_skipLetters_27 : decode cX2_skipLetters 27 = .ok (.getfield 36, 3) := by decide +kernel
theorem dX2_skipLetters_30 : decode cX2_skipLetters 30 = .ok (.iconst 1, 1) := by decide +kernel
theorem dX2_skipLetters_31 : decode cX2_skipLetters 31 = .ok (.iadd, 1) := by decide +kernel
theorem dX2_skipLetters_32 : decode cX2_skipLetters 32 = .ok (.putfield 36, 3) := by decide +kernel
theorem dX2_skipLetters_35 : decode cX2_skipLetters 35 = .ok (.goto (-35), 3) := by decide +kernel
theorem dX2_skipLetters_38 : decode cX2_skipLetters 38 = .ok (.return_, 1) := by decide +kernel
theorem dX2_commandSpelled_0 : decode cX2_commandSpelled 0 = .ok (.getstatic 79, 3) := by decide +kernel
theorem dX2_commandSpelled_3 : decode cX2_commandSpelled 3 = .ok (.astore_n 3, 1) := by decide +kernel
theorem dX2_commandSpelled_4 : decode cX2_commandSpelled 4 = .ok (.aload_n 3, 1) := by decide +kernel
theorem dX2_commandSpelled_5 : decode cX2_commandSpelled 5 = .ok (.arraylength, 1) := by decide +kernel
theorem dX2_commandSpelled_6 : decode cX2_commandSpelled 6 = .ok (.istore 4, 2) := by decide +kernel
theorem dX2_commandSpelled_8 : decode cX2_commandSpelled 8 = .ok (.iconst 0, 1) := by decide +kernel
theorem dX2_commandSpelled_9 : decode cX2_commandSpelled 9 = .ok (.istore 5, 2) := by decide +kernel
theorem dX2_commandSpelled_11 : decode cX2_commandSpelled 11 = .ok (.iload 5, 2) := by decide +kernel
theorem dX2_commandSpelled_13 : decode cX2_commandSpelled 13 = .ok (.iload 4, 2) := by decide +kernel
theorem dX2_commandSpelled_15 : decode cX2_commandSpelled 15 = .ok (.if_icmp .ge 37, 3) := by decide +kernel
theorem dX2_commandSpelled_18 : decode cX2_commandSpelled 18 = .ok (.aload_n 3, 1) := by decide +kernel
theorem dX2_commandSpelled_19 : decode cX2_commandSpelled 19 = .ok (.iload 5, 2) := by decide +kernel
theorem dX2_commandSpelled_21 : decode cX2_commandSpelled 21 = .ok (.aaload, 1) := by decide +kernel
theorem dX2_commandSpelled_22 : decode cX2_commandSpelled 22 = .ok (.astore 6, 2) := by decide +kernel
theorem dX2_commandSpelled_24 : decode cX2_commandSpelled 24 = .ok (.aload 6, 2) := by decide +kernel
theorem dX2_commandSpelled_26 : decode cX2_commandSpelled 26 = .ok (.ifnull 20, 3) := by decide +kernel
theorem dX2_commandSpelled_29 : decode cX2_commandSpelled 29 = .ok (.aload_n 0, 1) := by decide +kernel
theorem dX2_commandSpelled_30 : decode cX2_commandSpelled 30 = .ok (.aload 6, 2) := by decide +kernel
theorem dX2_commandSpelled_32 : decode cX2_commandSpelled 32 = .ok (.getfield 83, 3) := by decide +kernel
theorem dX2_commandSpelled_35 : decode cX2_commandSpelled 35 = .ok (.iload_n 1, 1) := by decide +kernel
theorem dX2_commandSpelled_36 : decode cX2_commandSpelled 36 = .ok (.iload_n 2, 1) := by decide +kernel
theorem dX2_commandSpelled_37 : decode cX2_commandSpelled 37 = .ok (.invokevirtual 87, 3) := by decide +kernel
theorem dX2_commandSpelled_40 : decode cX2_commandSpelled 40 = .ok (.ifCond .eq 6, 3) := by decide +kernel
theorem dX2_commandSpelled_43 : decode cX2_commandSpelled 43 = .ok (.aload 6, 2) := by decide +kernel
theorem dX2_commandSpelled_45 : decode cX2_commandSpelled 45 = .ok (.areturn, 1) := by decide +kernel
theorem dX2_commandSpelled_46 : decode cX2_commandSpelled 46 = .ok (.iinc 5 1, 3) := by decide +kernel
theorem dX2_commandSpelled_49 : decode cX2_commandSpelled 49 = .ok (.goto (-38), 3) := by decide +kernel
theorem dX2_commandSpelled_52 : decode cX2_commandSpelled 52 = .ok (.aconst_null, 1) := by decide +kernel
theorem dX2_commandSpelled_53 : decode cX2_commandSpelled 53 = .ok (.areturn, 1) := by decide +kernel
theorem dX2_isSpelled_0 : decode cX2_isSpelled 0 = .ok (.aload_n 1, 1) := by decide +kernel
theorem dX2_isSpelled_1 : decode cX2_isSpelled 1 = .ok (.ifnull 13, 3) := by decide +kernel
theorem dX2_isSpelled_4 : decode cX2_isSpelled 4 = .ok (.iload_n 3, 1) := by decide +kernel
theorem dX2_isSpelled_5 : decode cX2_isSpelled 5 = .ok (.iload_n 2, 1) := by decide +kernel
theorem dX2_isSpelled_6 : decode cX2_isSpelled 6 = .ok (.isub, 1) := by decide +kernel
theorem dX2_isSpelled_7 : decode cX2_isSpelled 7 = .ok (.aload_n 1, 1) := by decide +kernel
theorem dX2_isSpelled_8 : decode cX2_isSpelled 8 = .ok (.invokevirtual 91, 3) := by decide +kernel
theorem dX2_isSpelled_11 : decode cX2_isSpelled 11 = .ok (.if_icmp .eq 5, 3) := by decide +kernel
theorem dX2_isSpelled_14 : decode cX2_isSpelled 14 = .ok (.iconst 0, 1) := by decide +kernel
theorem dX2_isSpelled_15 : decode cX2_isSpelled 15 = .ok (.ireturn, 1) := by decide +kernel
theorem dX2_isSpelled_16 : decode cX2_isSpelled 16 = .ok (.iconst 0, 1) := by decide +kernel
theorem dX2_isSpelled_17 : decode cX2_isSpelled 17 = .ok (.istore 4, 2) := by decide +kernel
theorem dX2_isSpelled_19 : decode cX2_isSpelled 19 = .ok (.iload 4, 2) := by decide +kernel
theorem dX2_isSpelled_21 : decode cX2_isSpelled 21 = .ok (.aload_n 1, 1) := by decide +kernel
theorem dX2_isSpelled_22 : decode cX2_isSpelled 22 = .ok (.invokevirtual 91, 3) := by decide +kernel
theorem dX2_isSpelled_25 : decode cX2_isSpelled 25 = .ok (.if_icmp .ge 28, 3) := by decide +kernel
theorem dX2_isSpelled_28 : decode cX2_isSpelled 28 = .ok (.aload_n 1, 1) := by decide +kernel
theorem dX2_isSpelled_29 : decode cX2_isSpelled 29 = .ok (.iload 4, 2) := by decide +kernel
theorem dX2_isSpelled_31 : decode cX2_isSpelled 31 = .ok (.invokevirtual 95, 3) := by decide +kernel
theorem dX2_isSpelled_34 : decode cX2_isSpelled 34 = .ok (.aload_n 0, 1) := by decide +kernel
theorem dX2_isSpelled_35 : decode cX2_isSpelled 35 = .ok (.iload_n 2, 1) := by decide +kernel
theorem dX2_isSpelled_36 : decode cX2_isSpelled 36 = .ok (.iload 4, 2) := by decide +kernel
theorem dX2_isSpelled_38 : decode cX2_isSpelled 38 = .ok (.iadd, 1) := by decide +kernel
theorem dX2_isSpelled_39 : decode cX2_isSpelled 39 = .ok (.invokevirtual 64, 3) := by decide +kernel
theorem dX2_isSpelled_42 : decode cX2_isSpelled 42 = .ok (.if_icmp .eq 5, 3) := by decide +kernel
theorem dX2_isSpelled_45 : decode cX2_isSpelled 45 = .ok (.iconst 0, 1) := by decide +kernel
theorem dX2_isSpelled_46 : decode cX2_isSpelled 46 = .ok (.ireturn, 1) := by decide +kernel
theorem dX2_isSpelled_47 : decode cX2_isSpelled 47 = .ok (.iinc 4 1, 3) := by decide +kernel
theorem dX2_isSpelled_50 : decode cX2_isSpelled 50 = .ok (.goto (-31), 3) := by decide +kernel
theorem dX2_isSpelled_53 : decode cX2_isSpelled 53 = .ok (.iconst 1, 1) := by decide +kernel
theorem dX2_isSpelled_54 : decode cX2_isSpelled 54 = .ok (.ireturn, 1) := by decide +kernel
theorem dX2_isLetter_0 : decode cX2_isLetter 0 = .ok (.iload_n 0, 1) := by decide +kernel
theorem dX2_isLetter_1 : decode cX2_isLetter 1 = .ok (.bipush 97, 2) := by decide +kernel
theorem dX2_isLetter_3 : decode cX2_isLetter 3 = .ok (.if_icmp .lt 13, 3) := by decide +kernel
theorem dX2_isLetter_6 : decode cX2_isLetter 6 = .ok (.iload_n 0, 1) := by decide +kernel
theorem dX2_isLetter_7 : decode cX2_isLetter 7 = .ok (.bipush 122, 2) := by decide +kernel
theorem dX2_isLetter_9 : decode cX2_isLetter 9 = .ok (.if_icmp .gt 7, 3) := by decide +kernel
theorem dX2_isLetter_12 : decode cX2_isLetter 12 = .ok (.iconst 1, 1) := by decide +kernel
theorem dX2_isLetter_13 : decode cX2_isLetter 13 = .ok (.goto 4, 3) := by decide +kernel
theorem dX2_isLetter_16 : decode cX2_isLetter 16 = .ok (.iconst 0, 1) := by decide +kernel
theorem dX2_isLetter_17 : decode cX2_isLetter 17 = .ok (.ireturn, 1) := by decide +kernel
theorem dX2_isDigit_0 : decode cX2_isDigit 0 = .ok (.iload_n 0, 1) := by decide +kernel
theorem dX2_isDigit_1 : decode cX2_isDigit 1 = .ok (.bipush 48, 2) := by decide +kernel
theorem dX2_isDigit_3 : decode cX2_isDigit 3 = .ok (.if_icmp .lt 13, 3) := by decide +kernel
theorem dX2_isDigit_6 : decode cX2_isDigit 6 = .ok (.iload_n 0, 1) := by decide +kernel
theorem dX2_isDigit_7 : decode cX2_isDigit 7 = .ok (.bipush 57, 2) := by decide +kernel
theorem dX2_isDigit_9 : decode cX2_isDigit 9 = .ok (.if_icmp .gt 7, 3) := by decide +kernel
theorem dX2_isDigit_12 : decode cX2_isDigit 12 = .ok (.iconst 1, 1) := by decide +kernel
theorem dX2_isDigit_13 : decode cX2_isDigit 13 = .ok (.goto 4, 3) := by decide +kernel
theorem dX2_isDigit_16 : decode cX2_isDigit 16 = .ok (.iconst 0, 1) := by decide +kernel
theorem dX2_isDigit_17 : decode cX2_isDigit 17 = .ok (.ireturn, 1) := by decide +kernel
theorem dX3_init_0 : decode cX3_init 0 = .ok (.aload_n 0, 1) := by decide +kernel
theorem dX3_init_1 : decode cX3_init 1 = .ok (.invokespecial 3, 3) := by decide +kernel
theorem dX3_init_4 : decode cX3_init 4 = .ok (.aload_n 0, 1) := by decide +kernel
theorem dX3_init_5 : decode cX3_init 5 = .ok (.iconst 4, 1) := by decide +kernel
theorem dX3_init_6 : decode cX3_init 6 = .ok (.anewarray 9, 3) := by decide +kernel
theorem dX3_init_9 : decode cX3_init 9 = .ok (.putfield 11, 3) := by decide +kernel
theorem dX3_init_12 : decode cX3_init 12 = .ok (.iconst 0, 1) := by decide +kernel
theorem dX3_init_13 : decode cX3_init 13 = .ok (.istore_n 1, 1) := by decide +kernel
theorem dX3_init_14 : decode cX3_init 14 = .ok (.iload_n 1, 1) := by decide +kernel
theorem dX3_init_15 : decode cX3_init 15 = .ok (.aload_n 0, 1) := by decide +kernel
theorem dX3_init_16 : decode cX3_init 16 = .ok (.getfield 11, 3) := by decide +kernel
theorem dX3_init_19 : decode cX3_init 19 = .ok (.arraylength, 1) := by decide +kernel
theorem dX3_init_20 : decode cX3_init 20 = .ok (.if_icmp .ge 22, 3) := by decide +kernel
theorem dX3_init_23 : decode cX3_init 23 = .ok (.aload_n 0, 1) := by decide +kernel
theorem dX3_init_24 : decode cX3_init 24 = .ok (.getfield 11, 3) := by decide +kernel
theorem dX3_init_27 : decode cX3_init 27 = .ok (.iload_n 1, 1) := by decide +kernel
theorem dX3_init_28 : decode cX3_init 28 = .ok (.new 9, 3) := by decide +kernel
theorem dX3_init_31 : decode cX3_init 31 = .ok (.dup, 1) := by decide +kernel
theorem dX3_init_32 : decode cX3_init 32 = .ok (.invokespecial 17, 3) := by decide +kernel
theorem dX3_init_35 : decode cX3_init 35 = .ok (.aastore, 1) := by decide +kernel
theorem dX3_init_36 : decode cX3_init 36 = .ok (.iinc 1 1, 3) := by decide +kernel
theorem dX3_init_39 : decode cX3_init 39 = .ok (.goto (-25), 3) := by decide +kernel
theorem dX3_init_42 : decode cX3_init 42 = .ok (.return_, 1) := by decide +kernel
theorem dX3_push_0 : decode cX3_push 0 = .ok (.aload_n 0, 1) := by decide +kernel
theorem dX3_push_1 : decode cX3_push 1 = .ok (.getfield 18, 3) := by decide +kernel
theorem dX3_push_4 : decode cX3_push 4 = .ok (.aload_n 0, 1) := by decide +kernel
theorem dX3_push_5 : decode cX3_push 5 = .ok (.getfield 11, 3) := by decide +kernel
theorem dX3_push_8 : decode cX3_push 8 = .ok (.arraylength, 1) := by decide +kernel
theorem dX3_push_9 : decode cX3_push 9 = .ok (.if_icmp .lt 7, 3) := by decide +kernel
theorem dX3_push_12 : decode cX3_push 12 = .ok (.aload_n 0, 1) := by decide +kernel
theorem dX3_push_13 : decode cX3_push 13 = .ok (.invokevirtual 22, 3) := by decide +kernel
theorem dX3_push_16 : decode cX3_push 16 = .ok (.aload_n 0, 1) := by decide +kernel
theorem dX3_push_17 : decode cX3_push 17 = .ok (.getfield 18, 3) := by decide +kernel
theorem dX3_push_20 : decode cX3_push 20 = .ok (.ifCond .lt 15, 3) := by decide +kernel
theorem dX3_push_23 : decode cX3_push 23 = .ok (.aload_n 0, 1) := by decide +kernel
theorem dX3_push_24 : decode cX3_push 24 = .ok (.getfield 18, 3) := by decide +kernel
theorem dX3_push_27 : decode cX3_push 27 = .ok (.aload_n 0, 1) := by decide +kernel
theorem dX3_push_28 : decode cX3_push 28 = .ok (.getfield 11, 3) := by decide +kernel
theorem dX3_push_31 : decode cX3_push 31 = .ok (.arraylength, 1) := by decide +kernel
theorem dX3_push_32 : decode cX3_push 32 = .ok (.if_icmp .lt 4, 3) := by decide +kernel
theorem dX3_push_35 : decode cX3_push 35 = .ok (.return_, 1) := by decide +kernel
theorem dX3_push_36 : decode cX3_push 36 = .ok (.aload_n 0, 1) := by decide +kernel
theorem dX3_push_37 : decode cX3_push 37 = .ok (.getfield 11, 3) := by decide +kernel
theorem dX3_push_40 : decode cX3_push 40 = .ok (.aload_n 0, 1) := by decide +kernel
theorem dX3_push_41 : decode cX3_push 41 = .ok (.getfield 18, 3) := by decide +kernel
theorem dX3_push_44 : decode cX3_push 44 = .ok (.aaload, 1) := by decide +kernel
theorem dX3_push_45 : decode cX3_push 45 = .ok (.astore_n 2, 1) := by decide +kernel
theorem dX3_push_46 : decode cX3_push 46 = .ok (.aload_n 2, 1) := by decide +kernel
theorem dX3_push_47 : decode cX3_push 47 = .ok (.ifnull 18, 3) := by decide +kernel
theorem dX3_push_50 : decode cX3_push 50 = .ok (.aload_n 2, 1) := by decide +kernel
theorem dX3_push_51 : decode cX3_push 51 = .ok (.aload_n 1, 1) := by decide +kernel
theorem dX3_push_52 : decode cX3_push 52 = .ok (.invokevirtual 25, 3) := by decide +kernel
theorem dX3_push_55 : decode cX3_push 55 = .ok (.aload_n 0, 1) := by decide +kernel
theorem dX3_push_56 : decode cX3_push 56 = .ok (.dup, 1) := by decide +kernel
theorem dX3_push_57 : decode cX3_push 57 = .ok (.getfield 18, 3) := by decide +kernel
theorem dX3_push_60 : decode cX3_push 60 = .ok (.iconst 1, 1) := by decide +kernel
theorem dX3_push_61 : decode cX3_push 61 = .ok (.iadd, 1) := by decide +kernel
theorem dX3_push_62 : decode cX3_push 62 = .ok (.putfield 18, 3) := by decide +kernel
theorem dX3_push_65 : decode cX3_push 65 = .ok (.return_, 1) := by decide +kernel
theorem dX3_dropOldest_0 : decode cX3_dropOldest 0 = .ok (.aload_n 0, 1) := by decide +kernel
theorem dX3_dropOldest_1 : decode cX3_dropOldest 1 = .ok (.getfield 11, 3) := by decide +kernel
theorem dX3_dropOldest_4 : decode cX3_dropOldest 4 = .ok (.iconst 0, 1) := by decide +kernel
theorem dX3_dropOldest_5 : decode cX3_dropOldest 5 = .ok (.aaload, 1) := by decide +kernel
theorem dX3_dropOldest_6 : decode cX3_dropOldest 6 = .ok (.astore_n 1, 1) := by decide +kernel
theorem dX3_dropOldest_7 : decode cX3_dropOldest 7 = .ok (.iconst 1, 1) := by decide +kernel
theorem dX3_dropOldest_8 : decode cX3_dropOldest 8 = .ok (.istore_n 2, 1) := by decide +kernel
theorem dX3_dropOldest_9 : decode cX3_dropOldest 9 = .ok (.iload_n 2, 1) := by decide +kernel
theorem dX3_dropOldest_10 : decode cX3_dropOldest 10 = .ok (.aload_n 0, 1) := by decide +kernel
theorem dX3_dropOldest_11 : decode cX3_dropOldest 11 = .ok (.getfield 11, 3) := by decide +kernel
theorem dX3_dropOldest_14 : decode cX3_dropOldest 14 = .ok (.arraylength, 1) := by decide +kernel
theorem dX3_dropOldest_15 : decode cX3_dropOldest 15 = .ok (.if_icmp .ge 23, 3) := by decide +kernel
theorem dX3_dropOldest_18 : decode cX3_dropOldest 18 = .ok (.aload_n 0, 1) := by decide +kernel
theorem dX3_dropOldest_19 : decode cX3_dropOldest 19 = .ok (.getfield 11, 3) := by decide +kernel
theorem dX3_dropOldest_22 : decode cX3_dropOldest 22 = .ok (.iload_n 2, 1) := by decide +kernel
theorem dX3_dropOldest_23 : decode cX3_dropOldest 23 = .ok (.iconst 1, 1) := by decide +kernel
theorem dX3_dropOldest_24 : decode cX3_dropOldest 24 = .ok (.isub, 1) := by decide +kernel
theorem dX3_dropOldest_25 : decode cX3_dropOldest 25 = .ok (.aload_n 0, 1) := by decide +kernel
theorem dX3_dropOldest_26 : decode cX3_dropOldest 26 = .ok (.getfield 11, 3) := by decide +kernel
theorem dX3_dropOldest_29 : decode cX3_dropOldest 29 = .ok (.iload_n 2, 1) := by decide +kernel
theorem dX3_dropOldest_30 : decode cX3_dropOldest 30 = .ok (.aaload, 1) := by decide +kernel
theorem dX3_dropOldest_31 : decode cX3_dropOldest 31 = .ok (.aastore, 1) := by decide +kernel
theorem dX3_dropOldest_32 : decode cX3_dropOldest 32 = .ok (.iinc 2 1, 3) := by decide +kernel
theorem dX3_dropOldest_35 : decode cX3_dropOldest 35 = .ok (.goto (-26), 3) := by decide +kernel
theorem dX3_dropOldest_38 : decode cX3_dropOldest 38 = .ok (.aload_n 0, 1) := by decide +kernel
theorem dX3_dropOldest_39 : decode cX3_dropOldest 39 = .ok (.getfield 11, 3) := by decide +kernel
theorem dX3_dropOldest_42 : decode cX3_dropOldest 42 = .ok (.aload_n 0, 1) := by decide +kernel
theorem dX3_dropOldest_43 : decode cX3_dropOldest 43 = .ok (.getfield 11, 3) := by decide +kernel
theorem dX3_dropOldest_46 : decode cX3_dropOldest 46 = .ok (.arraylength, 1) := by decide +kernel
theorem dX3_dropOldest_47 : decode cX3_dropOldest 47 = .ok (.iconst 1, 1) := by decide +kernel
theorem dX3_dropOldest_48 : decode cX3_dropOldest 48 = .ok (.isub, 1) := by decide +kernel
theorem dX3_dropOldest_49 : decode cX3_dropOldest 49 = .ok (.aload_n 1, 1) := by decide +kernel
theorem dX3_dropOldest_50 : decode cX3_dropOldest 50 = .ok (.aastore, 1) := by decide +kernel
theorem dX3_dropOldest_51 : decode cX3_dropOldest 51 = .ok (.aload_n 0, 1) := by decide +kernel
theorem dX3_dropOldest_52 : decode cX3_dropOldest 52 = .ok (.aload_n 0, 1) := by decide +kernel
theorem dX3_dropOldest_53 : decode cX3_dropOldest 53 = .ok (.getfield 11, 3) := by decide +kernel
theorem dX3_dropOldest_56 : decode cX3_dropOldest 56 = .ok (.arraylength, 1) := by decide +kernel
theorem dX3_dropOldest_57 : decode cX3_dropOldest 57 = .ok (.iconst 1, 1) := by decide +kernel
theorem dX3_dropOldest_58 : decode cX3_dropOldest 58 = .ok (.isub, 1) := by decide +kernel
theorem dX3_dropOldest_59 : decode cX3_dropOldest 59 = .ok (.putfield 18, 3) := by decide +kernel
theorem dX3_dropOldest_62 : decode cX3_dropOldest 62 = .ok (.return_, 1) := by decide +kernel
theorem dX3_popInto_0 : decode cX3_popInto 0 = .ok (.aload_n 0, 1) := by decide +kernel
theorem dX3_popInto_1 : decode cX3_popInto 1 = .ok (.getfield 18, 3) := by decide +kernel
theorem dX3_popInto_4 : decode cX3_popInto 4 = .ok (.ifCond .le 15, 3) := by decide +kernel
theorem dX3_popInto_7 : decode cX3_popInto 7 = .ok (.aload_n 0, 1) := by decide +kernel
theorem dX3_popInto_8 : decode cX3_popInto 8 = .ok (.getfield 18, 3) := by decide +kernel
theorem dX3_popInto_11 : decode cX3_popInto 11 = .ok (.aload_n 0, 1) := by decide +kernel
theorem dX3_popInto_12 : decode cX3_popInto 12 = .ok (.getfield 11, 3) := by decide +kernel
theorem dX3_popInto_15 : decode cX3_popInto 15 = .ok (.arraylength, 1) := by decide +kernel
theorem dX3_popInto_16 : decode cX3_popInto 16 = .ok (.if_icmp .le 4, 3) := by decide +kernel
theorem dX3_popInto_19 : decode cX3_popInto 19 = .ok (.return_, 1) := by decide +kernel
theorem dX3_popInto_20 : decode cX3_popInto 20 = .ok (.aload_n 0, 1) := by decide +kernel
theorem dX3_popInto_21 : decode cX3_popInto 21 = .ok (.dup, 1) := by decide +kernel
theorem dX3_popInto_22 : decode cX3_popInto 22 = .ok (.getfield 18, 3) := by decide +kernel
theorem dX3_popInto_25 : decode cX3_popInto 25 = .ok (.iconst 1, 1) := by decide +kernel
theorem dX3_popInto_26 : decode cX3_popInto 26 = .ok (.isub, 1) := by decide +kernel
theorem dX3_popInto_27 : decode cX3_popInto 27 = .ok (.putfield 18, 3) := by decide +kernel
theorem dX3_popInto_30 : decode cX3_popInto 30 = .ok (.aload_n 0, 1) := by decide +kernel
theorem dX3_popInto_31 : decode cX3_popInto 31 = .ok (.getfield 11, 3) := by decide +kernel
theorem dX3_popInto_34 : decode cX3_popInto 34 = .ok (.aload_n 0, 1) := by decide +kernel
theorem dX3_popInto_35 : decode cX3_popInto 35 = .ok (.getfield 18, 3) := by decide +kernel
theorem dX3_popInto_38 : decode cX3_popInto 38 = .ok (.aaload, 1) := by decide +kernel
theorem dX3_popInto_39 : decode cX3_popInto 39 = .ok (.astore_n 2, 1) := by decide +kernel
theorem dX3_popInto_40 : decode cX3_popInto 40 = .ok (.aload_n 2, 1) := by decide +kernel
theorem dX3_popInto_41 : decode cX3_popInto 41 = .ok (.ifnull 8, 3) := by decide +kernel
theorem dX3_popInto_44 : decode cX3_popInto 44 = .ok (.aload_n 1, 1) := by decide +kernel
theorem dX3_popInto_45 : decode cX3_popInto 45 = .ok (.aload_n 2, 1) := by decide +kernel
theorem dX3_popInto_46 : decode cX3_popInto 46 = .ok (.invokevirtual 25, 3) := by decide +kernel
theorem dX3_popInto_49 : decode cX3_popInto 49 = .ok (.return_, 1) := by decide +kernel
theorem dX4_init_0 : decode cX4_init 0 = .ok (.aload_n 0, 1) := by decide +kernel
theorem dX4_init_1 : decode cX4_init 1 = .ok (.invokespecial 3, 3) := by decide +kernel
theorem dX4_init_4 : decode cX4_init 4 = .ok (.aload_n 0, 1) := by decide +kernel
theorem dX4_init_5 : decode cX4_init 5 = .ok (.bipush 10, 2) := by decide +kernel
theorem dX4_init_7 : decode cX4_init 7 = .ok (.anewarray 9, 3) := by decide +kernel
theorem dX4_init_10 : decode cX4_init 10 = .ok (.putfield 11, 3) := by decide +kernel
theorem dX4_init_13 : decode cX4_init 13 = .ok (.aload_n 0, 1) := by decide +kernel
theorem dX4_init_14 : decode cX4_init 14 = .ok (.new 9, 3) := by decide +kernel
theorem dX4_init_17 : decode cX4_init 17 = .ok (.dup, 1) := by decide +kernel
theorem dX4_init_18 : decode cX4_init 18 = .ok (.invokespecial 17, 3) := by decide +kernel
theorem dX4_init_21 : decode cX4_init 21 = .ok (.putfield 18, 3) := by decide +kernel
theorem dX4_init_24 : decode cX4_init 24 = .ok (.aload_n 0, 1) := by decide +kernel
theorem dX4_init_25 : decode cX4_init 25 = .ok (.bipush 50, 2) := by decide +kernel
theorem dX4_init_27 : decode cX4_init 27 = .ok (.putfield 22, 3) := by decide +kernel
theorem dX4_init_30 : decode cX4_init 30 = .ok (.iconst 0, 1) := by decide +kernel
theorem dX4_init_31 : decode cX4_init 31 = .ok (.istore_n 1, 1) := by decide +kernel
theorem dX4_init_32 : decode cX4_init 32 = .ok (.iload_n 1, 1) := by decide +kernel
theorem dX4_init_33 : decode cX4_init 33 = .ok (.aload_n 0, 1) := by decide +kernel
theorem dX4_init_34 : decode cX4_init 34 = .ok (.getfield 11, 3) := by decide +kernel
theorem dX4_init_37 : decode cX4_init 37 = .ok (.arraylength, 1) := by decide +kernel
theorem dX4_init_38 : decode cX4_init 38 = .ok (.if_icmp .ge 22, 3) := by decide +kernel
theorem dX4_init_41 : decode cX4_init 41 = .ok (.aload_n 0, 1) := by decide +kernel
theorem dX4_init_42 : decode cX4_init 42 = .ok (.getfield 11, 3) := by decide +kernel
theorem dX4_init_45 : decode cX4_init 45 = .ok (.iload_n 1, 1) := by decide +kernel
theorem dX4_init_46 : decode cX4_init 46 = .ok (.new 9, 3) := by decide +kernel
theorem dX4_init_49 : decode cX4_init 49 = .ok (.dup, 1) := by decide +kernel
theorem dX4_init_50 : decode cX4_init 50 = .ok (.invokespecial 17, 3) := by decide +kernel
theorem dX4_init_53 : decode cX4_init 53 = .ok (.aastore, 1) := by decide +kernel
theorem dX4_init_54 : decode cX4_init 54 = .ok (.iinc 1 1, 3) := by decide +kernel
theorem dX4_init_57 : decode cX4_init 57 = .ok (.goto (-25), 3) := by decide +kernel
theorem dX4_init_60 : decode cX4_init 60 = .ok (.return_, 1) := by decide +kernel
theorem dX4_copyFrom_0 : decode cX4_copyFrom 0 = .ok (.aload_n 0, 1) := by decide +kernel
theorem dX4_copyFrom_1 : decode cX4_copyFrom 1 = .ok (.aload_n 1, 1) := by decide +kernel
theorem dX4_copyFrom_2 : decode cX4_copyFrom 2 = .ok (.getfield 26, 3) := by decide +kernel
theorem dX4_copyFrom_5 : decode cX4_copyFrom 5 = .ok (.putfield 26, 3) := by decide +kernel
theorem dX4_copyFrom_8 : decode cX4_copyFrom 8 = .ok (.aload_n 0, 1) := by decide +kernel
theorem dX4_copyFrom_9 : decode cX4_copyFrom 9 = .ok (.aload_n 1, 1) := by decide +kernel
theorem dX4_copyFrom_10 : decode cX4_copyFrom 10 = .ok (.getfield 22, 3) := by decide +kernel
theorem dX4_copyFrom_13 : decode cX4_copyFrom 13 = .ok (.putfield 22, 3) := by decide +kernel
theorem dX4_copyFrom_16 : decode cX4_copyFrom 16 = .ok (.aload_n 0, 1) := by decide +kernel
theorem dX4_copyFrom_17 : decode cX4_copyFrom 17 = .ok (.aload_n 1, 1) := by decide +kernel
theorem dX4_copyFrom_18 : decode cX4_copyFrom 18 = .ok (.getfield 29, 3) := by decide +kernel
theorem dX4_copyFrom_21 : decode cX4_copyFrom 21 = .ok (.putfield 29, 3) := by decide +kernel
theorem dX4_copyFrom_24 : decode cX4_copyFrom 24 = .ok (.aload_n 0, 1) := by decide +kernel
theorem dX4_copyFrom_25 : decode cX4_copyFrom 25 = .ok (.aload_n 1, 1) := by decide +kernel
theorem dX4_copyFrom_26 : decode cX4_copyFrom 26 = .ok (.getfield 32, 3) := by decide +kernel
theorem dX4_copyFrom_29 : decode cX4_copyFrom 29 = .ok (.putfield 32, 3) := by decide +kernel
theorem dX4_copyFrom_32 : decode cX4_copyFrom 32 = .ok (.aload_n 0, 1) := by decide +kernel
theorem dX4_copyFrom_33 : decode cX4_copyFrom 33 = .ok (.aload_n 1, 1) := by decide +kernel
theorem dX4_copyFrom_34 : decode cX4_copyFrom 34 = .ok (.getfield 35, 3) := by decide +kernel
theorem dX4_copyFrom_37 : decode cX4_copyFrom 37 = .ok (.putfield 35, 3) := by decide +kernel
theorem dX4_copyFrom_40 : decode cX4_copyFrom 40 = .ok (.aload_n 0, 1) := by decide +kernel
theorem dX4_copyFrom_41 : decode cX4_copyFrom 41 = .ok (.aload_n 1, 1) := by decide +kernel
theorem dX4_copyFrom_42 : decode cX4_copyFrom 42 = .ok (.getfield 38, 3) := by decide +kernel
theorem dX4_copyFrom_45 : decode cX4_copyFrom 45 = .ok (.putfield 38, 3) := by decide +kernel
theorem dX4_copyFrom_48 : decode cX4_copyFrom 48 = .ok (.iconst 0, 1) := by decide +kernel
theorem dX4_copyFrom_49 : decode cX4_copyFrom 49 = .ok (.istore_n 2, 1) := by decide +kernel
theorem dX4_copyFrom_50 : decode cX4_copyFrom 50 = .ok (.iload_n 2, 1) := by decide +kernel
theorem dX4_copyFrom_51 : decode cX4_copyFrom 51 = .ok (.aload_n 0, 1) := by decide +kernel
theorem dX4_copyFrom_52 : decode cX4_copyFrom 52 = .ok (.getfield 26, 3) := by decide +kernel
theorem dX4_copyFrom_55 : decode cX4_copyFrom 55 = .ok (.if_icmp .ge 22, 3) := by decide +kernel
theorem dX4_copyFrom_58 : decode cX4_copyFrom 58 = .ok (.aload_n 0, 1) := by decide +kernel
theorem dX4_copyFrom_59 : decode cX4_copyFrom 59 = .ok (.iload_n 2, 1) := by decide +kernel
theorem dX4_copyFrom_60 : decode cX4_copyFrom 60 = .ok (.invokevirtual 41, 3) := by decide +kernel
theorem dX4_copyFrom_63 : decode cX4_copyFrom 63 = .ok (.aload_n 1, 1) := by decide +kernel
theorem dX4_copyFrom_64 : decode cX4_copyFrom 64 = .ok (.iload_n 2, 1) := by decide +kernel
theorem dX4_copyFrom_65 : decode cX4_copyFrom 65 = .ok (.invokevirtual 41, 3) := by decide +kernel
theorem dX4_copyFrom_68 : decode cX4_copyFrom 68 = .ok (.invokevirtual 45, 3) := by decide +kernel
theorem dX4_copyFrom_71 : decode cX4_copyFrom 71 = .ok (.iinc 2 1, 3) := by decide +kernel
theorem dX4_copyFrom_74 : decode cX4_copyFrom 74 = .ok (.goto (-24), 3) := by decide +kernel
theorem dX4_copyFrom_77 : decode cX4_copyFrom 77 = .ok (.return_, 1) := by decide +kernel
theorem dX4_memberAt_0 : decode cX4_memberAt 0 = .ok (.iload_n 1, 1) := by decide +kernel
theorem dX4_memberAt_1 : decode cX4_memberAt 1 = .ok (.ifCond .lt 20, 3) := by decide +kernel
theorem dX4_memberAt_4 : decode cX4_memberAt 4 = .ok (.iload_n 1, 1) := by decide +kernel
theorem dX4_memberAt_5 : decode cX4_memberAt 5 = .ok (.aload_n 0, 1) := by decide +kernel
theorem dX4_memberAt_6 : decode cX4_memberAt 6 = .ok (.getfield 26, 3) := by decide +kernel
theorem dX4_memberAt_9 : decode cX4_memberAt 9 = .ok (.if_icmp .ge 12, 3) := by decide +kernel
theorem dX4_memberAt_12 : decode cX4_memberAt 12 = .ok (.iload_n 1, 1) := by decide +kernel
theorem dX4_memberAt_13 : decode cX4_memberAt 13 = .ok (.aload_n 0, 1) := by decide +kernel
theorem dX4_memberAt_14 : decode cX4_memberAt 14 = .ok (.getfield 11, 3) := by decide +kernel
theorem dX4_memberAt_17 : decode cX4_memberAt 17 = .ok (.arraylength, 1) := by decide +kernel
theorem dX4_memberAt_18 : decode cX4_memberAt 18 = .ok (.if_icmp .lt 8, 3) := by decide +kernel
theorem dX4_memberAt_21 : decode cX4_memberAt 21 = .ok (.aload_n 0, 1) := by decide +kernel
theorem dX4_memberAt_22 : decode cX4_memberAt 22 = .ok (.getfield 18, 3) := by decide +kernel
theorem dX4_memberAt_25 : decode cX4_memberAt 25 = .ok (.areturn, 1) := by decide +kernel
theorem dX4_memberAt_26 : decode cX4_memberAt 26 = .ok (.aload_n 0, 1) := by decide +kernel
theorem dX4_memberAt_27 : decode cX4_memberAt 27 = .ok (.getfield 11, 3) := by decide +kernel
theorem dX4_memberAt_30 : decode cX4_memberAt 30 = .ok (.iload_n 1, 1) := by decide +kernel
theorem dX4_memberAt_31 : decode cX4_memberAt 31 = .ok (.aaload, 1) := by decide +kernel
theorem dX4_memberAt_32 : decode cX4_memberAt 32 = .ok (.astore_n 2, 1) := by decide +kernel
theorem dX4_memberAt_33 : decode cX4_memberAt 33 = .ok (.aload_n 2, 1) := by decide +kernel
theorem dX4_memberAt_34 : decode cX4_memberAt 34 = .ok (.ifnonnull 10, 3) := by decide +kernel
theorem dX4_memberAt_37 : decode cX4_memberAt 37 = .ok (.aload_n 0, 1) := by decide +kernel
theorem dX4_memberAt_38 : decode cX4_memberAt 38 = .ok (.getfield 18, 3) := by decide +kernel
theorem dX4_memberAt_41 : decode cX4_memberAt 41 = .ok (.goto 4, 3) := by decide +kernel
theorem dX4_memberAt_44 : decode cX4_memberAt 44 = .ok (.aload_n 2, 1) := by decide +kernel
theorem dX4_memberAt_45 : decode cX4_memberAt 45 = .ok (.areturn, 1) := by decide +kernel
theorem dX4_placeOf_0 : decode cX4_placeOf 0 = .ok (.iconst 0, 1) := by decide +kernel
theorem dX4_placeOf_1 : decode cX4_placeOf 1 = .ok (.istore_n 2, 1) := by decide +kernel
theorem dX4_placeOf_2 : decode cX4_placeOf 2 = .ok (.iload_n 2, 1) := by decide +kernel
theorem dX4_placeOf_3 : decode cX4_placeOf 3 = .ok (.aload_n 0, 1) := by decide +kernel
theorem dX4_placeOf_4 : decode cX4_placeOf 4 = .ok (.getfield 26, 3) := by decide +kernel
theorem dX4_placeOf_7 : decode cX4_placeOf 7 = .ok (.if_icmp .ge 23, 3) := by decide +kernel
theorem dX4_placeOf_10 : decode cX4_placeOf 10 = .ok (.aload_n 0, 1) := by decide +kernel
theorem dX4_placeOf_11 : decode cX4_placeOf 11 = .ok (.iload_n 2, 1) := by decide +kernel
theorem dX4_placeOf_12 : decode cX4_placeOf 12 = .ok (.invokevirtual 41, 3) := by decide +kernel
theorem dX4_placeOf_15 : decode cX4_placeOf 15 = .ok (.getfield 49, 3) := by decide +kernel
theorem dX4_placeOf_18 : decode cX4_placeOf 18 = .ok (.iload_n 1, 1) := by decide +kernel
theorem dX4_placeOf_19 : decode cX4_placeOf 19 = .ok (.if_icmp .ne 5, 3) := by decide +kernel
theorem dX4_placeOf_22 : decode cX4_placeOf 22 = .ok (.iload_n 2, 1) := by decide +kernel
theorem dX4_placeOf_23 : decode cX4_placeOf 23 = .ok (.ireturn, 1) := by decide +kernel
theorem dX4_placeOf_24 : decode cX4_placeOf 24 = .ok (.iinc 2 1, 3) := by decide +kernel
theorem dX4_placeOf_27 : decode cX4_placeOf 27 = .ok (.goto (-25), 3) := by decide +kernel
theorem dX4_placeOf_30 : decode cX4_placeOf 30 = .ok (.iconst (-1), 1) := by decide +kernel
theorem dX4_placeOf_31 : decode cX4_placeOf 31 = .ok (.ireturn, 1) := by decide +kernel
theorem dX4_insert_0 : decode cX4_insert 0 = .ok (.aload_n 0, 1) := by decide +kernel
theorem dX4_insert_1 : decode cX4_insert 1 = .ok (.getfield 26, 3) := by decide +kernel
theorem dX4_insert_4 : decode cX4_insert 4 = .ok (.aload_n 0, 1) := by decide +kernel
theorem dX4_insert_5 : decode cX4_insert 5 = .ok (.getfield 11, 3) := by decide +kernel
theorem dX4_insert_8 : decode cX4_insert 8 = .ok (.arraylength, 1) := by decide +kernel
theorem dX4_insert_9 : decode cX4_insert 9 = .ok (.if_icmp .ge 15, 3) := by decide +kernel
theorem dX4_insert_12 : decode cX4_insert 12 = .ok (.iload_n 3, 1) := by decide +kernel
theorem dX4_insert_13 : decode cX4_insert 13 = .ok (.ifCond .lt 11, 3) := by decide +kernel
theorem dX4_insert_16 : decode cX4_insert 16 = .ok (.iload_n 3, 1) := by decide +kernel
theorem dX4_insert_17 : decode cX4_insert 17 = .ok (.aload_n 0, 1) := by decide +kernel
theorem dX4_insert_18 : decode cX4_insert 18 = .ok (.getfield 26, 3) := by decide +kernel
theorem dX4_insert_21 : decode cX4_insert 21 = .ok (.if_icmp .le 5, 3) := by decide +kernel
theorem dX4_insert_24 : decode cX4_insert 24 = .ok (.iconst (-1), 1) := by decide +kernel
theorem dX4_insert_25 : decode cX4_insert 25 = .ok (.ireturn, 1) := by decide +kernel
theorem dX4_insert_26 : decode cX4_insert 26 = .ok (.aload_n 0, 1) := by decide +kernel
theorem dX4_insert_27 : decode cX4_insert 27 = .ok (.getfield 11, 3) := by decide +kernel
theorem dX4_insert_30 : decode cX4_insert 30 = .ok (.aload_n 0, 1) := by decide +kernel
theorem dX4_insert_31 : decode cX4_insert 31 = .ok (.getfield 26, 3) := by decide +kernel
theorem dX4_insert_34 : decode cX4_insert 34 = .ok (.aaload, 1) := by decide +kernel
theorem dX4_insert_35 : decode cX4_insert 35 = .ok (.astore 4, 2) := by decide +kernel
theorem dX4_insert_37 : decode cX4_insert 37 = .ok (.aload 4, 2) := by decide +kernel
theorem dX4_insert_39 : decode cX4_insert 39 = .ok (.ifnonnull 5, 3) := by decide +kernel
theorem dX4_insert_42 : decode cX4_insert 42 = .ok (.iconst (-1), 1) := by decide +kernel
theorem dX4_insert_43 : decode cX4_insert 43 = .ok (.ireturn, 1) := by decide +kernel
theorem dX4_insert_44 : decode cX4_insert 44 = .ok (.aload_n 0, 1) := by decide +kernel
theorem dX4_insert_45 : decode cX4_insert 45 = .ok (.getfield 26, 3) := by decide +kernel
theorem dX4_insert_48 : decode cX4_insert 48 = .ok (.istore 5, 2) := by decide +kernel
theorem dX4_insert_50 : decode cX4_insert 50 = .ok (.iload 5, 2) := by decide +kernel
theorem dX4_insert_52 : decode cX4_insert 52 = .ok (.iload_n 3, 1) := by decide +kernel
theorem dX4_insert_53 : decode cX4_insert 53 = .ok (.if_icmp .le 25, 3) := by decide +kernel
theorem dX4_insert_56 : decode cX4_insert 56 = .ok (.aload_n 0, 1) := by decide +kernel
theorem dX4_insert_57 : decode cX4_insert 57 = .ok (.getfield 11, 3) := by decide +kernel
theorem dX4_insert_60 : decode cX4_insert 60 = .ok (.iload 5, 2) := by decide +kernel
theorem dX4_insert_62 : decode cX4_insert 62 = .ok (.aload_n 0, 1) := by decide +kernel
theorem dX4_insert_63 : decode cX4_insert 63 = .ok (.getfield 11, 3) := by decide +kernel
theorem dX4_insert_66 : decode cX4_insert 66 = .ok (.iload 5, 2) := by decide +kernel
theorem dX4_insert_68 : decode cX4_insert 68 = .ok (.iconst 1, 1) := by decide +kernel
theorem dX4_insert_69 : decode cX4_insert 69 = .ok (.isub, 1) := by decide +kernel
theorem dX4_insert_70 : decode cX4_insert 70 = .ok (.aaload, 1) := by decide +kernel
theorem dX4_insert_71 : decode cX4_insert 71 = .ok (.aastore, 1) := by decide +kernel
theorem dX4_insert_72 : decode cX4_insert 72 = .ok (.iinc 5 (-1), 3) := by decide +kernel
theorem dX4_insert_75 : decode cX4_insert 75 = .ok (.goto (-25), 3) := by decide +kernel
theorem dX4_insert_78 : decode cX4_insert 78 = .ok (.aload_n 0, 1) := by decide +kernel
theorem dX4_insert_79 : decode cX4_insert 79 = .ok (.getfield 11, 3) := by decide +kernel
theorem dX4_insert_82 : decode cX4_insert 82 = .ok (.iload_n 3, 1) := by decide +kernel
theorem dX4_insert_83 : decode cX4_insert 83 = .ok (.aload 4, 2) := by decide +kernel
theorem dX4_insert_85 : decode cX4_insert 85 = .ok (.aastore, 1) := by decide +kernel
theorem dX4_insert_86 : decode cX4_insert 86 = .ok (.aload_n 0, 1) := by decide +kernel
theorem dX4_insert_87 : decode cX4_insert 87 = .ok (.dup, 1) := by decide +kernel
theorem dX4_insert_88 : decode cX4_insert 88 = .ok (.getfield 26, 3) := by decide +kernel
theorem dX4_insert_91 : decode cX4_insert 91 = .ok (.iconst 1, 1) := by decide +kernel
theorem dX4_insert_92 : decode cX4_insert 92 = .ok (.iadd, 1) := by decide +kernel
theorem dX4_insert_93 : decode cX4_insert 93 = .ok (.putfield 26, 3) := by decide +kernel
theorem dX4_insert_96 : decode cX4_insert 96 = .ok (.aload 4, 2) := by decide +kernel
theorem dX4_insert_98 : decode cX4_insert 98 = .ok (.aload_n 0, 1) := by decide +kernel
theorem dX4_insert_99 : decode cX4_insert 99 = .ok (.getfield 38, 3) := by decide +kernel
theorem dX4_insert_102 : decode cX4_insert 102 = .ok (.iload_n 1, 1) := by decide +kernel
theorem dX4_insert_103 : decode cX4_insert 103 = .ok (.iload_n 2, 1) := by decide +kernel
theorem dX4_insert_104 : decode cX4_insert 104 = .ok (.invokevirtual 52, 3) := by decide +kernel
theorem dX4_insert_107 : decode cX4_insert 107 = .ok (.aload_n 0, 1) := by decide +kernel
theorem dX4_insert_108 : decode cX4_insert 108 = .ok (.iload_n 3, 1) := by decide +kernel
theorem dX4_insert_109 : decode cX4_insert 109 = .ok (.iconst 1, 1) := by decide +kernel
theorem dX4_insert_110 : decode cX4_insert 110 = .ok (.iadd, 1) := by decide +kernel
theorem dX4_insert_111 : decode cX4_insert 111 = .ok (.invokevirtual 41, 3) := by decide +kernel
theorem dX4_insert_114 : decode cX4_insert 114 = .ok (.invokevirtual 56, 3) := by decide +kernel
theorem dX4_insert_117 : decode cX4_insert 117 = .ok (.aload_n 0, 1) := by decide +kernel
theorem dX4_insert_118 : decode cX4_insert 118 = .ok (.dup, 1) := by decide +kernel
theorem dX4_insert_119 : decode cX4_insert 119 = .ok (.getfield 38, 3) := by decide +kernel
theorem dX4_insert_122 : decode cX4_insert 122 = .ok (.iconst 1, 1) := by decide +kernel
theorem dX4_insert_123 : decode cX4_insert 123 = .ok (.iadd, 1) := by decide +kernel
theorem dX4_insert_124 : decode cX4_insert 124 = .ok (.putfield 38, 3) := by decide +kernel
theorem dX4_insert_127 : decode cX4_insert 127 = .ok (.aload 4, 2) := by decide +kernel
theorem dX4_insert_129 : decode cX4_insert 129 = .ok (.getfield 49, 3) := by decide +kernel
theorem dX4_insert_132 : decode cX4_insert 132 = .ok (.ireturn, 1) := by decide +kernel
theorem dX4_removeMember_0 : decode cX4_removeMember 0 = .ok (.aload_n 0, 1) := by decide +kernel
theorem dX4_removeMember_1 : decode cX4_removeMember 1 = .ok (.iload_n 1, 1) := by decide +kernel
theorem dX4_removeMember_2 : decode cX4_removeMember 2 = .ok (.invokevirtual 59, 3) := by decide +kernel
theorem dX4_removeMember_5 : decode cX4_removeMember 5 = .ok (.istore_n 2, 1) := by decide +kernel
theorem dX4_removeMember_6 : decode cX4_removeMember 6 = .ok (.aload_n 0, 1) := by decide +kernel
theorem dX4_removeMember_7 : decode cX4_removeMember 7 = .ok (.iload_n 2, 1) := by decide +kernel
theorem dX4_removeMember_8 : decode cX4_removeMember 8 = .ok (.invokevirtual 63, 3) := by decide +kernel
theorem dX4_removeMember_11 : decode cX4_removeMember 11 = .ok (.iload_n 2, 1) := by decide +kernel
theorem dX4_removeMember_12 : decode cX4_removeMember 12 = .ok (.ireturn, 1) := by decide +kernel
theorem dX4_serveFirst_0 : decode cX4_serveFirst 0 = .ok (.aload_n 0, 1) := by decide +kernel
theorem dX4_serveFirst_1 : decode cX4_serveFirst 1 = .ok (.iconst 0, 1) := by decide +kernel
theorem dX4_serveFirst_2 : decode cX4_serveFirst 2 = .ok (.invokevirtual 41, 3) := by decide +kernel
theorem dX4_serveFirst_5 : decode cX4_serveFirst 5 = .ok (.getfield 49, 3) := by decide +kernel
theorem dX4_serveFirst_8 : decode cX4_serveFirst 8 = .ok (.istore_n 1, 1) := by decide +kernel
theorem dX4_serveFirst_9 : decode cX4_serveFirst 9 = .ok (.aload_n 0, 1) := by decide +kernel
theorem dX4_serveFirst_10 : decode cX4_serveFirst 10 = .ok (.iconst 0, 1) := by decide +kernel
theorem dX4_serveFirst_11 : decode cX4_serveFirst 11 = .ok (.invokevirtual 63, 3) := by decide +kernel
theorem dX4_serveFirst_14 : decode cX4_serveFirst 14 = .ok (.aload_n 0, 1) := by decide +kernel
theorem dX4_serveFirst_15 : decode cX4_serveFirst 15 = .ok (.dup, 1) := by decide +kernel
theorem dX4_serveFirst_16 : decode cX4_serveFirst 16 = .ok (.getfield 35, 3) := by decide +kernel
theorem dX4_serveFirst_19 : decode cX4_serveFirst 19 = .ok (.iconst 1, 1) := by decide +kernel
theorem dX4_serveFirst_20 : decode cX4_serveFirst 20 = .ok (.iadd, 1) := by decide +kernel
theorem dX4_serveFirst_21 : decode cX4_serveFirst 21 = .ok (.putfield 35, 3) := by decide +kernel
theorem dX4_serveFirst_24 : decode cX4_serveFirst 24 = .ok (.iload_n 1, 1) := by decide +kernel
theorem dX4_serveFirst_25 : decode cX4_serveFirst 25 = .ok (.ireturn, 1) := by decide +kernel
theorem dX4_removeAt_0 : decode cX4_removeAt 0 = .ok (.iload_n 1, 1) := by decide +kernel
theorem dX4_removeAt_1 : decode cX4_removeAt 1 = .ok (.ifCond .lt 23, 3) := by decide +kernel
theorem dX4_removeAt_4 : decode cX4_removeAt 4 = .ok (.iload_n 1, 1) := by decide +kernel
theorem dX4_removeAt_5 : decode cX4_removeAt 5 = .ok (.aload_n 0, 1) := by decide +kernel
theorem dX4_removeAt_6 : decode cX4_removeAt 6 = .ok (.getfield 26, 3) := by decide +kernel
theorem dX4_removeAt_9 : decode cX4_removeAt 9 = .ok (.if_icmp .ge 15, 3) := by decide +kernel
theorem dX4_removeAt_12 : decode cX4_removeAt 12 = .ok (.aload_n 0, 1) := by decide +kernel
theorem dX4_removeAt_13 : decode cX4_removeAt 13 = .ok (.getfield 26, 3) := by decide +kernel
theorem dX4_removeAt_16 : decode cX4_removeAt 16 = .ok (.aload_n 0, 1) := by decide +kernel
theorem dX4_removeAt_17 : decode cX4_removeAt 17 = .ok (.getfield 11, 3) := by decide +kernel
theorem dX4_removeAt_20 : decode cX4_removeAt 20 = .ok (.arraylength, 1) := by decide +kernel
theorem dX4_removeAt_21 : decode cX4_removeAt 21 = .ok (.if_icmp .le 4, 3) := by decide +kernel
theorem dX4_removeAt_24 : decode cX4_removeAt 24 = .ok (.return_, 1) := by decide +kernel
theorem dX4_removeAt_25 : decode cX4_removeAt 25 = .ok (.aload_n 0, 1) := by decide +kernel
theorem dX4_removeAt_26 : decode cX4_removeAt 26 = .ok (.getfield 11, 3) := by decide +kernel
theorem dX4_removeAt_29 : decode cX4_removeAt 29 = .ok (.iload_n 1, 1) := by decide +kernel
theorem dX4_removeAt_30 : decode cX4_removeAt 30 = .ok (.aaload, 1) := by decide +kernel
theorem dX4_removeAt_31 : decode cX4_removeAt 31 = .ok (.astore_n 2, 1) := by decide +kernel
theorem dX4_removeAt_32 : decode cX4_removeAt 32 = .ok (.iload_n 1, 1) := by decide +kernel
theorem dX4_removeAt_33 : decode cX4_removeAt 33 = .ok (.istore_n 3, 1) := by decide +kernel
theorem dX4_removeAt_34 : decode cX4_removeAt 34 = .ok (.iload_n 3, 1) := by decide +kernel
theorem dX4_removeAt_35 : decode cX4_removeAt 35 = .ok (.aload_n 0, 1) := by decide +kernel
theorem dX4_removeAt_36 : decode cX4_removeAt 36 = .ok (.getfield 26, 3) := by decide +kernel
theorem dX4_removeAt_39 : decode cX4_removeAt 39 = .ok (.iconst 1, 1) := by decide +kernel
theorem dX4_removeAt_40 : decode cX4_removeAt 40 = .ok (.isub, 1) := by decide +kernel
theorem dX4_removeAt_41 : decode cX4_removeAt 41 = .ok (.if_icmp .ge 23, 3) := by decide +kernel
theorem dX4_removeAt_44 : decode cX4_removeAt 44 = .ok (.aload_n 0, 1) := by decide +kernel
theorem dX4_removeAt_45 : decode cX4_removeAt 45 = .ok (.getfield 11, 3) := by decide +kernel
theorem dX4_removeAt_48 : decode cX4_removeAt 48 = .ok (.iload_n 3, 1) := by decide +kernel
theorem dX4_removeAt_49 : decode cX4_removeAt 49 = .ok (.aload_n 0, 1) := by decide +kernel
theorem dX4_removeAt_50 : decode cX4_removeAt 50 = .ok (.getfield 11, 3) := by decide +kernel
theorem dX4_removeAt_53 : decode cX4_removeAt 53 = .ok (.iload_n 3, 1) := by decide +kernel
theorem dX4_removeAt_54 : decode cX4_removeAt 54 = .ok (.iconst 1, 1) := by decide +kernel
theorem dX4_removeAt_55 : decode cX4_removeAt 55 = .ok (.iadd, 1) := by decide +kernel
theorem dX4_removeAt_56 : decode cX4_removeAt 56 = .ok (.aaload, 1) := by decide +kernel
theorem dX4_removeAt_57 : decode cX4_removeAt 57 = .ok (.aastore, 1) := by decide +kernel
theorem dX4_removeAt_58 : decode cX4_removeAt 58 = .ok (.iinc 3 1, 3) := by decide +kernel
theorem dX4_removeAt_61 : decode cX4_removeAt 61 = .ok (.goto (-27), 3) := by decide +kernel
theorem dX4_removeAt_64 : decode cX4_removeAt 64 = .ok (.aload_n 0, 1) := by decide +kernel
theorem dX4_removeAt_65 : decode cX4_removeAt 65 = .ok (.getfield 11, 3) := by decide +kernel
theorem dX4_removeAt_68 : decode cX4_removeAt 68 = .ok (.aload_n 0, 1) := by decide +kernel
theorem dX4_removeAt_69 : decode cX4_removeAt 69 = .ok (.getfield 26, 3) := by decide +kernel
theorem dX4_removeAt_72 : decode cX4_removeAt 72 = .ok (.iconst 1, 1) := by decide +kernel
theorem dX4_removeAt_73 : decode cX4_removeAt 73 = .ok (.isub, 1) := by decide +kernel
theorem dX4_removeAt_74 : decode cX4_removeAt 74 = .ok (.aload_n 2, 1) := by decide +kernel
theorem dX4_removeAt_75 : decode cX4_removeAt 75 = .ok (.aastore, 1) := by decide +kernel
theorem dX4_removeAt_76 : decode cX4_removeAt 76 = .ok (.aload_n 0, 1) := by decide +kernel
theorem dX4_removeAt_77 : decode cX4_removeAt 77 = .ok (.dup, 1) := by decide +kernel
theorem dX4_removeAt_78 : decode cX4_removeAt 78 = .ok (.getfield 26, 3) := by decide +kernel
theorem dX4_removeAt_81 : decode cX4_removeAt 81 = .ok (.iconst 1, 1) := by decide +kernel
theorem dX4_removeAt_82 : decode cX4_removeAt 82 = .ok (.isub, 1) := by decide +kernel
theorem dX4_removeAt_83 : decode cX4_removeAt 83 = .ok (.putfield 26, 3) := by decide +kernel
theorem dX4_removeAt_86 : decode cX4_removeAt 86 = .ok (.aload_n 0, 1) := by decide +kernel
theorem dX4_removeAt_87 : decode cX4_removeAt 87 = .ok (.iload_n 1, 1) := by decide +kernel
theorem dX4_removeAt_88 : decode cX4_removeAt 88 = .ok (.invokevirtual 41, 3) := by decide +kernel
theorem dX4_removeAt_91 : decode cX4_removeAt 91 = .ok (.invokevirtual 56, 3) := by decide +kernel
theorem dX4_removeAt_94 : decode cX4_removeAt 94 = .ok (.return_, 1) := by decide +kernel
