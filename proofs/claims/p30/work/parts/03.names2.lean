/-! NAMES (printed): what each instruction is, 2 -/
theorem dX4_tell_0 : decode cX4_tell 0 = .ok (.aload_n 0, 1) := by decide +kernel
theorem dX4_tell_1 : decode cX4_tell 1 = .ok (.iload_n 1, 1) := by decide +kernel
theorem dX4_tell_2 : decode cX4_tell 2 = .ok (.invokevirtual 41, 3) := by decide +kernel
theorem dX4_tell_5 : decode cX4_tell 5 = .ok (.astore_n 3, 1) := by decide +kernel
theorem dX4_tell_6 : decode cX4_tell 6 = .ok (.aload_n 3, 1) := by decide +kernel
theorem dX4_tell_7 : decode cX4_tell 7 = .ok (.getfield 67, 3) := by decide +kernel
theorem dX4_tell_10 : decode cX4_tell 10 = .ok (.istore 4, 2) := by decide +kernel
theorem dX4_tell_12 : decode cX4_tell 12 = .ok (.aload_n 3, 1) := by decide +kernel
theorem dX4_tell_13 : decode cX4_tell 13 = .ok (.iload_n 2, 1) := by decide +kernel
theorem dX4_tell_14 : decode cX4_tell 14 = .ok (.putfield 67, 3) := by decide +kernel
theorem dX4_tell_17 : decode cX4_tell 17 = .ok (.iload 4, 2) := by decide +kernel
theorem dX4_tell_19 : decode cX4_tell 19 = .ok (.ireturn, 1) := by decide +kernel
theorem dX4_tellTruth_0 : decode cX4_tellTruth 0 = .ok (.iconst 0, 1) := by decide +kernel
theorem dX4_tellTruth_1 : decode cX4_tellTruth 1 = .ok (.istore_n 1, 1) := by decide +kernel
theorem dX4_tellTruth_2 : decode cX4_tellTruth 2 = .ok (.iload_n 1, 1) := by decide +kernel
theorem dX4_tellTruth_3 : decode cX4_tellTruth 3 = .ok (.aload_n 0, 1) := by decide +kernel
theorem dX4_tellTruth_4 : decode cX4_tellTruth 4 = .ok (.getfield 26, 3) := by decide +kernel
theorem dX4_tellTruth_7 : decode cX4_tellTruth 7 = .ok (.if_icmp .ge 25, 3) := by decide +kernel
theorem dX4_tellTruth_10 : decode cX4_tellTruth 10 = .ok (.aload_n 0, 1) := by decide +kernel
theorem dX4_tellTruth_11 : decode cX4_tellTruth 11 = .ok (.iload_n 1, 1) := by decide +kernel
theorem dX4_tellTruth_12 : decode cX4_tellTruth 12 = .ok (.invokevirtual 41, 3) := by decide +kernel
theorem dX4_tellTruth_15 : decode cX4_tellTruth 15 = .ok (.aload_n 0, 1) := by decide +kernel
theorem dX4_tellTruth_16 : decode cX4_tellTruth 16 = .ok (.iload_n 1, 1) := by decide +kernel
theorem dX4_tellTruth_17 : decode cX4_tellTruth 17 = .ok (.invokevirtual 41, 3) := by decide +kernel
theorem dX4_tellTruth_20 : decode cX4_tellTruth 20 = .ok (.getfield 70, 3) := by decide +kernel
theorem dX4_tellTruth_23 : decode cX4_tellTruth 23 = .ok (.putfield 67, 3) := by decide +kernel
theorem dX4_tellTruth_26 : decode cX4_tellTruth 26 = .ok (.iinc 1 1, 3) := by decide +kernel
theorem dX4_tellTruth_29 : decode cX4_tellTruth 29 = .ok (.goto (-27), 3) := by decide +kernel
theorem dX4_tellTruth_32 : decode cX4_tellTruth 32 = .ok (.return_, 1) := by decide +kernel
theorem dX4_makeOffer_0 : decode cX4_makeOffer 0 = .ok (.aload_n 0, 1) := by decide +kernel
theorem dX4_makeOffer_1 : decode cX4_makeOffer 1 = .ok (.iload_n 1, 1) := by decide +kernel
theorem dX4_makeOffer_2 : decode cX4_makeOffer 2 = .ok (.invokevirtual 41, 3) := by decide +kernel
theorem dX4_makeOffer_5 : decode cX4_makeOffer 5 = .ok (.astore_n 3, 1) := by decide +kernel
theorem dX4_makeOffer_6 : decode cX4_makeOffer 6 = .ok (.aload_n 3, 1) := by decide +kernel
theorem dX4_makeOffer_7 : decode cX4_makeOffer 7 = .ok (.getfield 73, 3) := by decide +kernel
theorem dX4_makeOffer_10 : decode cX4_makeOffer 10 = .ok (.istore 4, 2) := by decide +kernel
theorem dX4_makeOffer_12 : decode cX4_makeOffer 12 = .ok (.aload_n 3, 1) := by decide +kernel
theorem dX4_makeOffer_13 : decode cX4_makeOffer 13 = .ok (.iload_n 2, 1) := by decide +kernel
theorem dX4_makeOffer_14 : decode cX4_makeOffer 14 = .ok (.putfield 73, 3) := by decide +kernel
theorem dX4_makeOffer_17 : decode cX4_makeOffer 17 = .ok (.iload 4, 2) := by decide +kernel
theorem dX4_makeOffer_19 : decode cX4_makeOffer 19 = .ok (.ireturn, 1) := by decide +kernel
theorem dX4_setFriends_0 : decode cX4_setFriends 0 = .ok (.aload_n 0, 1) := by decide +kernel
theorem dX4_setFriends_1 : decode cX4_setFriends 1 = .ok (.iload_n 1, 1) := by decide +kernel
theorem dX4_setFriends_2 : decode cX4_setFriends 2 = .ok (.iconst 1, 1) := by decide +kernel
theorem dX4_setFriends_3 : decode cX4_setFriends 3 = .ok (.iadd, 1) := by decide +kernel
theorem dX4_setFriends_4 : decode cX4_setFriends 4 = .ok (.invokevirtual 41, 3) := by decide +kernel
theorem dX4_setFriends_7 : decode cX4_setFriends 7 = .ok (.iload_n 2, 1) := by decide +kernel
theorem dX4_setFriends_8 : decode cX4_setFriends 8 = .ok (.putfield 76, 3) := by decide +kernel
theorem dX4_setFriends_11 : decode cX4_setFriends 11 = .ok (.aload_n 0, 1) := by decide +kernel
theorem dX4_setFriends_12 : decode cX4_setFriends 12 = .ok (.invokevirtual 80, 3) := by decide +kernel
theorem dX4_setFriends_15 : decode cX4_setFriends 15 = .ok (.ireturn, 1) := by decide +kernel
theorem dX4_swapAsOffered_0 : decode cX4_swapAsOffered 0 = .ok (.aload_n 0, 1) := by decide +kernel
theorem dX4_swapAsOffered_1 : decode cX4_swapAsOffered 1 = .ok (.iload_n 1, 1) := by decide +kernel
theorem dX4_swapAsOffered_2 : decode cX4_swapAsOffered 2 = .ok (.aload_n 0, 1) := by decide +kernel
theorem dX4_swapAsOffered_3 : decode cX4_swapAsOffered 3 = .ok (.iload_n 1, 1) := by decide +kernel
theorem dX4_swapAsOffered_4 : decode cX4_swapAsOffered 4 = .ok (.iconst 1, 1) := by decide +kernel
theorem dX4_swapAsOffered_5 : decode cX4_swapAsOffered 5 = .ok (.iadd, 1) := by decide +kernel
theorem dX4_swapAsOffered_6 : decode cX4_swapAsOffered 6 = .ok (.invokevirtual 41, 3) := by decide +kernel
theorem dX4_swapAsOffered_9 : decode cX4_swapAsOffered 9 = .ok (.getfield 73, 3) := by decide +kernel
theorem dX4_swapAsOffered_12 : decode cX4_swapAsOffered 12 = .ok (.invokevirtual 84, 3) := by decide +kernel
theorem dX4_swapAsOffered_15 : decode cX4_swapAsOffered 15 = .ok (.ireturn, 1) := by decide +kernel
theorem dX4_swapFairly_0 : decode cX4_swapFairly 0 = .ok (.aload_n 0, 1) := by decide +kernel
theorem dX4_swapFairly_1 : decode cX4_swapFairly 1 = .ok (.iload_n 1, 1) := by decide +kernel
theorem dX4_swapFairly_2 : decode cX4_swapFairly 2 = .ok (.aload_n 0, 1) := by decide +kernel
theorem dX4_swapFairly_3 : decode cX4_swapFairly 3 = .ok (.iload_n 1, 1) := by decide +kernel
theorem dX4_swapFairly_4 : decode cX4_swapFairly 4 = .ok (.invokevirtual 88, 3) := by decide +kernel
theorem dX4_swapFairly_7 : decode cX4_swapFairly 7 = .ok (.invokevirtual 84, 3) := by decide +kernel
theorem dX4_swapFairly_10 : decode cX4_swapFairly 10 = .ok (.ireturn, 1) := by decide +kernel
theorem dX4_swapAt_0 : decode cX4_swapAt 0 = .ok (.iload_n 1, 1) := by decide +kernel
theorem dX4_swapAt_1 : decode cX4_swapAt 1 = .ok (.ifCond .lt 25, 3) := by decide +kernel
theorem dX4_swapAt_4 : decode cX4_swapAt 4 = .ok (.iload_n 1, 1) := by decide +kernel
theorem dX4_swapAt_5 : decode cX4_swapAt 5 = .ok (.aload_n 0, 1) := by decide +kernel
theorem dX4_swapAt_6 : decode cX4_swapAt 6 = .ok (.getfield 26, 3) := by decide +kernel
theorem dX4_swapAt_9 : decode cX4_swapAt 9 = .ok (.iconst 1, 1) := by decide +kernel
theorem dX4_swapAt_10 : decode cX4_swapAt 10 = .ok (.isub, 1) := by decide +kernel
theorem dX4_swapAt_11 : decode cX4_swapAt 11 = .ok (.if_icmp .ge 15, 3) := by decide +kernel
theorem dX4_swapAt_14 : decode cX4_swapAt 14 = .ok (.aload_n 0, 1) := by decide +kernel
theorem dX4_swapAt_15 : decode cX4_swapAt 15 = .ok (.getfield 26, 3) := by decide +kernel
theorem dX4_swapAt_18 : decode cX4_swapAt 18 = .ok (.aload_n 0, 1) := by decide +kernel
theorem dX4_swapAt_19 : decode cX4_swapAt 19 = .ok (.getfield 11, 3) := by decide +kernel
theorem dX4_swapAt_22 : decode cX4_swapAt 22 = .ok (.arraylength, 1) := by decide +kernel
theorem dX4_swapAt_23 : decode cX4_swapAt 23 = .ok (.if_icmp .le 5, 3) := by decide +kernel
theorem dX4_swapAt_26 : decode cX4_swapAt 26 = .ok (.iconst (-1), 1) := by decide +kernel
theorem dX4_swapAt_27 : decode cX4_swapAt 27 = .ok (.ireturn, 1) := by decide +kernel
theorem dX4_swapAt_28 : decode cX4_swapAt 28 = .ok (.aload_n 0, 1) := by decide +kernel
theorem dX4_swapAt_29 : decode cX4_swapAt 29 = .ok (.iload_n 1, 1) := by decide +kernel
theorem dX4_swapAt_30 : decode cX4_swapAt 30 = .ok (.invokevirtual 41, 3) := by decide +kernel
theorem dX4_swapAt_33 : decode cX4_swapAt 33 = .ok (.astore_n 3, 1) := by decide +kernel
theorem dX4_swapAt_34 : decode cX4_swapAt 34 = .ok (.aload_n 0, 1) := by decide +kernel
theorem dX4_swapAt_35 : decode cX4_swapAt 35 = .ok (.iload_n 1, 1) := by decide +kernel
theorem dX4_swapAt_36 : decode cX4_swapAt 36 = .ok (.iconst 1, 1) := by decide +kernel
theorem dX4_swapAt_37 : decode cX4_swapAt 37 = .ok (.iadd, 1) := by decide +kernel
theorem dX4_swapAt_38 : decode cX4_swapAt 38 = .ok (.invokevirtual 41, 3) := by decide +kernel
theorem dX4_swapAt_41 : decode cX4_swapAt 41 = .ok (.astore 4, 2) := by decide +kernel
theorem dX4_swapAt_43 : decode cX4_swapAt 43 = .ok (.aload_n 0, 1) := by decide +kernel
theorem dX4_swapAt_44 : decode cX4_swapAt 44 = .ok (.getfield 11, 3) := by decide +kernel
theorem dX4_swapAt_47 : decode cX4_swapAt 47 = .ok (.iload_n 1, 1) := by decide +kernel
theorem dX4_swapAt_48 : decode cX4_swapAt 48 = .ok (.aload 4, 2) := by decide +kernel
theorem dX4_swapAt_50 : decode cX4_swapAt 50 = .ok (.aastore, 1) := by decide +kernel
theorem dX4_swapAt_51 : decode cX4_swapAt 51 = .ok (.aload_n 0, 1) := by decide +kernel
theorem dX4_swapAt_52 : decode cX4_swapAt 52 = .ok (.getfield 11, 3) := by decide +kernel
theorem dX4_swapAt_55 : decode cX4_swapAt 55 = .ok (.iload_n 1, 1) := by decide +kernel
theorem dX4_swapAt_56 : decode cX4_swapAt 56 = .ok (.iconst 1, 1) := by decide +kernel
theorem dX4_swapAt_57 : decode cX4_swapAt 57 = .ok (.iadd, 1) := by decide +kernel
theorem dX4_swapAt_58 : decode cX4_swapAt 58 = .ok (.aload_n 3, 1) := by decide +kernel
theorem dX4_swapAt_59 : decode cX4_swapAt 59 = .ok (.aastore, 1) := by decide +kernel
theorem dX4_swapAt_60 : decode cX4_swapAt 60 = .ok (.aload 4, 2) := by decide +kernel
theorem dX4_swapAt_62 : decode cX4_swapAt 62 = .ok (.dup, 1) := by decide +kernel
theorem dX4_swapAt_63 : decode cX4_swapAt 63 = .ok (.getfield 91, 3) := by decide +kernel
theorem dX4_swapAt_66 : decode cX4_swapAt 66 = .ok (.iload_n 2, 1) := by decide +kernel
theorem dX4_swapAt_67 : decode cX4_swapAt 67 = .ok (.isub, 1) := by decide +kernel
theorem dX4_swapAt_68 : decode cX4_swapAt 68 = .ok (.putfield 91, 3) := by decide +kernel
theorem dX4_swapAt_71 : decode cX4_swapAt 71 = .ok (.aload_n 3, 1) := by decide +kernel
theorem dX4_swapAt_72 : decode cX4_swapAt 72 = .ok (.dup, 1) := by decide +kernel
theorem dX4_swapAt_73 : decode cX4_swapAt 73 = .ok (.getfield 91, 3) := by decide +kernel
theorem dX4_swapAt_76 : decode cX4_swapAt 76 = .ok (.iload_n 2, 1) := by decide +kernel
theorem dX4_swapAt_77 : decode cX4_swapAt 77 = .ok (.iadd, 1) := by decide +kernel
theorem dX4_swapAt_78 : decode cX4_swapAt 78 = .ok (.putfield 91, 3) := by decide +kernel
theorem dX4_swapAt_81 : decode cX4_swapAt 81 = .ok (.aload 4, 2) := by decide +kernel
theorem dX4_swapAt_83 : decode cX4_swapAt 83 = .ok (.invokevirtual 56, 3) := by decide +kernel
theorem dX4_swapAt_86 : decode cX4_swapAt 86 = .ok (.aload_n 3, 1) := by decide +kernel
theorem dX4_swapAt_87 : decode cX4_swapAt 87 = .ok (.invokevirtual 56, 3) := by decide +kernel
theorem dX4_swapAt_90 : decode cX4_swapAt 90 = .ok (.aload_n 0, 1) := by decide +kernel
theorem dX4_swapAt_91 : decode cX4_swapAt 91 = .ok (.iload_n 1, 1) := by decide +kernel
theorem dX4_swapAt_92 : decode cX4_swapAt 92 = .ok (.iconst 2, 1) := by decide +kernel
theorem dX4_swapAt_93 : decode cX4_swapAt 93 = .ok (.iadd, 1) := by decide +kernel
theorem dX4_swapAt_94 : decode cX4_swapAt 94 = .ok (.invokevirtual 41, 3) := by decide +kernel
theorem dX4_swapAt_97 : decode cX4_swapAt 97 = .ok (.invokevirtual 56, 3) := by decide +kernel
theorem dX4_swapAt_100 : decode cX4_swapAt 100 = .ok (.aload_n 0, 1) := by decide +kernel
theorem dX4_swapAt_101 : decode cX4_swapAt 101 = .ok (.dup, 1) := by decide +kernel
theorem dX4_swapAt_102 : decode cX4_swapAt 102 = .ok (.getfield 29, 3) := by decide +kernel
theorem dX4_swapAt_105 : decode cX4_swapAt 105 = .ok (.iconst 1, 1) := by decide +kernel
theorem dX4_swapAt_106 : decode cX4_swapAt 106 = .ok (.iadd, 1) := by decide +kernel
theorem dX4_swapAt_107 : decode cX4_swapAt 107 = .ok (.putfield 29, 3) := by decide +kernel
theorem dX4_swapAt_110 : decode cX4_swapAt 110 = .ok (.aload_n 0, 1) := by decide +kernel
theorem dX4_swapAt_111 : decode cX4_swapAt 111 = .ok (.dup, 1) := by decide +kernel
theorem dX4_swapAt_112 : decode cX4_swapAt 112 = .ok (.getfield 32, 3) := by decide +kernel
theorem dX4_swapAt_115 : decode cX4_swapAt 115 = .ok (.iload_n 2, 1) := by decide +kernel
theorem dX4_swapAt_116 : decode cX4_swapAt 116 = .ok (.iadd, 1) := by decide +kernel
theorem dX4_swapAt_117 : decode cX4_swapAt 117 = .ok (.putfield 32, 3) := by decide +kernel
theorem dX4_swapAt_120 : decode cX4_swapAt 120 = .ok (.iload_n 2, 1) := by decide +kernel
theorem dX4_swapAt_121 : decode cX4_swapAt 121 = .ok (.ireturn, 1) := by decide +kernel
theorem dX4_settleDown_0 : decode cX4_settleDown 0 = .ok (.iconst 0, 1) := by decide +kernel
theorem dX4_settleDown_1 : decode cX4_settleDown 1 = .ok (.istore_n 1, 1) := by decide +kernel
theorem dX4_settleDown_2 : decode cX4_settleDown 2 = .ok (.iload_n 1, 1) := by decide +kernel
theorem dX4_settleDown_3 : decode cX4_settleDown 3 = .ok (.sipush 1000, 3) := by decide +kernel
theorem dX4_settleDown_6 : decode cX4_settleDown 6 = .ok (.if_icmp .ge 28, 3) := by decide +kernel
theorem dX4_settleDown_9 : decode cX4_settleDown 9 = .ok (.aload_n 0, 1) := by decide +kernel
theorem dX4_settleDown_10 : decode cX4_settleDown 10 = .ok (.invokevirtual 94, 3) := by decide +kernel
theorem dX4_settleDown_13 : decode cX4_settleDown 13 = .ok (.istore_n 2, 1) := by decide +kernel
theorem dX4_settleDown_14 : decode cX4_settleDown 14 = .ok (.iload_n 2, 1) := by decide +kernel
theorem dX4_settleDown_15 : decode cX4_settleDown 15 = .ok (.iconst (-1), 1) := by decide +kernel
theorem dX4_settleDown_16 : decode cX4_settleDown 16 = .ok (.if_icmp .ne 6, 3) := by decide +kernel
theorem dX4_settleDown_19 : decode cX4_settleDown 19 = .ok (.goto 15, 3) := by decide +kernel
theorem dX4_settleDown_22 : decode cX4_settleDown 22 = .ok (.aload_n 0, 1) := by decide +kernel
theorem dX4_settleDown_23 : decode cX4_settleDown 23 = .ok (.iload_n 2, 1) := by decide +kernel
theorem dX4_settleDown_24 : decode cX4_settleDown 24 = .ok (.invokevirtual 97, 3) := by decide +kernel
theorem dX4_settleDown_27 : decode cX4_settleDown 27 = .ok (.pop, 1) := by decide +kernel
theorem dX4_settleDown_28 : decode cX4_settleDown 28 = .ok (.iinc 1 1, 3) := by decide +kernel
theorem dX4_settleDown_31 : decode cX4_settleDown 31 = .ok (.goto (-29), 3) := by decide +kernel
theorem dX4_settleDown_34 : decode cX4_settleDown 34 = .ok (.iload_n 1, 1) := by decide +kernel
theorem dX4_settleDown_35 : decode cX4_settleDown 35 = .ok (.ireturn, 1) := by decide +kernel
theorem dX4_keenestPair_0 : decode cX4_keenestPair 0 = .ok (.iconst (-1), 1) := by decide +kernel
theorem dX4_keenestPair_1 : decode cX4_keenestPair 1 = .ok (.istore_n 1, 1) := by decide +kernel
theorem dX4_keenestPair_2 : decode cX4_keenestPair 2 = .ok (.iconst 0, 1) := by decide +kernel
theorem dX4_keenestPair_3 : decode cX4_keenestPair 3 = .ok (.istore_n 2, 1) := by decide +kernel
theorem dX4_keenestPair_4 : decode cX4_keenestPair 4 = .ok (.iconst 0, 1) := by decide +kernel
theorem dX4_keenestPair_5 : decode cX4_keenestPair 5 = .ok (.istore_n 3, 1) := by decide +kernel
theorem dX4_keenestPair_6 : decode cX4_keenestPair 6 = .ok (.iload_n 3, 1) := by decide +kernel
theorem dX4_keenestPair_7 : decode cX4_keenestPair 7 = .ok (.aload_n 0, 1) := by decide +kernel
theorem dX4_keenestPair_8 : decode cX4_keenestPair 8 = .ok (.getfield 26, 3) := by decide +kernel
theorem dX4_keenestPair_11 : decode cX4_keenestPair 11 = .ok (.iconst 1, 1) := by decide +kernel
theorem dX4_keenestPair_12 : decode cX4_keenestPair 12 = .ok (.isub, 1) := by decide +kernel
theorem dX4_keenestPair_13 : decode cX4_keenestPair 13 = .ok (.if_icmp .ge 35, 3) := by decide +kernel
theorem dX4_keenestPair_16 : decode cX4_keenestPair 16 = .ok (.aload_n 0, 1) := by decide +kernel
theorem dX4_keenestPair_17 : decode cX4_keenestPair 17 = .ok (.iload_n 3, 1) := by decide +kernel
theorem dX4_keenestPair_18 : decode cX4_keenestPair 18 = .ok (.invokevirtual 100, 3) := by decide +kernel
theorem dX4_keenestPair_21 : decode cX4_keenestPair 21 = .ok (.istore 4, 2) := by decide +kernel
theorem dX4_keenestPair_23 : decode cX4_keenestPair 23 = .ok (.iload 4, 2) := by decide +kernel
theorem dX4_keenestPair_25 : decode cX4_keenestPair 25 = .ok (.iload_n 2, 1) := by decide +kernel
theorem dX4_keenestPair_26 : decode cX4_keenestPair 26 = .ok (.if_icmp .le 16, 3) := by decide +kernel
theorem dX4_keenestPair_29 : decode cX4_keenestPair 29 = .ok (.aload_n 0, 1) := by decide +kernel
theorem dX4_keenestPair_30 : decode cX4_keenestPair 30 = .ok (.iload_n 3, 1) := by decide +kernel
theorem dX4_keenestPair_31 : decode cX4_keenestPair 31 = .ok (.invokevirtual 103, 3) := by decide +kernel
theorem dX4_keenestPair_34 : decode cX4_keenestPair 34 = .ok (.ifCond .ne 8, 3) := by decide +kernel
theorem dX4_keenestPair_37 : decode cX4_keenestPair 37 = .ok (.iload 4, 2) := by decide +kernel
theorem dX4_keenestPair_39 : decode cX4_keenestPair 39 = .ok (.istore_n 2, 1) := by decide +kernel
theorem dX4_keenestPair_40 : decode cX4_keenestPair 40 = .ok (.iload_n 3, 1) := by decide +kernel
theorem dX4_keenestPair_41 : decode cX4_keenestPair 41 = .ok (.istore_n 1, 1) := by decide +kernel
theorem dX4_keenestPair_42 : decode cX4_keenestPair 42 = .ok (.iinc 3 1, 3) := by decide +kernel
theorem dX4_keenestPair_45 : decode cX4_keenestPair 45 = .ok (.goto (-39), 3) := by decide +kernel
theorem dX4_keenestPair_48 : decode cX4_keenestPair 48 = .ok (.iload_n 1, 1) := by decide +kernel
theorem dX4_keenestPair_49 : decode cX4_keenestPair 49 = .ok (.ireturn, 1) := by decide +kernel
theorem dX4_gain_0 : decode cX4_gain 0 = .ok (.aload_n 0, 1) := by decide +kernel
theorem dX4_gain_1 : decode cX4_gain 1 = .ok (.iload_n 1, 1) := by decide +kernel
theorem dX4_gain_2 : decode cX4_gain 2 = .ok (.iconst 1, 1) := by decide +kernel
theorem dX4_gain_3 : decode cX4_gain 3 = .ok (.iadd, 1) := by decide +kernel
theorem dX4_gain_4 : decode cX4_gain 4 = .ok (.invokevirtual 41, 3) := by decide +kernel
theorem dX4_gain_7 : decode cX4_gain 7 = .ok (.getfield 67, 3) := by decide +kernel
theorem dX4_gain_10 : decode cX4_gain 10 = .ok (.aload_n 0, 1) := by decide +kernel
theorem dX4_gain_11 : decode cX4_gain 11 = .ok (.iload_n 1, 1) := by decide +kernel
theorem dX4_gain_12 : decode cX4_gain 12 = .ok (.invokevirtual 41, 3) := by decide +kernel
theorem dX4_gain_15 : decode cX4_gain 15 = .ok (.getfield 107, 3) := by decide +kernel
theorem dX4_gain_18 : decode cX4_gain 18 = .ok (.imul, 1) := by decide +kernel
theorem dX4_gain_19 : decode cX4_gain 19 = .ok (.ireturn, 1) := by decide +kernel
theorem dX4_loss_0 : decode cX4_loss 0 = .ok (.aload_n 0, 1) := by decide +kernel
theorem dX4_loss_1 : decode cX4_loss 1 = .ok (.iload_n 1, 1) := by decide +kernel
theorem dX4_loss_2 : decode cX4_loss 2 = .ok (.invokevirtual 41, 3) := by decide +kernel
theorem dX4_loss_5 : decode cX4_loss 5 = .ok (.getfield 67, 3) := by decide +kernel
theorem dX4_loss_8 : decode cX4_loss 8 = .ok (.aload_n 0, 1) := by decide +kernel
theorem dX4_loss_9 : decode cX4_loss 9 = .ok (.iload_n 1, 1) := by decide +kernel
theorem dX4_loss_10 : decode cX4_loss 10 = .ok (.iconst 1, 1) := by decide +kernel
theorem dX4_loss_11 : decode cX4_loss 11 = .ok (.iadd, 1) := by decide +kernel
theorem dX4_loss_12 : decode cX4_loss 12 = .ok (.invokevirtual 41, 3) := by decide +kernel
theorem dX4_loss_15 : decode cX4_loss 15 = .ok (.getfield 107, 3) := by decide +kernel
theorem dX4_loss_18 : decode cX4_loss 18 = .ok (.imul, 1) := by decide +kernel
theorem dX4_loss_19 : decode cX4_loss 19 = .ok (.ireturn, 1) := by decide +kernel
theorem dX4_surplus_0 : decode cX4_surplus 0 = .ok (.aload_n 0, 1) := by decide +kernel
theorem dX4_surplus_1 : decode cX4_surplus 1 = .ok (.iload_n 1, 1) := by decide +kernel
theorem dX4_surplus_2 : decode cX4_surplus 2 = .ok (.invokevirtual 41, 3) := by decide +kernel
theorem dX4_surplus_5 : decode cX4_surplus 5 = .ok (.astore_n 2, 1) := by decide +kernel
theorem dX4_surplus_6 : decode cX4_surplus 6 = .ok (.aload_n 0, 1) := by decide +kernel
theorem dX4_surplus_7 : decode cX4_surplus 7 = .ok (.iload_n 1, 1) := by decide +kernel
theorem dX4_surplus_8 : decode cX4_surplus 8 = .ok (.iconst 1, 1) := by decide +kernel
theorem dX4_surplus_9 : decode cX4_surplus 9 = .ok (.iadd, 1) := by decide +kernel
theorem dX4_surplus_10 : decode cX4_surplus 10 = .ok (.invokevirtual 41, 3) := by decide +kernel
theorem dX4_surplus_13 : decode cX4_surplus 13 = .ok (.astore_n 3, 1) := by decide +kernel
theorem dX4_surplus_14 : decode cX4_surplus 14 = .ok (.aload_n 3, 1) := by decide +kernel
theorem dX4_surplus_15 : decode cX4_surplus 15 = .ok (.getfield 67, 3) := by decide +kernel
theorem dX4_surplus_18 : decode cX4_surplus 18 = .ok (.aload_n 2, 1) := by decide +kernel
theorem dX4_surplus_19 : decode cX4_surplus 19 = .ok (.getfield 107, 3) := by decide +kernel
theorem dX4_surplus_22 : decode cX4_surplus 22 = .ok (.imul, 1) := by decide +kernel
theorem dX4_surplus_23 : decode cX4_surplus 23 = .ok (.aload_n 2, 1) := by decide +kernel
theorem dX4_surplus_24 : decode cX4_surplus 24 = .ok (.getfield 67, 3) := by decide +kernel
theorem dX4_surplus_27 : decode cX4_surplus 27 = .ok (.aload_n 3, 1) := by decide +kernel
theorem dX4_surplus_28 : decode cX4_surplus 28 = .ok (.getfield 107, 3) := by decide +kernel
theorem dX4_surplus_31 : decode cX4_surplus 31 = .ok (.imul, 1) := by decide +kernel
theorem dX4_surplus_32 : decode cX4_surplus 32 = .ok (.isub, 1) := by decide +kernel
theorem dX4_surplus_33 : decode cX4_surplus 33 = .ok (.ireturn, 1) := by decide +kernel
theorem dX4_fairPrice_0 : decode cX4_fairPrice 0 = .ok (.aload_n 0, 1) := by decide +kernel
theorem dX4_fairPrice_1 : decode cX4_fairPrice 1 = .ok (.iload_n 1, 1) := by decide +kernel
theorem dX4_fairPrice_2 : decode cX4_fairPrice 2 = .ok (.invokevirtual 41, 3) := by decide +kernel
theorem dX4_fairPrice_5 : decode cX4_fairPrice 5 = .ok (.astore_n 2, 1) := by decide +kernel
theorem dX4_fairPrice_6 : decode cX4_fairPrice 6 = .ok (.aload_n 0, 1) := by decide +kernel
theorem dX4_fairPrice_7 : decode cX4_fairPrice 7 = .ok (.iload_n 1, 1) := by decide +kernel
theorem dX4_fairPrice_8 : decode cX4_fairPrice 8 = .ok (.iconst 1, 1) := by decide +kernel
theorem dX4_fairPrice_9 : decode cX4_fairPrice 9 = .ok (.iadd, 1) := by decide +kernel
theorem dX4_fairPrice_10 : decode cX4_fairPrice 10 = .ok (.invokevirtual 41, 3) := by decide +kernel
theorem dX4_fairPrice_13 : decode cX4_fairPrice 13 = .ok (.astore_n 3, 1) := by decide +kernel
theorem dX4_fairPrice_14 : decode cX4_fairPrice 14 = .ok (.aload_n 2, 1) := by decide +kernel
theorem dX4_fairPrice_15 : decode cX4_fairPrice 15 = .ok (.getfield 67, 3) := by decide +kernel
theorem dX4_fairPrice_18 : decode cX4_fairPrice 18 = .ok (.aload_n 3, 1) := by decide +kernel
theorem dX4_fairPrice_19 : decode cX4_fairPrice 19 = .ok (.getfield 107, 3) := by decide +kernel
theorem dX4_fairPrice_22 : decode cX4_fairPrice 22 = .ok (.imul, 1) := by decide +kernel
theorem dX4_fairPrice_23 : decode cX4_fairPrice 23 = .ok (.istore 4, 2) := by decide +kernel
theorem dX4_fairPrice_25 : decode cX4_fairPrice 25 = .ok (.aload_n 3, 1) := by decide +kernel
theorem dX4_fairPrice_26 : decode cX4_fairPrice 26 = .ok (.getfield 67, 3) := by decide +kernel
theorem dX4_fairPrice_29 : decode cX4_fairPrice 29 = .ok (.aload_n 2, 1) := by decide +kernel
theorem dX4_fairPrice_30 : decode cX4_fairPrice 30 = .ok (.getfield 107, 3) := by decide +kernel
theorem dX4_fairPrice_33 : decode cX4_fairPrice 33 = .ok (.imul, 1) := by decide +kernel
theorem dX4_fairPrice_34 : decode cX4_fairPrice 34 = .ok (.iload 4, 2) := by decide +kernel
theorem dX4_fairPrice_36 : decode cX4_fairPrice 36 = .ok (.isub, 1) := by decide +kernel
theorem dX4_fairPrice_37 : decode cX4_fairPrice 37 = .ok (.istore 5, 2) := by decide +kernel
theorem dX4_fairPrice_39 : decode cX4_fairPrice 39 = .ok (.iload 5, 2) := by decide +kernel
theorem dX4_fairPrice_41 : decode cX4_fairPrice 41 = .ok (.ifCond .le 19, 3) := by decide +kernel
theorem dX4_fairPrice_44 : decode cX4_fairPrice 44 = .ok (.iload 4, 2) := by decide +kernel
theorem dX4_fairPrice_46 : decode cX4_fairPrice 46 = .ok (.iload 5, 2) := by decide +kernel
theorem dX4_fairPrice_48 : decode cX4_fairPrice 48 = .ok (.aload_n 0, 1) := by decide +kernel
theorem dX4_fairPrice_49 : decode cX4_fairPrice 49 = .ok (.getfield 22, 3) := by decide +kernel
theorem dX4_fairPrice_52 : decode cX4_fairPrice 52 = .ok (.imul, 1) := by decide +kernel
theorem dX4_fairPrice_53 : decode cX4_fairPrice 53 = .ok (.bipush 100, 2) := by decide +kernel
theorem dX4_fairPrice_55 : decode cX4_fairPrice 55 = .ok (.idiv, 1) := by decide +kernel
theorem dX4_fairPrice_56 : decode cX4_fairPrice 56 = .ok (.iadd, 1) := by decide +kernel
theorem dX4_fairPrice_57 : decode cX4_fairPrice 57 = .ok (.goto 4, 3) := by decide +kernel
theorem dX4_fairPrice_60 : decode cX4_fairPrice 60 = .ok (.iconst (-1), 1) := by decide +kernel
theorem dX4_fairPrice_61 : decode cX4_fairPrice 61 = .ok (.ireturn, 1) := by decide +kernel
theorem dX4_areFriends_0 : decode cX4_areFriends 0 = .ok (.aload_n 0, 1) := by decide +kernel
theorem dX4_areFriends_1 : decode cX4_areFriends 1 = .ok (.iload_n 1, 1) := by decide +kernel
theorem dX4_areFriends_2 : decode cX4_areFriends 2 = .ok (.iconst 1, 1) := by decide +kernel
theorem dX4_areFriends_3 : decode cX4_areFriends 3 = .ok (.iadd, 1) := by decide +kernel
theorem dX4_areFriends_4 : decode cX4_areFriends 4 = .ok (.invokevirtual 41, 3) := by decide +kernel
theorem dX4_areFriends_7 : decode cX4_areFriends 7 = .ok (.getfield 76, 3) := by decide +kernel
theorem dX4_areFriends_10 : decode cX4_areFriends 10 = .ok (.ireturn, 1) := by decide +kernel
theorem dX4_isHeldByFriends_0 : decode cX4_isHeldByFriends 0 = .ok (.aload_n 0, 1) := by decide +kernel
theorem dX4_isHeldByFriends_1 : decode cX4_isHeldByFriends 1 = .ok (.iload_n 1, 1) := by decide +kernel
theorem dX4_isHeldByFriends_2 : decode cX4_isHeldByFriends 2 = .ok (.invokevirtual 41, 3) := by decide +kernel
theorem dX4_isHeldByFriends_5 : decode cX4_isHeldByFriends 5 = .ok (.getfield 76, 3) := by decide +kernel
theorem dX4_isHeldByFriends_8 : decode cX4_isHeldByFriends 8 = .ok (.ifCond .ne 29, 3) := by decide +kernel
theorem dX4_isHeldByFriends_11 : decode cX4_isHeldByFriends 11 = .ok (.aload_n 0, 1) := by decide +kernel
theorem dX4_isHeldByFriends_12 : decode cX4_isHeldByFriends 12 = .ok (.iload_n 1, 1) := by decide +kernel
theorem dX4_isHeldByFriends_13 : decode cX4_isHeldByFriends 13 = .ok (.iconst 1, 1) := by decide +kernel
theorem dX4_isHeldByFriends_14 : decode cX4_isHeldByFriends 14 = .ok (.iadd, 1) := by decide +kernel
theorem dX4_isHeldByFriends_15 : decode cX4_isHeldByFriends 15 = .ok (.invokevirtual 41, 3) := by decide +kernel
theorem dX4_isHeldByFriends_18 : decode cX4_isHeldByFriends 18 = .ok (.getfield 76, 3) := by decide +kernel
theorem dX4_isHeldByFriends_21 : decode cX4_isHeldByFriends 21 = .ok (.ifCond .ne 16, 3) := by decide +kernel
theorem dX4_isHeldByFriends_24 : decode cX4_isHeldByFriends 24 = .ok (.aload_n 0, 1) := by decide +kernel
theorem dX4_isHeldByFriends_25 : decode cX4_isHeldByFriends 25 = .ok (.iload_n 1, 1) := by decide +kernel
theorem dX4_isHeldByFriends_26 : decode cX4_isHeldByFriends 26 = .ok (.iconst 2, 1) := by decide +kernel
theorem dX4_isHeldByFriends_27 : decode cX4_isHeldByFriends 27 = .ok (.iadd, 1) := by decide +kernel
theorem dX4_isHeldByFriends_28 : decode cX4_isHeldByFriends 28 = .ok (.invokevirtual 41, 3) := by decide +kernel
theorem dX4_isHeldByFriends_31 : decode cX4_isHeldByFriends 31 = .ok (.getfield 76, 3) := by decide +kernel
theorem dX4_isHeldByFriends_34 : decode cX4_isHeldByFriends 34 = .ok (.ifCond .eq 7, 3) := by decide +kernel
theorem dX4_isHeldByFriends_37 : decode cX4_isHeldByFriends 37 = .ok (.iconst 1, 1) := by decide +kernel
theorem dX4_isHeldByFriends_38 : decode cX4_isHeldByFriends 38 = .ok (.goto 4, 3) := by decide +kernel
theorem dX4_isHeldByFriends_41 : decode cX4_isHeldByFriends 41 = .ok (.iconst 0, 1) := by decide +kernel
theorem dX4_isHeldByFriends_42 : decode cX4_isHeldByFriends 42 = .ok (.ireturn, 1) := by decide +kernel
theorem dX4_wouldSwap_0 : decode cX4_wouldSwap 0 = .ok (.aload_n 0, 1) := by decide +kernel
theorem dX4_wouldSwap_1 : decode cX4_wouldSwap 1 = .ok (.iload_n 1, 1) := by decide +kernel
theorem dX4_wouldSwap_2 : decode cX4_wouldSwap 2 = .ok (.invokevirtual 110, 3) := by decide +kernel
theorem dX4_wouldSwap_5 : decode cX4_wouldSwap 5 = .ok (.ifCond .ne 7, 3) := by decide +kernel
theorem dX4_wouldSwap_8 : decode cX4_wouldSwap 8 = .ok (.iconst 1, 1) := by decide +kernel
theorem dX4_wouldSwap_9 : decode cX4_wouldSwap 9 = .ok (.goto 4, 3) := by decide +kernel
theorem dX4_wouldSwap_12 : decode cX4_wouldSwap 12 = .ok (.iconst 0, 1) := by decide +kernel
theorem dX4_wouldSwap_13 : decode cX4_wouldSwap 13 = .ok (.ireturn, 1) := by decide +kernel
theorem dX4_wouldTake_0 : decode cX4_wouldTake 0 = .ok (.aload_n 0, 1) := by decide +kernel
theorem dX4_wouldTake_1 : decode cX4_wouldTake 1 = .ok (.iload_n 1, 1) := by decide +kernel
theorem dX4_wouldTake_2 : decode cX4_wouldTake 2 = .ok (.iconst 1, 1) := by decide +kernel
theorem dX4_wouldTake_3 : decode cX4_wouldTake 3 = .ok (.iadd, 1) := by decide +kernel
theorem dX4_wouldTake_4 : decode cX4_wouldTake 4 = .ok (.invokevirtual 41, 3) := by decide +kernel
theorem dX4_wouldTake_7 : decode cX4_wouldTake 7 = .ok (.getfield 73, 3) := by decide +kernel
theorem dX4_wouldTake_10 : decode cX4_wouldTake 10 = .ok (.istore_n 2, 1) := by decide +kernel
theorem dX4_wouldTake_11 : decode cX4_wouldTake 11 = .ok (.iload_n 2, 1) := by decide +kernel
theorem dX4_wouldTake_12 : decode cX4_wouldTake 12 = .ok (.iconst (-1), 1) := by decide +kernel
theorem dX4_wouldTake_13 : decode cX4_wouldTake 13 = .ok (.if_icmp .eq 24, 3) := by decide +kernel
theorem dX4_wouldTake_16 : decode cX4_wouldTake 16 = .ok (.iload_n 2, 1) := by decide +kernel
theorem dX4_wouldTake_17 : decode cX4_wouldTake 17 = .ok (.aload_n 0, 1) := by decide +kernel
theorem dX4_wouldTake_18 : decode cX4_wouldTake 18 = .ok (.iload_n 1, 1) := by decide +kernel
theorem dX4_wouldTake_19 : decode cX4_wouldTake 19 = .ok (.invokevirtual 113, 3) := by decide +kernel
theorem dX4_wouldTake_22 : decode cX4_wouldTake 22 = .ok (.if_icmp .lt 15, 3) := by decide +kernel
theorem dX4_wouldTake_25 : decode cX4_wouldTake 25 = .ok (.aload_n 0, 1) := by decide +kernel
theorem dX4_wouldTake_26 : decode cX4_wouldTake 26 = .ok (.iload_n 1, 1) := by decide +kernel
theorem dX4_wouldTake_27 : decode cX4_wouldTake 27 = .ok (.invokevirtual 103, 3) := by decide +kernel
theorem dX4_wouldTake_30 : decode cX4_wouldTake 30 = .ok (.ifCond .ne 7, 3) := by decide +kernel
theorem dX4_wouldTake_33 : decode cX4_wouldTake 33 = .ok (.iconst 1, 1) := by decide +kernel
theorem dX4_wouldTake_34 : decode cX4_wouldTake 34 = .ok (.goto 4, 3) := by decide +kernel
theorem dX4_wouldTake_37 : decode cX4_wouldTake 37 = .ok (.iconst 0, 1) := by decide +kernel
theorem dX4_wouldTake_38 : decode cX4_wouldTake 38 = .ok (.ireturn, 1) := by decide +kernel
theorem dX4_hindrance_0 : decode cX4_hindrance 0 = .ok (.aload_n 0, 1) := by decide +kernel
theorem dX4_hindrance_1 : decode cX4_hindrance 1 = .ok (.iload_n 1, 1) := by decide +kernel
theorem dX4_hindrance_2 : decode cX4_hindrance 2 = .ok (.invokevirtual 116, 3) := by decide +kernel
theorem dX4_hindrance_5 : decode cX4_hindrance 5 = .ok (.ifCond .eq 5, 3) := by decide +kernel
theorem dX4_hindrance_8 : decode cX4_hindrance 8 = .ok (.iconst 1, 1) := by decide +kernel
theorem dX4_hindrance_9 : decode cX4_hindrance 9 = .ok (.ireturn, 1) := by decide +kernel
theorem dX4_hindrance_10 : decode cX4_hindrance 10 = .ok (.aload_n 0, 1) := by decide +kernel
theorem dX4_hindrance_11 : decode cX4_hindrance 11 = .ok (.iload_n 1, 1) := by decide +kernel
theorem dX4_hindrance_12 : decode cX4_hindrance 12 = .ok (.iconst 1, 1) := by decide +kernel
theorem dX4_hindrance_13 : decode cX4_hindrance 13 = .ok (.isub, 1) := by decide +kernel
theorem dX4_hindrance_14 : decode cX4_hindrance 14 = .ok (.invokevirtual 116, 3) := by decide +kernel
theorem dX4_hindrance_17 : decode cX4_hindrance 17 = .ok (.ifCond .eq 5, 3) := by decide +kernel
theorem dX4_hindrance_20 : decode cX4_hindrance 20 = .ok (.iconst 2, 1) := by decide +kernel
theorem dX4_hindrance_21 : decode cX4_hindrance 21 = .ok (.ireturn, 1) := by decide +kernel
theorem dX4_hindrance_22 : decode cX4_hindrance 22 = .ok (.aload_n 0, 1) := by decide +kernel
theorem dX4_hindrance_23 : decode cX4_hindrance 23 = .ok (.iload_n 1, 1) := by decide +kernel
theorem dX4_hindrance_24 : decode cX4_hindrance 24 = .ok (.iconst 1, 1) := by decide +kernel
theorem dX4_hindrance_25 : decode cX4_hindrance 25 = .ok (.iadd, 1) := by decide +kernel
theorem dX4_hindrance_26 : decode cX4_hindrance 26 = .ok (.invokevirtual 116, 3) := by decide +kernel
theorem dX4_hindrance_29 : decode cX4_hindrance 29 = .ok (.ifCond .eq 5, 3) := by decide +kernel
theorem dX4_hindrance_32 : decode cX4_hindrance 32 = .ok (.iconst 3, 1) := by decide +kernel
theorem dX4_hindrance_33 : decode cX4_hindrance 33 = .ok (.ireturn, 1) := by decide +kernel
theorem dX4_hindrance_34 : decode cX4_hindrance 34 = .ok (.aload_n 0, 1) := by decide +kernel
theorem dX4_hindrance_35 : decode cX4_hindrance 35 = .ok (.iload_n 1, 1) := by decide +kernel
theorem dX4_hindrance_36 : decode cX4_hindrance 36 = .ok (.invokevirtual 100, 3) := by decide +kernel
theorem dX4_hindrance_39 : decode cX4_hindrance 39 = .ok (.ifCond .le 7, 3) := by decide +kernel
theorem dX4_hindrance_42 : decode cX4_hindrance 42 = .ok (.iconst 0, 1) := by decide +kernel
theorem dX4_hindrance_43 : decode cX4_hindrance 43 = .ok (.goto 4, 3) := by decide +kernel
theorem dX4_hindrance_46 : decode cX4_hindrance 46 = .ok (.iconst 4, 1) := by decide +kernel
theorem dX4_hindrance_47 : decode cX4_hindrance 47 = .ok (.ireturn, 1) := by decide +kernel
theorem dX4_pairValue_0 : decode cX4_pairValue 0 = .ok (.iload_n 2, 1) := by decide +kernel
theorem dX4_pairValue_1 : decode cX4_pairValue 1 = .ok (.tableswitch 55 0 3 #[31, 37, 43, 49], 31) := by decide +kernel
theorem dX4_pairValue_32 : decode cX4_pairValue 32 = .ok (.aload_n 0, 1) := by decide +kernel
theorem dX4_pairValue_33 : decode cX4_pairValue 33 = .ok (.iload_n 1, 1) := by decide +kernel
theorem dX4_pairValue_34 : decode cX4_pairValue 34 = .ok (.invokevirtual 119, 3) := by decide +kernel
theorem dX4_pairValue_37 : decode cX4_pairValue 37 = .ok (.ireturn, 1) := by decide +kernel
theorem dX4_pairValue_38 : decode cX4_pairValue 38 = .ok (.aload_n 0, 1) := by decide +kernel
theorem dX4_pairValue_39 : decode cX4_pairValue 39 = .ok (.iload_n 1, 1) := by decide +kernel
theorem dX4_pairValue_40 : decode cX4_pairValue 40 = .ok (.invokevirtual 113, 3) := by decide +kernel
theorem dX4_pairValue_43 : decode cX4_pairValue 43 = .ok (.ireturn, 1) := by decide +kernel
theorem dX4_pairValue_44 : decode cX4_pairValue 44 = .ok (.aload_n 0, 1) := by decide +kernel
theorem dX4_pairValue_45 : decode cX4_pairValue 45 = .ok (.iload_n 1, 1) := by decide +kernel
theorem dX4_pairValue_46 : decode cX4_pairValue 46 = .ok (.invokevirtual 100, 3) := by decide +kernel
theorem dX4_pairValue_49 : decode cX4_pairValue 49 = .ok (.ireturn, 1) := by decide +kernel
theorem dX4_pairValue_50 : decode cX4_pairValue 50 = .ok (.aload_n 0, 1) := by decide +kernel
theorem dX4_pairValue_51 : decode cX4_pairValue 51 = .ok (.iload_n 1, 1) := by decide +kernel
theorem dX4_pairValue_52 : decode cX4_pairValue 52 = .ok (.invokevirtual 88, 3) := by decide +kernel
theorem dX4_pairValue_55 : decode cX4_pairValue 55 = .ok (.ireturn, 1) := by decide +kernel
theorem dX4_pairValue_56 : decode cX4_pairValue 56 = .ok (.aload_n 0, 1) := by decide +kernel
theorem dX4_pairValue_57 : decode cX4_pairValue 57 = .ok (.iload_n 1, 1) := by decide +kernel
theorem dX4_pairValue_58 : decode cX4_pairValue 58 = .ok (.invokevirtual 116, 3) := by decide +kernel
theorem dX4_pairValue_61 : decode cX4_pairValue 61 = .ok (.ifCond .eq 7, 3) := by decide +kernel
theorem dX4_pairValue_64 : decode cX4_pairValue 64 = .ok (.iconst 1, 1) := by decide +kernel
theorem dX4_pairValue_65 : decode cX4_pairValue 65 = .ok (.goto 4, 3) := by decide +kernel
theorem dX4_pairValue_68 : decode cX4_pairValue 68 = .ok (.iconst 0, 1) := by decide +kernel
theorem dX4_pairValue_69 : decode cX4_pairValue 69 = .ok (.ireturn, 1) := by decide +kernel
theorem dX4_waitAt_0 : decode cX4_waitAt 0 = .ok (.iconst 0, 1) := by decide +kernel
theorem dX4_waitAt_1 : decode cX4_waitAt 1 = .ok (.istore_n 2, 1) := by decide +kernel
theorem dX4_waitAt_2 : decode cX4_waitAt 2 = .ok (.iconst 0, 1) := by decide +kernel
theorem dX4_waitAt_3 : decode cX4_waitAt 3 = .ok (.istore_n 3, 1) := by decide +kernel
theorem dX4_waitAt_4 : decode cX4_waitAt 4 = .ok (.iload_n 3, 1) := by decide +kernel
theorem dX4_waitAt_5 : decode cX4_waitAt 5 = .ok (.iload_n 1, 1) := by decide +kernel
theorem dX4_waitAt_6 : decode cX4_waitAt 6 = .ok (.if_icmp .ge 28, 3) := by decide +kernel
theorem dX4_waitAt_9 : decode cX4_waitAt 9 = .ok (.iload_n 3, 1) := by decide +kernel
theorem dX4_waitAt_10 : decode cX4_waitAt 10 = .ok (.aload_n 0, 1) := by decide +kernel
theorem dX4_waitAt_11 : decode cX4_waitAt 11 = .ok (.getfield 26, 3) := by decide +kernel
theorem dX4_waitAt_14 : decode cX4_waitAt 14 = .ok (.if_icmp .ge 20, 3) := by decide +kernel
theorem dX4_waitAt_17 : decode cX4_waitAt 17 = .ok (.iload_n 2, 1) := by decide +kernel
theorem dX4_waitAt_18 : decode cX4_waitAt 18 = .ok (.aload_n 0, 1) := by decide +kernel
theorem dX4_waitAt_19 : decode cX4_waitAt 19 = .ok (.iload_n 3, 1) := by decide +kernel
theorem dX4_waitAt_20 : decode cX4_waitAt 20 = .ok (.invokevirtual 41, 3) := by decide +kernel
theorem dX4_waitAt_23 : decode cX4_waitAt 23 = .ok (.getfield 107, 3) := by decide +kernel
theorem dX4_waitAt_26 : decode cX4_waitAt 26 = .ok (.iadd, 1) := by decide +kernel
theorem dX4_waitAt_27 : decode cX4_waitAt 27 = .ok (.istore_n 2, 1) := by decide +kernel
theorem dX4_waitAt_28 : decode cX4_waitAt 28 = .ok (.iinc 3 1, 3) := by decide +kernel
theorem dX4_waitAt_31 : decode cX4_waitAt 31 = .ok (.goto (-27), 3) := by decide +kernel
theorem dX4_waitAt_34 : decode cX4_waitAt 34 = .ok (.iload_n 2, 1) := by decide +kernel
theorem dX4_waitAt_35 : decode cX4_waitAt 35 = .ok (.ireturn, 1) := by decide +kernel
theorem dX4_costAt_0 : decode cX4_costAt 0 = .ok (.aload_n 0, 1) := by decide +kernel
theorem dX4_costAt_1 : decode cX4_costAt 1 = .ok (.iload_n 1, 1) := by decide +kernel
theorem dX4_costAt_2 : decode cX4_costAt 2 = .ok (.invokevirtual 41, 3) := by decide +kernel
theorem dX4_costAt_5 : decode cX4_costAt 5 = .ok (.getfield 70, 3) := by decide +kernel
theorem dX4_costAt_8 : decode cX4_costAt 8 = .ok (.aload_n 0, 1) := by decide +kernel
theorem dX4_costAt_9 : decode cX4_costAt 9 = .ok (.iload_n 1, 1) := by decide +kernel
theorem dX4_costAt_10 : decode cX4_costAt 10 = .ok (.invokevirtual 122, 3) := by decide +kernel
theorem dX4_costAt_13 : decode cX4_costAt 13 = .ok (.imul, 1) := by decide +kernel
theorem dX4_costAt_14 : decode cX4_costAt 14 = .ok (.ireturn, 1) := by decide +kernel
theorem dX4_friendsAt_0 : decode cX4_friendsAt 0 = .ok (.aload_n 0, 1) := by decide +kernel
theorem dX4_friendsAt_1 : decode cX4_friendsAt 1 = .ok (.iload_n 1, 1) := by decide +kernel
theorem dX4_friendsAt_2 : decode cX4_friendsAt 2 = .ok (.iconst 1, 1) := by decide +kernel
theorem dX4_friendsAt_3 : decode cX4_friendsAt 3 = .ok (.isub, 1) := by decide +kernel
theorem dX4_friendsAt_4 : decode cX4_friendsAt 4 = .ok (.invokevirtual 116, 3) := by decide +kernel
theorem dX4_friendsAt_7 : decode cX4_friendsAt 7 = .ok (.ifCond .eq 7, 3) := by decide +kernel
theorem dX4_friendsAt_10 : decode cX4_friendsAt 10 = .ok (.iconst 1, 1) := by decide +kernel
theorem dX4_friendsAt_11 : decode cX4_friendsAt 11 = .ok (.goto 4, 3) := by decide +kernel
theorem dX4_friendsAt_14 : decode cX4_friendsAt 14 = .ok (.iconst 0, 1) := by decide +kernel
theorem dX4_friendsAt_15 : decode cX4_friendsAt 15 = .ok (.aload_n 0, 1) := by decide +kernel
theorem dX4_friendsAt_16 : decode cX4_friendsAt 16 = .ok (.iload_n 1, 1) := by decide +kernel
theorem dX4_friendsAt_17 : decode cX4_friendsAt 17 = .ok (.invokevirtual 116, 3) := by decide +kernel
theorem dX4_friendsAt_20 : decode cX4_friendsAt 20 = .ok (.ifCond .eq 7, 3) := by decide +kernel
theorem dX4_friendsAt_23 : decode cX4_friendsAt 23 = .ok (.iconst 1, 1) := by decide +kernel
theorem dX4_friendsAt_24 : decode cX4_friendsAt 24 = .ok (.goto 4, 3) := by decide +kernel
theorem dX4_friendsAt_27 : decode cX4_friendsAt 27 = .ok (.iconst 0, 1) := by decide +kernel
theorem dX4_friendsAt_28 : decode cX4_friendsAt 28 = .ok (.iadd, 1) := by decide +kernel
theorem dX4_friendsAt_29 : decode cX4_friendsAt 29 = .ok (.ireturn, 1) := by decide +kernel
theorem dX4_memberValue_0 : decode cX4_memberValue 0 = .ok (.aload_n 0, 1) := by decide +kernel
theorem dX4_memberValue_1 : decode cX4_memberValue 1 = .ok (.iload_n 1, 1) := by decide +kernel
theorem dX4_memberValue_2 : decode cX4_memberValue 2 = .ok (.invokevirtual 41, 3) := by decide +kernel
theorem dX4_memberValue_5 : decode cX4_memberValue 5 = .ok (.astore_n 3, 1) := by decide +kernel
theorem dX4_memberValue_6 : decode cX4_memberValue 6 = .ok (.iload_n 2, 1) := by decide +kernel
theorem dX4_memberValue_7 : decode cX4_memberValue 7 = .ok (.tableswitch 99 0 8 #[49, 51, 56, 61, 66, 72, 78, 83, 88], 49) := by decide +kernel
theorem dX4_memberValue_56 : decode cX4_memberValue 56 = .ok (.iload_n 1, 1) := by decide +kernel
theorem dX4_memberValue_57 : decode cX4_memberValue 57 = .ok (.ireturn, 1) := by decide +kernel
theorem dX4_memberValue_58 : decode cX4_memberValue 58 = .ok (.aload_n 3, 1) := by decide +kernel
theorem dX4_memberValue_59 : decode cX4_memberValue 59 = .ok (.getfield 70, 3) := by decide +kernel
theorem dX4_memberValue_62 : decode cX4_memberValue 62 = .ok (.ireturn, 1) := by decide +kernel
theorem dX4_memberValue_63 : decode cX4_memberValue 63 = .ok (.aload_n 3, 1) := by decide +kernel
theorem dX4_memberValue_64 : decode cX4_memberValue 64 = .ok (.getfield 67, 3) := by decide +kernel
theorem dX4_memberValue_67 : decode cX4_memberValue 67 = .ok (.ireturn, 1) := by decide +kernel
theorem dX4_memberValue_68 : decode cX4_memberValue 68 = .ok (.aload_n 3, 1) := by decide +kernel
theorem dX4_memberValue_69 : decode cX4_memberValue 69 = .ok (.getfield 107, 3) := by decide +kernel
theorem dX4_memberValue_72 : decode cX4_memberValue 72 = .ok (.ireturn, 1) := by decide +kernel
theorem dX4_memberValue_73 : decode cX4_memberValue 73 = .ok (.aload_n 0, 1) := by decide +kernel
theorem dX4_memberValue_74 : decode cX4_memberValue 74 = .ok (.iload_n 1, 1) := by decide +kernel
theorem dX4_memberValue_75 : decode cX4_memberValue 75 = .ok (.invokevirtual 122, 3) := by decide +kernel
theorem dX4_memberValue_78 : decode cX4_memberValue 78 = .ok (.ireturn, 1) := by decide +kernel
theorem dX4_memberValue_79 : decode cX4_memberValue 79 = .ok (.aload_n 0, 1) := by decide +kernel
theorem dX4_memberValue_80 : decode cX4_memberValue 80 = .ok (.iload_n 1, 1) := by decide +kernel
theorem dX4_memberValue_81 : decode cX4_memberValue 81 = .ok (.invokevirtual 125, 3) := by decide +kernel
theorem dX4_memberValue_84 : decode cX4_memberValue 84 = .ok (.ireturn, 1) := by decide +kernel
theorem dX4_memberValue_85 : decode cX4_memberValue 85 = .ok (.aload_n 3, 1) := by decide +kernel
theorem dX4_memberValue_86 : decode cX4_memberValue 86 = .ok (.getfield 91, 3) := by decide +kernel
theorem dX4_memberValue_89 : decode cX4_memberValue 89 = .ok (.ireturn, 1) := by decide +kernel
theorem dX4_memberValue_90 : decode cX4_memberValue 90 = .ok (.aload_n 3, 1) := by decide +kernel
theorem dX4_memberValue_91 : decode cX4_memberValue 91 = .ok (.getfield 73, 3) := by decide +kernel
theorem dX4_memberValue_94 : decode cX4_memberValue 94 = .ok (.ireturn, 1) := by decide +kernel
theorem dX4_memberValue_95 : decode cX4_memberValue 95 = .ok (.aload_n 0, 1) := by decide +kernel
theorem dX4_memberValue_96 : decode cX4_memberValue 96 = .ok (.iload_n 1, 1) := by decide +kernel
theorem dX4_memberValue_97 : decode cX4_memberValue 97 = .ok (.iconst 1, 1) := by decide +kernel
theorem dX4_memberValue_98 : decode cX4_memberValue 98 = .ok (.iadd, 1) := by decide +kernel
theorem dX4_memberValue_99 : decode cX4_memberValue 99 = .ok (.invokevirtual 41, 3) := by decide +kernel
theorem dX4_memberValue_102 : decode cX4_memberValue 102 = .ok (.getfield 73, 3) := by decide +kernel
theorem dX4_memberValue_105 : decode cX4_memberValue 105 = .ok (.ireturn, 1) := by decide +kernel
theorem dX4_memberValue_106 : decode cX4_memberValue 106 = .ok (.aload_n 0, 1) := by decide +kernel
theorem dX4_memberValue_107 : decode cX4_memberValue 107 = .ok (.iload_n 1, 1) := by decide +kernel
theorem dX4_memberValue_108 : decode cX4_memberValue 108 = .ok (.invokevirtual 128, 3) := by decide +kernel
theorem dX4_memberValue_111 : decode cX4_memberValue 111 = .ok (.ireturn, 1) := by decide +kernel
theorem dX4_cost_0 : decode cX4_cost 0 = .ok (.iconst 0, 1) := by decide +kernel
theorem dX4_cost_1 : decode cX4_cost 1 = .ok (.istore_n 1, 1) := by decide +kernel
theorem dX4_cost_2 : decode cX4_cost 2 = .ok (.iconst 0, 1) := by decide +kernel
theorem dX4_cost_3 : decode cX4_cost 3 = .ok (.istore_n 2, 1) := by decide +kernel
theorem dX4_cost_4 : decode cX4_cost 4 = .ok (.iload_n 2, 1) := by decide +kernel
theorem dX4_cost_5 : decode cX4_cost 5 = .ok (.aload_n 0, 1) := by decide +kernel
theorem dX4_cost_6 : decode cX4_cost 6 = .ok (.getfield 26, 3) := by decide +kernel
theorem dX4_cost_9 : decode cX4_cost 9 = .ok (.if_icmp .ge 17, 3) := by decide +kernel
theorem dX4_cost_12 : decode cX4_cost 12 = .ok (.iload_n 1, 1) := by decide +kernel
theorem dX4_cost_13 : decode cX4_cost 13 = .ok (.aload_n 0, 1) := by decide +kernel
theorem dX4_cost_14 : decode cX4_cost 14 = .ok (.iload_n 2, 1) := by decide +kernel
theorem dX4_cost_15 : decode cX4_cost 15 = .ok (.invokevirtual 125, 3) := by decide +kernel
theorem dX4_cost_18 : decode cX4_cost 18 = .ok (.iadd, 1) := by decide +kernel
theorem dX4_cost_19 : decode cX4_cost 19 = .ok (.istore_n 1, 1) := by decide +kernel
theorem dX4_cost_20 : decode cX4_cost 20 = .ok (.iinc 2 1, 3) := by decide +kernel
theorem dX4_cost_23 : decode cX4_cost 23 = .ok (.goto (-19), 3) := by decide +kernel
theorem dX4_cost_26 : decode cX4_cost 26 = .ok (.iload_n 1, 1) := by decide +kernel
theorem dX4_cost_27 : decode cX4_cost 27 = .ok (.ireturn, 1) := by decide +kernel
theorem dX4_toldCost_0 : decode cX4_toldCost 0 = .ok (.iconst 0, 1) := by decide +kernel
theorem dX4_toldCost_1 : decode cX4_toldCost 1 = .ok (.istore_n 1, 1) := by decide +kernel
theorem dX4_toldCost_2 : decode cX4_toldCost 2 = .ok (.iconst 0, 1) := by decide +kernel
theorem dX4_toldCost_3 : decode cX4_toldCost 3 = .ok (.istore_n 2, 1) := by decide +kernel
theorem dX4_toldCost_4 : decode cX4_toldCost 4 = .ok (.iload_n 2, 1) := by decide +kernel
theorem dX4_toldCost_5 : decode cX4_toldCost 5 = .ok (.aload_n 0, 1) := by decide +kernel
theorem dX4_toldCost_6 : decode cX4_toldCost 6 = .ok (.getfield 26, 3) := by decide +kernel
theorem dX4_toldCost_9 : decode cX4_toldCost 9 = .ok (.if_icmp .ge 26, 3) := by decide +kernel
theorem dX4_toldCost_12 : decode cX4_toldCost 12 = .ok (.iload_n 1, 1) := by decide +kernel
theorem dX4_toldCost_13 : decode cX4_toldCost 13 = .ok (.aload_n 0, 1) := by decide +kernel
theorem dX4_toldCost_14 : decode cX4_toldCost 14 = .ok (.iload_n 2, 1) := by decide +kernel
theorem dX4_toldCost_15 : decode cX4_toldCost 15 = .ok (.invokevirtual 41, 3) := by decide +kernel
theorem dX4_toldCost_18 : decode cX4_toldCost 18 = .ok (.getfield 67, 3) := by decide +kernel
theorem dX4_toldCost_21 : decode cX4_toldCost 21 = .ok (.aload_n 0, 1) := by decide +kernel
theorem dX4_toldCost_22 : decode cX4_toldCost 22 = .ok (.iload_n 2, 1) := by decide +kernel
theorem dX4_toldCost_23 : decode cX4_toldCost 23 = .ok (.invokevirtual 122, 3) := by decide +kernel
theorem dX4_toldCost_26 : decode cX4_toldCost 26 = .ok (.imul, 1) := by decide +kernel
theorem dX4_toldCost_27 : decode cX4_toldCost 27 = .ok (.iadd, 1) := by decide +kernel
theorem dX4_toldCost_28 : decode cX4_toldCost 28 = .ok (.istore_n 1, 1) := by decide +kernel
theorem dX4_toldCost_29 : decode cX4_toldCost 29 = .ok (.iinc 2 1, 3) := by decide +kernel
theorem dX4_toldCost_32 : decode cX4_toldCost 32 = .ok (.goto (-28), 3) := by decide +kernel
theorem dX4_toldCost_35 : decode cX4_toldCost 35 = .ok (.iload_n 1, 1) := by decide +kernel
theorem dX4_toldCost_36 : decode cX4_toldCost 36 = .ok (.ireturn, 1) := by decide +kernel
theorem dX4_bestCost_0 : decode cX4_bestCost 0 = .ok (.iconst 0, 1) := by decide +kernel
theorem dX4_bestCost_1 : decode cX4_bestCost 1 = .ok (.istore_n 1, 1) := by decide +kernel
theorem dX4_bestCost_2 : decode cX4_bestCost 2 = .ok (.iconst 0, 1) := by decide +kernel
theorem dX4_bestCost_3 : decode cX4_bestCost 3 = .ok (.istore_n 2, 1) := by decide +kernel
theorem dX4_bestCost_4 : decode cX4_bestCost 4 = .ok (.iload_n 2, 1) := by decide +kernel
theorem dX4_bestCost_5 : decode cX4_bestCost 5 = .ok (.aload_n 0, 1) := by decide +kernel
theorem dX4_bestCost_6 : decode cX4_bestCost 6 = .ok (.getfield 26, 3) := by decide +kernel
theorem dX4_bestCost_9 : decode cX4_bestCost 9 = .ok (.if_icmp .ge 40, 3) := by decide +kernel
theorem dX4_bestCost_12 : decode cX4_bestCost 12 = .ok (.iconst 0, 1) := by decide +kernel
theorem dX4_bestCost_13 : decode cX4_bestCost 13 = .ok (.istore_n 3, 1) := by decide +kernel
theorem dX4_bestCost_14 : decode cX4_bestCost 14 = .ok (.iload_n 3, 1) := by decide +kernel
theorem dX4_bestCost_15 : decode cX4_bestCost 15 = .ok (.iload_n 2, 1) := by decide +kernel
theorem dX4_bestCost_16 : decode cX4_bestCost 16 = .ok (.if_icmp .ge 27, 3) := by decide +kernel
theorem dX4_bestCost_19 : decode cX4_bestCost 19 = .ok (.iload_n 1, 1) := by decide +kernel
theorem dX4_bestCost_20 : decode cX4_bestCost 20 = .ok (.aload_n 0, 1) := by decide +kernel
theorem dX4_bestCost_21 : decode cX4_bestCost 21 = .ok (.iload_n 3, 1) := by decide +kernel
theorem dX4_bestCost_22 : decode cX4_bestCost 22 = .ok (.iload_n 2, 1) := by decide +kernel
theorem dX4_bestCost_23 : decode cX4_bestCost 23 = .ok (.invokevirtual 131, 3) := by decide +kernel
theorem dX4_bestCost_26 : decode cX4_bestCost 26 = .ok (.aload_n 0, 1) := by decide +kernel
theorem dX4_bestCost_27 : decode cX4_bestCost 27 = .ok (.iload_n 2, 1) := by decide +kernel
theorem dX4_bestCost_28 : decode cX4_bestCost 28 = .ok (.iload_n 3, 1) := by decide +kernel
theorem dX4_bestCost_29 : decode cX4_bestCost 29 = .ok (.invokevirtual 131, 3) := by decide +kernel
theorem dX4_bestCost_32 : decode cX4_bestCost 32 = .ok (.invokestatic 134, 3) := by decide +kernel
theorem dX4_bestCost_35 : decode cX4_bestCost 35 = .ok (.iadd, 1) := by decide +kernel
theorem dX4_bestCost_36 : decode cX4_bestCost 36 = .ok (.istore_n 1, 1) := by decide +kernel
theorem dX4_bestCost_37 : decode cX4_bestCost 37 = .ok (.iinc 3 1, 3) := by decide +kernel
theorem dX4_bestCost_40 : decode cX4_bestCost 40 = .ok (.goto (-26), 3) := by decide +kernel
theorem dX4_bestCost_43 : decode cX4_bestCost 43 = .ok (.iinc 2 1, 3) := by decide +kernel
theorem dX4_bestCost_46 : decode cX4_bestCost 46 = .ok (.goto (-42), 3) := by decide +kernel
theorem dX4_bestCost_49 : decode cX4_bestCost 49 = .ok (.iload_n 1, 1) := by decide +kernel
theorem dX4_bestCost_50 : decode cX4_bestCost 50 = .ok (.ireturn, 1) := by decide +kernel
theorem dX4_wrongPairs_0 : decode cX4_wrongPairs 0 = .ok (.iconst 0, 1) := by decide +kernel
theorem dX4_wrongPairs_1 : decode cX4_wrongPairs 1 = .ok (.istore_n 1, 1) := by decide +kernel
theorem dX4_wrongPairs_2 : decode cX4_wrongPairs 2 = .ok (.iconst 0, 1) := by decide +kernel
theorem dX4_wrongPairs_3 : decode cX4_wrongPairs 3 = .ok (.istore_n 2, 1) := by decide +kernel
theorem dX4_wrongPairs_4 : decode cX4_wrongPairs 4 = .ok (.iload_n 2, 1) := by decide +kernel
theorem dX4_wrongPairs_5 : decode cX4_wrongPairs 5 = .ok (.aload_n 0, 1) := by decide +kernel
theorem dX4_wrongPairs_6 : decode cX4_wrongPairs 6 = .ok (.getfield 26, 3) := by decide +kernel
theorem dX4_wrongPairs_9 : decode cX4_wrongPairs 9 = .ok (.if_icmp .ge 40, 3) := by decide +kernel
theorem dX4_wrongPairs_12 : decode cX4_wrongPairs 12 = .ok (.iconst 0, 1) := by decide +kernel
theorem dX4_wrongPairs_13 : decode cX4_wrongPairs 13 = .ok (.istore_n 3, 1) := by decide +kernel
theorem dX4_wrongPairs_14 : decode cX4_wrongPairs 14 = .ok (.iload_n 3, 1) := by decide +kernel
theorem dX4_wrongPairs_15 : decode cX4_wrongPairs 15 = .ok (.iload_n 2, 1) := by decide +kernel
theorem dX4_wrongPairs_16 : decode cX4_wrongPairs 16 = .ok (.if_icmp .ge 27, 3) := by decide +kernel
theorem dX4_wrongPairs_19 : decode cX4_wrongPairs 19 = .ok (.aload_n 0, 1) := by decide +kernel
theorem dX4_wrongPairs_20 : decode cX4_wrongPairs 20 = .ok (.iload_n 3, 1) := by decide +kernel
theorem dX4_wrongPairs_21 : decode cX4_wrongPairs 21 = .ok (.iload_n 2, 1) := by decide +kernel
theorem dX4_wrongPairs_22 : decode cX4_wrongPairs 22 = .ok (.invokevirtual 131, 3) := by decide +kernel
theorem dX4_wrongPairs_25 : decode cX4_wrongPairs 25 = .ok (.aload_n 0, 1) := by decide +kernel
theorem dX4_wrongPairs_26 : decode cX4_wrongPairs 26 = .ok (.iload_n 2, 1) := by decide +kernel
theorem dX4_wrongPairs_27 : decode cX4_wrongPairs 27 = .ok (.iload_n 3, 1) := by decide +kernel
theorem dX4_wrongPairs_28 : decode cX4_wrongPairs 28 = .ok (.invokevirtual 131, 3) := by decide +kernel
theorem dX4_wrongPairs_31 : decode cX4_wrongPairs 31 = .ok (.if_icmp .le 6, 3) := by decide +kernel
theorem dX4_wrongPairs_34 : decode cX4_wrongPairs 34 = .ok (.iinc 1 1, 3) := by decide +kernel
theorem dX4_wrongPairs_37 : decode cX4_wrongPairs 37 = .ok (.iinc 3 1, 3) := by decide +kernel
theorem dX4_wrongPairs_40 : decode cX4_wrongPairs 40 = .ok (.goto (-26), 3) := by decide +kernel
theorem dX4_wrongPairs_43 : decode cX4_wrongPairs 43 = .ok (.iinc 2 1, 3) := by decide +kernel
theorem dX4_wrongPairs_46 : decode cX4_wrongPairs 46 = .ok (.goto (-42), 3) := by decide +kernel
theorem dX4_wrongPairs_49 : decode cX4_wrongPairs 49 = .ok (.iload_n 1, 1) := by decide +kernel
theorem dX4_wrongPairs_50 : decode cX4_wrongPairs 50 = .ok (.ireturn, 1) := by decide +kernel
theorem dX4_waitingCost_0 : decode cX4_waitingCost 0 = .ok (.aload_n 0, 1) := by decide +kernel
theorem dX4_waitingCost_1 : decode cX4_waitingCost 1 = .ok (.iload_n 2, 1) := by decide +kernel
theorem dX4_waitingCost_2 : decode cX4_waitingCost 2 = .ok (.invokevirtual 41, 3) := by decide +kernel
theorem dX4_waitingCost_5 : decode cX4_waitingCost 5 = .ok (.getfield 70, 3) := by decide +kernel
theorem dX4_waitingCost_8 : decode cX4_waitingCost 8 = .ok (.aload_n 0, 1) := by decide +kernel
theorem dX4_waitingCost_9 : decode cX4_waitingCost 9 = .ok (.iload_n 1, 1) := by decide +kernel
theorem dX4_waitingCost_10 : decode cX4_waitingCost 10 = .ok (.invokevirtual 41, 3) := by decide +kernel
theorem dX4_waitingCost_13 : decode cX4_waitingCost 13 = .ok (.getfield 107, 3) := by decide +kernel
theorem dX4_waitingCost_16 : decode cX4_waitingCost 16 = .ok (.imul, 1) := by decide +kernel
theorem dX4_waitingCost_17 : decode cX4_waitingCost 17 = .ok (.ireturn, 1) := by decide +kernel
theorem dX4_willingPairs_0 : decode cX4_willingPairs 0 = .ok (.iconst 0, 1) := by decide +kernel
theorem dX4_willingPairs_1 : decode cX4_willingPairs 1 = .ok (.istore_n 1, 1) := by decide +kernel
theorem dX4_willingPairs_2 : decode cX4_willingPairs 2 = .ok (.iconst 0, 1) := by decide +kernel
theorem dX4_willingPairs_3 : decode cX4_willingPairs 3 = .ok (.istore_n 2, 1) := by decide +kernel
theorem dX4_willingPairs_4 : decode cX4_willingPairs 4 = .ok (.iload_n 2, 1) := by decide +kernel
theorem dX4_willingPairs_5 : decode cX4_willingPairs 5 = .ok (.aload_n 0, 1) := by decide +kernel
theorem dX4_willingPairs_6 : decode cX4_willingPairs 6 = .ok (.getfield 26, 3) := by decide +kernel
theorem dX4_willingPairs_9 : decode cX4_willingPairs 9 = .ok (.iconst 1, 1) := by decide +kernel
theorem dX4_willingPairs_10 : decode cX4_willingPairs 10 = .ok (.isub, 1) := by decide +kernel
theorem dX4_willingPairs_11 : decode cX4_willingPairs 11 = .ok (.if_icmp .ge 25, 3) := by decide +kernel
theorem dX4_willingPairs_14 : decode cX4_willingPairs 14 = .ok (.iload_n 1, 1) := by decide +kernel
theorem dX4_willingPairs_15 : decode cX4_willingPairs 15 = .ok (.aload_n 0, 1) := by decide +kernel
theorem dX4_willingPairs_16 : decode cX4_willingPairs 16 = .ok (.iload_n 2, 1) := by decide +kernel
theorem dX4_willingPairs_17 : decode cX4_willingPairs 17 = .ok (.invokevirtual 110, 3) := by decide +kernel
theorem dX4_willingPairs_20 : decode cX4_willingPairs 20 = .ok (.ifCond .ne 7, 3) := by decide +kernel
theorem dX4_willingPairs_23 : decode cX4_willingPairs 23 = .ok (.iconst 1, 1) := by decide +kernel
theorem dX4_willingPairs_24 : decode cX4_willingPairs 24 = .ok (.goto 4, 3) := by decide +kernel
theorem dX4_willingPairs_27 : decode cX4_willingPairs 27 = .ok (.iconst 0, 1) := by decide +kernel
theorem dX4_willingPairs_28 : decode cX4_willingPairs 28 = .ok (.iadd, 1) := by decide +kernel
theorem dX4_willingPairs_29 : decode cX4_willingPairs 29 = .ok (.istore_n 1, 1) := by decide +kernel
theorem dX4_willingPairs_30 : decode cX4_willingPairs 30 = .ok (.iinc 2 1, 3) := by decide +kernel
theorem dX4_willingPairs_33 : decode cX4_willingPairs 33 = .ok (.goto (-29), 3) := by decide +kernel
theorem dX4_willingPairs_36 : decode cX4_willingPairs 36 = .ok (.iload_n 1, 1) := by decide +kernel
theorem dX4_willingPairs_37 : decode cX4_willingPairs 37 = .ok (.ireturn, 1) := by decide +kernel
theorem dX4_offers_0 : decode cX4_offers 0 = .ok (.iconst 0, 1) := by decide +kernel
theorem dX4_offers_1 : decode cX4_offers 1 = .ok (.istore_n 1, 1) := by decide +kernel
theorem dX4_offers_2 : decode cX4_offers 2 = .ok (.iconst 0, 1) := by decide +kernel
theorem dX4_offers_3 : decode cX4_offers 3 = .ok (.istore_n 2, 1) := by decide +kernel
theorem dX4_offers_4 : decode cX4_offers 4 = .ok (.iload_n 2, 1) := by decide +kernel
theorem dX4_offers_5 : decode cX4_offers 5 = .ok (.aload_n 0, 1) := by decide +kernel
theorem dX4_offers_6 : decode cX4_offers 6 = .ok (.getfield 26, 3) := by decide +kernel
theorem dX4_offers_9 : decode cX4_offers 9 = .ok (.if_icmp .ge 29, 3) := by decide +kernel
theorem dX4_offers_12 : decode cX4_offers 12 = .ok (.iload_n 1, 1) := by decide +kernel
theorem dX4_offers_13 : decode cX4_offers 13 = .ok (.aload_n 0, 1) := by decide +kernel
theorem dX4_offers_14 : decode cX4_offers 14 = .ok (.iload_n 2, 1) := by decide +kernel
theorem dX4_offers_15 : decode cX4_offers 15 = .ok (.invokevirtual 41, 3) := by decide +kernel
theorem dX4_offers_18 : decode cX4_offers 18 = .ok (.getfield 73, 3) := by decide +kernel
theorem dX4_offers_21 : decode cX4_offers 21 = .ok (.iconst (-1), 1) := by decide +kernel
theorem dX4_offers_22 : decode cX4_offers 22 = .ok (.if_icmp .eq 7, 3) := by decide +kernel
theorem dX4_offers_25 : decode cX4_offers 25 = .ok (.iconst 1, 1) := by decide +kernel
theorem dX4_offers_26 : decode cX4_offers 26 = .ok (.goto 4, 3) := by decide +kernel
theorem dX4_offers_29 : decode cX4_offers 29 = .ok (.iconst 0, 1) := by decide +kernel
theorem dX4_offers_30 : decode cX4_offers 30 = .ok (.iadd, 1) := by decide +kernel
theorem dX4_offers_31 : decode cX4_offers 31 = .ok (.istore_n 1, 1) := by decide +kernel
theorem dX4_offers_32 : decode cX4_offers 32 = .ok (.iinc 2 1, 3) := by decide +kernel
theorem dX4_offers_35 : decode cX4_offers 35 = .ok (.goto (-31), 3) := by decide +kernel
theorem dX4_offers_38 : decode cX4_offers 38 = .ok (.iload_n 1, 1) := by decide +kernel
theorem dX4_offers_39 : decode cX4_offers 39 = .ok (.ireturn, 1) := by decide +kernel
theorem dX4_welcomeOffers_0 : decode cX4_welcomeOffers 0 = .ok (.iconst 0, 1) := by decide +kernel
theorem dX4_welcomeOffers_1 : decode cX4_welcomeOffers 1 = .ok (.istore_n 1, 1) := by decide +kernel
theorem dX4_welcomeOffers_2 : decode cX4_welcomeOffers 2 = .ok (.iconst 0, 1) := by decide +kernel
theorem dX4_welcomeOffers_3 : decode cX4_welcomeOffers 3 = .ok (.istore_n 2, 1) := by decide +kernel
theorem dX4_welcomeOffers_4 : decode cX4_welcomeOffers 4 = .ok (.iload_n 2, 1) := by decide +kernel
theorem dX4_welcomeOffers_5 : decode cX4_welcomeOffers 5 = .ok (.aload_n 0, 1) := by decide +kernel
theorem dX4_welcomeOffers_6 : decode cX4_welcomeOffers 6 = .ok (.getfield 26, 3) := by decide +kernel
theorem dX4_welcomeOffers_9 : decode cX4_welcomeOffers 9 = .ok (.iconst 1, 1) := by decide +kernel
theorem dX4_welcomeOffers_10 : decode cX4_welcomeOffers 10 = .ok (.isub, 1) := by decide +kernel
theorem dX4_welcomeOffers_11 : decode cX4_welcomeOffers 11 = .ok (.if_icmp .ge 25, 3) := by decide +kernel
theorem dX4_welcomeOffers_14 : decode cX4_welcomeOffers 14 = .ok (.iload_n 1, 1) := by decide +kernel
theorem dX4_welcomeOffers_15 : decode cX4_welcomeOffers 15 = .ok (.aload_n 0, 1) := by decide +kernel
theorem dX4_welcomeOffers_16 : decode cX4_welcomeOffers 16 = .ok (.iload_n 2, 1) := by decide +kernel
theorem dX4_welcomeOffers_17 : decode cX4_welcomeOffers 17 = .ok (.invokevirtual 139, 3) := by decide +kernel
theorem dX4_welcomeOffers_20 : decode cX4_welcomeOffers 20 = .ok (.ifCond .eq 7, 3) := by decide +kernel
theorem dX4_welcomeOffers_23 : decode cX4_welcomeOffers 23 = .ok (.iconst 1, 1) := by decide +kernel
theorem dX4_welcomeOffers_24 : decode cX4_welcomeOffers 24 = .ok (.goto 4, 3) := by decide +kernel
theorem dX4_welcomeOffers_27 : decode cX4_welcomeOffers 27 = .ok (.iconst 0, 1) := by decide +kernel
theorem dX4_welcomeOffers_28 : decode cX4_welcomeOffers 28 = .ok (.iadd, 1) := by decide +kernel
theorem dX4_welcomeOffers_29 : decode cX4_welcomeOffers 29 = .ok (.istore_n 1, 1) := by decide +kernel
theorem dX4_welcomeOffers_30 : decode cX4_welcomeOffers 30 = .ok (.iinc 2 1, 3) := by decide +kernel
theorem dX4_welcomeOffers_33 : decode cX4_welcomeOffers 33 = .ok (.goto (-29), 3) := by decide +kernel
theorem dX4_welcomeOffers_36 : decode cX4_welcomeOffers 36 = .ok (.iload_n 1, 1) := by decide +kernel
theorem dX4_welcomeOffers_37 : decode cX4_welcomeOffers 37 = .ok (.ireturn, 1) := by decide +kernel
theorem dX4_friendPairs_0 : decode cX4_friendPairs 0 = .ok (.iconst 0, 1) := by decide +kernel
theorem dX4_friendPairs_1 : decode cX4_friendPairs 1 = .ok (.istore_n 1, 1) := by decide +kernel
theorem dX4_friendPairs_2 : decode cX4_friendPairs 2 = .ok (.iconst 0, 1) := by decide +kernel
theorem dX4_friendPairs_3 : decode cX4_friendPairs 3 = .ok (.istore_n 2, 1) := by decide +kernel
theorem dX4_friendPairs_4 : decode cX4_friendPairs 4 = .ok (.iload_n 2, 1) := by decide +kernel
theorem dX4_friendPairs_5 : decode cX4_friendPairs 5 = .ok (.aload_n 0, 1) := by decide +kernel
theorem dX4_friendPairs_6 : decode cX4_friendPairs 6 = .ok (.getfield 26, 3) := by decide +kernel
theorem dX4_friendPairs_9 : decode cX4_friendPairs 9 = .ok (.iconst 1, 1) := by decide +kernel
theorem dX4_friendPairs_10 : decode cX4_friendPairs 10 = .ok (.isub, 1) := by decide +kernel
theorem dX4_friendPairs_11 : decode cX4_friendPairs 11 = .ok (.if_icmp .ge 25, 3) := by decide +kernel
theorem dX4_friendPairs_14 : decode cX4_friendPairs 14 = .ok (.iload_n 1, 1) := by decide +kernel
theorem dX4_friendPairs_15 : decode cX4_friendPairs 15 = .ok (.aload_n 0, 1) := by decide +kernel
theorem dX4_friendPairs_16 : decode cX4_friendPairs 16 = .ok (.iload_n 2, 1) := by decide +kernel
theorem dX4_friendPairs_17 : decode cX4_friendPairs 17 = .ok (.invokevirtual 116, 3) := by decide +kernel
theorem dX4_friendPairs_20 : decode cX4_friendPairs 20 = .ok (.ifCond .eq 7, 3) := by decide +kernel
theorem dX4_friendPairs_23 : decode cX4_friendPairs 23 = .ok (.iconst 1, 1) := by decide +kernel
theorem dX4_friendPairs_24 : decode cX4_friendPairs 24 = .ok (.goto 4, 3) := by decide +kernel
theorem dX4_friendPairs_27 : decode cX4_friendPairs 27 = .ok (.iconst 0, 1) := by decide +kernel
theorem dX4_friendPairs_28 : decode cX4_friendPairs 28 = .ok (.iadd, 1) := by decide +kernel
theorem dX4_friendPairs_29 : decode cX4_friendPairs 29 = .ok (.istore_n 1, 1) := by decide +kernel
theorem dX4_friendPairs_30 : decode cX4_friendPairs 30 = .ok (.iinc 2 1, 3) := by decide +kernel
theorem dX4_friendPairs_33 : decode cX4_friendPairs 33 = .ok (.goto (-29), 3) := by decide +kernel
theorem dX4_friendPairs_36 : decode cX4_friendPairs 36 = .ok (.iload_n 1, 1) := by decide +kernel
theorem dX4_friendPairs_37 : decode cX4_friendPairs 37 = .ok (.ireturn, 1) := by decide +kernel
theorem dX4_wholeValue_0 : decode cX4_wholeValue 0 = .ok (.iload_n 1, 1) := by decide +kernel
theorem dX4_wholeValue_1 : decode cX4_wholeValue 1 = .ok (.tableswitch 123 0 11 #[63, 68, 73, 78, 83, 88, 93, 98, 103, 108, 113, 118], 63) := by decide +kernel
theorem dX4_wholeValue_64 : decode cX4_wholeValue 64 = .ok (.aload_n 0, 1) := by decide +kernel
theorem dX4_wholeValue_65 : decode cX4_wholeValue 65 = .ok (.getfield 26, 3) := by decide +kernel
theorem dX4_wholeValue_68 : decode cX4_wholeValue 68 = .ok (.ireturn, 1) := by decide +kernel
theorem dX4_wholeValue_69 : decode cX4_wholeValue 69 = .ok (.aload_n 0, 1) := by decide +kernel
theorem dX4_wholeValue_70 : decode cX4_wholeValue 70 = .ok (.getfield 22, 3) := by decide +kernel
theorem dX4_wholeValue_73 : decode cX4_wholeValue 73 = .ok (.ireturn, 1) := by decide +kernel
theorem dX4_wholeValue_74 : decode cX4_wholeValue 74 = .ok (.aload_n 0, 1) := by decide +kernel
theorem dX4_wholeValue_75 : decode cX4_wholeValue 75 = .ok (.invokevirtual 142, 3) := by decide +kernel
theorem dX4_wholeValue_78 : decode cX4_wholeValue 78 = .ok (.ireturn, 1) := by decide +kernel
theorem dX4_wholeValue_79 : decode cX4_wholeValue 79 = .ok (.aload_n 0, 1) := by decide +kernel
theorem dX4_wholeValue_80 : decode cX4_wholeValue 80 = .ok (.invokevirtual 145, 3) := by decide +kernel
theorem dX4_wholeValue_83 : decode cX4_wholeValue 83 = .ok (.ireturn, 1) := by decide +kernel
theorem dX4_wholeValue_84 : decode cX4_wholeValue 84 = .ok (.aload_n 0, 1) := by decide +kernel
theorem dX4_wholeValue_85 : decode cX4_wholeValue 85 = .ok (.invokevirtual 148, 3) := by decide +kernel
theorem dX4_wholeValue_88 : decode cX4_wholeValue 88 = .ok (.ireturn, 1) := by decide +kernel
theorem dX4_wholeValue_89 : decode cX4_wholeValue 89 = .ok (.aload_n 0, 1) := by decide +kernel
theorem dX4_wholeValue_90 : decode cX4_wholeValue 90 = .ok (.invokevirtual 151, 3) := by decide +kernel
theorem dX4_wholeValue_93 : decode cX4_wholeValue 93 = .ok (.ireturn, 1) := by decide +kernel
theorem dX4_wholeValue_94 : decode cX4_wholeValue 94 = .ok (.aload_n 0, 1) := by decide +kernel
theorem dX4_wholeValue_95 : decode cX4_wholeValue 95 = .ok (.invokevirtual 154, 3) := by decide +kernel
theorem dX4_wholeValue_98 : decode cX4_wholeValue 98 = .ok (.ireturn, 1) := by decide +kernel
theorem dX4_wholeValue_99 : decode cX4_wholeValue 99 = .ok (.aload_n 0, 1) := by decide +kernel
theorem dX4_wholeValue_100 : decode cX4_wholeValue 100 = .ok (.invokevirtual 157, 3) := by decide +kernel
theorem dX4_wholeValue_103 : decode cX4_wholeValue 103 = .ok (.ireturn, 1) := by decide +kernel
theorem dX4_wholeValue_104 : decode cX4_wholeValue 104 = .ok (.aload_n 0, 1) := by decide +kernel
theorem dX4_wholeValue_105 : decode cX4_wholeValue 105 = .ok (.invokevirtual 80, 3) := by decide +kernel
theorem dX4_wholeValue_108 : decode cX4_wholeValue 108 = .ok (.ireturn, 1) := by decide +kernel
theorem dX4_wholeValue_109 : decode cX4_wholeValue 109 = .ok (.aload_n 0, 1) := by decide +kernel
theorem dX4_wholeValue_110 : decode cX4_wholeValue 110 = .ok (.getfield 29, 3) := by decide +kernel
theorem dX4_wholeValue_113 : decode cX4_wholeValue 113 = .ok (.ireturn, 1) := by decide +kernel
theorem dX4_wholeValue_114 : decode cX4_wholeValue 114 = .ok (.aload_n 0, 1) := by decide +kernel
theorem dX4_wholeValue_115 : decode cX4_wholeValue 115 = .ok (.getfield 32, 3) := by decide +kernel
theorem dX4_wholeValue_118 : decode cX4_wholeValue 118 = .ok (.ireturn, 1) := by decide +kernel
theorem dX4_wholeValue_119 : decode cX4_wholeValue 119 = .ok (.aload_n 0, 1) := by decide +kernel
theorem dX4_wholeValue_120 : decode cX4_wholeValue 120 = .ok (.getfield 35, 3) := by decide +kernel
theorem dX4_wholeValue_123 : decode cX4_wholeValue 123 = .ok (.ireturn, 1) := by decide +kernel
theorem dX4_wholeValue_124 : decode cX4_wholeValue 124 = .ok (.aload_n 0, 1) := by decide +kernel
theorem dX4_wholeValue_125 : decode cX4_wholeValue 125 = .ok (.getfield 38, 3) := by decide +kernel
theorem dX4_wholeValue_128 : decode cX4_wholeValue 128 = .ok (.ireturn, 1) := by decide +kernel
theorem dX5_init_0 : decode cX5_init 0 = .ok (.aload_n 0, 1) := by decide +kernel
theorem dX5_init_1 : decode cX5_init 1 = .ok (.invokespecial 3, 3) := by decide +kernel
theorem dX5_init_4 : decode cX5_init 4 = .ok (.aload_n 0, 1) := by decide +kernel
theorem dX5_init_5 : decode cX5_init 5 = .ok (.iconst (-1), 1) := by decide +kernel
theorem dX5_init_6 : decode cX5_init 6 = .ok (.putfield 9, 3) := by decide +kernel
theorem dX5_init_9 : decode cX5_init 9 = .ok (.aload_n 0, 1) := by decide +kernel
theorem dX5_init_10 : decode cX5_init 10 = .ok (.iconst (-1), 1) := by decide +kernel
