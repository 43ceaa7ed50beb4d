/-! NAMES (printed): what each instruction is, 4 -/
theorem dX6_faultOf_212 : decode cX6_faultOf 212 = .ok (.goto 4, 3) := by decide +kernel
theorem dX6_faultOf_215 : decode cX6_faultOf 215 = .ok (.iconst 3, 1) := by decide +kernel
theorem dX6_faultOf_216 : decode cX6_faultOf 216 = .ok (.ireturn, 1) := by decide +kernel
theorem dX6_faultOf_217 : decode cX6_faultOf 217 = .ok (.iconst 0, 1) := by decide +kernel
theorem dX6_faultOf_218 : decode cX6_faultOf 218 = .ok (.ireturn, 1) := by decide +kernel
theorem dX6_carryOut_0 : decode cX6_carryOut 0 = .ok (.getstatic 206, 3) := by decide +kernel
theorem dX6_carryOut_3 : decode cX6_carryOut 3 = .ok (.aload_n 1, 1) := by decide +kernel
theorem dX6_carryOut_4 : decode cX6_carryOut 4 = .ok (.invokevirtual 212, 3) := by decide +kernel
theorem dX6_carryOut_7 : decode cX6_carryOut 7 = .ok (.iaload, 1) := by decide +kernel
theorem dX6_carryOut_8 : decode cX6_carryOut 8 = .ok (.tableswitch 181 1 10 #[56, 73, 85, 94, 111, 128, 144, 153, 163, 173], 56) := by decide +kernel
theorem dX6_carryOut_64 : decode cX6_carryOut 64 = .ok (.aload_n 0, 1) := by decide +kernel
theorem dX6_carryOut_65 : decode cX6_carryOut 65 = .ok (.getfield 10, 3) := by decide +kernel
theorem dX6_carryOut_68 : decode cX6_carryOut 68 = .ok (.iload_n 2, 1) := by decide +kernel
theorem dX6_carryOut_69 : decode cX6_carryOut 69 = .ok (.iload_n 3, 1) := by decide +kernel
theorem dX6_carryOut_70 : decode cX6_carryOut 70 = .ok (.aload_n 0, 1) := by decide +kernel
theorem dX6_carryOut_71 : decode cX6_carryOut 71 = .ok (.getfield 10, 3) := by decide +kernel
theorem dX6_carryOut_74 : decode cX6_carryOut 74 = .ok (.getfield 185, 3) := by decide +kernel
theorem dX6_carryOut_77 : decode cX6_carryOut 77 = .ok (.invokevirtual 232, 3) := by decide +kernel
theorem dX6_carryOut_80 : decode cX6_carryOut 80 = .ok (.ireturn, 1) := by decide +kernel
theorem dX6_carryOut_81 : decode cX6_carryOut 81 = .ok (.aload_n 0, 1) := by decide +kernel
theorem dX6_carryOut_82 : decode cX6_carryOut 82 = .ok (.getfield 10, 3) := by decide +kernel
theorem dX6_carryOut_85 : decode cX6_carryOut 85 = .ok (.iload_n 2, 1) := by decide +kernel
theorem dX6_carryOut_86 : decode cX6_carryOut 86 = .ok (.iload_n 3, 1) := by decide +kernel
theorem dX6_carryOut_87 : decode cX6_carryOut 87 = .ok (.iload 4, 2) := by decide +kernel
theorem dX6_carryOut_89 : decode cX6_carryOut 89 = .ok (.invokevirtual 232, 3) := by decide +kernel
theorem dX6_carryOut_92 : decode cX6_carryOut 92 = .ok (.ireturn, 1) := by decide +kernel
theorem dX6_carryOut_93 : decode cX6_carryOut 93 = .ok (.aload_n 0, 1) := by decide +kernel
theorem dX6_carryOut_94 : decode cX6_carryOut 94 = .ok (.getfield 10, 3) := by decide +kernel
theorem dX6_carryOut_97 : decode cX6_carryOut 97 = .ok (.iload_n 2, 1) := by decide +kernel
theorem dX6_carryOut_98 : decode cX6_carryOut 98 = .ok (.invokevirtual 235, 3) := by decide +kernel
theorem dX6_carryOut_101 : decode cX6_carryOut 101 = .ok (.ireturn, 1) := by decide +kernel
theorem dX6_carryOut_102 : decode cX6_carryOut 102 = .ok (.aload_n 0, 1) := by decide +kernel
theorem dX6_carryOut_103 : decode cX6_carryOut 103 = .ok (.getfield 10, 3) := by decide +kernel
theorem dX6_carryOut_106 : decode cX6_carryOut 106 = .ok (.aload_n 0, 1) := by decide +kernel
theorem dX6_carryOut_107 : decode cX6_carryOut 107 = .ok (.getfield 10, 3) := by decide +kernel
theorem dX6_carryOut_110 : decode cX6_carryOut 110 = .ok (.iload_n 2, 1) := by decide +kernel
theorem dX6_carryOut_111 : decode cX6_carryOut 111 = .ok (.invokevirtual 89, 3) := by decide +kernel
theorem dX6_carryOut_114 : decode cX6_carryOut 114 = .ok (.iload_n 3, 1) := by decide +kernel
theorem dX6_carryOut_115 : decode cX6_carryOut 115 = .ok (.invokevirtual 238, 3) := by decide +kernel
theorem dX6_carryOut_118 : decode cX6_carryOut 118 = .ok (.ireturn, 1) := by decide +kernel
theorem dX6_carryOut_119 : decode cX6_carryOut 119 = .ok (.aload_n 0, 1) := by decide +kernel
theorem dX6_carryOut_120 : decode cX6_carryOut 120 = .ok (.getfield 10, 3) := by decide +kernel
theorem dX6_carryOut_123 : decode cX6_carryOut 123 = .ok (.aload_n 0, 1) := by decide +kernel
theorem dX6_carryOut_124 : decode cX6_carryOut 124 = .ok (.getfield 10, 3) := by decide +kernel
theorem dX6_carryOut_127 : decode cX6_carryOut 127 = .ok (.iload_n 2, 1) := by decide +kernel
theorem dX6_carryOut_128 : decode cX6_carryOut 128 = .ok (.invokevirtual 89, 3) := by decide +kernel
theorem dX6_carryOut_131 : decode cX6_carryOut 131 = .ok (.iload_n 3, 1) := by decide +kernel
theorem dX6_carryOut_132 : decode cX6_carryOut 132 = .ok (.invokevirtual 241, 3) := by decide +kernel
theorem dX6_carryOut_135 : decode cX6_carryOut 135 = .ok (.ireturn, 1) := by decide +kernel
theorem dX6_carryOut_136 : decode cX6_carryOut 136 = .ok (.aload_n 0, 1) := by decide +kernel
theorem dX6_carryOut_137 : decode cX6_carryOut 137 = .ok (.getfield 10, 3) := by decide +kernel
theorem dX6_carryOut_140 : decode cX6_carryOut 140 = .ok (.aload_n 0, 1) := by decide +kernel
theorem dX6_carryOut_141 : decode cX6_carryOut 141 = .ok (.getfield 10, 3) := by decide +kernel
theorem dX6_carryOut_144 : decode cX6_carryOut 144 = .ok (.iload_n 2, 1) := by decide +kernel
theorem dX6_carryOut_145 : decode cX6_carryOut 145 = .ok (.invokevirtual 89, 3) := by decide +kernel
theorem dX6_carryOut_148 : decode cX6_carryOut 148 = .ok (.invokevirtual 244, 3) := by decide +kernel
theorem dX6_carryOut_151 : decode cX6_carryOut 151 = .ok (.ireturn, 1) := by decide +kernel
theorem dX6_carryOut_152 : decode cX6_carryOut 152 = .ok (.aload_n 0, 1) := by decide +kernel
theorem dX6_carryOut_153 : decode cX6_carryOut 153 = .ok (.getfield 10, 3) := by decide +kernel
theorem dX6_carryOut_156 : decode cX6_carryOut 156 = .ok (.iload_n 2, 1) := by decide +kernel
theorem dX6_carryOut_157 : decode cX6_carryOut 157 = .ok (.invokevirtual 247, 3) := by decide +kernel
theorem dX6_carryOut_160 : decode cX6_carryOut 160 = .ok (.ireturn, 1) := by decide +kernel
theorem dX6_carryOut_161 : decode cX6_carryOut 161 = .ok (.aload_n 0, 1) := by decide +kernel
theorem dX6_carryOut_162 : decode cX6_carryOut 162 = .ok (.getfield 10, 3) := by decide +kernel
theorem dX6_carryOut_165 : decode cX6_carryOut 165 = .ok (.iload_n 2, 1) := by decide +kernel
theorem dX6_carryOut_166 : decode cX6_carryOut 166 = .ok (.iconst 1, 1) := by decide +kernel
theorem dX6_carryOut_167 : decode cX6_carryOut 167 = .ok (.invokevirtual 250, 3) := by decide +kernel
theorem dX6_carryOut_170 : decode cX6_carryOut 170 = .ok (.ireturn, 1) := by decide +kernel
theorem dX6_carryOut_171 : decode cX6_carryOut 171 = .ok (.aload_n 0, 1) := by decide +kernel
theorem dX6_carryOut_172 : decode cX6_carryOut 172 = .ok (.getfield 10, 3) := by decide +kernel
theorem dX6_carryOut_175 : decode cX6_carryOut 175 = .ok (.iload_n 2, 1) := by decide +kernel
theorem dX6_carryOut_176 : decode cX6_carryOut 176 = .ok (.iconst 0, 1) := by decide +kernel
theorem dX6_carryOut_177 : decode cX6_carryOut 177 = .ok (.invokevirtual 250, 3) := by decide +kernel
theorem dX6_carryOut_180 : decode cX6_carryOut 180 = .ok (.ireturn, 1) := by decide +kernel
theorem dX6_carryOut_181 : decode cX6_carryOut 181 = .ok (.aload_n 0, 1) := by decide +kernel
theorem dX6_carryOut_182 : decode cX6_carryOut 182 = .ok (.getfield 10, 3) := by decide +kernel
theorem dX6_carryOut_185 : decode cX6_carryOut 185 = .ok (.invokevirtual 253, 3) := by decide +kernel
theorem dX6_carryOut_188 : decode cX6_carryOut 188 = .ok (.ireturn, 1) := by decide +kernel
theorem dX6_carryOut_189 : decode cX6_carryOut 189 = .ok (.aload_n 0, 1) := by decide +kernel
theorem dX6_carryOut_190 : decode cX6_carryOut 190 = .ok (.getfield 10, 3) := by decide +kernel
theorem dX6_carryOut_193 : decode cX6_carryOut 193 = .ok (.invokevirtual 126, 3) := by decide +kernel
theorem dX6_carryOut_196 : decode cX6_carryOut 196 = .ok (.ireturn, 1) := by decide +kernel
theorem dX6_joinFault_0 : decode cX6_joinFault 0 = .ok (.iload_n 1, 1) := by decide +kernel
theorem dX6_joinFault_1 : decode cX6_joinFault 1 = .ok (.iconst 0, 1) := by decide +kernel
theorem dX6_joinFault_2 : decode cX6_joinFault 2 = .ok (.bipush 99, 2) := by decide +kernel
theorem dX6_joinFault_4 : decode cX6_joinFault 4 = .ok (.invokestatic 55, 3) := by decide +kernel
theorem dX6_joinFault_7 : decode cX6_joinFault 7 = .ok (.ifCond .eq 28, 3) := by decide +kernel
theorem dX6_joinFault_10 : decode cX6_joinFault 10 = .ok (.iload_n 2, 1) := by decide +kernel
theorem dX6_joinFault_11 : decode cX6_joinFault 11 = .ok (.iconst 1, 1) := by decide +kernel
theorem dX6_joinFault_12 : decode cX6_joinFault 12 = .ok (.bipush 30, 2) := by decide +kernel
theorem dX6_joinFault_14 : decode cX6_joinFault 14 = .ok (.invokestatic 55, 3) := by decide +kernel
theorem dX6_joinFault_17 : decode cX6_joinFault 17 = .ok (.ifCond .eq 18, 3) := by decide +kernel
theorem dX6_joinFault_20 : decode cX6_joinFault 20 = .ok (.iload_n 3, 1) := by decide +kernel
theorem dX6_joinFault_21 : decode cX6_joinFault 21 = .ok (.iconst 0, 1) := by decide +kernel
theorem dX6_joinFault_22 : decode cX6_joinFault 22 = .ok (.aload_n 0, 1) := by decide +kernel
theorem dX6_joinFault_23 : decode cX6_joinFault 23 = .ok (.getfield 10, 3) := by decide +kernel
theorem dX6_joinFault_26 : decode cX6_joinFault 26 = .ok (.getfield 185, 3) := by decide +kernel
theorem dX6_joinFault_29 : decode cX6_joinFault 29 = .ok (.invokestatic 55, 3) := by decide +kernel
theorem dX6_joinFault_32 : decode cX6_joinFault 32 = .ok (.ifCond .ne 5, 3) := by decide +kernel
theorem dX6_joinFault_35 : decode cX6_joinFault 35 = .ok (.iconst 2, 1) := by decide +kernel
theorem dX6_joinFault_36 : decode cX6_joinFault 36 = .ok (.ireturn, 1) := by decide +kernel
theorem dX6_joinFault_37 : decode cX6_joinFault 37 = .ok (.aload_n 0, 1) := by decide +kernel
theorem dX6_joinFault_38 : decode cX6_joinFault 38 = .ok (.getfield 10, 3) := by decide +kernel
theorem dX6_joinFault_41 : decode cX6_joinFault 41 = .ok (.iload_n 3, 1) := by decide +kernel
theorem dX6_joinFault_42 : decode cX6_joinFault 42 = .ok (.invokevirtual 101, 3) := by decide +kernel
theorem dX6_joinFault_45 : decode cX6_joinFault 45 = .ok (.getfield 256, 3) := by decide +kernel
theorem dX6_joinFault_48 : decode cX6_joinFault 48 = .ok (.istore 4, 2) := by decide +kernel
theorem dX6_joinFault_50 : decode cX6_joinFault 50 = .ok (.aload_n 0, 1) := by decide +kernel
theorem dX6_joinFault_51 : decode cX6_joinFault 51 = .ok (.getfield 10, 3) := by decide +kernel
theorem dX6_joinFault_54 : decode cX6_joinFault 54 = .ok (.getfield 185, 3) := by decide +kernel
theorem dX6_joinFault_57 : decode cX6_joinFault 57 = .ok (.bipush 10, 2) := by decide +kernel
theorem dX6_joinFault_59 : decode cX6_joinFault 59 = .ok (.if_icmp .ge 8, 3) := by decide +kernel
theorem dX6_joinFault_62 : decode cX6_joinFault 62 = .ok (.iload 4, 2) := by decide +kernel
theorem dX6_joinFault_64 : decode cX6_joinFault 64 = .ok (.ifCond .eq 7, 3) := by decide +kernel
theorem dX6_joinFault_67 : decode cX6_joinFault 67 = .ok (.iconst 3, 1) := by decide +kernel
theorem dX6_joinFault_68 : decode cX6_joinFault 68 = .ok (.goto 4, 3) := by decide +kernel
theorem dX6_joinFault_71 : decode cX6_joinFault 71 = .ok (.iconst 0, 1) := by decide +kernel
theorem dX6_joinFault_72 : decode cX6_joinFault 72 = .ok (.ireturn, 1) := by decide +kernel
theorem dX6_offerFault_0 : decode cX6_offerFault 0 = .ok (.aload_n 0, 1) := by decide +kernel
theorem dX6_offerFault_1 : decode cX6_offerFault 1 = .ok (.iload_n 1, 1) := by decide +kernel
theorem dX6_offerFault_2 : decode cX6_offerFault 2 = .ok (.iload_n 2, 1) := by decide +kernel
theorem dX6_offerFault_3 : decode cX6_offerFault 3 = .ok (.iconst 0, 1) := by decide +kernel
theorem dX6_offerFault_4 : decode cX6_offerFault 4 = .ok (.sipush 9999, 3) := by decide +kernel
theorem dX6_offerFault_7 : decode cX6_offerFault 7 = .ok (.invokestatic 55, 3) := by decide +kernel
theorem dX6_offerFault_10 : decode cX6_offerFault 10 = .ok (.invokevirtual 93, 3) := by decide +kernel
theorem dX6_offerFault_13 : decode cX6_offerFault 13 = .ok (.istore_n 3, 1) := by decide +kernel
theorem dX6_offerFault_14 : decode cX6_offerFault 14 = .ok (.iload_n 3, 1) := by decide +kernel
theorem dX6_offerFault_15 : decode cX6_offerFault 15 = .ok (.ifCond .ne 11, 3) := by decide +kernel
theorem dX6_offerFault_18 : decode cX6_offerFault 18 = .ok (.iload_n 1, 1) := by decide +kernel
theorem dX6_offerFault_19 : decode cX6_offerFault 19 = .ok (.ifCond .ne 7, 3) := by decide +kernel
theorem dX6_offerFault_22 : decode cX6_offerFault 22 = .ok (.iconst 3, 1) := by decide +kernel
theorem dX6_offerFault_23 : decode cX6_offerFault 23 = .ok (.goto 4, 3) := by decide +kernel
theorem dX6_offerFault_26 : decode cX6_offerFault 26 = .ok (.iload_n 3, 1) := by decide +kernel
theorem dX6_offerFault_27 : decode cX6_offerFault 27 = .ok (.ireturn, 1) := by decide +kernel
theorem dX6_takeFault_0 : decode cX6_takeFault 0 = .ok (.aload_n 0, 1) := by decide +kernel
theorem dX6_takeFault_1 : decode cX6_takeFault 1 = .ok (.iload_n 1, 1) := by decide +kernel
theorem dX6_takeFault_2 : decode cX6_takeFault 2 = .ok (.iconst 1, 1) := by decide +kernel
theorem dX6_takeFault_3 : decode cX6_takeFault 3 = .ok (.invokevirtual 93, 3) := by decide +kernel
theorem dX6_takeFault_6 : decode cX6_takeFault 6 = .ok (.istore_n 2, 1) := by decide +kernel
theorem dX6_takeFault_7 : decode cX6_takeFault 7 = .ok (.iload_n 2, 1) := by decide +kernel
theorem dX6_takeFault_8 : decode cX6_takeFault 8 = .ok (.ifCond .ne 18, 3) := by decide +kernel
theorem dX6_takeFault_11 : decode cX6_takeFault 11 = .ok (.aload_n 0, 1) := by decide +kernel
theorem dX6_takeFault_12 : decode cX6_takeFault 12 = .ok (.getfield 10, 3) := by decide +kernel
theorem dX6_takeFault_15 : decode cX6_takeFault 15 = .ok (.iload_n 1, 1) := by decide +kernel
theorem dX6_takeFault_16 : decode cX6_takeFault 16 = .ok (.invokevirtual 260, 3) := by decide +kernel
theorem dX6_takeFault_19 : decode cX6_takeFault 19 = .ok (.ifCond .ne 7, 3) := by decide +kernel
theorem dX6_takeFault_22 : decode cX6_takeFault 22 = .ok (.iconst 3, 1) := by decide +kernel
theorem dX6_takeFault_23 : decode cX6_takeFault 23 = .ok (.goto 4, 3) := by decide +kernel
theorem dX6_takeFault_26 : decode cX6_takeFault 26 = .ok (.iload_n 2, 1) := by decide +kernel
theorem dX6_takeFault_27 : decode cX6_takeFault 27 = .ok (.ireturn, 1) := by decide +kernel
theorem dX6_memberFault_0 : decode cX6_memberFault 0 = .ok (.iload_n 1, 1) := by decide +kernel
theorem dX6_memberFault_1 : decode cX6_memberFault 1 = .ok (.iconst (-1), 1) := by decide +kernel
theorem dX6_memberFault_2 : decode cX6_memberFault 2 = .ok (.if_icmp .ne 5, 3) := by decide +kernel
theorem dX6_memberFault_5 : decode cX6_memberFault 5 = .ok (.iconst 1, 1) := by decide +kernel
theorem dX6_memberFault_6 : decode cX6_memberFault 6 = .ok (.ireturn, 1) := by decide +kernel
theorem dX6_memberFault_7 : decode cX6_memberFault 7 = .ok (.iload_n 2, 1) := by decide +kernel
theorem dX6_memberFault_8 : decode cX6_memberFault 8 = .ok (.ifCond .eq 7, 3) := by decide +kernel
theorem dX6_memberFault_11 : decode cX6_memberFault 11 = .ok (.iconst 0, 1) := by decide +kernel
theorem dX6_memberFault_12 : decode cX6_memberFault 12 = .ok (.goto 4, 3) := by decide +kernel
theorem dX6_memberFault_15 : decode cX6_memberFault 15 = .ok (.iconst 2, 1) := by decide +kernel
theorem dX6_memberFault_16 : decode cX6_memberFault 16 = .ok (.ireturn, 1) := by decide +kernel
theorem dX6_pairFault_0 : decode cX6_pairFault 0 = .ok (.iload_n 1, 1) := by decide +kernel
theorem dX6_pairFault_1 : decode cX6_pairFault 1 = .ok (.iconst 0, 1) := by decide +kernel
theorem dX6_pairFault_2 : decode cX6_pairFault 2 = .ok (.aload_n 0, 1) := by decide +kernel
theorem dX6_pairFault_3 : decode cX6_pairFault 3 = .ok (.getfield 10, 3) := by decide +kernel
theorem dX6_pairFault_6 : decode cX6_pairFault 6 = .ok (.getfield 185, 3) := by decide +kernel
theorem dX6_pairFault_9 : decode cX6_pairFault 9 = .ok (.iconst 2, 1) := by decide +kernel
theorem dX6_pairFault_10 : decode cX6_pairFault 10 = .ok (.isub, 1) := by decide +kernel
theorem dX6_pairFault_11 : decode cX6_pairFault 11 = .ok (.invokestatic 55, 3) := by decide +kernel
theorem dX6_pairFault_14 : decode cX6_pairFault 14 = .ok (.ifCond .ne 5, 3) := by decide +kernel
theorem dX6_pairFault_17 : decode cX6_pairFault 17 = .ok (.iconst 1, 1) := by decide +kernel
theorem dX6_pairFault_18 : decode cX6_pairFault 18 = .ok (.ireturn, 1) := by decide +kernel
theorem dX6_pairFault_19 : decode cX6_pairFault 19 = .ok (.iload_n 2, 1) := by decide +kernel
theorem dX6_pairFault_20 : decode cX6_pairFault 20 = .ok (.ifCond .eq 7, 3) := by decide +kernel
theorem dX6_pairFault_23 : decode cX6_pairFault 23 = .ok (.iconst 0, 1) := by decide +kernel
theorem dX6_pairFault_24 : decode cX6_pairFault 24 = .ok (.goto 4, 3) := by decide +kernel
theorem dX6_pairFault_27 : decode cX6_pairFault 27 = .ok (.iload_n 3, 1) := by decide +kernel
theorem dX6_pairFault_28 : decode cX6_pairFault 28 = .ok (.ireturn, 1) := by decide +kernel
theorem dX6_isWithin_0 : decode cX6_isWithin 0 = .ok (.iload_n 0, 1) := by decide +kernel
theorem dX6_isWithin_1 : decode cX6_isWithin 1 = .ok (.iload_n 1, 1) := by decide +kernel
theorem dX6_isWithin_2 : decode cX6_isWithin 2 = .ok (.if_icmp .lt 12, 3) := by decide +kernel
theorem dX6_isWithin_5 : decode cX6_isWithin 5 = .ok (.iload_n 0, 1) := by decide +kernel
theorem dX6_isWithin_6 : decode cX6_isWithin 6 = .ok (.iload_n 2, 1) := by decide +kernel
theorem dX6_isWithin_7 : decode cX6_isWithin 7 = .ok (.if_icmp .gt 7, 3) := by decide +kernel
theorem dX6_isWithin_10 : decode cX6_isWithin 10 = .ok (.iconst 1, 1) := by decide +kernel
theorem dX6_isWithin_11 : decode cX6_isWithin 11 = .ok (.goto 4, 3) := by decide +kernel
theorem dX6_isWithin_14 : decode cX6_isWithin 14 = .ok (.iconst 0, 1) := by decide +kernel
theorem dX6_isWithin_15 : decode cX6_isWithin 15 = .ok (.ireturn, 1) := by decide +kernel
theorem dX6_refuse_0 : decode cX6_refuse 0 = .ok (.iload_n 0, 1) := by decide +kernel
theorem dX6_refuse_1 : decode cX6_refuse 1 = .ok (.iconst 1, 1) := by decide +kernel
theorem dX6_refuse_2 : decode cX6_refuse 2 = .ok (.if_icmp .ne 14, 3) := by decide +kernel
theorem dX6_refuse_5 : decode cX6_refuse 5 = .ok (.new 263, 3) := by decide +kernel
theorem dX6_refuse_8 : decode cX6_refuse 8 = .ok (.dup, 1) := by decide +kernel
theorem dX6_refuse_9 : decode cX6_refuse 9 = .ok (.ldc_w 265, 3) := by decide +kernel
theorem dX6_refuse_12 : decode cX6_refuse 12 = .ok (.invokespecial 267, 3) := by decide +kernel
theorem dX6_refuse_15 : decode cX6_refuse 15 = .ok (.athrow, 1) := by decide +kernel
theorem dX6_refuse_16 : decode cX6_refuse 16 = .ok (.iload_n 0, 1) := by decide +kernel
theorem dX6_refuse_17 : decode cX6_refuse 17 = .ok (.iconst 2, 1) := by decide +kernel
theorem dX6_refuse_18 : decode cX6_refuse 18 = .ok (.if_icmp .ne 14, 3) := by decide +kernel
theorem dX6_refuse_21 : decode cX6_refuse 21 = .ok (.new 270, 3) := by decide +kernel
theorem dX6_refuse_24 : decode cX6_refuse 24 = .ok (.dup, 1) := by decide +kernel
theorem dX6_refuse_25 : decode cX6_refuse 25 = .ok (.ldc_w 272, 3) := by decide +kernel
theorem dX6_refuse_28 : decode cX6_refuse 28 = .ok (.invokespecial 274, 3) := by decide +kernel
theorem dX6_refuse_31 : decode cX6_refuse 31 = .ok (.athrow, 1) := by decide +kernel
theorem dX6_refuse_32 : decode cX6_refuse 32 = .ok (.iload_n 0, 1) := by decide +kernel
theorem dX6_refuse_33 : decode cX6_refuse 33 = .ok (.iconst 3, 1) := by decide +kernel
theorem dX6_refuse_34 : decode cX6_refuse 34 = .ok (.if_icmp .ne 14, 3) := by decide +kernel
theorem dX6_refuse_37 : decode cX6_refuse 37 = .ok (.new 275, 3) := by decide +kernel
theorem dX6_refuse_40 : decode cX6_refuse 40 = .ok (.dup, 1) := by decide +kernel
theorem dX6_refuse_41 : decode cX6_refuse 41 = .ok (.ldc_w 277, 3) := by decide +kernel
theorem dX6_refuse_44 : decode cX6_refuse 44 = .ok (.invokespecial 279, 3) := by decide +kernel
theorem dX6_refuse_47 : decode cX6_refuse 47 = .ok (.athrow, 1) := by decide +kernel
theorem dX6_refuse_48 : decode cX6_refuse 48 = .ok (.return_, 1) := by decide +kernel
theorem dJx29ce0_ordinal_8abf5_0 : decode cJx29ce0_ordinal_8abf5 0 = .ok (.aload_n 0, 1) := by decide +kernel
theorem dJx29ce0_ordinal_8abf5_1 : decode cJx29ce0_ordinal_8abf5 1 = .ok (.getfield 7, 3) := by decide +kernel
theorem dJx29ce0_ordinal_8abf5_4 : decode cJx29ce0_ordinal_8abf5 4 = .ok (.ireturn, 1) := by decide +kernel
theorem dJ9_min_7cf53_0 : decode cJ9_min_7cf53 0 = .ok (.iload_n 0, 1) := by decide +kernel
theorem dJ9_min_7cf53_1 : decode cJ9_min_7cf53 1 = .ok (.iload_n 1, 1) := by decide +kernel
theorem dJ9_min_7cf53_2 : decode cJ9_min_7cf53 2 = .ok (.if_icmp .gt 7, 3) := by decide +kernel
theorem dJ9_min_7cf53_5 : decode cJ9_min_7cf53 5 = .ok (.iload_n 0, 1) := by decide +kernel
theorem dJ9_min_7cf53_6 : decode cJ9_min_7cf53 6 = .ok (.goto 4, 3) := by decide +kernel
theorem dJ9_min_7cf53_9 : decode cJ9_min_7cf53 9 = .ok (.iload_n 1, 1) := by decide +kernel
theorem dJ9_min_7cf53_10 : decode cJ9_min_7cf53 10 = .ok (.ireturn, 1) := by decide +kernel
theorem dJ0_length_8abf5_0 : decode cJ0_length_8abf5 0 = .ok (.aload_n 0, 1) := by decide +kernel
theorem dJ0_length_8abf5_1 : decode cJ0_length_8abf5 1 = .ok (.getfield 9, 3) := by decide +kernel
theorem dJ0_length_8abf5_4 : decode cJ0_length_8abf5 4 = .ok (.arraylength, 1) := by decide +kernel
theorem dJ0_length_8abf5_5 : decode cJ0_length_8abf5 5 = .ok (.aload_n 0, 1) := by decide +kernel
theorem dJ0_length_8abf5_6 : decode cJ0_length_8abf5 6 = .ok (.invokevirtual 335, 3) := by decide +kernel
theorem dJ0_length_8abf5_9 : decode cJ0_length_8abf5 9 = .ok (.ishr, 1) := by decide +kernel
theorem dJ0_length_8abf5_10 : decode cJ0_length_8abf5 10 = .ok (.ireturn, 1) := by decide +kernel
theorem dJ0_charAt_5068e_0 : decode cJ0_charAt_5068e 0 = .ok (.aload_n 0, 1) := by decide +kernel
theorem dJ0_charAt_5068e_1 : decode cJ0_charAt_5068e 1 = .ok (.invokevirtual 492, 3) := by decide +kernel
theorem dJ0_charAt_5068e_4 : decode cJ0_charAt_5068e 4 = .ok (.ifCond .eq 12, 3) := by decide +kernel
theorem dJ0_charAt_5068e_7 : decode cJ0_charAt_5068e 7 = .ok (.aload_n 0, 1) := by decide +kernel
theorem dJ0_charAt_5068e_8 : decode cJ0_charAt_5068e 8 = .ok (.getfield 9, 3) := by decide +kernel
theorem dJ0_charAt_5068e_11 : decode cJ0_charAt_5068e 11 = .ok (.iload_n 1, 1) := by decide +kernel
theorem dJ0_charAt_5068e_12 : decode cJ0_charAt_5068e 12 = .ok (.invokestatic 495, 3) := by decide +kernel
theorem dJ0_charAt_5068e_15 : decode cJ0_charAt_5068e 15 = .ok (.ireturn, 1) := by decide +kernel
theorem dJ0_charAt_5068e_16 : decode cJ0_charAt_5068e 16 = .ok (.aload_n 0, 1) := by decide +kernel
theorem dJ0_charAt_5068e_17 : decode cJ0_charAt_5068e 17 = .ok (.getfield 9, 3) := by decide +kernel
theorem dJ0_charAt_5068e_20 : decode cJ0_charAt_5068e 20 = .ok (.iload_n 1, 1) := by decide +kernel
theorem dJ0_charAt_5068e_21 : decode cJ0_charAt_5068e 21 = .ok (.invokestatic 498, 3) := by decide +kernel
theorem dJ0_charAt_5068e_24 : decode cJ0_charAt_5068e 24 = .ok (.ireturn, 1) := by decide +kernel
theorem dJ0_coder_7d493_0 : decode cJ0_coder_7d493 0 = .ok (.getstatic 38, 3) := by decide +kernel
theorem dJ0_coder_7d493_3 : decode cJ0_coder_7d493 3 = .ok (.ifCond .eq 10, 3) := by decide +kernel
theorem dJ0_coder_7d493_6 : decode cJ0_coder_7d493 6 = .ok (.aload_n 0, 1) := by decide +kernel
theorem dJ0_coder_7d493_7 : decode cJ0_coder_7d493 7 = .ok (.getfield 15, 3) := by decide +kernel
theorem dJ0_coder_7d493_10 : decode cJ0_coder_7d493 10 = .ok (.goto 4, 3) := by decide +kernel
theorem dJ0_coder_7d493_13 : decode cJ0_coder_7d493 13 = .ok (.iconst 1, 1) := by decide +kernel
theorem dJ0_coder_7d493_14 : decode cJ0_coder_7d493 14 = .ok (.ireturn, 1) := by decide +kernel
theorem dJ0_isLatin1_aae02_0 : decode cJ0_isLatin1_aae02 0 = .ok (.getstatic 38, 3) := by decide +kernel
theorem dJ0_isLatin1_aae02_3 : decode cJ0_isLatin1_aae02 3 = .ok (.ifCond .eq 14, 3) := by decide +kernel
theorem dJ0_isLatin1_aae02_6 : decode cJ0_isLatin1_aae02 6 = .ok (.aload_n 0, 1) := by decide +kernel
theorem dJ0_isLatin1_aae02_7 : decode cJ0_isLatin1_aae02 7 = .ok (.getfield 15, 3) := by decide +kernel
theorem dJ0_isLatin1_aae02_10 : decode cJ0_isLatin1_aae02 10 = .ok (.ifCond .ne 7, 3) := by decide +kernel
theorem dJ0_isLatin1_aae02_13 : decode cJ0_isLatin1_aae02 13 = .ok (.iconst 1, 1) := by decide +kernel
theorem dJ0_isLatin1_aae02_14 : decode cJ0_isLatin1_aae02 14 = .ok (.goto 4, 3) := by decide +kernel
theorem dJ0_isLatin1_aae02_17 : decode cJ0_isLatin1_aae02 17 = .ok (.iconst 0, 1) := by decide +kernel
theorem dJ0_isLatin1_aae02_18 : decode cJ0_isLatin1_aae02 18 = .ok (.ireturn, 1) := by decide +kernel
theorem dJ0_checkIndex_df160_0 : decode cJ0_checkIndex_df160 0 = .ok (.iload_n 0, 1) := by decide +kernel
theorem dJ0_checkIndex_df160_1 : decode cJ0_checkIndex_df160 1 = .ok (.iload_n 1, 1) := by decide +kernel
theorem dJ0_checkIndex_df160_2 : decode cJ0_checkIndex_df160 2 = .ok (.getstatic 1053, 3) := by decide +kernel
theorem dJ0_checkIndex_df160_5 : decode cJ0_checkIndex_df160 5 = .ok (.invokestatic 1059, 3) := by decide +kernel
theorem dJ0_checkIndex_df160_8 : decode cJ0_checkIndex_df160 8 = .ok (.pop, 1) := by decide +kernel
theorem dJ0_checkIndex_df160_9 : decode cJ0_checkIndex_df160 9 = .ok (.return_, 1) := by decide +kernel
theorem dJ1_charAt_3b067_0 : decode cJ1_charAt_3b067 0 = .ok (.iload_n 1, 1) := by decide +kernel
theorem dJ1_charAt_3b067_1 : decode cJ1_charAt_3b067 1 = .ok (.aload_n 0, 1) := by decide +kernel
theorem dJ1_charAt_3b067_2 : decode cJ1_charAt_3b067 2 = .ok (.arraylength, 1) := by decide +kernel
theorem dJ1_charAt_3b067_3 : decode cJ1_charAt_3b067 3 = .ok (.invokestatic 9, 3) := by decide +kernel
theorem dJ1_charAt_3b067_6 : decode cJ1_charAt_3b067 6 = .ok (.aload_n 0, 1) := by decide +kernel
theorem dJ1_charAt_3b067_7 : decode cJ1_charAt_3b067 7 = .ok (.iload_n 1, 1) := by decide +kernel
theorem dJ1_charAt_3b067_8 : decode cJ1_charAt_3b067 8 = .ok (.baload, 1) := by decide +kernel
theorem dJ1_charAt_3b067_9 : decode cJ1_charAt_3b067 9 = .ok (.sipush 255, 3) := by decide +kernel
theorem dJ1_charAt_3b067_12 : decode cJ1_charAt_3b067 12 = .ok (.iand, 1) := by decide +kernel
theorem dJ1_charAt_3b067_13 : decode cJ1_charAt_3b067 13 = .ok (.i2c, 1) := by decide +kernel
theorem dJ1_charAt_3b067_14 : decode cJ1_charAt_3b067 14 = .ok (.ireturn, 1) := by decide +kernel
theorem dJ2_getChar_3b067_0 : decode cJ2_getChar_3b067 0 = .ok (.getstatic 44, 3) := by decide +kernel
theorem dJ2_getChar_3b067_3 : decode cJ2_getChar_3b067 3 = .ok (.ifCond .ne 25, 3) := by decide +kernel
theorem dJ2_getChar_3b067_6 : decode cJ2_getChar_3b067 6 = .ok (.iload_n 1, 1) := by decide +kernel
theorem dJ2_getChar_3b067_7 : decode cJ2_getChar_3b067 7 = .ok (.ifCond .lt 11, 3) := by decide +kernel
theorem dJ2_getChar_3b067_10 : decode cJ2_getChar_3b067 10 = .ok (.iload_n 1, 1) := by decide +kernel
theorem dJ2_getChar_3b067_11 : decode cJ2_getChar_3b067 11 = .ok (.aload_n 0, 1) := by decide +kernel
theorem dJ2_getChar_3b067_12 : decode cJ2_getChar_3b067 12 = .ok (.invokestatic 48, 3) := by decide +kernel
theorem dJ2_getChar_3b067_15 : decode cJ2_getChar_3b067 15 = .ok (.if_icmp .lt 13, 3) := by decide +kernel
theorem dJ2_getChar_3b067_18 : decode cJ2_getChar_3b067 18 = .ok (.new 52, 3) := by decide +kernel
theorem dJ2_getChar_3b067_21 : decode cJ2_getChar_3b067 21 = .ok (.dup, 1) := by decide +kernel
theorem dJ2_getChar_3b067_22 : decode cJ2_getChar_3b067 22 = .ok (.ldc 54, 2) := by decide +kernel
theorem dJ2_getChar_3b067_24 : decode cJ2_getChar_3b067 24 = .ok (.invokespecial 56, 3) := by decide +kernel
theorem dJ2_getChar_3b067_27 : decode cJ2_getChar_3b067 27 = .ok (.athrow, 1) := by decide +kernel
theorem dJ2_getChar_3b067_28 : decode cJ2_getChar_3b067 28 = .ok (.iload_n 1, 1) := by decide +kernel
theorem dJ2_getChar_3b067_29 : decode cJ2_getChar_3b067 29 = .ok (.iconst 1, 1) := by decide +kernel
theorem dJ2_getChar_3b067_30 : decode cJ2_getChar_3b067 30 = .ok (.ishl, 1) := by decide +kernel
theorem dJ2_getChar_3b067_31 : decode cJ2_getChar_3b067 31 = .ok (.istore_n 1, 1) := by decide +kernel
theorem dJ2_getChar_3b067_32 : decode cJ2_getChar_3b067 32 = .ok (.aload_n 0, 1) := by decide +kernel
theorem dJ2_getChar_3b067_33 : decode cJ2_getChar_3b067 33 = .ok (.iload_n 1, 1) := by decide +kernel
theorem dJ2_getChar_3b067_34 : decode cJ2_getChar_3b067 34 = .ok (.iinc 1 1, 3) := by decide +kernel
theorem dJ2_getChar_3b067_37 : decode cJ2_getChar_3b067 37 = .ok (.baload, 1) := by decide +kernel
theorem dJ2_getChar_3b067_38 : decode cJ2_getChar_3b067 38 = .ok (.sipush 255, 3) := by decide +kernel
theorem dJ2_getChar_3b067_41 : decode cJ2_getChar_3b067 41 = .ok (.iand, 1) := by decide +kernel
theorem dJ2_getChar_3b067_42 : decode cJ2_getChar_3b067 42 = .ok (.getstatic 59, 3) := by decide +kernel
theorem dJ2_getChar_3b067_45 : decode cJ2_getChar_3b067 45 = .ok (.ishl, 1) := by decide +kernel
theorem dJ2_getChar_3b067_46 : decode cJ2_getChar_3b067 46 = .ok (.aload_n 0, 1) := by decide +kernel
theorem dJ2_getChar_3b067_47 : decode cJ2_getChar_3b067 47 = .ok (.iload_n 1, 1) := by decide +kernel
theorem dJ2_getChar_3b067_48 : decode cJ2_getChar_3b067 48 = .ok (.baload, 1) := by decide +kernel
theorem dJ2_getChar_3b067_49 : decode cJ2_getChar_3b067 49 = .ok (.sipush 255, 3) := by decide +kernel
theorem dJ2_getChar_3b067_52 : decode cJ2_getChar_3b067 52 = .ok (.iand, 1) := by decide +kernel
theorem dJ2_getChar_3b067_53 : decode cJ2_getChar_3b067 53 = .ok (.getstatic 63, 3) := by decide +kernel
theorem dJ2_getChar_3b067_56 : decode cJ2_getChar_3b067 56 = .ok (.ishl, 1) := by decide +kernel
theorem dJ2_getChar_3b067_57 : decode cJ2_getChar_3b067 57 = .ok (.ior, 1) := by decide +kernel
theorem dJ2_getChar_3b067_58 : decode cJ2_getChar_3b067 58 = .ok (.i2c, 1) := by decide +kernel
theorem dJ2_getChar_3b067_59 : decode cJ2_getChar_3b067 59 = .ok (.ireturn, 1) := by decide +kernel
theorem dJ2_length_9d52b_0 : decode cJ2_length_9d52b 0 = .ok (.aload_n 0, 1) := by decide +kernel
theorem dJ2_length_9d52b_1 : decode cJ2_length_9d52b 1 = .ok (.arraylength, 1) := by decide +kernel
theorem dJ2_length_9d52b_2 : decode cJ2_length_9d52b 2 = .ok (.iconst 1, 1) := by decide +kernel
theorem dJ2_length_9d52b_3 : decode cJ2_length_9d52b 3 = .ok (.ishr, 1) := by decide +kernel
theorem dJ2_length_9d52b_4 : decode cJ2_length_9d52b 4 = .ok (.ireturn, 1) := by decide +kernel
theorem dJ2_charAt_3b067_0 : decode cJ2_charAt_3b067 0 = .ok (.iload_n 1, 1) := by decide +kernel
theorem dJ2_charAt_3b067_1 : decode cJ2_charAt_3b067 1 = .ok (.aload_n 0, 1) := by decide +kernel
theorem dJ2_charAt_3b067_2 : decode cJ2_charAt_3b067 2 = .ok (.invokestatic 67, 3) := by decide +kernel
theorem dJ2_charAt_3b067_5 : decode cJ2_charAt_3b067 5 = .ok (.aload_n 0, 1) := by decide +kernel
theorem dJ2_charAt_3b067_6 : decode cJ2_charAt_3b067 6 = .ok (.iload_n 1, 1) := by decide +kernel
theorem dJ2_charAt_3b067_7 : decode cJ2_charAt_3b067 7 = .ok (.invokestatic 71, 3) := by decide +kernel
theorem dJ2_charAt_3b067_10 : decode cJ2_charAt_3b067 10 = .ok (.ireturn, 1) := by decide +kernel
theorem dJ2_checkIndex_2214a_0 : decode cJ2_checkIndex_2214a 0 = .ok (.iload_n 0, 1) := by decide +kernel
theorem dJ2_checkIndex_2214a_1 : decode cJ2_checkIndex_2214a 1 = .ok (.aload_n 1, 1) := by decide +kernel
theorem dJ2_checkIndex_2214a_2 : decode cJ2_checkIndex_2214a 2 = .ok (.invokestatic 48, 3) := by decide +kernel
theorem dJ2_checkIndex_2214a_5 : decode cJ2_checkIndex_2214a 5 = .ok (.invokestatic 414, 3) := by decide +kernel
theorem dJ2_checkIndex_2214a_8 : decode cJ2_checkIndex_2214a 8 = .ok (.return_, 1) := by decide +kernel
theorem dJ3_checkIndex_8e157_0 : decode cJ3_checkIndex_8e157 0 = .ok (.iload_n 0, 1) := by decide +kernel
theorem dJ3_checkIndex_8e157_1 : decode cJ3_checkIndex_8e157 1 = .ok (.ifCond .lt 8, 3) := by decide +kernel
theorem dJ3_checkIndex_8e157_4 : decode cJ3_checkIndex_8e157 4 = .ok (.iload_n 0, 1) := by decide +kernel
theorem dJ3_checkIndex_8e157_5 : decode cJ3_checkIndex_8e157 5 = .ok (.iload_n 1, 1) := by decide +kernel
theorem dJ3_checkIndex_8e157_6 : decode cJ3_checkIndex_8e157 6 = .ok (.if_icmp .lt 10, 3) := by decide +kernel
theorem dJ3_checkIndex_8e157_9 : decode cJ3_checkIndex_8e157 9 = .ok (.aload_n 2, 1) := by decide +kernel
theorem dJ3_checkIndex_8e157_10 : decode cJ3_checkIndex_8e157 10 = .ok (.iload_n 0, 1) := by decide +kernel
theorem dJ3_checkIndex_8e157_11 : decode cJ3_checkIndex_8e157 11 = .ok (.iload_n 1, 1) := by decide +kernel
theorem dJ3_checkIndex_8e157_12 : decode cJ3_checkIndex_8e157 12 = .ok (.invokestatic 95, 3) := by decide +kernel
theorem dJ3_checkIndex_8e157_15 : decode cJ3_checkIndex_8e157 15 = .ok (.athrow, 1) := by decide +kernel
theorem dJ3_checkIndex_8e157_16 : decode cJ3_checkIndex_8e157 16 = .ok (.iload_n 0, 1) := by decide +kernel
theorem dJ3_checkIndex_8e157_17 : decode cJ3_checkIndex_8e157 17 = .ok (.ireturn, 1) := by decide +kernel
theorem dL_cell_0 : decode cL_cell 0 = .ok (.iload_n 1, 1) := by decide +kernel
theorem dL_cell_1 : decode cL_cell 1 = .ok (.aload_n 0, 1) := by decide +kernel
theorem dL_cell_2 : decode cL_cell 2 = .ok (.arraylength, 1) := by decide +kernel
theorem dL_cell_3 : decode cL_cell 3 = .ok (.if_icmp .ge 9, 3) := by decide +kernel
theorem dL_cell_6 : decode cL_cell 6 = .ok (.aload_n 0, 1) := by decide +kernel
theorem dL_cell_7 : decode cL_cell 7 = .ok (.iload_n 1, 1) := by decide +kernel
theorem dL_cell_8 : decode cL_cell 8 = .ok (.iaload, 1) := by decide +kernel
theorem dL_cell_9 : decode cL_cell 9 = .ok (.goto 15, 3) := by decide +kernel
theorem dL_cell_12 : decode cL_cell 12 = .ok (.sipush 7919, 3) := by decide +kernel
theorem dL_cell_15 : decode cL_cell 15 = .ok (.iload_n 1, 1) := by decide +kernel
theorem dL_cell_16 : decode cL_cell 16 = .ok (.iconst 3, 1) := by decide +kernel
theorem dL_cell_17 : decode cL_cell 17 = .ok (.iadd, 1) := by decide +kernel
theorem dL_cell_18 : decode cL_cell 18 = .ok (.imul, 1) := by decide +kernel
theorem dL_cell_19 : decode cL_cell 19 = .ok (.iload_n 1, 1) := by decide +kernel
theorem dL_cell_20 : decode cL_cell 20 = .ok (.bipush 11, 2) := by decide +kernel
theorem dL_cell_22 : decode cL_cell 22 = .ok (.iadd, 1) := by decide +kernel
theorem dL_cell_23 : decode cL_cell 23 = .ok (.imul, 1) := by decide +kernel
theorem dL_cell_24 : decode cL_cell 24 = .ok (.ireturn, 1) := by decide +kernel
theorem dL_low_0 : decode cL_low 0 = .ok (.iload_n 0, 1) := by decide +kernel
theorem dL_low_1 : decode cL_low 1 = .ok (.ldc 7, 2) := by decide +kernel
theorem dL_low_3 : decode cL_low 3 = .ok (.iand, 1) := by decide +kernel
theorem dL_low_4 : decode cL_low 4 = .ok (.iload_n 1, 1) := by decide +kernel
theorem dL_low_5 : decode cL_low 5 = .ok (.irem, 1) := by decide +kernel
theorem dL_low_6 : decode cL_low 6 = .ok (.ireturn, 1) := by decide +kernel
theorem dL_rules_0 : decode cL_rules 0 = .ok (.aload_n 0, 1) := by decide +kernel
theorem dL_rules_1 : decode cL_rules 1 = .ok (.iconst 0, 1) := by decide +kernel
theorem dL_rules_2 : decode cL_rules 2 = .ok (.invokevirtual 8, 3) := by decide +kernel
theorem dL_rules_5 : decode cL_rules 5 = .ok (.istore_n 1, 1) := by decide +kernel
theorem dL_rules_6 : decode cL_rules 6 = .ok (.iconst 0, 1) := by decide +kernel
theorem dL_rules_7 : decode cL_rules 7 = .ok (.istore_n 2, 1) := by decide +kernel
theorem dL_rules_8 : decode cL_rules 8 = .ok (.iconst 0, 1) := by decide +kernel
theorem dL_rules_9 : decode cL_rules 9 = .ok (.istore_n 3, 1) := by decide +kernel
theorem dL_rules_10 : decode cL_rules 10 = .ok (.iconst 0, 1) := by decide +kernel
theorem dL_rules_11 : decode cL_rules 11 = .ok (.istore 4, 2) := by decide +kernel
theorem dL_rules_13 : decode cL_rules 13 = .ok (.iconst 0, 1) := by decide +kernel
theorem dL_rules_14 : decode cL_rules 14 = .ok (.istore 5, 2) := by decide +kernel
theorem dL_rules_16 : decode cL_rules 16 = .ok (.iconst 0, 1) := by decide +kernel
theorem dL_rules_17 : decode cL_rules 17 = .ok (.istore 6, 2) := by decide +kernel
theorem dL_rules_19 : decode cL_rules 19 = .ok (.iconst 0, 1) := by decide +kernel
theorem dL_rules_20 : decode cL_rules 20 = .ok (.istore 7, 2) := by decide +kernel
theorem dL_rules_22 : decode cL_rules 22 = .ok (.iconst 0, 1) := by decide +kernel
theorem dL_rules_23 : decode cL_rules 23 = .ok (.istore 8, 2) := by decide +kernel
theorem dL_rules_25 : decode cL_rules 25 = .ok (.iconst 0, 1) := by decide +kernel
theorem dL_rules_26 : decode cL_rules 26 = .ok (.istore 9, 2) := by decide +kernel
theorem dL_rules_28 : decode cL_rules 28 = .ok (.iload 9, 2) := by decide +kernel
theorem dL_rules_30 : decode cL_rules 30 = .ok (.iload_n 1, 1) := by decide +kernel
theorem dL_rules_31 : decode cL_rules 31 = .ok (.if_icmp .ge 261, 3) := by decide +kernel
theorem dL_rules_34 : decode cL_rules 34 = .ok (.aload_n 0, 1) := by decide +kernel
theorem dL_rules_35 : decode cL_rules 35 = .ok (.iload 9, 2) := by decide +kernel
theorem dL_rules_37 : decode cL_rules 37 = .ok (.invokevirtual 14, 3) := by decide +kernel
theorem dL_rules_40 : decode cL_rules 40 = .ok (.istore 10, 2) := by decide +kernel
theorem dL_rules_42 : decode cL_rules 42 = .ok (.aload_n 0, 1) := by decide +kernel
theorem dL_rules_43 : decode cL_rules 43 = .ok (.iload 10, 2) := by decide +kernel
theorem dL_rules_45 : decode cL_rules 45 = .ok (.iconst 0, 1) := by decide +kernel
theorem dL_rules_46 : decode cL_rules 46 = .ok (.invokevirtual 17, 3) := by decide +kernel
theorem dL_rules_49 : decode cL_rules 49 = .ok (.iload 9, 2) := by decide +kernel
theorem dL_rules_51 : decode cL_rules 51 = .ok (.if_icmp .ne 70, 3) := by decide +kernel
theorem dL_rules_54 : decode cL_rules 54 = .ok (.aload_n 0, 1) := by decide +kernel
theorem dL_rules_55 : decode cL_rules 55 = .ok (.iload 10, 2) := by decide +kernel
theorem dL_rules_57 : decode cL_rules 57 = .ok (.iconst 4, 1) := by decide +kernel
theorem dL_rules_58 : decode cL_rules 58 = .ok (.invokevirtual 17, 3) := by decide +kernel
theorem dL_rules_61 : decode cL_rules 61 = .ok (.iload_n 2, 1) := by decide +kernel
theorem dL_rules_62 : decode cL_rules 62 = .ok (.if_icmp .ne 59, 3) := by decide +kernel
theorem dL_rules_65 : decode cL_rules 65 = .ok (.aload_n 0, 1) := by decide +kernel
theorem dL_rules_66 : decode cL_rules 66 = .ok (.iload 10, 2) := by decide +kernel
theorem dL_rules_68 : decode cL_rules 68 = .ok (.iconst 5, 1) := by decide +kernel
theorem dL_rules_69 : decode cL_rules 69 = .ok (.invokevirtual 17, 3) := by decide +kernel
theorem dL_rules_72 : decode cL_rules 72 = .ok (.iload_n 2, 1) := by decide +kernel
theorem dL_rules_73 : decode cL_rules 73 = .ok (.aload_n 0, 1) := by decide +kernel
theorem dL_rules_74 : decode cL_rules 74 = .ok (.iload 10, 2) := by decide +kernel
theorem dL_rules_76 : decode cL_rules 76 = .ok (.iconst 1, 1) := by decide +kernel
theorem dL_rules_77 : decode cL_rules 77 = .ok (.invokevirtual 17, 3) := by decide +kernel
theorem dL_rules_80 : decode cL_rules 80 = .ok (.imul, 1) := by decide +kernel
theorem dL_rules_81 : decode cL_rules 81 = .ok (.if_icmp .ne 40, 3) := by decide +kernel
theorem dL_rules_84 : decode cL_rules 84 = .ok (.iload 9, 2) := by decide +kernel
theorem dL_rules_86 : decode cL_rules 86 = .ok (.ifCond .ne 15, 3) := by decide +kernel
theorem dL_rules_89 : decode cL_rules 89 = .ok (.aload_n 0, 1) := by decide +kernel
theorem dL_rules_90 : decode cL_rules 90 = .ok (.iload 10, 2) := by decide +kernel
theorem dL_rules_92 : decode cL_rules 92 = .ok (.bipush 7, 2) := by decide +kernel
theorem dL_rules_94 : decode cL_rules 94 = .ok (.invokevirtual 17, 3) := by decide +kernel
theorem dL_rules_97 : decode cL_rules 97 = .ok (.iconst (-1), 1) := by decide +kernel
theorem dL_rules_98 : decode cL_rules 98 = .ok (.if_icmp .ne 23, 3) := by decide +kernel
theorem dL_rules_101 : decode cL_rules 101 = .ok (.iload 9, 2) := by decide +kernel
theorem dL_rules_103 : decode cL_rules 103 = .ok (.iload_n 1, 1) := by decide +kernel
theorem dL_rules_104 : decode cL_rules 104 = .ok (.iconst 1, 1) := by decide +kernel
theorem dL_rules_105 : decode cL_rules 105 = .ok (.isub, 1) := by decide +kernel
theorem dL_rules_106 : decode cL_rules 106 = .ok (.if_icmp .ne 17, 3) := by decide +kernel
theorem dL_rules_109 : decode cL_rules 109 = .ok (.aload_n 0, 1) := by decide +kernel
theorem dL_rules_110 : decode cL_rules 110 = .ok (.iload 10, 2) := by decide +kernel
theorem dL_rules_112 : decode cL_rules 112 = .ok (.bipush 8, 2) := by decide +kernel
theorem dL_rules_114 : decode cL_rules 114 = .ok (.invokevirtual 17, 3) := by decide +kernel
theorem dL_rules_117 : decode cL_rules 117 = .ok (.iconst (-1), 1) := by decide +kernel
theorem dL_rules_118 : decode cL_rules 118 = .ok (.if_icmp .eq 5, 3) := by decide +kernel
theorem dL_rules_121 : decode cL_rules 121 = .ok (.iconst 0, 1) := by decide +kernel
theorem dL_rules_122 : decode cL_rules 122 = .ok (.ireturn, 1) := by decide +kernel
theorem dL_rules_123 : decode cL_rules 123 = .ok (.iconst 0, 1) := by decide +kernel
theorem dL_rules_124 : decode cL_rules 124 = .ok (.istore 11, 2) := by decide +kernel
theorem dL_rules_126 : decode cL_rules 126 = .ok (.iload 11, 2) := by decide +kernel
theorem dL_rules_128 : decode cL_rules 128 = .ok (.iload 9, 2) := by decide +kernel
theorem dL_rules_130 : decode cL_rules 130 = .ok (.if_icmp .ge 87, 3) := by decide +kernel
theorem dL_rules_133 : decode cL_rules 133 = .ok (.aload_n 0, 1) := by decide +kernel
theorem dL_rules_134 : decode cL_rules 134 = .ok (.iload 11, 2) := by decide +kernel
theorem dL_rules_136 : decode cL_rules 136 = .ok (.invokevirtual 14, 3) := by decide +kernel
theorem dL_rules_139 : decode cL_rules 139 = .ok (.istore 12, 2) := by decide +kernel
theorem dL_rules_141 : decode cL_rules 141 = .ok (.aload_n 0, 1) := by decide +kernel
theorem dL_rules_142 : decode cL_rules 142 = .ok (.iload 10, 2) := by decide +kernel
theorem dL_rules_144 : decode cL_rules 144 = .ok (.iconst 1, 1) := by decide +kernel
theorem dL_rules_145 : decode cL_rules 145 = .ok (.invokevirtual 17, 3) := by decide +kernel
theorem dL_rules_148 : decode cL_rules 148 = .ok (.aload_n 0, 1) := by decide +kernel
theorem dL_rules_149 : decode cL_rules 149 = .ok (.iload 12, 2) := by decide +kernel
theorem dL_rules_151 : decode cL_rules 151 = .ok (.iconst 3, 1) := by decide +kernel
theorem dL_rules_152 : decode cL_rules 152 = .ok (.invokevirtual 17, 3) := by decide +kernel
theorem dL_rules_155 : decode cL_rules 155 = .ok (.imul, 1) := by decide +kernel
theorem dL_rules_156 : decode cL_rules 156 = .ok (.istore 13, 2) := by decide +kernel
theorem dL_rules_158 : decode cL_rules 158 = .ok (.aload_n 0, 1) := by decide +kernel
theorem dL_rules_159 : decode cL_rules 159 = .ok (.iload 12, 2) := by decide +kernel
theorem dL_rules_161 : decode cL_rules 161 = .ok (.iconst 1, 1) := by decide +kernel
theorem dL_rules_162 : decode cL_rules 162 = .ok (.invokevirtual 17, 3) := by decide +kernel
theorem dL_rules_165 : decode cL_rules 165 = .ok (.aload_n 0, 1) := by decide +kernel
theorem dL_rules_166 : decode cL_rules 166 = .ok (.iload 10, 2) := by decide +kernel
theorem dL_rules_168 : decode cL_rules 168 = .ok (.iconst 3, 1) := by decide +kernel
theorem dL_rules_169 : decode cL_rules 169 = .ok (.invokevirtual 17, 3) := by decide +kernel
theorem dL_rules_172 : decode cL_rules 172 = .ok (.imul, 1) := by decide +kernel
theorem dL_rules_173 : decode cL_rules 173 = .ok (.istore 14, 2) := by decide +kernel
theorem dL_rules_175 : decode cL_rules 175 = .ok (.iload 5, 2) := by decide +kernel
theorem dL_rules_177 : decode cL_rules 177 = .ok (.iload 13, 2) := by decide +kernel
theorem dL_rules_179 : decode cL_rules 179 = .ok (.iload 14, 2) := by decide +kernel
theorem dL_rules_181 : decode cL_rules 181 = .ok (.if_icmp .ge 8, 3) := by decide +kernel
theorem dL_rules_184 : decode cL_rules 184 = .ok (.iload 13, 2) := by decide +kernel
theorem dL_rules_186 : decode cL_rules 186 = .ok (.goto 5, 3) := by decide +kernel
theorem dL_rules_189 : decode cL_rules 189 = .ok (.iload 14, 2) := by decide +kernel
theorem dL_rules_191 : decode cL_rules 191 = .ok (.iadd, 1) := by decide +kernel
theorem dL_rules_192 : decode cL_rules 192 = .ok (.istore 5, 2) := by decide +kernel
theorem dL_rules_194 : decode cL_rules 194 = .ok (.iload 6, 2) := by decide +kernel
theorem dL_rules_196 : decode cL_rules 196 = .ok (.iload 13, 2) := by decide +kernel
theorem dL_rules_198 : decode cL_rules 198 = .ok (.iload 14, 2) := by decide +kernel
theorem dL_rules_200 : decode cL_rules 200 = .ok (.if_icmp .le 7, 3) := by decide +kernel
theorem dL_rules_203 : decode cL_rules 203 = .ok (.iconst 1, 1) := by decide +kernel
theorem dL_rules_204 : decode cL_rules 204 = .ok (.goto 4, 3) := by decide +kernel
theorem dL_rules_207 : decode cL_rules 207 = .ok (.iconst 0, 1) := by decide +kernel
theorem dL_rules_208 : decode cL_rules 208 = .ok (.iadd, 1) := by decide +kernel
theorem dL_rules_209 : decode cL_rules 209 = .ok (.istore 6, 2) := by decide +kernel
theorem dL_rules_211 : decode cL_rules 211 = .ok (.iinc 11 1, 3) := by decide +kernel
theorem dL_rules_214 : decode cL_rules 214 = .ok (.goto (-88), 3) := by decide +kernel
theorem dL_rules_217 : decode cL_rules 217 = .ok (.iload_n 3, 1) := by decide +kernel
theorem dL_rules_218 : decode cL_rules 218 = .ok (.aload_n 0, 1) := by decide +kernel
theorem dL_rules_219 : decode cL_rules 219 = .ok (.iload 10, 2) := by decide +kernel
theorem dL_rules_221 : decode cL_rules 221 = .ok (.iconst 5, 1) := by decide +kernel
theorem dL_rules_222 : decode cL_rules 222 = .ok (.invokevirtual 17, 3) := by decide +kernel
theorem dL_rules_225 : decode cL_rules 225 = .ok (.iadd, 1) := by decide +kernel
theorem dL_rules_226 : decode cL_rules 226 = .ok (.istore_n 3, 1) := by decide +kernel
theorem dL_rules_227 : decode cL_rules 227 = .ok (.iload 4, 2) := by decide +kernel
theorem dL_rules_229 : decode cL_rules 229 = .ok (.iload_n 2, 1) := by decide +kernel
theorem dL_rules_230 : decode cL_rules 230 = .ok (.aload_n 0, 1) := by decide +kernel
theorem dL_rules_231 : decode cL_rules 231 = .ok (.iload 10, 2) := by decide +kernel
theorem dL_rules_233 : decode cL_rules 233 = .ok (.iconst 2, 1) := by decide +kernel
theorem dL_rules_234 : decode cL_rules 234 = .ok (.invokevirtual 17, 3) := by decide +kernel
theorem dL_rules_237 : decode cL_rules 237 = .ok (.imul, 1) := by decide +kernel
theorem dL_rules_238 : decode cL_rules 238 = .ok (.iadd, 1) := by decide +kernel
theorem dL_rules_239 : decode cL_rules 239 = .ok (.istore 4, 2) := by decide +kernel
theorem dL_rules_241 : decode cL_rules 241 = .ok (.iload_n 2, 1) := by decide +kernel
theorem dL_rules_242 : decode cL_rules 242 = .ok (.aload_n 0, 1) := by decide +kernel
theorem dL_rules_243 : decode cL_rules 243 = .ok (.iload 10, 2) := by decide +kernel
theorem dL_rules_245 : decode cL_rules 245 = .ok (.iconst 3, 1) := by decide +kernel
theorem dL_rules_246 : decode cL_rules 246 = .ok (.invokevirtual 17, 3) := by decide +kernel
theorem dL_rules_249 : decode cL_rules 249 = .ok (.iadd, 1) := by decide +kernel
theorem dL_rules_250 : decode cL_rules 250 = .ok (.istore_n 2, 1) := by decide +kernel
theorem dL_rules_251 : decode cL_rules 251 = .ok (.iload 7, 2) := by decide +kernel
theorem dL_rules_253 : decode cL_rules 253 = .ok (.aload_n 0, 1) := by decide +kernel
theorem dL_rules_254 : decode cL_rules 254 = .ok (.iload 10, 2) := by decide +kernel
theorem dL_rules_256 : decode cL_rules 256 = .ok (.bipush 7, 2) := by decide +kernel
theorem dL_rules_258 : decode cL_rules 258 = .ok (.invokevirtual 17, 3) := by decide +kernel
theorem dL_rules_261 : decode cL_rules 261 = .ok (.iconst (-1), 1) := by decide +kernel
theorem dL_rules_262 : decode cL_rules 262 = .ok (.if_icmp .eq 7, 3) := by decide +kernel
theorem dL_rules_265 : decode cL_rules 265 = .ok (.iconst 1, 1) := by decide +kernel
theorem dL_rules_266 : decode cL_rules 266 = .ok (.goto 4, 3) := by decide +kernel
theorem dL_rules_269 : decode cL_rules 269 = .ok (.iconst 0, 1) := by decide +kernel
theorem dL_rules_270 : decode cL_rules 270 = .ok (.iadd, 1) := by decide +kernel
theorem dL_rules_271 : decode cL_rules 271 = .ok (.istore 7, 2) := by decide +kernel
theorem dL_rules_273 : decode cL_rules 273 = .ok (.iload 8, 2) := by decide +kernel
theorem dL_rules_275 : decode cL_rules 275 = .ok (.aload_n 0, 1) := by decide +kernel
theorem dL_rules_276 : decode cL_rules 276 = .ok (.iload 10, 2) := by decide +kernel
theorem dL_rules_278 : decode cL_rules 278 = .ok (.bipush 9, 2) := by decide +kernel
theorem dL_rules_280 : decode cL_rules 280 = .ok (.invokevirtual 17, 3) := by decide +kernel
theorem dL_rules_283 : decode cL_rules 283 = .ok (.iadd, 1) := by decide +kernel
theorem dL_rules_284 : decode cL_rules 284 = .ok (.istore 8, 2) := by decide +kernel
theorem dL_rules_286 : decode cL_rules 286 = .ok (.iinc 9 1, 3) := by decide +kernel
theorem dL_rules_289 : decode cL_rules 289 = .ok (.goto (-261), 3) := by decide +kernel
theorem dL_rules_292 : decode cL_rules 292 = .ok (.iconst 0, 1) := by decide +kernel
theorem dL_rules_293 : decode cL_rules 293 = .ok (.istore 9, 2) := by decide +kernel
theorem dL_rules_295 : decode cL_rules 295 = .ok (.iconst 0, 1) := by decide +kernel
theorem dL_rules_296 : decode cL_rules 296 = .ok (.istore 10, 2) := by decide +kernel
theorem dL_rules_298 : decode cL_rules 298 = .ok (.iconst 0, 1) := by decide +kernel
theorem dL_rules_299 : decode cL_rules 299 = .ok (.istore 11, 2) := by decide +kernel
theorem dL_rules_301 : decode cL_rules 301 = .ok (.iconst 0, 1) := by decide +kernel
theorem dL_rules_302 : decode cL_rules 302 = .ok (.istore 12, 2) := by decide +kernel
theorem dL_rules_304 : decode cL_rules 304 = .ok (.iload 12, 2) := by decide +kernel
theorem dL_rules_306 : decode cL_rules 306 = .ok (.iconst 1, 1) := by decide +kernel
theorem dL_rules_307 : decode cL_rules 307 = .ok (.iadd, 1) := by decide +kernel
theorem dL_rules_308 : decode cL_rules 308 = .ok (.iload_n 1, 1) := by decide +kernel
theorem dL_rules_309 : decode cL_rules 309 = .ok (.if_icmp .ge 344, 3) := by decide +kernel
theorem dL_rules_312 : decode cL_rules 312 = .ok (.aload_n 0, 1) := by decide +kernel
theorem dL_rules_313 : decode cL_rules 313 = .ok (.iload 12, 2) := by decide +kernel
theorem dL_rules_315 : decode cL_rules 315 = .ok (.invokevirtual 14, 3) := by decide +kernel
theorem dL_rules_318 : decode cL_rules 318 = .ok (.istore 13, 2) := by decide +kernel
theorem dL_rules_320 : decode cL_rules 320 = .ok (.aload_n 0, 1) := by decide +kernel
theorem dL_rules_321 : decode cL_rules 321 = .ok (.iload 12, 2) := by decide +kernel
theorem dL_rules_323 : decode cL_rules 323 = .ok (.iconst 1, 1) := by decide +kernel
theorem dL_rules_324 : decode cL_rules 324 = .ok (.iadd, 1) := by decide +kernel
theorem dL_rules_325 : decode cL_rules 325 = .ok (.invokevirtual 14, 3) := by decide +kernel
theorem dL_rules_328 : decode cL_rules 328 = .ok (.istore 14, 2) := by decide +kernel
theorem dL_rules_330 : decode cL_rules 330 = .ok (.aload_n 0, 1) := by decide +kernel
theorem dL_rules_331 : decode cL_rules 331 = .ok (.iload 14, 2) := by decide +kernel
theorem dL_rules_333 : decode cL_rules 333 = .ok (.iconst 2, 1) := by decide +kernel
theorem dL_rules_334 : decode cL_rules 334 = .ok (.invokevirtual 17, 3) := by decide +kernel
theorem dL_rules_337 : decode cL_rules 337 = .ok (.aload_n 0, 1) := by decide +kernel
theorem dL_rules_338 : decode cL_rules 338 = .ok (.iload 13, 2) := by decide +kernel
theorem dL_rules_340 : decode cL_rules 340 = .ok (.iconst 3, 1) := by decide +kernel
theorem dL_rules_341 : decode cL_rules 341 = .ok (.invokevirtual 17, 3) := by decide +kernel
theorem dL_rules_344 : decode cL_rules 344 = .ok (.imul, 1) := by decide +kernel
theorem dL_rules_345 : decode cL_rules 345 = .ok (.istore 15, 2) := by decide +kernel
theorem dL_rules_347 : decode cL_rules 347 = .ok (.aload_n 0, 1) := by decide +kernel
theorem dL_rules_348 : decode cL_rules 348 = .ok (.iload 13, 2) := by decide +kernel
theorem dL_rules_350 : decode cL_rules 350 = .ok (.iconst 2, 1) := by decide +kernel
theorem dL_rules_351 : decode cL_rules 351 = .ok (.invokevirtual 17, 3) := by decide +kernel
theorem dL_rules_354 : decode cL_rules 354 = .ok (.aload_n 0, 1) := by decide +kernel
theorem dL_rules_355 : decode cL_rules 355 = .ok (.iload 14, 2) := by decide +kernel
theorem dL_rules_357 : decode cL_rules 357 = .ok (.iconst 3, 1) := by decide +kernel
theorem dL_rules_358 : decode cL_rules 358 = .ok (.invokevirtual 17, 3) := by decide +kernel
theorem dL_rules_361 : decode cL_rules 361 = .ok (.imul, 1) := by decide +kernel
theorem dL_rules_362 : decode cL_rules 362 = .ok (.istore 16, 2) := by decide +kernel
theorem dL_rules_364 : decode cL_rules 364 = .ok (.iload 15, 2) := by decide +kernel
theorem dL_rules_366 : decode cL_rules 366 = .ok (.iload 16, 2) := by decide +kernel
theorem dL_rules_368 : decode cL_rules 368 = .ok (.isub, 1) := by decide +kernel
theorem dL_rules_369 : decode cL_rules 369 = .ok (.istore 17, 2) := by decide +kernel
theorem dL_rules_371 : decode cL_rules 371 = .ok (.aload_n 0, 1) := by decide +kernel
theorem dL_rules_372 : decode cL_rules 372 = .ok (.iload 12, 2) := by decide +kernel
theorem dL_rules_374 : decode cL_rules 374 = .ok (.invokevirtual 21, 3) := by decide +kernel
theorem dL_rules_377 : decode cL_rules 377 = .ok (.istore 18, 2) := by decide +kernel
theorem dL_rules_379 : decode cL_rules 379 = .ok (.iload 12, 2) := by decide +kernel
theorem dL_rules_381 : decode cL_rules 381 = .ok (.ifCond .le 20, 3) := by decide +kernel
theorem dL_rules_384 : decode cL_rules 384 = .ok (.aload_n 0, 1) := by decide +kernel
theorem dL_rules_385 : decode cL_rules 385 = .ok (.iload 12, 2) := by decide +kernel
theorem dL_rules_387 : decode cL_rules 387 = .ok (.iconst 1, 1) := by decide +kernel
theorem dL_rules_388 : decode cL_rules 388 = .ok (.isub, 1) := by decide +kernel
theorem dL_rules_389 : decode cL_rules 389 = .ok (.iconst 4, 1) := by decide +kernel
theorem dL_rules_390 : decode cL_rules 390 = .ok (.invokevirtual 24, 3) := by decide +kernel
theorem dL_rules_393 : decode cL_rules 393 = .ok (.iconst 1, 1) := by decide +kernel
theorem dL_rules_394 : decode cL_rules 394 = .ok (.if_icmp .ne 7, 3) := by decide +kernel
theorem dL_rules_397 : decode cL_rules 397 = .ok (.iconst 1, 1) := by decide +kernel
theorem dL_rules_398 : decode cL_rules 398 = .ok (.goto 4, 3) := by decide +kernel
theorem dL_rules_401 : decode cL_rules 401 = .ok (.iconst 0, 1) := by decide +kernel
theorem dL_rules_402 : decode cL_rules 402 = .ok (.istore 19, 2) := by decide +kernel
theorem dL_rules_404 : decode cL_rules 404 = .ok (.iload 12, 2) := by decide +kernel
theorem dL_rules_406 : decode cL_rules 406 = .ok (.iconst 2, 1) := by decide +kernel
theorem dL_rules_407 : decode cL_rules 407 = .ok (.iadd, 1) := by decide +kernel
theorem dL_rules_408 : decode cL_rules 408 = .ok (.iload_n 1, 1) := by decide +kernel
theorem dL_rules_409 : decode cL_rules 409 = .ok (.if_icmp .ge 20, 3) := by decide +kernel
theorem dL_rules_412 : decode cL_rules 412 = .ok (.aload_n 0, 1) := by decide +kernel
theorem dL_rules_413 : decode cL_rules 413 = .ok (.iload 12, 2) := by decide +kernel
theorem dL_rules_415 : decode cL_rules 415 = .ok (.iconst 1, 1) := by decide +kernel
theorem dL_rules_416 : decode cL_rules 416 = .ok (.iadd, 1) := by decide +kernel
theorem dL_rules_417 : decode cL_rules 417 = .ok (.iconst 4, 1) := by decide +kernel
theorem dL_rules_418 : decode cL_rules 418 = .ok (.invokevirtual 24, 3) := by decide +kernel
theorem dL_rules_421 : decode cL_rules 421 = .ok (.iconst 1, 1) := by decide +kernel
theorem dL_rules_422 : decode cL_rules 422 = .ok (.if_icmp .ne 7, 3) := by decide +kernel
theorem dL_rules_425 : decode cL_rules 425 = .ok (.iconst 1, 1) := by decide +kernel
theorem dL_rules_426 : decode cL_rules 426 = .ok (.goto 4, 3) := by decide +kernel
theorem dL_rules_429 : decode cL_rules 429 = .ok (.iconst 0, 1) := by decide +kernel
theorem dL_rules_430 : decode cL_rules 430 = .ok (.istore 20, 2) := by decide +kernel
theorem dL_rules_432 : decode cL_rules 432 = .ok (.aload_n 0, 1) := by decide +kernel
theorem dL_rules_433 : decode cL_rules 433 = .ok (.iload 12, 2) := by decide +kernel
theorem dL_rules_435 : decode cL_rules 435 = .ok (.iconst 4, 1) := by decide +kernel
theorem dL_rules_436 : decode cL_rules 436 = .ok (.invokevirtual 24, 3) := by decide +kernel
theorem dL_rules_439 : decode cL_rules 439 = .ok (.iconst 1, 1) := by decide +kernel
theorem dL_rules_440 : decode cL_rules 440 = .ok (.if_icmp .ne 7, 3) := by decide +kernel
theorem dL_rules_443 : decode cL_rules 443 = .ok (.iconst 1, 1) := by decide +kernel
theorem dL_rules_444 : decode cL_rules 444 = .ok (.goto 31, 3) := by decide +kernel
theorem dL_rules_447 : decode cL_rules 447 = .ok (.iload 19, 2) := by decide +kernel
theorem dL_rules_449 : decode cL_rules 449 = .ok (.ifCond .eq 7, 3) := by decide +kernel
theorem dL_rules_452 : decode cL_rules 452 = .ok (.iconst 2, 1) := by decide +kernel
theorem dL_rules_453 : decode cL_rules 453 = .ok (.goto 22, 3) := by decide +kernel
theorem dL_rules_456 : decode cL_rules 456 = .ok (.iload 20, 2) := by decide +kernel
theorem dL_rules_458 : decode cL_rules 458 = .ok (.ifCond .eq 7, 3) := by decide +kernel
theorem dL_rules_461 : decode cL_rules 461 = .ok (.iconst 3, 1) := by decide +kernel
theorem dL_rules_462 : decode cL_rules 462 = .ok (.goto 13, 3) := by decide +kernel
theorem dL_rules_465 : decode cL_rules 465 = .ok (.iload 17, 2) := by decide +kernel
theorem dL_rules_467 : decode cL_rules 467 = .ok (.ifCond .le 7, 3) := by decide +kernel
theorem dL_rules_470 : decode cL_rules 470 = .ok (.iconst 0, 1) := by decide +kernel
theorem dL_rules_471 : decode cL_rules 471 = .ok (.goto 4, 3) := by decide +kernel
theorem dL_rules_474 : decode cL_rules 474 = .ok (.iconst 4, 1) := by decide +kernel
theorem dL_rules_475 : decode cL_rules 475 = .ok (.istore 21, 2) := by decide +kernel
theorem dL_rules_477 : decode cL_rules 477 = .ok (.iload 18, 2) := by decide +kernel
theorem dL_rules_479 : decode cL_rules 479 = .ok (.iload 21, 2) := by decide +kernel
theorem dL_rules_481 : decode cL_rules 481 = .ok (.if_icmp .ne 91, 3) := by decide +kernel
theorem dL_rules_484 : decode cL_rules 484 = .ok (.aload_n 0, 1) := by decide +kernel
theorem dL_rules_485 : decode cL_rules 485 = .ok (.iload 12, 2) := by decide +kernel
theorem dL_rules_487 : decode cL_rules 487 = .ok (.iconst 0, 1) := by decide +kernel
theorem dL_rules_488 : decode cL_rules 488 = .ok (.invokevirtual 24, 3) := by decide +kernel
theorem dL_rules_491 : decode cL_rules 491 = .ok (.iload 15, 2) := by decide +kernel
theorem dL_rules_493 : decode cL_rules 493 = .ok (.if_icmp .ne 79, 3) := by decide +kernel
theorem dL_rules_496 : decode cL_rules 496 = .ok (.aload_n 0, 1) := by decide +kernel
theorem dL_rules_497 : decode cL_rules 497 = .ok (.iload 12, 2) := by decide +kernel
theorem dL_rules_499 : decode cL_rules 499 = .ok (.iconst 1, 1) := by decide +kernel
theorem dL_rules_500 : decode cL_rules 500 = .ok (.invokevirtual 24, 3) := by decide +kernel
theorem dL_rules_503 : decode cL_rules 503 = .ok (.iload 16, 2) := by decide +kernel
theorem dL_rules_505 : decode cL_rules 505 = .ok (.if_icmp .ne 67, 3) := by decide +kernel
theorem dL_rules_508 : decode cL_rules 508 = .ok (.aload_n 0, 1) := by decide +kernel
theorem dL_rules_509 : decode cL_rules 509 = .ok (.iload 12, 2) := by decide +kernel
theorem dL_rules_511 : decode cL_rules 511 = .ok (.iconst 2, 1) := by decide +kernel
theorem dL_rules_512 : decode cL_rules 512 = .ok (.invokevirtual 24, 3) := by decide +kernel
theorem dL_rules_515 : decode cL_rules 515 = .ok (.iload 17, 2) := by decide +kernel
theorem dL_rules_517 : decode cL_rules 517 = .ok (.if_icmp .ne 55, 3) := by decide +kernel
theorem dL_rules_520 : decode cL_rules 520 = .ok (.aload_n 0, 1) := by decide +kernel
theorem dL_rules_521 : decode cL_rules 521 = .ok (.iload 12, 2) := by decide +kernel
theorem dL_rules_523 : decode cL_rules 523 = .ok (.iconst 3, 1) := by decide +kernel
theorem dL_rules_524 : decode cL_rules 524 = .ok (.invokevirtual 24, 3) := by decide +kernel
theorem dL_rules_527 : decode cL_rules 527 = .ok (.iload 17, 2) := by decide +kernel
theorem dL_rules_529 : decode cL_rules 529 = .ok (.ifCond .le 20, 3) := by decide +kernel
theorem dL_rules_532 : decode cL_rules 532 = .ok (.iload 16, 2) := by decide +kernel
theorem dL_rules_534 : decode cL_rules 534 = .ok (.iload 17, 2) := by decide +kernel
theorem dL_rules_536 : decode cL_rules 536 = .ok (.aload_n 0, 1) := by decide +kernel
theorem dL_rules_537 : decode cL_rules 537 = .ok (.iconst 1, 1) := by decide +kernel
theorem dL_rules_538 : decode cL_rules 538 = .ok (.invokevirtual 8, 3) := by decide +kernel
theorem dL_rules_541 : decode cL_rules 541 = .ok (.imul, 1) := by decide +kernel
theorem dL_rules_542 : decode cL_rules 542 = .ok (.bipush 100, 2) := by decide +kernel
theorem dL_rules_544 : decode cL_rules 544 = .ok (.idiv, 1) := by decide +kernel
theorem dL_rules_545 : decode cL_rules 545 = .ok (.iadd, 1) := by decide +kernel
theorem dL_rules_546 : decode cL_rules 546 = .ok (.goto 4, 3) := by decide +kernel
theorem dL_rules_549 : decode cL_rules 549 = .ok (.iconst (-1), 1) := by decide +kernel
theorem dL_rules_550 : decode cL_rules 550 = .ok (.if_icmp .ne 22, 3) := by decide +kernel
theorem dL_rules_553 : decode cL_rules 553 = .ok (.aload_n 0, 1) := by decide +kernel
theorem dL_rules_554 : decode cL_rules 554 = .ok (.iload 13, 2) := by decide +kernel
theorem dL_rules_556 : decode cL_rules 556 = .ok (.bipush 8, 2) := by decide +kernel
theorem dL_rules_558 : decode cL_rules 558 = .ok (.invokevirtual 17, 3) := by decide +kernel
theorem dL_rules_561 : decode cL_rules 561 = .ok (.aload_n 0, 1) := by decide +kernel
theorem dL_rules_562 : decode cL_rules 562 = .ok (.iload 14, 2) := by decide +kernel
theorem dL_rules_564 : decode cL_rules 564 = .ok (.bipush 7, 2) := by decide +kernel
theorem dL_rules_566 : decode cL_rules 566 = .ok (.invokevirtual 17, 3) := by decide +kernel
theorem dL_rules_569 : decode cL_rules 569 = .ok (.if_icmp .eq 5, 3) := by decide +kernel
theorem dL_rules_572 : decode cL_rules 572 = .ok (.iconst 0, 1) := by decide +kernel
theorem dL_rules_573 : decode cL_rules 573 = .ok (.ireturn, 1) := by decide +kernel
theorem dL_rules_574 : decode cL_rules 574 = .ok (.iload 9, 2) := by decide +kernel
theorem dL_rules_576 : decode cL_rules 576 = .ok (.iload 18, 2) := by decide +kernel
theorem dL_rules_578 : decode cL_rules 578 = .ok (.ifCond .ne 7, 3) := by decide +kernel
theorem dL_rules_581 : decode cL_rules 581 = .ok (.iconst 1, 1) := by decide +kernel
theorem dL_rules_582 : decode cL_rules 582 = .ok (.goto 4, 3) := by decide +kernel
theorem dL_rules_585 : decode cL_rules 585 = .ok (.iconst 0, 1) := by decide +kernel
theorem dL_rules_586 : decode cL_rules 586 = .ok (.iadd, 1) := by decide +kernel
theorem dL_rules_587 : decode cL_rules 587 = .ok (.istore 9, 2) := by decide +kernel
theorem dL_rules_589 : decode cL_rules 589 = .ok (.iload 10, 2) := by decide +kernel
theorem dL_rules_591 : decode cL_rules 591 = .ok (.aload_n 0, 1) := by decide +kernel
theorem dL_rules_592 : decode cL_rules 592 = .ok (.iload 14, 2) := by decide +kernel
theorem dL_rules_594 : decode cL_rules 594 = .ok (.bipush 7, 2) := by decide +kernel
theorem dL_rules_596 : decode cL_rules 596 = .ok (.invokevirtual 17, 3) := by decide +kernel
theorem dL_rules_599 : decode cL_rules 599 = .ok (.iload 16, 2) := by decide +kernel
theorem dL_rules_601 : decode cL_rules 601 = .ok (.if_icmp .lt 30, 3) := by decide +kernel
theorem dL_rules_604 : decode cL_rules 604 = .ok (.aload_n 0, 1) := by decide +kernel
theorem dL_rules_605 : decode cL_rules 605 = .ok (.iload 14, 2) := by decide +kernel
theorem dL_rules_607 : decode cL_rules 607 = .ok (.bipush 7, 2) := by decide +kernel
theorem dL_rules_609 : decode cL_rules 609 = .ok (.invokevirtual 17, 3) := by decide +kernel
theorem dL_rules_612 : decode cL_rules 612 = .ok (.iconst (-1), 1) := by decide +kernel
theorem dL_rules_613 : decode cL_rules 613 = .ok (.if_icmp .eq 18, 3) := by decide +kernel
theorem dL_rules_616 : decode cL_rules 616 = .ok (.iload 18, 2) := by decide +kernel
theorem dL_rules_618 : decode cL_rules 618 = .ok (.ifCond .eq 9, 3) := by decide +kernel
theorem dL_rules_621 : decode cL_rules 621 = .ok (.iload 18, 2) := by decide +kernel
theorem dL_rules_623 : decode cL_rules 623 = .ok (.iconst 4, 1) := by decide +kernel
theorem dL_rules_624 : decode cL_rules 624 = .ok (.if_icmp .ne 7, 3) := by decide +kernel
theorem dL_rules_627 : decode cL_rules 627 = .ok (.iconst 1, 1) := by decide +kernel
theorem dL_rules_628 : decode cL_rules 628 = .ok (.goto 4, 3) := by decide +kernel
theorem dL_rules_631 : decode cL_rules 631 = .ok (.iconst 0, 1) := by decide +kernel
theorem dL_rules_632 : decode cL_rules 632 = .ok (.iadd, 1) := by decide +kernel
theorem dL_rules_633 : decode cL_rules 633 = .ok (.istore 10, 2) := by decide +kernel
theorem dL_rules_635 : decode cL_rules 635 = .ok (.iload 11, 2) := by decide +kernel
theorem dL_rules_637 : decode cL_rules 637 = .ok (.aload_n 0, 1) := by decide +kernel
theorem dL_rules_638 : decode cL_rules 638 = .ok (.iload 12, 2) := by decide +kernel
theorem dL_rules_640 : decode cL_rules 640 = .ok (.iconst 4, 1) := by decide +kernel
theorem dL_rules_641 : decode cL_rules 641 = .ok (.invokevirtual 24, 3) := by decide +kernel
theorem dL_rules_644 : decode cL_rules 644 = .ok (.iadd, 1) := by decide +kernel
theorem dL_rules_645 : decode cL_rules 645 = .ok (.istore 11, 2) := by decide +kernel
theorem dL_rules_647 : decode cL_rules 647 = .ok (.iinc 12 1, 3) := by decide +kernel
theorem dL_rules_650 : decode cL_rules 650 = .ok (.goto (-346), 3) := by decide +kernel
theorem dL_rules_653 : decode cL_rules 653 = .ok (.aload_n 0, 1) := by decide +kernel
theorem dL_rules_654 : decode cL_rules 654 = .ok (.iconst 2, 1) := by decide +kernel
theorem dL_rules_655 : decode cL_rules 655 = .ok (.invokevirtual 8, 3) := by decide +kernel
theorem dL_rules_658 : decode cL_rules 658 = .ok (.iload_n 3, 1) := by decide +kernel
theorem dL_rules_659 : decode cL_rules 659 = .ok (.if_icmp .ne 79, 3) := by decide +kernel
theorem dL_rules_662 : decode cL_rules 662 = .ok (.aload_n 0, 1) := by decide +kernel
theorem dL_rules_663 : decode cL_rules 663 = .ok (.iconst 3, 1) := by decide +kernel
theorem dL_rules_664 : decode cL_rules 664 = .ok (.invokevirtual 8, 3) := by decide +kernel
theorem dL_rules_667 : decode cL_rules 667 = .ok (.iload 4, 2) := by decide +kernel
theorem dL_rules_669 : decode cL_rules 669 = .ok (.if_icmp .ne 69, 3) := by decide +kernel
theorem dL_rules_672 : decode cL_rules 672 = .ok (.aload_n 0, 1) := by decide +kernel
theorem dL_rules_673 : decode cL_rules 673 = .ok (.iconst 4, 1) := by decide +kernel
theorem dL_rules_674 : decode cL_rules 674 = .ok (.invokevirtual 8, 3) := by decide +kernel
theorem dL_rules_677 : decode cL_rules 677 = .ok (.iload 5, 2) := by decide +kernel
theorem dL_rules_679 : decode cL_rules 679 = .ok (.if_icmp .ne 59, 3) := by decide +kernel
theorem dL_rules_682 : decode cL_rules 682 = .ok (.aload_n 0, 1) := by decide +kernel
theorem dL_rules_683 : decode cL_rules 683 = .ok (.iconst 5, 1) := by decide +kernel
