/-! NAMES (printed): what each instruction is, 5 -/
theorem dL_rules_684 : decode cL_rules 684 = .ok (.invokevirtual 8, 3) := by decide +kernel
theorem dL_rules_687 : decode cL_rules 687 = .ok (.iload 9, 2) := by decide +kernel
theorem dL_rules_689 : decode cL_rules 689 = .ok (.if_icmp .ne 49, 3) := by decide +kernel
theorem dL_rules_692 : decode cL_rules 692 = .ok (.aload_n 0, 1) := by decide +kernel
theorem dL_rules_693 : decode cL_rules 693 = .ok (.bipush 6, 2) := by decide +kernel
theorem dL_rules_695 : decode cL_rules 695 = .ok (.invokevirtual 8, 3) := by decide +kernel
theorem dL_rules_698 : decode cL_rules 698 = .ok (.iload 7, 2) := by decide +kernel
theorem dL_rules_700 : decode cL_rules 700 = .ok (.if_icmp .ne 38, 3) := by decide +kernel
theorem dL_rules_703 : decode cL_rules 703 = .ok (.aload_n 0, 1) := by decide +kernel
theorem dL_rules_704 : decode cL_rules 704 = .ok (.bipush 7, 2) := by decide +kernel
theorem dL_rules_706 : decode cL_rules 706 = .ok (.invokevirtual 8, 3) := by decide +kernel
theorem dL_rules_709 : decode cL_rules 709 = .ok (.iload 10, 2) := by decide +kernel
theorem dL_rules_711 : decode cL_rules 711 = .ok (.if_icmp .ne 27, 3) := by decide +kernel
theorem dL_rules_714 : decode cL_rules 714 = .ok (.aload_n 0, 1) := by decide +kernel
theorem dL_rules_715 : decode cL_rules 715 = .ok (.bipush 8, 2) := by decide +kernel
theorem dL_rules_717 : decode cL_rules 717 = .ok (.invokevirtual 8, 3) := by decide +kernel
theorem dL_rules_720 : decode cL_rules 720 = .ok (.iload 11, 2) := by decide +kernel
theorem dL_rules_722 : decode cL_rules 722 = .ok (.if_icmp .ne 16, 3) := by decide +kernel
theorem dL_rules_725 : decode cL_rules 725 = .ok (.iload 8, 2) := by decide +kernel
theorem dL_rules_727 : decode cL_rules 727 = .ok (.iconst 2, 1) := by decide +kernel
theorem dL_rules_728 : decode cL_rules 728 = .ok (.iload 11, 2) := by decide +kernel
theorem dL_rules_730 : decode cL_rules 730 = .ok (.imul, 1) := by decide +kernel
theorem dL_rules_731 : decode cL_rules 731 = .ok (.if_icmp .ne 7, 3) := by decide +kernel
theorem dL_rules_734 : decode cL_rules 734 = .ok (.iconst 1, 1) := by decide +kernel
theorem dL_rules_735 : decode cL_rules 735 = .ok (.goto 4, 3) := by decide +kernel
theorem dL_rules_738 : decode cL_rules 738 = .ok (.iconst 0, 1) := by decide +kernel
theorem dL_rules_739 : decode cL_rules 739 = .ok (.istore 12, 2) := by decide +kernel
theorem dL_rules_741 : decode cL_rules 741 = .ok (.iload 12, 2) := by decide +kernel
theorem dL_rules_743 : decode cL_rules 743 = .ok (.ifCond .eq 48, 3) := by decide +kernel
theorem dL_rules_746 : decode cL_rules 746 = .ok (.aload_n 0, 1) := by decide +kernel
theorem dL_rules_747 : decode cL_rules 747 = .ok (.iload_n 1, 1) := by decide +kernel
theorem dL_rules_748 : decode cL_rules 748 = .ok (.invokevirtual 14, 3) := by decide +kernel
theorem dL_rules_751 : decode cL_rules 751 = .ok (.iconst (-1), 1) := by decide +kernel
theorem dL_rules_752 : decode cL_rules 752 = .ok (.if_icmp .ne 39, 3) := by decide +kernel
theorem dL_rules_755 : decode cL_rules 755 = .ok (.aload_n 0, 1) := by decide +kernel
theorem dL_rules_756 : decode cL_rules 756 = .ok (.invokevirtual 27, 3) := by decide +kernel
theorem dL_rules_759 : decode cL_rules 759 = .ok (.iload 6, 2) := by decide +kernel
theorem dL_rules_761 : decode cL_rules 761 = .ok (.if_icmp .ne 30, 3) := by decide +kernel
theorem dL_rules_764 : decode cL_rules 764 = .ok (.iload 5, 2) := by decide +kernel
theorem dL_rules_766 : decode cL_rules 766 = .ok (.iload_n 3, 1) := by decide +kernel
theorem dL_rules_767 : decode cL_rules 767 = .ok (.if_icmp .gt 24, 3) := by decide +kernel
theorem dL_rules_770 : decode cL_rules 770 = .ok (.aload_n 0, 1) := by decide +kernel
theorem dL_rules_771 : decode cL_rules 771 = .ok (.invokevirtual 31, 3) := by decide +kernel
theorem dL_rules_774 : decode cL_rules 774 = .ok (.iload 5, 2) := by decide +kernel
theorem dL_rules_776 : decode cL_rules 776 = .ok (.if_icmp .lt 15, 3) := by decide +kernel
theorem dL_rules_779 : decode cL_rules 779 = .ok (.aload_n 0, 1) := by decide +kernel
theorem dL_rules_780 : decode cL_rules 780 = .ok (.invokevirtual 31, 3) := by decide +kernel
theorem dL_rules_783 : decode cL_rules 783 = .ok (.iload_n 3, 1) := by decide +kernel
theorem dL_rules_784 : decode cL_rules 784 = .ok (.if_icmp .gt 7, 3) := by decide +kernel
theorem dL_rules_787 : decode cL_rules 787 = .ok (.iconst 1, 1) := by decide +kernel
theorem dL_rules_788 : decode cL_rules 788 = .ok (.goto 4, 3) := by decide +kernel
theorem dL_rules_791 : decode cL_rules 791 = .ok (.iconst 0, 1) := by decide +kernel
theorem dL_rules_792 : decode cL_rules 792 = .ok (.ireturn, 1) := by decide +kernel
theorem dL_money_0 : decode cL_money 0 = .ok (.iconst 0, 1) := by decide +kernel
theorem dL_money_1 : decode cL_money 1 = .ok (.istore_n 1, 1) := by decide +kernel
theorem dL_money_2 : decode cL_money 2 = .ok (.iconst 0, 1) := by decide +kernel
theorem dL_money_3 : decode cL_money 3 = .ok (.istore_n 2, 1) := by decide +kernel
theorem dL_money_4 : decode cL_money 4 = .ok (.iload_n 2, 1) := by decide +kernel
theorem dL_money_5 : decode cL_money 5 = .ok (.aload_n 0, 1) := by decide +kernel
theorem dL_money_6 : decode cL_money 6 = .ok (.iconst 0, 1) := by decide +kernel
theorem dL_money_7 : decode cL_money 7 = .ok (.invokevirtual 8, 3) := by decide +kernel
theorem dL_money_10 : decode cL_money 10 = .ok (.if_icmp .ge 23, 3) := by decide +kernel
theorem dL_money_13 : decode cL_money 13 = .ok (.iload_n 1, 1) := by decide +kernel
theorem dL_money_14 : decode cL_money 14 = .ok (.aload_n 0, 1) := by decide +kernel
theorem dL_money_15 : decode cL_money 15 = .ok (.aload_n 0, 1) := by decide +kernel
theorem dL_money_16 : decode cL_money 16 = .ok (.iload_n 2, 1) := by decide +kernel
theorem dL_money_17 : decode cL_money 17 = .ok (.invokevirtual 14, 3) := by decide +kernel
theorem dL_money_20 : decode cL_money 20 = .ok (.bipush 6, 2) := by decide +kernel
theorem dL_money_22 : decode cL_money 22 = .ok (.invokevirtual 17, 3) := by decide +kernel
theorem dL_money_25 : decode cL_money 25 = .ok (.iadd, 1) := by decide +kernel
theorem dL_money_26 : decode cL_money 26 = .ok (.istore_n 1, 1) := by decide +kernel
theorem dL_money_27 : decode cL_money 27 = .ok (.iinc 2 1, 3) := by decide +kernel
theorem dL_money_30 : decode cL_money 30 = .ok (.goto (-26), 3) := by decide +kernel
theorem dL_money_33 : decode cL_money 33 = .ok (.iload_n 1, 1) := by decide +kernel
theorem dL_money_34 : decode cL_money 34 = .ok (.ireturn, 1) := by decide +kernel
theorem dL_settles_0 : decode cL_settles 0 = .ok (.aload_n 0, 1) := by decide +kernel
theorem dL_settles_1 : decode cL_settles 1 = .ok (.iconst 0, 1) := by decide +kernel
theorem dL_settles_2 : decode cL_settles 2 = .ok (.invokevirtual 8, 3) := by decide +kernel
theorem dL_settles_5 : decode cL_settles 5 = .ok (.istore_n 2, 1) := by decide +kernel
theorem dL_settles_6 : decode cL_settles 6 = .ok (.aload_n 0, 1) := by decide +kernel
theorem dL_settles_7 : decode cL_settles 7 = .ok (.bipush 9, 2) := by decide +kernel
theorem dL_settles_9 : decode cL_settles 9 = .ok (.invokevirtual 8, 3) := by decide +kernel
theorem dL_settles_12 : decode cL_settles 12 = .ok (.istore_n 3, 1) := by decide +kernel
theorem dL_settles_13 : decode cL_settles 13 = .ok (.aload_n 0, 1) := by decide +kernel
theorem dL_settles_14 : decode cL_settles 14 = .ok (.invokestatic 34, 3) := by decide +kernel
theorem dL_settles_17 : decode cL_settles 17 = .ok (.istore 4, 2) := by decide +kernel
theorem dL_settles_19 : decode cL_settles 19 = .ok (.aload_n 0, 1) := by decide +kernel
theorem dL_settles_20 : decode cL_settles 20 = .ok (.iconst 3, 1) := by decide +kernel
theorem dL_settles_21 : decode cL_settles 21 = .ok (.invokevirtual 8, 3) := by decide +kernel
theorem dL_settles_24 : decode cL_settles 24 = .ok (.istore 5, 2) := by decide +kernel
theorem dL_settles_26 : decode cL_settles 26 = .ok (.iload_n 2, 1) := by decide +kernel
theorem dL_settles_27 : decode cL_settles 27 = .ok (.ifCond .le 11, 3) := by decide +kernel
theorem dL_settles_30 : decode cL_settles 30 = .ok (.aload_n 0, 1) := by decide +kernel
theorem dL_settles_31 : decode cL_settles 31 = .ok (.iload_n 1, 1) := by decide +kernel
theorem dL_settles_32 : decode cL_settles 32 = .ok (.invokevirtual 40, 3) := by decide +kernel
theorem dL_settles_35 : decode cL_settles 35 = .ok (.goto 4, 3) := by decide +kernel
theorem dL_settles_38 : decode cL_settles 38 = .ok (.iconst 0, 1) := by decide +kernel
theorem dL_settles_39 : decode cL_settles 39 = .ok (.istore 6, 2) := by decide +kernel
theorem dL_settles_41 : decode cL_settles 41 = .ok (.iload_n 2, 1) := by decide +kernel
theorem dL_settles_42 : decode cL_settles 42 = .ok (.ifCond .le 17, 3) := by decide +kernel
theorem dL_settles_45 : decode cL_settles 45 = .ok (.aload_n 0, 1) := by decide +kernel
theorem dL_settles_46 : decode cL_settles 46 = .ok (.iload_n 1, 1) := by decide +kernel
theorem dL_settles_47 : decode cL_settles 47 = .ok (.aload_n 0, 1) := by decide +kernel
theorem dL_settles_48 : decode cL_settles 48 = .ok (.iload_n 1, 1) := by decide +kernel
theorem dL_settles_49 : decode cL_settles 49 = .ok (.iconst 2, 1) := by decide +kernel
theorem dL_settles_50 : decode cL_settles 50 = .ok (.invokevirtual 17, 3) := by decide +kernel
theorem dL_settles_53 : decode cL_settles 53 = .ok (.invokevirtual 43, 3) := by decide +kernel
theorem dL_settles_56 : decode cL_settles 56 = .ok (.goto 4, 3) := by decide +kernel
theorem dL_settles_59 : decode cL_settles 59 = .ok (.iconst 0, 1) := by decide +kernel
theorem dL_settles_60 : decode cL_settles 60 = .ok (.istore 7, 2) := by decide +kernel
theorem dL_settles_62 : decode cL_settles 62 = .ok (.iload_n 2, 1) := by decide +kernel
theorem dL_settles_63 : decode cL_settles 63 = .ok (.ifCond .le 11, 3) := by decide +kernel
theorem dL_settles_66 : decode cL_settles 66 = .ok (.aload_n 0, 1) := by decide +kernel
theorem dL_settles_67 : decode cL_settles 67 = .ok (.iload_n 1, 1) := by decide +kernel
theorem dL_settles_68 : decode cL_settles 68 = .ok (.invokevirtual 46, 3) := by decide +kernel
theorem dL_settles_71 : decode cL_settles 71 = .ok (.goto 4, 3) := by decide +kernel
theorem dL_settles_74 : decode cL_settles 74 = .ok (.iconst 0, 1) := by decide +kernel
theorem dL_settles_75 : decode cL_settles 75 = .ok (.istore 8, 2) := by decide +kernel
theorem dL_settles_77 : decode cL_settles 77 = .ok (.iload_n 2, 1) := by decide +kernel
theorem dL_settles_78 : decode cL_settles 78 = .ok (.ifCond .le 13, 3) := by decide +kernel
theorem dL_settles_81 : decode cL_settles 81 = .ok (.aload_n 0, 1) := by decide +kernel
theorem dL_settles_82 : decode cL_settles 82 = .ok (.iload_n 1, 1) := by decide +kernel
theorem dL_settles_83 : decode cL_settles 83 = .ok (.iload 8, 2) := by decide +kernel
theorem dL_settles_85 : decode cL_settles 85 = .ok (.invokevirtual 43, 3) := by decide +kernel
theorem dL_settles_88 : decode cL_settles 88 = .ok (.goto 4, 3) := by decide +kernel
theorem dL_settles_91 : decode cL_settles 91 = .ok (.iconst 0, 1) := by decide +kernel
theorem dL_settles_92 : decode cL_settles 92 = .ok (.istore 9, 2) := by decide +kernel
theorem dL_settles_94 : decode cL_settles 94 = .ok (.iload_n 2, 1) := by decide +kernel
theorem dL_settles_95 : decode cL_settles 95 = .ok (.ifCond .le 20, 3) := by decide +kernel
theorem dL_settles_98 : decode cL_settles 98 = .ok (.aload_n 0, 1) := by decide +kernel
theorem dL_settles_99 : decode cL_settles 99 = .ok (.iload_n 1, 1) := by decide +kernel
theorem dL_settles_100 : decode cL_settles 100 = .ok (.bipush 6, 2) := by decide +kernel
theorem dL_settles_102 : decode cL_settles 102 = .ok (.invokevirtual 17, 3) := by decide +kernel
theorem dL_settles_105 : decode cL_settles 105 = .ok (.aload_n 0, 1) := by decide +kernel
theorem dL_settles_106 : decode cL_settles 106 = .ok (.iload_n 1, 1) := by decide +kernel
theorem dL_settles_107 : decode cL_settles 107 = .ok (.iconst 5, 1) := by decide +kernel
theorem dL_settles_108 : decode cL_settles 108 = .ok (.invokevirtual 17, 3) := by decide +kernel
theorem dL_settles_111 : decode cL_settles 111 = .ok (.isub, 1) := by decide +kernel
theorem dL_settles_112 : decode cL_settles 112 = .ok (.goto 4, 3) := by decide +kernel
theorem dL_settles_115 : decode cL_settles 115 = .ok (.iconst 0, 1) := by decide +kernel
theorem dL_settles_116 : decode cL_settles 116 = .ok (.istore 10, 2) := by decide +kernel
theorem dL_settles_118 : decode cL_settles 118 = .ok (.aload_n 0, 1) := by decide +kernel
theorem dL_settles_119 : decode cL_settles 119 = .ok (.invokevirtual 49, 3) := by decide +kernel
theorem dL_settles_122 : decode cL_settles 122 = .ok (.istore 11, 2) := by decide +kernel
theorem dL_settles_124 : decode cL_settles 124 = .ok (.iload 11, 2) := by decide +kernel
theorem dL_settles_126 : decode cL_settles 126 = .ok (.ifCond .lt 80, 3) := by decide +kernel
theorem dL_settles_129 : decode cL_settles 129 = .ok (.aload_n 0, 1) := by decide +kernel
theorem dL_settles_130 : decode cL_settles 130 = .ok (.iconst 5, 1) := by decide +kernel
theorem dL_settles_131 : decode cL_settles 131 = .ok (.invokevirtual 8, 3) := by decide +kernel
theorem dL_settles_134 : decode cL_settles 134 = .ok (.ifCond .ne 72, 3) := by decide +kernel
theorem dL_settles_137 : decode cL_settles 137 = .ok (.aload_n 0, 1) := by decide +kernel
theorem dL_settles_138 : decode cL_settles 138 = .ok (.bipush 9, 2) := by decide +kernel
theorem dL_settles_140 : decode cL_settles 140 = .ok (.invokevirtual 8, 3) := by decide +kernel
theorem dL_settles_143 : decode cL_settles 143 = .ok (.iload_n 3, 1) := by decide +kernel
theorem dL_settles_144 : decode cL_settles 144 = .ok (.iload 11, 2) := by decide +kernel
theorem dL_settles_146 : decode cL_settles 146 = .ok (.iadd, 1) := by decide +kernel
theorem dL_settles_147 : decode cL_settles 147 = .ok (.if_icmp .ne 59, 3) := by decide +kernel
theorem dL_settles_150 : decode cL_settles 150 = .ok (.aload_n 0, 1) := by decide +kernel
theorem dL_settles_151 : decode cL_settles 151 = .ok (.invokestatic 34, 3) := by decide +kernel
theorem dL_settles_154 : decode cL_settles 154 = .ok (.iload 4, 2) := by decide +kernel
theorem dL_settles_156 : decode cL_settles 156 = .ok (.if_icmp .ne 50, 3) := by decide +kernel
theorem dL_settles_159 : decode cL_settles 159 = .ok (.iload 11, 2) := by decide +kernel
theorem dL_settles_161 : decode cL_settles 161 = .ok (.ifCond .ne 7, 3) := by decide +kernel
theorem dL_settles_164 : decode cL_settles 164 = .ok (.iconst 1, 1) := by decide +kernel
theorem dL_settles_165 : decode cL_settles 165 = .ok (.goto 4, 3) := by decide +kernel
theorem dL_settles_168 : decode cL_settles 168 = .ok (.iconst 0, 1) := by decide +kernel
theorem dL_settles_169 : decode cL_settles 169 = .ok (.aload_n 0, 1) := by decide +kernel
theorem dL_settles_170 : decode cL_settles 170 = .ok (.iconst 3, 1) := by decide +kernel
theorem dL_settles_171 : decode cL_settles 171 = .ok (.invokevirtual 8, 3) := by decide +kernel
theorem dL_settles_174 : decode cL_settles 174 = .ok (.iload 5, 2) := by decide +kernel
theorem dL_settles_176 : decode cL_settles 176 = .ok (.if_icmp .ne 7, 3) := by decide +kernel
theorem dL_settles_179 : decode cL_settles 179 = .ok (.iconst 1, 1) := by decide +kernel
theorem dL_settles_180 : decode cL_settles 180 = .ok (.goto 4, 3) := by decide +kernel
theorem dL_settles_183 : decode cL_settles 183 = .ok (.iconst 0, 1) := by decide +kernel
theorem dL_settles_184 : decode cL_settles 184 = .ok (.if_icmp .ne 22, 3) := by decide +kernel
theorem dL_settles_187 : decode cL_settles 187 = .ok (.aload_n 0, 1) := by decide +kernel
theorem dL_settles_188 : decode cL_settles 188 = .ok (.iconst 3, 1) := by decide +kernel
theorem dL_settles_189 : decode cL_settles 189 = .ok (.invokevirtual 8, 3) := by decide +kernel
theorem dL_settles_192 : decode cL_settles 192 = .ok (.iload 5, 2) := by decide +kernel
theorem dL_settles_194 : decode cL_settles 194 = .ok (.if_icmp .gt 12, 3) := by decide +kernel
theorem dL_settles_197 : decode cL_settles 197 = .ok (.aload_n 0, 1) := by decide +kernel
theorem dL_settles_198 : decode cL_settles 198 = .ok (.bipush 8, 2) := by decide +kernel
theorem dL_settles_200 : decode cL_settles 200 = .ok (.invokevirtual 8, 3) := by decide +kernel
theorem dL_settles_203 : decode cL_settles 203 = .ok (.ifCond .ge 5, 3) := by decide +kernel
theorem dL_settles_206 : decode cL_settles 206 = .ok (.iconst 0, 1) := by decide +kernel
theorem dL_settles_207 : decode cL_settles 207 = .ok (.ireturn, 1) := by decide +kernel
theorem dL_settles_208 : decode cL_settles 208 = .ok (.iload_n 2, 1) := by decide +kernel
theorem dL_settles_209 : decode cL_settles 209 = .ok (.ifCond .eq 55, 3) := by decide +kernel
theorem dL_settles_212 : decode cL_settles 212 = .ok (.aload_n 0, 1) := by decide +kernel
theorem dL_settles_213 : decode cL_settles 213 = .ok (.iload_n 1, 1) := by decide +kernel
theorem dL_settles_214 : decode cL_settles 214 = .ok (.iconst 0, 1) := by decide +kernel
theorem dL_settles_215 : decode cL_settles 215 = .ok (.invokevirtual 17, 3) := by decide +kernel
theorem dL_settles_218 : decode cL_settles 218 = .ok (.iload 6, 2) := by decide +kernel
theorem dL_settles_220 : decode cL_settles 220 = .ok (.if_icmp .ne 48, 3) := by decide +kernel
theorem dL_settles_223 : decode cL_settles 223 = .ok (.aload_n 0, 1) := by decide +kernel
theorem dL_settles_224 : decode cL_settles 224 = .ok (.iload_n 1, 1) := by decide +kernel
theorem dL_settles_225 : decode cL_settles 225 = .ok (.bipush 6, 2) := by decide +kernel
theorem dL_settles_227 : decode cL_settles 227 = .ok (.invokevirtual 17, 3) := by decide +kernel
theorem dL_settles_230 : decode cL_settles 230 = .ok (.aload_n 0, 1) := by decide +kernel
theorem dL_settles_231 : decode cL_settles 231 = .ok (.iload_n 1, 1) := by decide +kernel
theorem dL_settles_232 : decode cL_settles 232 = .ok (.iconst 5, 1) := by decide +kernel
theorem dL_settles_233 : decode cL_settles 233 = .ok (.invokevirtual 17, 3) := by decide +kernel
theorem dL_settles_236 : decode cL_settles 236 = .ok (.isub, 1) := by decide +kernel
theorem dL_settles_237 : decode cL_settles 237 = .ok (.iload 10, 2) := by decide +kernel
theorem dL_settles_239 : decode cL_settles 239 = .ok (.isub, 1) := by decide +kernel
theorem dL_settles_240 : decode cL_settles 240 = .ok (.iload 7, 2) := by decide +kernel
theorem dL_settles_242 : decode cL_settles 242 = .ok (.if_icmp .ne 26, 3) := by decide +kernel
theorem dL_settles_245 : decode cL_settles 245 = .ok (.iload 9, 2) := by decide +kernel
theorem dL_settles_247 : decode cL_settles 247 = .ok (.iload 7, 2) := by decide +kernel
theorem dL_settles_249 : decode cL_settles 249 = .ok (.if_icmp .lt 19, 3) := by decide +kernel
theorem dL_settles_252 : decode cL_settles 252 = .ok (.iload 8, 2) := by decide +kernel
theorem dL_settles_254 : decode cL_settles 254 = .ok (.ifCond .lt 14, 3) := by decide +kernel
theorem dL_settles_257 : decode cL_settles 257 = .ok (.iload 8, 2) := by decide +kernel
theorem dL_settles_259 : decode cL_settles 259 = .ok (.bipush 100, 2) := by decide +kernel
theorem dL_settles_261 : decode cL_settles 261 = .ok (.if_icmp .ge 7, 3) := by decide +kernel
theorem dL_settles_264 : decode cL_settles 264 = .ok (.iconst 1, 1) := by decide +kernel
theorem dL_settles_265 : decode cL_settles 265 = .ok (.goto 4, 3) := by decide +kernel
theorem dL_settles_268 : decode cL_settles 268 = .ok (.iconst 0, 1) := by decide +kernel
theorem dL_settles_269 : decode cL_settles 269 = .ok (.ireturn, 1) := by decide +kernel
theorem dL_changes_0 : decode cL_changes 0 = .ok (.iload_n 1, 1) := by decide +kernel
theorem dL_changes_1 : decode cL_changes 1 = .ok (.bipush 15, 2) := by decide +kernel
theorem dL_changes_3 : decode cL_changes 3 = .ok (.iand, 1) := by decide +kernel
theorem dL_changes_4 : decode cL_changes 4 = .ok (.istore_n 3, 1) := by decide +kernel
theorem dL_changes_5 : decode cL_changes 5 = .ok (.aload_n 0, 1) := by decide +kernel
theorem dL_changes_6 : decode cL_changes 6 = .ok (.iconst 0, 1) := by decide +kernel
theorem dL_changes_7 : decode cL_changes 7 = .ok (.invokevirtual 8, 3) := by decide +kernel
theorem dL_changes_10 : decode cL_changes 10 = .ok (.istore 4, 2) := by decide +kernel
theorem dL_changes_12 : decode cL_changes 12 = .ok (.iload 4, 2) := by decide +kernel
theorem dL_changes_14 : decode cL_changes 14 = .ok (.ifCond .ne 7, 3) := by decide +kernel
theorem dL_changes_17 : decode cL_changes 17 = .ok (.iconst 0, 1) := by decide +kernel
theorem dL_changes_18 : decode cL_changes 18 = .ok (.goto 11, 3) := by decide +kernel
theorem dL_changes_21 : decode cL_changes 21 = .ok (.iload_n 1, 1) := by decide +kernel
theorem dL_changes_22 : decode cL_changes 22 = .ok (.iconst 4, 1) := by decide +kernel
theorem dL_changes_23 : decode cL_changes 23 = .ok (.ishr, 1) := by decide +kernel
theorem dL_changes_24 : decode cL_changes 24 = .ok (.iload 4, 2) := by decide +kernel
theorem dL_changes_26 : decode cL_changes 26 = .ok (.invokestatic 52, 3) := by decide +kernel
theorem dL_changes_29 : decode cL_changes 29 = .ok (.istore 5, 2) := by decide +kernel
theorem dL_changes_31 : decode cL_changes 31 = .ok (.iload_n 3, 1) := by decide +kernel
theorem dL_changes_32 : decode cL_changes 32 = .ok (.iconst 3, 1) := by decide +kernel
theorem dL_changes_33 : decode cL_changes 33 = .ok (.if_icmp .lt 8, 3) := by decide +kernel
theorem dL_changes_36 : decode cL_changes 36 = .ok (.iload 4, 2) := by decide +kernel
theorem dL_changes_38 : decode cL_changes 38 = .ok (.ifCond .ne 191, 3) := by decide +kernel
theorem dL_changes_41 : decode cL_changes 41 = .ok (.aload_n 0, 1) := by decide +kernel
theorem dL_changes_42 : decode cL_changes 42 = .ok (.bipush 12, 2) := by decide +kernel
theorem dL_changes_44 : decode cL_changes 44 = .ok (.invokevirtual 8, 3) := by decide +kernel
theorem dL_changes_47 : decode cL_changes 47 = .ok (.istore 6, 2) := by decide +kernel
theorem dL_changes_49 : decode cL_changes 49 = .ok (.iload 4, 2) := by decide +kernel
theorem dL_changes_51 : decode cL_changes 51 = .ok (.bipush 10, 2) := by decide +kernel
theorem dL_changes_53 : decode cL_changes 53 = .ok (.if_icmp .ne 26, 3) := by decide +kernel
theorem dL_changes_56 : decode cL_changes 56 = .ok (.aload_n 0, 1) := by decide +kernel
theorem dL_changes_57 : decode cL_changes 57 = .ok (.invokevirtual 55, 3) := by decide +kernel
theorem dL_changes_60 : decode cL_changes 60 = .ok (.ifCond .lt 17, 3) := by decide +kernel
theorem dL_changes_63 : decode cL_changes 63 = .ok (.aload_n 0, 1) := by decide +kernel
theorem dL_changes_64 : decode cL_changes 64 = .ok (.iconst 0, 1) := by decide +kernel
theorem dL_changes_65 : decode cL_changes 65 = .ok (.invokevirtual 8, 3) := by decide +kernel
theorem dL_changes_68 : decode cL_changes 68 = .ok (.bipush 9, 2) := by decide +kernel
theorem dL_changes_70 : decode cL_changes 70 = .ok (.if_icmp .ne 7, 3) := by decide +kernel
theorem dL_changes_73 : decode cL_changes 73 = .ok (.iconst 1, 1) := by decide +kernel
theorem dL_changes_74 : decode cL_changes 74 = .ok (.goto 4, 3) := by decide +kernel
theorem dL_changes_77 : decode cL_changes 77 = .ok (.iconst 0, 1) := by decide +kernel
theorem dL_changes_78 : decode cL_changes 78 = .ok (.ireturn, 1) := by decide +kernel
theorem dL_changes_79 : decode cL_changes 79 = .ok (.iload_n 3, 1) := by decide +kernel
theorem dL_changes_80 : decode cL_changes 80 = .ok (.iconst 1, 1) := by decide +kernel
theorem dL_changes_81 : decode cL_changes 81 = .ok (.if_icmp .ne 29, 3) := by decide +kernel
theorem dL_changes_84 : decode cL_changes 84 = .ok (.iload 4, 2) := by decide +kernel
theorem dL_changes_86 : decode cL_changes 86 = .ok (.ifCond .le 24, 3) := by decide +kernel
theorem dL_changes_89 : decode cL_changes 89 = .ok (.iload 5, 2) := by decide +kernel
theorem dL_changes_91 : decode cL_changes 91 = .ok (.ifCond .eq 15, 3) := by decide +kernel
theorem dL_changes_94 : decode cL_changes 94 = .ok (.aload_n 0, 1) := by decide +kernel
theorem dL_changes_95 : decode cL_changes 95 = .ok (.iload 5, 2) := by decide +kernel
theorem dL_changes_97 : decode cL_changes 97 = .ok (.iconst 1, 1) := by decide +kernel
theorem dL_changes_98 : decode cL_changes 98 = .ok (.isub, 1) := by decide +kernel
theorem dL_changes_99 : decode cL_changes 99 = .ok (.iconst 4, 1) := by decide +kernel
theorem dL_changes_100 : decode cL_changes 100 = .ok (.invokevirtual 24, 3) := by decide +kernel
theorem dL_changes_103 : decode cL_changes 103 = .ok (.ifCond .ne 7, 3) := by decide +kernel
theorem dL_changes_106 : decode cL_changes 106 = .ok (.iconst 1, 1) := by decide +kernel
theorem dL_changes_107 : decode cL_changes 107 = .ok (.goto 4, 3) := by decide +kernel
theorem dL_changes_110 : decode cL_changes 110 = .ok (.iconst 0, 1) := by decide +kernel
theorem dL_changes_111 : decode cL_changes 111 = .ok (.istore 7, 2) := by decide +kernel
theorem dL_changes_113 : decode cL_changes 113 = .ok (.iload 7, 2) := by decide +kernel
theorem dL_changes_115 : decode cL_changes 115 = .ok (.ifCond .eq 29, 3) := by decide +kernel
theorem dL_changes_118 : decode cL_changes 118 = .ok (.aload_n 0, 1) := by decide +kernel
theorem dL_changes_119 : decode cL_changes 119 = .ok (.iload_n 2, 1) := by decide +kernel
theorem dL_changes_120 : decode cL_changes 120 = .ok (.bipush 100, 2) := by decide +kernel
theorem dL_changes_122 : decode cL_changes 122 = .ok (.invokestatic 52, 3) := by decide +kernel
theorem dL_changes_125 : decode cL_changes 125 = .ok (.iconst 1, 1) := by decide +kernel
theorem dL_changes_126 : decode cL_changes 126 = .ok (.iload_n 2, 1) := by decide +kernel
theorem dL_changes_127 : decode cL_changes 127 = .ok (.bipush 7, 2) := by decide +kernel
theorem dL_changes_129 : decode cL_changes 129 = .ok (.ishr, 1) := by decide +kernel
theorem dL_changes_130 : decode cL_changes 130 = .ok (.bipush 30, 2) := by decide +kernel
theorem dL_changes_132 : decode cL_changes 132 = .ok (.invokestatic 52, 3) := by decide +kernel
theorem dL_changes_135 : decode cL_changes 135 = .ok (.iadd, 1) := by decide +kernel
theorem dL_changes_136 : decode cL_changes 136 = .ok (.iload 5, 2) := by decide +kernel
theorem dL_changes_138 : decode cL_changes 138 = .ok (.invokevirtual 58, 3) := by decide +kernel
theorem dL_changes_141 : decode cL_changes 141 = .ok (.goto 24, 3) := by decide +kernel
theorem dL_changes_144 : decode cL_changes 144 = .ok (.aload_n 0, 1) := by decide +kernel
theorem dL_changes_145 : decode cL_changes 145 = .ok (.iload_n 2, 1) := by decide +kernel
theorem dL_changes_146 : decode cL_changes 146 = .ok (.bipush 100, 2) := by decide +kernel
theorem dL_changes_148 : decode cL_changes 148 = .ok (.invokestatic 52, 3) := by decide +kernel
theorem dL_changes_151 : decode cL_changes 151 = .ok (.iconst 1, 1) := by decide +kernel
theorem dL_changes_152 : decode cL_changes 152 = .ok (.iload_n 2, 1) := by decide +kernel
theorem dL_changes_153 : decode cL_changes 153 = .ok (.bipush 7, 2) := by decide +kernel
theorem dL_changes_155 : decode cL_changes 155 = .ok (.ishr, 1) := by decide +kernel
theorem dL_changes_156 : decode cL_changes 156 = .ok (.bipush 30, 2) := by decide +kernel
theorem dL_changes_158 : decode cL_changes 158 = .ok (.invokestatic 52, 3) := by decide +kernel
theorem dL_changes_161 : decode cL_changes 161 = .ok (.iadd, 1) := by decide +kernel
theorem dL_changes_162 : decode cL_changes 162 = .ok (.invokevirtual 62, 3) := by decide +kernel
theorem dL_changes_165 : decode cL_changes 165 = .ok (.istore 8, 2) := by decide +kernel
theorem dL_changes_167 : decode cL_changes 167 = .ok (.iload 8, 2) := by decide +kernel
theorem dL_changes_169 : decode cL_changes 169 = .ok (.iload 6, 2) := by decide +kernel
theorem dL_changes_171 : decode cL_changes 171 = .ok (.if_icmp .ne 56, 3) := by decide +kernel
theorem dL_changes_174 : decode cL_changes 174 = .ok (.aload_n 0, 1) := by decide +kernel
theorem dL_changes_175 : decode cL_changes 175 = .ok (.iload 8, 2) := by decide +kernel
theorem dL_changes_177 : decode cL_changes 177 = .ok (.iconst 0, 1) := by decide +kernel
theorem dL_changes_178 : decode cL_changes 178 = .ok (.invokevirtual 17, 3) := by decide +kernel
theorem dL_changes_181 : decode cL_changes 181 = .ok (.iload 7, 2) := by decide +kernel
theorem dL_changes_183 : decode cL_changes 183 = .ok (.ifCond .eq 8, 3) := by decide +kernel
theorem dL_changes_186 : decode cL_changes 186 = .ok (.iload 5, 2) := by decide +kernel
theorem dL_changes_188 : decode cL_changes 188 = .ok (.goto 5, 3) := by decide +kernel
theorem dL_changes_191 : decode cL_changes 191 = .ok (.iload 4, 2) := by decide +kernel
theorem dL_changes_193 : decode cL_changes 193 = .ok (.if_icmp .ne 34, 3) := by decide +kernel
theorem dL_changes_196 : decode cL_changes 196 = .ok (.aload_n 0, 1) := by decide +kernel
theorem dL_changes_197 : decode cL_changes 197 = .ok (.iload 8, 2) := by decide +kernel
theorem dL_changes_199 : decode cL_changes 199 = .ok (.iconst 2, 1) := by decide +kernel
theorem dL_changes_200 : decode cL_changes 200 = .ok (.invokevirtual 17, 3) := by decide +kernel
theorem dL_changes_203 : decode cL_changes 203 = .ok (.iload_n 2, 1) := by decide +kernel
theorem dL_changes_204 : decode cL_changes 204 = .ok (.bipush 100, 2) := by decide +kernel
theorem dL_changes_206 : decode cL_changes 206 = .ok (.invokestatic 52, 3) := by decide +kernel
theorem dL_changes_209 : decode cL_changes 209 = .ok (.if_icmp .ne 18, 3) := by decide +kernel
theorem dL_changes_212 : decode cL_changes 212 = .ok (.aload_n 0, 1) := by decide +kernel
theorem dL_changes_213 : decode cL_changes 213 = .ok (.iload 8, 2) := by decide +kernel
theorem dL_changes_215 : decode cL_changes 215 = .ok (.bipush 6, 2) := by decide +kernel
theorem dL_changes_217 : decode cL_changes 217 = .ok (.invokevirtual 17, 3) := by decide +kernel
theorem dL_changes_220 : decode cL_changes 220 = .ok (.ifCond .ne 7, 3) := by decide +kernel
theorem dL_changes_223 : decode cL_changes 223 = .ok (.iconst 1, 1) := by decide +kernel
theorem dL_changes_224 : decode cL_changes 224 = .ok (.goto 4, 3) := by decide +kernel
theorem dL_changes_227 : decode cL_changes 227 = .ok (.iconst 0, 1) := by decide +kernel
theorem dL_changes_228 : decode cL_changes 228 = .ok (.ireturn, 1) := by decide +kernel
theorem dL_changes_229 : decode cL_changes 229 = .ok (.aload_n 0, 1) := by decide +kernel
theorem dL_changes_230 : decode cL_changes 230 = .ok (.iload 5, 2) := by decide +kernel
theorem dL_changes_232 : decode cL_changes 232 = .ok (.invokevirtual 14, 3) := by decide +kernel
theorem dL_changes_235 : decode cL_changes 235 = .ok (.istore 6, 2) := by decide +kernel
theorem dL_changes_237 : decode cL_changes 237 = .ok (.iload_n 3, 1) := by decide +kernel
theorem dL_changes_238 : decode cL_changes 238 = .ok (.iconst 3, 1) := by decide +kernel
theorem dL_changes_239 : decode cL_changes 239 = .ok (.if_icmp .ne 65, 3) := by decide +kernel
theorem dL_changes_242 : decode cL_changes 242 = .ok (.iload_n 2, 1) := by decide +kernel
theorem dL_changes_243 : decode cL_changes 243 = .ok (.iconst 1, 1) := by decide +kernel
theorem dL_changes_244 : decode cL_changes 244 = .ok (.iand, 1) := by decide +kernel
theorem dL_changes_245 : decode cL_changes 245 = .ok (.ifCond .ne 34, 3) := by decide +kernel
theorem dL_changes_248 : decode cL_changes 248 = .ok (.aload_n 0, 1) := by decide +kernel
theorem dL_changes_249 : decode cL_changes 249 = .ok (.iload 6, 2) := by decide +kernel
theorem dL_changes_251 : decode cL_changes 251 = .ok (.invokevirtual 65, 3) := by decide +kernel
theorem dL_changes_254 : decode cL_changes 254 = .ok (.iload 5, 2) := by decide +kernel
theorem dL_changes_256 : decode cL_changes 256 = .ok (.if_icmp .ne 19, 3) := by decide +kernel
theorem dL_changes_259 : decode cL_changes 259 = .ok (.aload_n 0, 1) := by decide +kernel
theorem dL_changes_260 : decode cL_changes 260 = .ok (.iconst 0, 1) := by decide +kernel
theorem dL_changes_261 : decode cL_changes 261 = .ok (.invokevirtual 8, 3) := by decide +kernel
theorem dL_changes_264 : decode cL_changes 264 = .ok (.iload 4, 2) := by decide +kernel
theorem dL_changes_266 : decode cL_changes 266 = .ok (.iconst 1, 1) := by decide +kernel
theorem dL_changes_267 : decode cL_changes 267 = .ok (.isub, 1) := by decide +kernel
theorem dL_changes_268 : decode cL_changes 268 = .ok (.if_icmp .ne 7, 3) := by decide +kernel
theorem dL_changes_271 : decode cL_changes 271 = .ok (.iconst 1, 1) := by decide +kernel
theorem dL_changes_272 : decode cL_changes 272 = .ok (.goto 31, 3) := by decide +kernel
theorem dL_changes_275 : decode cL_changes 275 = .ok (.iconst 0, 1) := by decide +kernel
theorem dL_changes_276 : decode cL_changes 276 = .ok (.goto 27, 3) := by decide +kernel
theorem dL_changes_279 : decode cL_changes 279 = .ok (.aload_n 0, 1) := by decide +kernel
theorem dL_changes_280 : decode cL_changes 280 = .ok (.invokevirtual 55, 3) := by decide +kernel
theorem dL_changes_283 : decode cL_changes 283 = .ok (.ifCond .lt 19, 3) := by decide +kernel
theorem dL_changes_286 : decode cL_changes 286 = .ok (.aload_n 0, 1) := by decide +kernel
theorem dL_changes_287 : decode cL_changes 287 = .ok (.iconst 0, 1) := by decide +kernel
theorem dL_changes_288 : decode cL_changes 288 = .ok (.invokevirtual 8, 3) := by decide +kernel
theorem dL_changes_291 : decode cL_changes 291 = .ok (.iload 4, 2) := by decide +kernel
theorem dL_changes_293 : decode cL_changes 293 = .ok (.iconst 1, 1) := by decide +kernel
theorem dL_changes_294 : decode cL_changes 294 = .ok (.isub, 1) := by decide +kernel
theorem dL_changes_295 : decode cL_changes 295 = .ok (.if_icmp .ne 7, 3) := by decide +kernel
theorem dL_changes_298 : decode cL_changes 298 = .ok (.iconst 1, 1) := by decide +kernel
theorem dL_changes_299 : decode cL_changes 299 = .ok (.goto 4, 3) := by decide +kernel
theorem dL_changes_302 : decode cL_changes 302 = .ok (.iconst 0, 1) := by decide +kernel
theorem dL_changes_303 : decode cL_changes 303 = .ok (.ireturn, 1) := by decide +kernel
theorem dL_changes_304 : decode cL_changes 304 = .ok (.iload_n 3, 1) := by decide +kernel
theorem dL_changes_305 : decode cL_changes 305 = .ok (.bipush 6, 2) := by decide +kernel
theorem dL_changes_307 : decode cL_changes 307 = .ok (.if_icmp .ge 51, 3) := by decide +kernel
theorem dL_changes_310 : decode cL_changes 310 = .ok (.aload_n 0, 1) := by decide +kernel
theorem dL_changes_311 : decode cL_changes 311 = .ok (.iload 6, 2) := by decide +kernel
theorem dL_changes_313 : decode cL_changes 313 = .ok (.iconst 2, 1) := by decide +kernel
theorem dL_changes_314 : decode cL_changes 314 = .ok (.invokevirtual 17, 3) := by decide +kernel
theorem dL_changes_317 : decode cL_changes 317 = .ok (.istore 7, 2) := by decide +kernel
theorem dL_changes_319 : decode cL_changes 319 = .ok (.aload_n 0, 1) := by decide +kernel
theorem dL_changes_320 : decode cL_changes 320 = .ok (.iload 6, 2) := by decide +kernel
theorem dL_changes_322 : decode cL_changes 322 = .ok (.iload_n 2, 1) := by decide +kernel
theorem dL_changes_323 : decode cL_changes 323 = .ok (.bipush 100, 2) := by decide +kernel
theorem dL_changes_325 : decode cL_changes 325 = .ok (.invokestatic 52, 3) := by decide +kernel
theorem dL_changes_328 : decode cL_changes 328 = .ok (.invokevirtual 68, 3) := by decide +kernel
theorem dL_changes_331 : decode cL_changes 331 = .ok (.iload 7, 2) := by decide +kernel
theorem dL_changes_333 : decode cL_changes 333 = .ok (.if_icmp .ne 23, 3) := by decide +kernel
theorem dL_changes_336 : decode cL_changes 336 = .ok (.aload_n 0, 1) := by decide +kernel
theorem dL_changes_337 : decode cL_changes 337 = .ok (.iload 6, 2) := by decide +kernel
theorem dL_changes_339 : decode cL_changes 339 = .ok (.iconst 2, 1) := by decide +kernel
theorem dL_changes_340 : decode cL_changes 340 = .ok (.invokevirtual 17, 3) := by decide +kernel
theorem dL_changes_343 : decode cL_changes 343 = .ok (.iload_n 2, 1) := by decide +kernel
theorem dL_changes_344 : decode cL_changes 344 = .ok (.bipush 100, 2) := by decide +kernel
theorem dL_changes_346 : decode cL_changes 346 = .ok (.invokestatic 52, 3) := by decide +kernel
theorem dL_changes_349 : decode cL_changes 349 = .ok (.if_icmp .ne 7, 3) := by decide +kernel
theorem dL_changes_352 : decode cL_changes 352 = .ok (.iconst 1, 1) := by decide +kernel
theorem dL_changes_353 : decode cL_changes 353 = .ok (.goto 4, 3) := by decide +kernel
theorem dL_changes_356 : decode cL_changes 356 = .ok (.iconst 0, 1) := by decide +kernel
theorem dL_changes_357 : decode cL_changes 357 = .ok (.ireturn, 1) := by decide +kernel
theorem dL_changes_358 : decode cL_changes 358 = .ok (.iload_n 3, 1) := by decide +kernel
theorem dL_changes_359 : decode cL_changes 359 = .ok (.bipush 9, 2) := by decide +kernel
theorem dL_changes_361 : decode cL_changes 361 = .ok (.if_icmp .ge 66, 3) := by decide +kernel
theorem dL_changes_364 : decode cL_changes 364 = .ok (.iload 5, 2) := by decide +kernel
theorem dL_changes_366 : decode cL_changes 366 = .ok (.ifCond .le 61, 3) := by decide +kernel
theorem dL_changes_369 : decode cL_changes 369 = .ok (.aload_n 0, 1) := by decide +kernel
theorem dL_changes_370 : decode cL_changes 370 = .ok (.iload 6, 2) := by decide +kernel
theorem dL_changes_372 : decode cL_changes 372 = .ok (.bipush 7, 2) := by decide +kernel
theorem dL_changes_374 : decode cL_changes 374 = .ok (.invokevirtual 17, 3) := by decide +kernel
theorem dL_changes_377 : decode cL_changes 377 = .ok (.istore 7, 2) := by decide +kernel
theorem dL_changes_379 : decode cL_changes 379 = .ok (.aload_n 0, 1) := by decide +kernel
theorem dL_changes_380 : decode cL_changes 380 = .ok (.iload 6, 2) := by decide +kernel
theorem dL_changes_382 : decode cL_changes 382 = .ok (.iload_n 2, 1) := by decide +kernel
theorem dL_changes_383 : decode cL_changes 383 = .ok (.sipush 1500, 3) := by decide +kernel
theorem dL_changes_386 : decode cL_changes 386 = .ok (.invokestatic 52, 3) := by decide +kernel
theorem dL_changes_389 : decode cL_changes 389 = .ok (.invokevirtual 71, 3) := by decide +kernel
theorem dL_changes_392 : decode cL_changes 392 = .ok (.iload 7, 2) := by decide +kernel
theorem dL_changes_394 : decode cL_changes 394 = .ok (.if_icmp .ne 31, 3) := by decide +kernel
theorem dL_changes_397 : decode cL_changes 397 = .ok (.aload_n 0, 1) := by decide +kernel
theorem dL_changes_398 : decode cL_changes 398 = .ok (.aload_n 0, 1) := by decide +kernel
theorem dL_changes_399 : decode cL_changes 399 = .ok (.iload 5, 2) := by decide +kernel
theorem dL_changes_401 : decode cL_changes 401 = .ok (.iconst 1, 1) := by decide +kernel
theorem dL_changes_402 : decode cL_changes 402 = .ok (.isub, 1) := by decide +kernel
theorem dL_changes_403 : decode cL_changes 403 = .ok (.invokevirtual 14, 3) := by decide +kernel
theorem dL_changes_406 : decode cL_changes 406 = .ok (.bipush 8, 2) := by decide +kernel
theorem dL_changes_408 : decode cL_changes 408 = .ok (.invokevirtual 17, 3) := by decide +kernel
theorem dL_changes_411 : decode cL_changes 411 = .ok (.iload_n 2, 1) := by decide +kernel
theorem dL_changes_412 : decode cL_changes 412 = .ok (.sipush 1500, 3) := by decide +kernel
theorem dL_changes_415 : decode cL_changes 415 = .ok (.invokestatic 52, 3) := by decide +kernel
theorem dL_changes_418 : decode cL_changes 418 = .ok (.if_icmp .ne 7, 3) := by decide +kernel
theorem dL_changes_421 : decode cL_changes 421 = .ok (.iconst 1, 1) := by decide +kernel
theorem dL_changes_422 : decode cL_changes 422 = .ok (.goto 4, 3) := by decide +kernel
theorem dL_changes_425 : decode cL_changes 425 = .ok (.iconst 0, 1) := by decide +kernel
theorem dL_changes_426 : decode cL_changes 426 = .ok (.ireturn, 1) := by decide +kernel
theorem dL_changes_427 : decode cL_changes 427 = .ok (.iload_n 3, 1) := by decide +kernel
theorem dL_changes_428 : decode cL_changes 428 = .ok (.bipush 9, 2) := by decide +kernel
theorem dL_changes_430 : decode cL_changes 430 = .ok (.if_icmp .ne 10, 3) := by decide +kernel
theorem dL_changes_433 : decode cL_changes 433 = .ok (.aload_n 0, 1) := by decide +kernel
theorem dL_changes_434 : decode cL_changes 434 = .ok (.iload 6, 2) := by decide +kernel
theorem dL_changes_436 : decode cL_changes 436 = .ok (.invokestatic 74, 3) := by decide +kernel
theorem dL_changes_439 : decode cL_changes 439 = .ok (.ireturn, 1) := by decide +kernel
theorem dL_changes_440 : decode cL_changes 440 = .ok (.iload 5, 2) := by decide +kernel
theorem dL_changes_442 : decode cL_changes 442 = .ok (.iconst 1, 1) := by decide +kernel
theorem dL_changes_443 : decode cL_changes 443 = .ok (.iadd, 1) := by decide +kernel
theorem dL_changes_444 : decode cL_changes 444 = .ok (.iload 4, 2) := by decide +kernel
theorem dL_changes_446 : decode cL_changes 446 = .ok (.if_icmp .ne 31, 3) := by decide +kernel
theorem dL_changes_449 : decode cL_changes 449 = .ok (.aload_n 0, 1) := by decide +kernel
theorem dL_changes_450 : decode cL_changes 450 = .ok (.iconst 1, 1) := by decide +kernel
theorem dL_changes_451 : decode cL_changes 451 = .ok (.invokevirtual 8, 3) := by decide +kernel
theorem dL_changes_454 : decode cL_changes 454 = .ok (.istore 7, 2) := by decide +kernel
theorem dL_changes_456 : decode cL_changes 456 = .ok (.aload_n 0, 1) := by decide +kernel
theorem dL_changes_457 : decode cL_changes 457 = .ok (.iload_n 2, 1) := by decide +kernel
theorem dL_changes_458 : decode cL_changes 458 = .ok (.bipush 101, 2) := by decide +kernel
theorem dL_changes_460 : decode cL_changes 460 = .ok (.invokestatic 52, 3) := by decide +kernel
theorem dL_changes_463 : decode cL_changes 463 = .ok (.invokevirtual 78, 3) := by decide +kernel
theorem dL_changes_466 : decode cL_changes 466 = .ok (.iload 7, 2) := by decide +kernel
theorem dL_changes_468 : decode cL_changes 468 = .ok (.if_icmp .ne 7, 3) := by decide +kernel
theorem dL_changes_471 : decode cL_changes 471 = .ok (.iconst 1, 1) := by decide +kernel
theorem dL_changes_472 : decode cL_changes 472 = .ok (.goto 4, 3) := by decide +kernel
theorem dL_changes_475 : decode cL_changes 475 = .ok (.iconst 0, 1) := by decide +kernel
theorem dL_changes_476 : decode cL_changes 476 = .ok (.ireturn, 1) := by decide +kernel
theorem dL_changes_477 : decode cL_changes 477 = .ok (.aload_n 0, 1) := by decide +kernel
theorem dL_changes_478 : decode cL_changes 478 = .ok (.iload 5, 2) := by decide +kernel
theorem dL_changes_480 : decode cL_changes 480 = .ok (.iconst 1, 1) := by decide +kernel
theorem dL_changes_481 : decode cL_changes 481 = .ok (.iadd, 1) := by decide +kernel
theorem dL_changes_482 : decode cL_changes 482 = .ok (.invokevirtual 14, 3) := by decide +kernel
theorem dL_changes_485 : decode cL_changes 485 = .ok (.istore 7, 2) := by decide +kernel
theorem dL_changes_487 : decode cL_changes 487 = .ok (.aload_n 0, 1) := by decide +kernel
theorem dL_changes_488 : decode cL_changes 488 = .ok (.iload 6, 2) := by decide +kernel
theorem dL_changes_490 : decode cL_changes 490 = .ok (.bipush 8, 2) := by decide +kernel
theorem dL_changes_492 : decode cL_changes 492 = .ok (.invokevirtual 17, 3) := by decide +kernel
theorem dL_changes_495 : decode cL_changes 495 = .ok (.istore 8, 2) := by decide +kernel
theorem dL_changes_497 : decode cL_changes 497 = .ok (.aload_n 0, 1) := by decide +kernel
theorem dL_changes_498 : decode cL_changes 498 = .ok (.invokestatic 34, 3) := by decide +kernel
theorem dL_changes_501 : decode cL_changes 501 = .ok (.istore 9, 2) := by decide +kernel
theorem dL_changes_503 : decode cL_changes 503 = .ok (.aload_n 0, 1) := by decide +kernel
theorem dL_changes_504 : decode cL_changes 504 = .ok (.bipush 10, 2) := by decide +kernel
theorem dL_changes_506 : decode cL_changes 506 = .ok (.invokevirtual 8, 3) := by decide +kernel
theorem dL_changes_509 : decode cL_changes 509 = .ok (.istore 10, 2) := by decide +kernel
theorem dL_changes_511 : decode cL_changes 511 = .ok (.aload_n 0, 1) := by decide +kernel
theorem dL_changes_512 : decode cL_changes 512 = .ok (.iload 7, 2) := by decide +kernel
theorem dL_changes_514 : decode cL_changes 514 = .ok (.bipush 6, 2) := by decide +kernel
theorem dL_changes_516 : decode cL_changes 516 = .ok (.invokevirtual 17, 3) := by decide +kernel
theorem dL_changes_519 : decode cL_changes 519 = .ok (.istore 11, 2) := by decide +kernel
theorem dL_changes_521 : decode cL_changes 521 = .ok (.iload_n 3, 1) := by decide +kernel
theorem dL_changes_522 : decode cL_changes 522 = .ok (.bipush 13, 2) := by decide +kernel
theorem dL_changes_524 : decode cL_changes 524 = .ok (.if_icmp .ge 12, 3) := by decide +kernel
theorem dL_changes_527 : decode cL_changes 527 = .ok (.aload_n 0, 1) := by decide +kernel
theorem dL_changes_528 : decode cL_changes 528 = .ok (.iload 5, 2) := by decide +kernel
theorem dL_changes_530 : decode cL_changes 530 = .ok (.invokevirtual 21, 3) := by decide +kernel
theorem dL_changes_533 : decode cL_changes 533 = .ok (.ifCond .eq 46, 3) := by decide +kernel
theorem dL_changes_536 : decode cL_changes 536 = .ok (.iload_n 3, 1) := by decide +kernel
theorem dL_changes_537 : decode cL_changes 537 = .ok (.bipush 15, 2) := by decide +kernel
theorem dL_changes_539 : decode cL_changes 539 = .ok (.if_icmp .ge 206, 3) := by decide +kernel
theorem dL_changes_542 : decode cL_changes 542 = .ok (.iload 8, 2) := by decide +kernel
theorem dL_changes_544 : decode cL_changes 544 = .ok (.iconst (-1), 1) := by decide +kernel
theorem dL_changes_545 : decode cL_changes 545 = .ok (.if_icmp .eq 200, 3) := by decide +kernel
theorem dL_changes_548 : decode cL_changes 548 = .ok (.iload 8, 2) := by decide +kernel
theorem dL_changes_550 : decode cL_changes 550 = .ok (.aload_n 0, 1) := by decide +kernel
theorem dL_changes_551 : decode cL_changes 551 = .ok (.iload 5, 2) := by decide +kernel
theorem dL_changes_553 : decode cL_changes 553 = .ok (.iconst 1, 1) := by decide +kernel
theorem dL_changes_554 : decode cL_changes 554 = .ok (.invokevirtual 24, 3) := by decide +kernel
theorem dL_changes_557 : decode cL_changes 557 = .ok (.if_icmp .lt 188, 3) := by decide +kernel
theorem dL_changes_560 : decode cL_changes 560 = .ok (.aload_n 0, 1) := by decide +kernel
theorem dL_changes_561 : decode cL_changes 561 = .ok (.iload 5, 2) := by decide +kernel
theorem dL_changes_563 : decode cL_changes 563 = .ok (.invokevirtual 21, 3) := by decide +kernel
theorem dL_changes_566 : decode cL_changes 566 = .ok (.ifCond .eq 13, 3) := by decide +kernel
theorem dL_changes_569 : decode cL_changes 569 = .ok (.aload_n 0, 1) := by decide +kernel
theorem dL_changes_570 : decode cL_changes 570 = .ok (.iload 5, 2) := by decide +kernel
theorem dL_changes_572 : decode cL_changes 572 = .ok (.invokevirtual 21, 3) := by decide +kernel
theorem dL_changes_575 : decode cL_changes 575 = .ok (.iconst 4, 1) := by decide +kernel
theorem dL_changes_576 : decode cL_changes 576 = .ok (.if_icmp .ne 169, 3) := by decide +kernel
theorem dL_changes_579 : decode cL_changes 579 = .ok (.iload 8, 2) := by decide +kernel
theorem dL_changes_581 : decode cL_changes 581 = .ok (.aload_n 0, 1) := by decide +kernel
theorem dL_changes_582 : decode cL_changes 582 = .ok (.iload 5, 2) := by decide +kernel
theorem dL_changes_584 : decode cL_changes 584 = .ok (.iconst 1, 1) := by decide +kernel
theorem dL_changes_585 : decode cL_changes 585 = .ok (.invokevirtual 24, 3) := by decide +kernel
theorem dL_changes_588 : decode cL_changes 588 = .ok (.if_icmp .lt 13, 3) := by decide +kernel
theorem dL_changes_591 : decode cL_changes 591 = .ok (.iload 8, 2) := by decide +kernel
theorem dL_changes_593 : decode cL_changes 593 = .ok (.iconst (-1), 1) := by decide +kernel
theorem dL_changes_594 : decode cL_changes 594 = .ok (.if_icmp .eq 7, 3) := by decide +kernel
theorem dL_changes_597 : decode cL_changes 597 = .ok (.iconst 1, 1) := by decide +kernel
theorem dL_changes_598 : decode cL_changes 598 = .ok (.goto 4, 3) := by decide +kernel
theorem dL_changes_601 : decode cL_changes 601 = .ok (.iconst 0, 1) := by decide +kernel
theorem dL_changes_602 : decode cL_changes 602 = .ok (.istore 12, 2) := by decide +kernel
theorem dL_changes_604 : decode cL_changes 604 = .ok (.iload 12, 2) := by decide +kernel
theorem dL_changes_606 : decode cL_changes 606 = .ok (.ifCond .eq 8, 3) := by decide +kernel
theorem dL_changes_609 : decode cL_changes 609 = .ok (.iload 8, 2) := by decide +kernel
theorem dL_changes_611 : decode cL_changes 611 = .ok (.goto 10, 3) := by decide +kernel
theorem dL_changes_614 : decode cL_changes 614 = .ok (.aload_n 0, 1) := by decide +kernel
theorem dL_changes_615 : decode cL_changes 615 = .ok (.iload 5, 2) := by decide +kernel
theorem dL_changes_617 : decode cL_changes 617 = .ok (.iconst 3, 1) := by decide +kernel
theorem dL_changes_618 : decode cL_changes 618 = .ok (.invokevirtual 24, 3) := by decide +kernel
theorem dL_changes_621 : decode cL_changes 621 = .ok (.istore 13, 2) := by decide +kernel
theorem dL_changes_623 : decode cL_changes 623 = .ok (.iload 12, 2) := by decide +kernel
theorem dL_changes_625 : decode cL_changes 625 = .ok (.ifCond .eq 12, 3) := by decide +kernel
theorem dL_changes_628 : decode cL_changes 628 = .ok (.aload_n 0, 1) := by decide +kernel
theorem dL_changes_629 : decode cL_changes 629 = .ok (.iload 6, 2) := by decide +kernel
theorem dL_changes_631 : decode cL_changes 631 = .ok (.invokevirtual 81, 3) := by decide +kernel
theorem dL_changes_634 : decode cL_changes 634 = .ok (.goto 9, 3) := by decide +kernel
theorem dL_changes_637 : decode cL_changes 637 = .ok (.aload_n 0, 1) := by decide +kernel
theorem dL_changes_638 : decode cL_changes 638 = .ok (.iload 5, 2) := by decide +kernel
theorem dL_changes_640 : decode cL_changes 640 = .ok (.invokevirtual 84, 3) := by decide +kernel
theorem dL_changes_643 : decode cL_changes 643 = .ok (.istore 14, 2) := by decide +kernel
theorem dL_changes_645 : decode cL_changes 645 = .ok (.iload 14, 2) := by decide +kernel
theorem dL_changes_647 : decode cL_changes 647 = .ok (.iload 13, 2) := by decide +kernel
theorem dL_changes_649 : decode cL_changes 649 = .ok (.if_icmp .ne 94, 3) := by decide +kernel
theorem dL_changes_652 : decode cL_changes 652 = .ok (.aload_n 0, 1) := by decide +kernel
theorem dL_changes_653 : decode cL_changes 653 = .ok (.iload 5, 2) := by decide +kernel
theorem dL_changes_655 : decode cL_changes 655 = .ok (.invokevirtual 14, 3) := by decide +kernel
theorem dL_changes_658 : decode cL_changes 658 = .ok (.iload 7, 2) := by decide +kernel
theorem dL_changes_660 : decode cL_changes 660 = .ok (.if_icmp .ne 83, 3) := by decide +kernel
theorem dL_changes_663 : decode cL_changes 663 = .ok (.aload_n 0, 1) := by decide +kernel
theorem dL_changes_664 : decode cL_changes 664 = .ok (.iload 5, 2) := by decide +kernel
theorem dL_changes_666 : decode cL_changes 666 = .ok (.iconst 1, 1) := by decide +kernel
theorem dL_changes_667 : decode cL_changes 667 = .ok (.iadd, 1) := by decide +kernel
theorem dL_changes_668 : decode cL_changes 668 = .ok (.invokevirtual 14, 3) := by decide +kernel
theorem dL_changes_671 : decode cL_changes 671 = .ok (.iload 6, 2) := by decide +kernel
theorem dL_changes_673 : decode cL_changes 673 = .ok (.if_icmp .ne 70, 3) := by decide +kernel
theorem dL_changes_676 : decode cL_changes 676 = .ok (.aload_n 0, 1) := by decide +kernel
theorem dL_changes_677 : decode cL_changes 677 = .ok (.invokestatic 34, 3) := by decide +kernel
theorem dL_changes_680 : decode cL_changes 680 = .ok (.iload 9, 2) := by decide +kernel
theorem dL_changes_682 : decode cL_changes 682 = .ok (.if_icmp .ne 61, 3) := by decide +kernel
theorem dL_changes_685 : decode cL_changes 685 = .ok (.aload_n 0, 1) := by decide +kernel
theorem dL_changes_686 : decode cL_changes 686 = .ok (.bipush 10, 2) := by decide +kernel
theorem dL_changes_688 : decode cL_changes 688 = .ok (.invokevirtual 8, 3) := by decide +kernel
theorem dL_changes_691 : decode cL_changes 691 = .ok (.iload 10, 2) := by decide +kernel
theorem dL_changes_693 : decode cL_changes 693 = .ok (.iload 13, 2) := by decide +kernel
theorem dL_changes_695 : decode cL_changes 695 = .ok (.iadd, 1) := by decide +kernel
theorem dL_changes_696 : decode cL_changes 696 = .ok (.if_icmp .ne 47, 3) := by decide +kernel
theorem dL_changes_699 : decode cL_changes 699 = .ok (.aload_n 0, 1) := by decide +kernel
theorem dL_changes_700 : decode cL_changes 700 = .ok (.iload 7, 2) := by decide +kernel
theorem dL_changes_702 : decode cL_changes 702 = .ok (.bipush 6, 2) := by decide +kernel
theorem dL_changes_704 : decode cL_changes 704 = .ok (.invokevirtual 17, 3) := by decide +kernel
theorem dL_changes_707 : decode cL_changes 707 = .ok (.iload 11, 2) := by decide +kernel
theorem dL_changes_709 : decode cL_changes 709 = .ok (.iload 13, 2) := by decide +kernel
theorem dL_changes_711 : decode cL_changes 711 = .ok (.isub, 1) := by decide +kernel
theorem dL_changes_712 : decode cL_changes 712 = .ok (.if_icmp .ne 31, 3) := by decide +kernel
theorem dL_changes_715 : decode cL_changes 715 = .ok (.aload_n 0, 1) := by decide +kernel
theorem dL_changes_716 : decode cL_changes 716 = .ok (.iload 6, 2) := by decide +kernel
theorem dL_changes_718 : decode cL_changes 718 = .ok (.bipush 8, 2) := by decide +kernel
theorem dL_changes_720 : decode cL_changes 720 = .ok (.invokevirtual 17, 3) := by decide +kernel
theorem dL_changes_723 : decode cL_changes 723 = .ok (.iconst (-1), 1) := by decide +kernel
theorem dL_changes_724 : decode cL_changes 724 = .ok (.if_icmp .ne 19, 3) := by decide +kernel
theorem dL_changes_727 : decode cL_changes 727 = .ok (.aload_n 0, 1) := by decide +kernel
theorem dL_changes_728 : decode cL_changes 728 = .ok (.iload 7, 2) := by decide +kernel
theorem dL_changes_730 : decode cL_changes 730 = .ok (.bipush 7, 2) := by decide +kernel
theorem dL_changes_732 : decode cL_changes 732 = .ok (.invokevirtual 17, 3) := by decide +kernel
theorem dL_changes_735 : decode cL_changes 735 = .ok (.iconst (-1), 1) := by decide +kernel
theorem dL_changes_736 : decode cL_changes 736 = .ok (.if_icmp .ne 7, 3) := by decide +kernel
theorem dL_changes_739 : decode cL_changes 739 = .ok (.iconst 1, 1) := by decide +kernel
theorem dL_changes_740 : decode cL_changes 740 = .ok (.goto 4, 3) := by decide +kernel
theorem dL_changes_743 : decode cL_changes 743 = .ok (.iconst 0, 1) := by decide +kernel
theorem dL_changes_744 : decode cL_changes 744 = .ok (.ireturn, 1) := by decide +kernel
theorem dL_changes_745 : decode cL_changes 745 = .ok (.aload_n 0, 1) := by decide +kernel
theorem dL_changes_746 : decode cL_changes 746 = .ok (.bipush 8, 2) := by decide +kernel
theorem dL_changes_748 : decode cL_changes 748 = .ok (.invokevirtual 8, 3) := by decide +kernel
theorem dL_changes_751 : decode cL_changes 751 = .ok (.istore 12, 2) := by decide +kernel
theorem dL_changes_753 : decode cL_changes 753 = .ok (.aload_n 0, 1) := by decide +kernel
theorem dL_changes_754 : decode cL_changes 754 = .ok (.iload 5, 2) := by decide +kernel
theorem dL_changes_756 : decode cL_changes 756 = .ok (.iconst 4, 1) := by decide +kernel
theorem dL_changes_757 : decode cL_changes 757 = .ok (.invokevirtual 24, 3) := by decide +kernel
theorem dL_changes_760 : decode cL_changes 760 = .ok (.iconst 1, 1) := by decide +kernel
theorem dL_changes_761 : decode cL_changes 761 = .ok (.if_icmp .ne 24, 3) := by decide +kernel
theorem dL_changes_764 : decode cL_changes 764 = .ok (.aload_n 0, 1) := by decide +kernel
theorem dL_changes_765 : decode cL_changes 765 = .ok (.iload 5, 2) := by decide +kernel
theorem dL_changes_767 : decode cL_changes 767 = .ok (.invokevirtual 87, 3) := by decide +kernel
theorem dL_changes_770 : decode cL_changes 770 = .ok (.iload 12, 2) := by decide +kernel
theorem dL_changes_772 : decode cL_changes 772 = .ok (.iconst 1, 1) := by decide +kernel
theorem dL_changes_773 : decode cL_changes 773 = .ok (.isub, 1) := by decide +kernel
theorem dL_changes_774 : decode cL_changes 774 = .ok (.if_icmp .ne 7, 3) := by decide +kernel
theorem dL_changes_777 : decode cL_changes 777 = .ok (.iconst 1, 1) := by decide +kernel
theorem dL_changes_778 : decode cL_changes 778 = .ok (.goto 31, 3) := by decide +kernel
theorem dL_changes_781 : decode cL_changes 781 = .ok (.iconst 0, 1) := by decide +kernel
theorem dL_changes_782 : decode cL_changes 782 = .ok (.goto 27, 3) := by decide +kernel
theorem dL_changes_785 : decode cL_changes 785 = .ok (.iload_n 2, 1) := by decide +kernel
theorem dL_changes_786 : decode cL_changes 786 = .ok (.iconst 1, 1) := by decide +kernel
theorem dL_changes_787 : decode cL_changes 787 = .ok (.iand, 1) := by decide +kernel
theorem dL_changes_788 : decode cL_changes 788 = .ok (.ifCond .eq 16, 3) := by decide +kernel
theorem dL_changes_791 : decode cL_changes 791 = .ok (.aload_n 0, 1) := by decide +kernel
theorem dL_changes_792 : decode cL_changes 792 = .ok (.iload 5, 2) := by decide +kernel
theorem dL_changes_794 : decode cL_changes 794 = .ok (.invokevirtual 90, 3) := by decide +kernel
theorem dL_changes_797 : decode cL_changes 797 = .ok (.iload 12, 2) := by decide +kernel
theorem dL_changes_799 : decode cL_changes 799 = .ok (.iconst 1, 1) := by decide +kernel
theorem dL_changes_800 : decode cL_changes 800 = .ok (.iadd, 1) := by decide +kernel
theorem dL_changes_801 : decode cL_changes 801 = .ok (.if_icmp .ne 7, 3) := by decide +kernel
theorem dL_changes_804 : decode cL_changes 804 = .ok (.iconst 1, 1) := by decide +kernel
theorem dL_changes_805 : decode cL_changes 805 = .ok (.goto 4, 3) := by decide +kernel
theorem dL_changes_808 : decode cL_changes 808 = .ok (.iconst 0, 1) := by decide +kernel
theorem dL_changes_809 : decode cL_changes 809 = .ok (.ireturn, 1) := by decide +kernel
theorem dL_law_0 : decode cL_law 0 = .ok (.new 9, 3) := by decide +kernel
theorem dL_law_3 : decode cL_law 3 = .ok (.dup, 1) := by decide +kernel
theorem dL_law_4 : decode cL_law 4 = .ok (.invokespecial 93, 3) := by decide +kernel
theorem dL_law_7 : decode cL_law 7 = .ok (.astore_n 1, 1) := by decide +kernel
theorem dL_law_8 : decode cL_law 8 = .ok (.aload_n 1, 1) := by decide +kernel
theorem dL_law_9 : decode cL_law 9 = .ok (.iconst 0, 1) := by decide +kernel
theorem dL_law_10 : decode cL_law 10 = .ok (.invokevirtual 8, 3) := by decide +kernel
theorem dL_law_13 : decode cL_law 13 = .ok (.ifCond .ne 57, 3) := by decide +kernel
theorem dL_law_16 : decode cL_law 16 = .ok (.aload_n 1, 1) := by decide +kernel
theorem dL_law_17 : decode cL_law 17 = .ok (.iconst 1, 1) := by decide +kernel
theorem dL_law_18 : decode cL_law 18 = .ok (.invokevirtual 8, 3) := by decide +kernel
theorem dL_law_21 : decode cL_law 21 = .ok (.bipush 50, 2) := by decide +kernel
theorem dL_law_23 : decode cL_law 23 = .ok (.if_icmp .ne 47, 3) := by decide +kernel
theorem dL_law_26 : decode cL_law 26 = .ok (.aload_n 1, 1) := by decide +kernel
theorem dL_law_27 : decode cL_law 27 = .ok (.iconst 0, 1) := by decide +kernel
theorem dL_law_28 : decode cL_law 28 = .ok (.invokevirtual 14, 3) := by decide +kernel
theorem dL_law_31 : decode cL_law 31 = .ok (.iconst (-1), 1) := by decide +kernel
theorem dL_law_32 : decode cL_law 32 = .ok (.if_icmp .ne 38, 3) := by decide +kernel
theorem dL_law_35 : decode cL_law 35 = .ok (.aload_n 1, 1) := by decide +kernel
theorem dL_law_36 : decode cL_law 36 = .ok (.invokevirtual 94, 3) := by decide +kernel
theorem dL_law_39 : decode cL_law 39 = .ok (.ifCond .ne 31, 3) := by decide +kernel
theorem dL_law_42 : decode cL_law 42 = .ok (.aload_n 1, 1) := by decide +kernel
theorem dL_law_43 : decode cL_law 43 = .ok (.invokevirtual 97, 3) := by decide +kernel
theorem dL_law_46 : decode cL_law 46 = .ok (.ifCond .ne 24, 3) := by decide +kernel
theorem dL_law_49 : decode cL_law 49 = .ok (.aload_n 1, 1) := by decide +kernel
theorem dL_law_50 : decode cL_law 50 = .ok (.invokevirtual 49, 3) := by decide +kernel
theorem dL_law_53 : decode cL_law 53 = .ok (.ifCond .ne 17, 3) := by decide +kernel
theorem dL_law_56 : decode cL_law 56 = .ok (.aload_n 1, 1) := by decide +kernel
theorem dL_law_57 : decode cL_law 57 = .ok (.invokevirtual 97, 3) := by decide +kernel
theorem dL_law_60 : decode cL_law 60 = .ok (.ifCond .ne 10, 3) := by decide +kernel
theorem dL_law_63 : decode cL_law 63 = .ok (.aload_n 1, 1) := by decide +kernel
theorem dL_law_64 : decode cL_law 64 = .ok (.invokevirtual 27, 3) := by decide +kernel
theorem dL_law_67 : decode cL_law 67 = .ok (.ifCond .eq 5, 3) := by decide +kernel
theorem dL_law_70 : decode cL_law 70 = .ok (.iconst 0, 1) := by decide +kernel
theorem dL_law_71 : decode cL_law 71 = .ok (.ireturn, 1) := by decide +kernel
theorem dL_law_72 : decode cL_law 72 = .ok (.iconst 0, 1) := by decide +kernel
theorem dL_law_73 : decode cL_law 73 = .ok (.istore_n 2, 1) := by decide +kernel
theorem dL_law_74 : decode cL_law 74 = .ok (.iload_n 2, 1) := by decide +kernel
theorem dL_law_75 : decode cL_law 75 = .ok (.bipush 40, 2) := by decide +kernel
theorem dL_law_77 : decode cL_law 77 = .ok (.if_icmp .ge 109, 3) := by decide +kernel
theorem dL_law_80 : decode cL_law 80 = .ok (.aload_n 1, 1) := by decide +kernel
theorem dL_law_81 : decode cL_law 81 = .ok (.aload_n 0, 1) := by decide +kernel
theorem dL_law_82 : decode cL_law 82 = .ok (.iconst 2, 1) := by decide +kernel
theorem dL_law_83 : decode cL_law 83 = .ok (.iload_n 2, 1) := by decide +kernel
theorem dL_law_84 : decode cL_law 84 = .ok (.imul, 1) := by decide +kernel
theorem dL_law_85 : decode cL_law 85 = .ok (.invokestatic 100, 3) := by decide +kernel
theorem dL_law_88 : decode cL_law 88 = .ok (.aload_n 0, 1) := by decide +kernel
theorem dL_law_89 : decode cL_law 89 = .ok (.iconst 2, 1) := by decide +kernel
theorem dL_law_90 : decode cL_law 90 = .ok (.iload_n 2, 1) := by decide +kernel
theorem dL_law_91 : decode cL_law 91 = .ok (.imul, 1) := by decide +kernel
theorem dL_law_92 : decode cL_law 92 = .ok (.iconst 1, 1) := by decide +kernel
theorem dL_law_93 : decode cL_law 93 = .ok (.iadd, 1) := by decide +kernel
theorem dL_law_94 : decode cL_law 94 = .ok (.invokestatic 100, 3) := by decide +kernel
theorem dL_law_97 : decode cL_law 97 = .ok (.invokestatic 104, 3) := by decide +kernel
theorem dL_law_100 : decode cL_law 100 = .ok (.ifCond .eq 10, 3) := by decide +kernel
theorem dL_law_103 : decode cL_law 103 = .ok (.aload_n 1, 1) := by decide +kernel
theorem dL_law_104 : decode cL_law 104 = .ok (.invokestatic 108, 3) := by decide +kernel
theorem dL_law_107 : decode cL_law 107 = .ok (.ifCond .ne 5, 3) := by decide +kernel
theorem dL_law_110 : decode cL_law 110 = .ok (.iconst 0, 1) := by decide +kernel
theorem dL_law_111 : decode cL_law 111 = .ok (.ireturn, 1) := by decide +kernel
theorem dL_law_112 : decode cL_law 112 = .ok (.aload_n 1, 1) := by decide +kernel
theorem dL_law_113 : decode cL_law 113 = .ok (.invokevirtual 112, 3) := by decide +kernel
theorem dL_law_116 : decode cL_law 116 = .ok (.lstore_n 3, 1) := by decide +kernel
theorem dL_law_117 : decode cL_law 117 = .ok (.aload_n 1, 1) := by decide +kernel
theorem dL_law_118 : decode cL_law 118 = .ok (.bipush 77, 2) := by decide +kernel
theorem dL_law_120 : decode cL_law 120 = .ok (.invokevirtual 78, 3) := by decide +kernel
theorem dL_law_123 : decode cL_law 123 = .ok (.istore 5, 2) := by decide +kernel
theorem dL_law_125 : decode cL_law 125 = .ok (.aload_n 1, 1) := by decide +kernel
theorem dL_law_126 : decode cL_law 126 = .ok (.invokevirtual 97, 3) := by decide +kernel
theorem dL_law_129 : decode cL_law 129 = .ok (.istore 6, 2) := by decide +kernel
theorem dL_law_131 : decode cL_law 131 = .ok (.aload_n 1, 1) := by decide +kernel
theorem dL_law_132 : decode cL_law 132 = .ok (.iconst 1, 1) := by decide +kernel
theorem dL_law_133 : decode cL_law 133 = .ok (.invokevirtual 8, 3) := by decide +kernel
theorem dL_law_136 : decode cL_law 136 = .ok (.iload 5, 2) := by decide +kernel
theorem dL_law_138 : decode cL_law 138 = .ok (.if_icmp .ne 24, 3) := by decide +kernel
theorem dL_law_141 : decode cL_law 141 = .ok (.iload 6, 2) := by decide +kernel
theorem dL_law_143 : decode cL_law 143 = .ok (.iconst 3, 1) := by decide +kernel
theorem dL_law_144 : decode cL_law 144 = .ok (.if_icmp .gt 18, 3) := by decide +kernel
theorem dL_law_147 : decode cL_law 147 = .ok (.iload 6, 2) := by decide +kernel
theorem dL_law_149 : decode cL_law 149 = .ok (.iconst 3, 1) := by decide +kernel
theorem dL_law_150 : decode cL_law 150 = .ok (.if_icmp .ge 14, 3) := by decide +kernel
theorem dL_law_153 : decode cL_law 153 = .ok (.aload_n 1, 1) := by decide +kernel
theorem dL_law_154 : decode cL_law 154 = .ok (.invokevirtual 112, 3) := by decide +kernel
theorem dL_law_157 : decode cL_law 157 = .ok (.lload_n 3, 1) := by decide +kernel
theorem dL_law_158 : decode cL_law 158 = .ok (.lcmp, 1) := by decide +kernel
theorem dL_law_159 : decode cL_law 159 = .ok (.ifCond .eq 5, 3) := by decide +kernel
theorem dL_law_162 : decode cL_law 162 = .ok (.iconst 0, 1) := by decide +kernel
theorem dL_law_163 : decode cL_law 163 = .ok (.ireturn, 1) := by decide +kernel
theorem dL_law_164 : decode cL_law 164 = .ok (.iload 6, 2) := by decide +kernel
theorem dL_law_166 : decode cL_law 166 = .ok (.iconst 3, 1) := by decide +kernel
theorem dL_law_167 : decode cL_law 167 = .ok (.if_icmp .ne 13, 3) := by decide +kernel
theorem dL_law_170 : decode cL_law 170 = .ok (.aload_n 1, 1) := by decide +kernel
theorem dL_law_171 : decode cL_law 171 = .ok (.invokevirtual 97, 3) := by decide +kernel
theorem dL_law_174 : decode cL_law 174 = .ok (.iconst 2, 1) := by decide +kernel
theorem dL_law_175 : decode cL_law 175 = .ok (.if_icmp .eq 5, 3) := by decide +kernel
theorem dL_law_178 : decode cL_law 178 = .ok (.iconst 0, 1) := by decide +kernel
theorem dL_law_179 : decode cL_law 179 = .ok (.ireturn, 1) := by decide +kernel
theorem dL_law_180 : decode cL_law 180 = .ok (.iinc 2 1, 3) := by decide +kernel
theorem dL_law_183 : decode cL_law 183 = .ok (.goto (-109), 3) := by decide +kernel
theorem dL_law_186 : decode cL_law 186 = .ok (.iconst 1, 1) := by decide +kernel
theorem dL_law_187 : decode cL_law 187 = .ok (.ireturn, 1) := by decide +kernel
