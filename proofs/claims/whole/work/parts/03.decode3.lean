theorem dX11_laysOrders_222 : decode cX11_laysOrders 222 = .ok (.iload_n 1, 1) := by decide +kernel
theorem dX11_laysOrders_223 : decode cX11_laysOrders 223 = .ok (.iaload, 1) := by decide +kernel
theorem dX11_laysOrders_224 : decode cX11_laysOrders 224 = .ok (.iload_n 2, 1) := by decide +kernel
theorem dX11_laysOrders_225 : decode cX11_laysOrders 225 = .ok (.iadd, 1) := by decide +kernel
theorem dX11_laysOrders_226 : decode cX11_laysOrders 226 = .ok (.iastore, 1) := by decide +kernel
theorem dX11_laysOrders_227 : decode cX11_laysOrders 227 = .ok (.iinc 1 1, 3) := by decide +kernel
theorem dX11_laysOrders_230 : decode cX11_laysOrders 230 = .ok (.goto (-199), 3) := by decide +kernel
theorem dX11_laysOrders_233 : decode cX11_laysOrders 233 = .ok (.return_, 1) := by decide +kernel
theorem dX11_middleOf_0 : decode cX11_middleOf 0 = .ok (.iconst (-1), 1) := by decide +kernel
theorem dX11_middleOf_1 : decode cX11_middleOf 1 = .ok (.istore_n 2, 1) := by decide +kernel
theorem dX11_middleOf_2 : decode cX11_middleOf 2 = .ok (.iconst 0, 1) := by decide +kernel
theorem dX11_middleOf_3 : decode cX11_middleOf 3 = .ok (.istore_n 3, 1) := by decide +kernel
theorem dX11_middleOf_4 : decode cX11_middleOf 4 = .ok (.iconst 0, 1) := by decide +kernel
theorem dX11_middleOf_5 : decode cX11_middleOf 5 = .ok (.istore 4, 2) := by decide +kernel
theorem dX11_middleOf_7 : decode cX11_middleOf 7 = .ok (.iload 4, 2) := by decide +kernel
theorem dX11_middleOf_9 : decode cX11_middleOf 9 = .ok (.aload_n 0, 1) := by decide +kernel
theorem dX11_middleOf_10 : decode cX11_middleOf 10 = .ok (.invokevirtual 229, 3) := by decide +kernel
theorem dX11_middleOf_13 : decode cX11_middleOf 13 = .ok (.if_icmp .ge 90, 3) := by decide +kernel
theorem dX11_middleOf_16 : decode cX11_middleOf 16 = .ok (.aload_n 0, 1) := by decide +kernel
theorem dX11_middleOf_17 : decode cX11_middleOf 17 = .ok (.iload 4, 2) := by decide +kernel
theorem dX11_middleOf_19 : decode cX11_middleOf 19 = .ok (.iload_n 1, 1) := by decide +kernel
theorem dX11_middleOf_20 : decode cX11_middleOf 20 = .ok (.invokevirtual 233, 3) := by decide +kernel
theorem dX11_middleOf_23 : decode cX11_middleOf 23 = .ok (.ifCond .ne 6, 3) := by decide +kernel
theorem dX11_middleOf_26 : decode cX11_middleOf 26 = .ok (.goto 71, 3) := by decide +kernel
theorem dX11_middleOf_29 : decode cX11_middleOf 29 = .ok (.iconst 0, 1) := by decide +kernel
theorem dX11_middleOf_30 : decode cX11_middleOf 30 = .ok (.istore 5, 2) := by decide +kernel
theorem dX11_middleOf_32 : decode cX11_middleOf 32 = .ok (.iconst 0, 1) := by decide +kernel
theorem dX11_middleOf_33 : decode cX11_middleOf 33 = .ok (.istore 6, 2) := by decide +kernel
theorem dX11_middleOf_35 : decode cX11_middleOf 35 = .ok (.iload 6, 2) := by decide +kernel
theorem dX11_middleOf_37 : decode cX11_middleOf 37 = .ok (.aload_n 0, 1) := by decide +kernel
theorem dX11_middleOf_38 : decode cX11_middleOf 38 = .ok (.invokevirtual 229, 3) := by decide +kernel
theorem dX11_middleOf_41 : decode cX11_middleOf 41 = .ok (.if_icmp .ge 36, 3) := by decide +kernel
theorem dX11_middleOf_44 : decode cX11_middleOf 44 = .ok (.iload 5, 2) := by decide +kernel
theorem dX11_middleOf_46 : decode cX11_middleOf 46 = .ok (.aload_n 0, 1) := by decide +kernel
theorem dX11_middleOf_47 : decode cX11_middleOf 47 = .ok (.iload 6, 2) := by decide +kernel
theorem dX11_middleOf_49 : decode cX11_middleOf 49 = .ok (.iload_n 1, 1) := by decide +kernel
theorem dX11_middleOf_50 : decode cX11_middleOf 50 = .ok (.invokevirtual 233, 3) := by decide +kernel
theorem dX11_middleOf_53 : decode cX11_middleOf 53 = .ok (.ifCond .eq 14, 3) := by decide +kernel
theorem dX11_middleOf_56 : decode cX11_middleOf 56 = .ok (.aload_n 0, 1) := by decide +kernel
theorem dX11_middleOf_57 : decode cX11_middleOf 57 = .ok (.iload 4, 2) := by decide +kernel
theorem dX11_middleOf_59 : decode cX11_middleOf 59 = .ok (.iload 6, 2) := by decide +kernel
theorem dX11_middleOf_61 : decode cX11_middleOf 61 = .ok (.invokevirtual 236, 3) := by decide +kernel
theorem dX11_middleOf_64 : decode cX11_middleOf 64 = .ok (.goto 4, 3) := by decide +kernel
theorem dX11_middleOf_67 : decode cX11_middleOf 67 = .ok (.iconst 0, 1) := by decide +kernel
theorem dX11_middleOf_68 : decode cX11_middleOf 68 = .ok (.iadd, 1) := by decide +kernel
theorem dX11_middleOf_69 : decode cX11_middleOf 69 = .ok (.istore 5, 2) := by decide +kernel
theorem dX11_middleOf_71 : decode cX11_middleOf 71 = .ok (.iinc 6 1, 3) := by decide +kernel
theorem dX11_middleOf_74 : decode cX11_middleOf 74 = .ok (.goto (-39), 3) := by decide +kernel
theorem dX11_middleOf_77 : decode cX11_middleOf 77 = .ok (.iload_n 2, 1) := by decide +kernel
theorem dX11_middleOf_78 : decode cX11_middleOf 78 = .ok (.iconst (-1), 1) := by decide +kernel
theorem dX11_middleOf_79 : decode cX11_middleOf 79 = .ok (.if_icmp .eq 12, 3) := by decide +kernel
theorem dX11_middleOf_82 : decode cX11_middleOf 82 = .ok (.iload 5, 2) := by decide +kernel
theorem dX11_middleOf_84 : decode cX11_middleOf 84 = .ok (.iload_n 3, 1) := by decide +kernel
theorem dX11_middleOf_85 : decode cX11_middleOf 85 = .ok (.if_icmp .lt 6, 3) := by decide +kernel
theorem dX11_middleOf_88 : decode cX11_middleOf 88 = .ok (.goto 9, 3) := by decide +kernel
theorem dX11_middleOf_91 : decode cX11_middleOf 91 = .ok (.iload 4, 2) := by decide +kernel
theorem dX11_middleOf_93 : decode cX11_middleOf 93 = .ok (.istore_n 2, 1) := by decide +kernel
theorem dX11_middleOf_94 : decode cX11_middleOf 94 = .ok (.iload 5, 2) := by decide +kernel
theorem dX11_middleOf_96 : decode cX11_middleOf 96 = .ok (.istore_n 3, 1) := by decide +kernel
theorem dX11_middleOf_97 : decode cX11_middleOf 97 = .ok (.iinc 4 1, 3) := by decide +kernel
theorem dX11_middleOf_100 : decode cX11_middleOf 100 = .ok (.goto (-93), 3) := by decide +kernel
theorem dX11_middleOf_103 : decode cX11_middleOf 103 = .ok (.iload_n 2, 1) := by decide +kernel
theorem dX11_middleOf_104 : decode cX11_middleOf 104 = .ok (.ireturn, 1) := by decide +kernel
theorem dX11_dotsAt_0 : decode cX11_dotsAt 0 = .ok (.iconst 3, 1) := by decide +kernel
theorem dX11_dotsAt_1 : decode cX11_dotsAt 1 = .ok (.bipush 8, 2) := by decide +kernel
theorem dX11_dotsAt_3 : decode cX11_dotsAt 3 = .ok (.iload_n 0, 1) := by decide +kernel
theorem dX11_dotsAt_4 : decode cX11_dotsAt 4 = .ok (.imul, 1) := by decide +kernel
theorem dX11_dotsAt_5 : decode cX11_dotsAt 5 = .ok (.iload_n 1, 1) := by decide +kernel
theorem dX11_dotsAt_6 : decode cX11_dotsAt 6 = .ok (.iadd, 1) := by decide +kernel
theorem dX11_dotsAt_7 : decode cX11_dotsAt 7 = .ok (.imul, 1) := by decide +kernel
theorem dX11_dotsAt_8 : decode cX11_dotsAt 8 = .ok (.iload_n 2, 1) := by decide +kernel
theorem dX11_dotsAt_9 : decode cX11_dotsAt 9 = .ok (.iadd, 1) := by decide +kernel
theorem dX11_dotsAt_10 : decode cX11_dotsAt 10 = .ok (.ireturn, 1) := by decide +kernel
theorem dX11_laysDots_0 : decode cX11_laysDots 0 = .ok (.iconst 0, 1) := by decide +kernel
theorem dX11_laysDots_1 : decode cX11_laysDots 1 = .ok (.istore_n 2, 1) := by decide +kernel
theorem dX11_laysDots_2 : decode cX11_laysDots 2 = .ok (.iload_n 2, 1) := by decide +kernel
theorem dX11_laysDots_3 : decode cX11_laysDots 3 = .ok (.iconst 5, 1) := by decide +kernel
theorem dX11_laysDots_4 : decode cX11_laysDots 4 = .ok (.if_icmp .ge 175, 3) := by decide +kernel
theorem dX11_laysDots_7 : decode cX11_laysDots 7 = .ok (.iconst 0, 1) := by decide +kernel
theorem dX11_laysDots_8 : decode cX11_laysDots 8 = .ok (.istore_n 3, 1) := by decide +kernel
theorem dX11_laysDots_9 : decode cX11_laysDots 9 = .ok (.iload_n 3, 1) := by decide +kernel
theorem dX11_laysDots_10 : decode cX11_laysDots 10 = .ok (.aload_n 0, 1) := by decide +kernel
theorem dX11_laysDots_11 : decode cX11_laysDots 11 = .ok (.getfield 17, 3) := by decide +kernel
theorem dX11_laysDots_14 : decode cX11_laysDots 14 = .ok (.iconst 3, 1) := by decide +kernel
theorem dX11_laysDots_15 : decode cX11_laysDots 15 = .ok (.iaload, 1) := by decide +kernel
theorem dX11_laysDots_16 : decode cX11_laysDots 16 = .ok (.if_icmp .ge 157, 3) := by decide +kernel
theorem dX11_laysDots_19 : decode cX11_laysDots 19 = .ok (.iconst 0, 1) := by decide +kernel
theorem dX11_laysDots_20 : decode cX11_laysDots 20 = .ok (.istore 4, 2) := by decide +kernel
theorem dX11_laysDots_22 : decode cX11_laysDots 22 = .ok (.iconst 0, 1) := by decide +kernel
theorem dX11_laysDots_23 : decode cX11_laysDots 23 = .ok (.istore 5, 2) := by decide +kernel
theorem dX11_laysDots_25 : decode cX11_laysDots 25 = .ok (.iload 5, 2) := by decide +kernel
theorem dX11_laysDots_27 : decode cX11_laysDots 27 = .ok (.aload_n 0, 1) := by decide +kernel
theorem dX11_laysDots_28 : decode cX11_laysDots 28 = .ok (.invokevirtual 222, 3) := by decide +kernel
theorem dX11_laysDots_31 : decode cX11_laysDots 31 = .ok (.if_icmp .ge 124, 3) := by decide +kernel
theorem dX11_laysDots_34 : decode cX11_laysDots 34 = .ok (.iload_n 2, 1) := by decide +kernel
theorem dX11_laysDots_35 : decode cX11_laysDots 35 = .ok (.iload 5, 2) := by decide +kernel
theorem dX11_laysDots_37 : decode cX11_laysDots 37 = .ok (.iload_n 3, 1) := by decide +kernel
theorem dX11_laysDots_38 : decode cX11_laysDots 38 = .ok (.invokestatic 239, 3) := by decide +kernel
theorem dX11_laysDots_41 : decode cX11_laysDots 41 = .ok (.istore 6, 2) := by decide +kernel
theorem dX11_laysDots_43 : decode cX11_laysDots 43 = .ok (.aload_n 0, 1) := by decide +kernel
theorem dX11_laysDots_44 : decode cX11_laysDots 44 = .ok (.getfield 73, 3) := by decide +kernel
theorem dX11_laysDots_47 : decode cX11_laysDots 47 = .ok (.iload 6, 2) := by decide +kernel
theorem dX11_laysDots_49 : decode cX11_laysDots 49 = .ok (.iload 4, 2) := by decide +kernel
theorem dX11_laysDots_51 : decode cX11_laysDots 51 = .ok (.iastore, 1) := by decide +kernel
theorem dX11_laysDots_52 : decode cX11_laysDots 52 = .ok (.iload 4, 2) := by decide +kernel
theorem dX11_laysDots_54 : decode cX11_laysDots 54 = .ok (.iload_n 2, 1) := by decide +kernel
theorem dX11_laysDots_55 : decode cX11_laysDots 55 = .ok (.ifCond .ne 17, 3) := by decide +kernel
theorem dX11_laysDots_58 : decode cX11_laysDots 58 = .ok (.aload_n 0, 1) := by decide +kernel
theorem dX11_laysDots_59 : decode cX11_laysDots 59 = .ok (.getfield 36, 3) := by decide +kernel
theorem dX11_laysDots_62 : decode cX11_laysDots 62 = .ok (.iconst 3, 1) := by decide +kernel
theorem dX11_laysDots_63 : decode cX11_laysDots 63 = .ok (.iload 5, 2) := by decide +kernel
theorem dX11_laysDots_65 : decode cX11_laysDots 65 = .ok (.imul, 1) := by decide +kernel
theorem dX11_laysDots_66 : decode cX11_laysDots 66 = .ok (.iload_n 3, 1) := by decide +kernel
theorem dX11_laysDots_67 : decode cX11_laysDots 67 = .ok (.iadd, 1) := by decide +kernel
theorem dX11_laysDots_68 : decode cX11_laysDots 68 = .ok (.iaload, 1) := by decide +kernel
theorem dX11_laysDots_69 : decode cX11_laysDots 69 = .ok (.goto 17, 3) := by decide +kernel
theorem dX11_laysDots_72 : decode cX11_laysDots 72 = .ok (.aload_n 0, 1) := by decide +kernel
theorem dX11_laysDots_73 : decode cX11_laysDots 73 = .ok (.getfield 70, 3) := by decide +kernel
theorem dX11_laysDots_76 : decode cX11_laysDots 76 = .ok (.iload_n 2, 1) := by decide +kernel
theorem dX11_laysDots_77 : decode cX11_laysDots 77 = .ok (.iconst 1, 1) := by decide +kernel
theorem dX11_laysDots_78 : decode cX11_laysDots 78 = .ok (.isub, 1) := by decide +kernel
theorem dX11_laysDots_79 : decode cX11_laysDots 79 = .ok (.iload 5, 2) := by decide +kernel
theorem dX11_laysDots_81 : decode cX11_laysDots 81 = .ok (.iload_n 3, 1) := by decide +kernel
theorem dX11_laysDots_82 : decode cX11_laysDots 82 = .ok (.invokestatic 239, 3) := by decide +kernel
theorem dX11_laysDots_85 : decode cX11_laysDots 85 = .ok (.iaload, 1) := by decide +kernel
theorem dX11_laysDots_86 : decode cX11_laysDots 86 = .ok (.iadd, 1) := by decide +kernel
theorem dX11_laysDots_87 : decode cX11_laysDots 87 = .ok (.istore 7, 2) := by decide +kernel
theorem dX11_laysDots_89 : decode cX11_laysDots 89 = .ok (.iload_n 2, 1) := by decide +kernel
theorem dX11_laysDots_90 : decode cX11_laysDots 90 = .ok (.ifCond .ne 7, 3) := by decide +kernel
theorem dX11_laysDots_93 : decode cX11_laysDots 93 = .ok (.iload_n 1, 1) := by decide +kernel
theorem dX11_laysDots_94 : decode cX11_laysDots 94 = .ok (.goto 7, 3) := by decide +kernel
theorem dX11_laysDots_97 : decode cX11_laysDots 97 = .ok (.aload_n 0, 1) := by decide +kernel
theorem dX11_laysDots_98 : decode cX11_laysDots 98 = .ok (.getfield 52, 3) := by decide +kernel
theorem dX11_laysDots_101 : decode cX11_laysDots 101 = .ok (.istore 8, 2) := by decide +kernel
theorem dX11_laysDots_103 : decode cX11_laysDots 103 = .ok (.aload_n 0, 1) := by decide +kernel
theorem dX11_laysDots_104 : decode cX11_laysDots 104 = .ok (.getfield 70, 3) := by decide +kernel
theorem dX11_laysDots_107 : decode cX11_laysDots 107 = .ok (.iload 6, 2) := by decide +kernel
theorem dX11_laysDots_109 : decode cX11_laysDots 109 = .ok (.aload_n 0, 1) := by decide +kernel
theorem dX11_laysDots_110 : decode cX11_laysDots 110 = .ok (.iload 5, 2) := by decide +kernel
theorem dX11_laysDots_112 : decode cX11_laysDots 112 = .ok (.invokevirtual 243, 3) := by decide +kernel
theorem dX11_laysDots_115 : decode cX11_laysDots 115 = .ok (.ifCond .ne 7, 3) := by decide +kernel
theorem dX11_laysDots_118 : decode cX11_laysDots 118 = .ok (.iconst 0, 1) := by decide +kernel
theorem dX11_laysDots_119 : decode cX11_laysDots 119 = .ok (.goto 8, 3) := by decide +kernel
theorem dX11_laysDots_122 : decode cX11_laysDots 122 = .ok (.iload 7, 2) := by decide +kernel
theorem dX11_laysDots_124 : decode cX11_laysDots 124 = .ok (.iload 8, 2) := by decide +kernel
theorem dX11_laysDots_126 : decode cX11_laysDots 126 = .ok (.idiv, 1) := by decide +kernel
theorem dX11_laysDots_127 : decode cX11_laysDots 127 = .ok (.iastore, 1) := by decide +kernel
theorem dX11_laysDots_128 : decode cX11_laysDots 128 = .ok (.aload_n 0, 1) := by decide +kernel
theorem dX11_laysDots_129 : decode cX11_laysDots 129 = .ok (.iload 5, 2) := by decide +kernel
theorem dX11_laysDots_131 : decode cX11_laysDots 131 = .ok (.invokevirtual 243, 3) := by decide +kernel
theorem dX11_laysDots_134 : decode cX11_laysDots 134 = .ok (.ifCond .ne 8, 3) := by decide +kernel
theorem dX11_laysDots_137 : decode cX11_laysDots 137 = .ok (.iload 7, 2) := by decide +kernel
theorem dX11_laysDots_139 : decode cX11_laysDots 139 = .ok (.goto 8, 3) := by decide +kernel
theorem dX11_laysDots_142 : decode cX11_laysDots 142 = .ok (.iload 7, 2) := by decide +kernel
theorem dX11_laysDots_144 : decode cX11_laysDots 144 = .ok (.iload 8, 2) := by decide +kernel
theorem dX11_laysDots_146 : decode cX11_laysDots 146 = .ok (.irem, 1) := by decide +kernel
theorem dX11_laysDots_147 : decode cX11_laysDots 147 = .ok (.istore 4, 2) := by decide +kernel
theorem dX11_laysDots_149 : decode cX11_laysDots 149 = .ok (.iinc 5 1, 3) := by decide +kernel
theorem dX11_laysDots_152 : decode cX11_laysDots 152 = .ok (.goto (-127), 3) := by decide +kernel
theorem dX11_laysDots_155 : decode cX11_laysDots 155 = .ok (.aload_n 0, 1) := by decide +kernel
theorem dX11_laysDots_156 : decode cX11_laysDots 156 = .ok (.getfield 76, 3) := by decide +kernel
theorem dX11_laysDots_159 : decode cX11_laysDots 159 = .ok (.iconst 3, 1) := by decide +kernel
theorem dX11_laysDots_160 : decode cX11_laysDots 160 = .ok (.iload_n 2, 1) := by decide +kernel
theorem dX11_laysDots_161 : decode cX11_laysDots 161 = .ok (.imul, 1) := by decide +kernel
theorem dX11_laysDots_162 : decode cX11_laysDots 162 = .ok (.iload_n 3, 1) := by decide +kernel
theorem dX11_laysDots_163 : decode cX11_laysDots 163 = .ok (.iadd, 1) := by decide +kernel
theorem dX11_laysDots_164 : decode cX11_laysDots 164 = .ok (.iload 4, 2) := by decide +kernel
theorem dX11_laysDots_166 : decode cX11_laysDots 166 = .ok (.iastore, 1) := by decide +kernel
theorem dX11_laysDots_167 : decode cX11_laysDots 167 = .ok (.iinc 3 1, 3) := by decide +kernel
theorem dX11_laysDots_170 : decode cX11_laysDots 170 = .ok (.goto (-161), 3) := by decide +kernel
theorem dX11_laysDots_173 : decode cX11_laysDots 173 = .ok (.iinc 2 1, 3) := by decide +kernel
theorem dX11_laysDots_176 : decode cX11_laysDots 176 = .ok (.goto (-174), 3) := by decide +kernel
theorem dX11_laysDots_179 : decode cX11_laysDots 179 = .ok (.return_, 1) := by decide +kernel
theorem dX11_allDots_0 : decode cX11_allDots 0 = .ok (.iconst 0, 1) := by decide +kernel
theorem dX11_allDots_1 : decode cX11_allDots 1 = .ok (.istore_n 3, 1) := by decide +kernel
theorem dX11_allDots_2 : decode cX11_allDots 2 = .ok (.iconst 0, 1) := by decide +kernel
theorem dX11_allDots_3 : decode cX11_allDots 3 = .ok (.istore 4, 2) := by decide +kernel
theorem dX11_allDots_5 : decode cX11_allDots 5 = .ok (.iload 4, 2) := by decide +kernel
theorem dX11_allDots_7 : decode cX11_allDots 7 = .ok (.aload_n 0, 1) := by decide +kernel
theorem dX11_allDots_8 : decode cX11_allDots 8 = .ok (.invokevirtual 222, 3) := by decide +kernel
theorem dX11_allDots_11 : decode cX11_allDots 11 = .ok (.if_icmp .ge 60, 3) := by decide +kernel
theorem dX11_allDots_14 : decode cX11_allDots 14 = .ok (.iconst 0, 1) := by decide +kernel
theorem dX11_allDots_15 : decode cX11_allDots 15 = .ok (.istore 5, 2) := by decide +kernel
theorem dX11_allDots_17 : decode cX11_allDots 17 = .ok (.iload 5, 2) := by decide +kernel
theorem dX11_allDots_19 : decode cX11_allDots 19 = .ok (.aload_n 0, 1) := by decide +kernel
theorem dX11_allDots_20 : decode cX11_allDots 20 = .ok (.getfield 17, 3) := by decide +kernel
theorem dX11_allDots_23 : decode cX11_allDots 23 = .ok (.iconst 3, 1) := by decide +kernel
theorem dX11_allDots_24 : decode cX11_allDots 24 = .ok (.iaload, 1) := by decide +kernel
theorem dX11_allDots_25 : decode cX11_allDots 25 = .ok (.if_icmp .ge 40, 3) := by decide +kernel
theorem dX11_allDots_28 : decode cX11_allDots 28 = .ok (.iload_n 3, 1) := by decide +kernel
theorem dX11_allDots_29 : decode cX11_allDots 29 = .ok (.iload_n 1, 1) := by decide +kernel
theorem dX11_allDots_30 : decode cX11_allDots 30 = .ok (.iconst (-1), 1) := by decide +kernel
theorem dX11_allDots_31 : decode cX11_allDots 31 = .ok (.if_icmp .eq 9, 3) := by decide +kernel
theorem dX11_allDots_34 : decode cX11_allDots 34 = .ok (.iload 5, 2) := by decide +kernel
theorem dX11_allDots_36 : decode cX11_allDots 36 = .ok (.iload_n 1, 1) := by decide +kernel
theorem dX11_allDots_37 : decode cX11_allDots 37 = .ok (.if_icmp .ne 19, 3) := by decide +kernel
theorem dX11_allDots_40 : decode cX11_allDots 40 = .ok (.aload_n 0, 1) := by decide +kernel
theorem dX11_allDots_41 : decode cX11_allDots 41 = .ok (.getfield 70, 3) := by decide +kernel
theorem dX11_allDots_44 : decode cX11_allDots 44 = .ok (.iload_n 2, 1) := by decide +kernel
theorem dX11_allDots_45 : decode cX11_allDots 45 = .ok (.iload 4, 2) := by decide +kernel
theorem dX11_allDots_47 : decode cX11_allDots 47 = .ok (.iload 5, 2) := by decide +kernel
theorem dX11_allDots_49 : decode cX11_allDots 49 = .ok (.invokestatic 239, 3) := by decide +kernel
theorem dX11_allDots_52 : decode cX11_allDots 52 = .ok (.iaload, 1) := by decide +kernel
theorem dX11_allDots_53 : decode cX11_allDots 53 = .ok (.goto 4, 3) := by decide +kernel
theorem dX11_allDots_56 : decode cX11_allDots 56 = .ok (.iconst 0, 1) := by decide +kernel
theorem dX11_allDots_57 : decode cX11_allDots 57 = .ok (.iadd, 1) := by decide +kernel
theorem dX11_allDots_58 : decode cX11_allDots 58 = .ok (.istore_n 3, 1) := by decide +kernel
theorem dX11_allDots_59 : decode cX11_allDots 59 = .ok (.iinc 5 1, 3) := by decide +kernel
theorem dX11_allDots_62 : decode cX11_allDots 62 = .ok (.goto (-45), 3) := by decide +kernel
theorem dX11_allDots_65 : decode cX11_allDots 65 = .ok (.iinc 4 1, 3) := by decide +kernel
theorem dX11_allDots_68 : decode cX11_allDots 68 = .ok (.goto (-63), 3) := by decide +kernel
theorem dX11_allDots_71 : decode cX11_allDots 71 = .ok (.iload_n 3, 1) := by decide +kernel
theorem dX11_allDots_72 : decode cX11_allDots 72 = .ok (.ireturn, 1) := by decide +kernel
theorem dX11_cellOf_0 : decode cX11_cellOf 0 = .ok (.aload_n 0, 1) := by decide +kernel
theorem dX11_cellOf_1 : decode cX11_cellOf 1 = .ok (.getfield 58, 3) := by decide +kernel
theorem dX11_cellOf_4 : decode cX11_cellOf 4 = .ok (.aload_n 0, 1) := by decide +kernel
theorem dX11_cellOf_5 : decode cX11_cellOf 5 = .ok (.getfield 61, 3) := by decide +kernel
theorem dX11_cellOf_8 : decode cX11_cellOf 8 = .ok (.iload_n 1, 1) := by decide +kernel
theorem dX11_cellOf_9 : decode cX11_cellOf 9 = .ok (.iaload, 1) := by decide +kernel
theorem dX11_cellOf_10 : decode cX11_cellOf 10 = .ok (.iload_n 3, 1) := by decide +kernel
theorem dX11_cellOf_11 : decode cX11_cellOf 11 = .ok (.i2l, 1) := by decide +kernel
theorem dX11_cellOf_12 : decode cX11_cellOf 12 = .ok (.aload_n 0, 1) := by decide +kernel
theorem dX11_cellOf_13 : decode cX11_cellOf 13 = .ok (.getfield 17, 3) := by decide +kernel
theorem dX11_cellOf_16 : decode cX11_cellOf 16 = .ok (.iconst 3, 1) := by decide +kernel
theorem dX11_cellOf_17 : decode cX11_cellOf 17 = .ok (.iaload, 1) := by decide +kernel
theorem dX11_cellOf_18 : decode cX11_cellOf 18 = .ok (.i2l, 1) := by decide +kernel
theorem dX11_cellOf_19 : decode cX11_cellOf 19 = .ok (.lmul, 1) := by decide +kernel
theorem dX11_cellOf_20 : decode cX11_cellOf 20 = .ok (.iload_n 2, 1) := by decide +kernel
theorem dX11_cellOf_21 : decode cX11_cellOf 21 = .ok (.i2l, 1) := by decide +kernel
theorem dX11_cellOf_22 : decode cX11_cellOf 22 = .ok (.ladd, 1) := by decide +kernel
theorem dX11_cellOf_23 : decode cX11_cellOf 23 = .ok (.aload_n 0, 1) := by decide +kernel
theorem dX11_cellOf_24 : decode cX11_cellOf 24 = .ok (.iload_n 1, 1) := by decide +kernel
theorem dX11_cellOf_25 : decode cX11_cellOf 25 = .ok (.invokevirtual 243, 3) := by decide +kernel
theorem dX11_cellOf_28 : decode cX11_cellOf 28 = .ok (.i2l, 1) := by decide +kernel
theorem dX11_cellOf_29 : decode cX11_cellOf 29 = .ok (.lrem, 1) := by decide +kernel
theorem dX11_cellOf_30 : decode cX11_cellOf 30 = .ok (.l2i, 1) := by decide +kernel
theorem dX11_cellOf_31 : decode cX11_cellOf 31 = .ok (.iadd, 1) := by decide +kernel
theorem dX11_cellOf_32 : decode cX11_cellOf 32 = .ok (.iaload, 1) := by decide +kernel
theorem dX11_cellOf_33 : decode cX11_cellOf 33 = .ok (.ireturn, 1) := by decide +kernel
theorem dX11_laysCrowds_0 : decode cX11_laysCrowds 0 = .ok (.aload_n 0, 1) := by decide +kernel
theorem dX11_laysCrowds_1 : decode cX11_laysCrowds 1 = .ok (.aload_n 0, 1) := by decide +kernel
theorem dX11_laysCrowds_2 : decode cX11_laysCrowds 2 = .ok (.getfield 48, 3) := by decide +kernel
theorem dX11_laysCrowds_5 : decode cX11_laysCrowds 5 = .ok (.invokevirtual 246, 3) := by decide +kernel
theorem dX11_laysCrowds_8 : decode cX11_laysCrowds 8 = .ok (.iconst 0, 1) := by decide +kernel
theorem dX11_laysCrowds_9 : decode cX11_laysCrowds 9 = .ok (.istore_n 2, 1) := by decide +kernel
theorem dX11_laysCrowds_10 : decode cX11_laysCrowds 10 = .ok (.iload_n 2, 1) := by decide +kernel
theorem dX11_laysCrowds_11 : decode cX11_laysCrowds 11 = .ok (.sipush 1152, 3) := by decide +kernel
theorem dX11_laysCrowds_14 : decode cX11_laysCrowds 14 = .ok (.if_icmp .ge 16, 3) := by decide +kernel
theorem dX11_laysCrowds_17 : decode cX11_laysCrowds 17 = .ok (.aload_n 0, 1) := by decide +kernel
theorem dX11_laysCrowds_18 : decode cX11_laysCrowds 18 = .ok (.getfield 79, 3) := by decide +kernel
theorem dX11_laysCrowds_21 : decode cX11_laysCrowds 21 = .ok (.iload_n 2, 1) := by decide +kernel
theorem dX11_laysCrowds_22 : decode cX11_laysCrowds 22 = .ok (.iconst 0, 1) := by decide +kernel
theorem dX11_laysCrowds_23 : decode cX11_laysCrowds 23 = .ok (.iastore, 1) := by decide +kernel
theorem dX11_laysCrowds_24 : decode cX11_laysCrowds 24 = .ok (.iinc 2 1, 3) := by decide +kernel
theorem dX11_laysCrowds_27 : decode cX11_laysCrowds 27 = .ok (.goto (-17), 3) := by decide +kernel
theorem dX11_laysCrowds_30 : decode cX11_laysCrowds 30 = .ok (.iconst 0, 1) := by decide +kernel
theorem dX11_laysCrowds_31 : decode cX11_laysCrowds 31 = .ok (.istore_n 2, 1) := by decide +kernel
theorem dX11_laysCrowds_32 : decode cX11_laysCrowds 32 = .ok (.iload_n 2, 1) := by decide +kernel
theorem dX11_laysCrowds_33 : decode cX11_laysCrowds 33 = .ok (.aload_n 0, 1) := by decide +kernel
theorem dX11_laysCrowds_34 : decode cX11_laysCrowds 34 = .ok (.invokevirtual 222, 3) := by decide +kernel
theorem dX11_laysCrowds_37 : decode cX11_laysCrowds 37 = .ok (.if_icmp .ge 73, 3) := by decide +kernel
theorem dX11_laysCrowds_40 : decode cX11_laysCrowds 40 = .ok (.iconst 0, 1) := by decide +kernel
theorem dX11_laysCrowds_41 : decode cX11_laysCrowds 41 = .ok (.istore_n 3, 1) := by decide +kernel
theorem dX11_laysCrowds_42 : decode cX11_laysCrowds 42 = .ok (.iload_n 3, 1) := by decide +kernel
theorem dX11_laysCrowds_43 : decode cX11_laysCrowds 43 = .ok (.aload_n 0, 1) := by decide +kernel
theorem dX11_laysCrowds_44 : decode cX11_laysCrowds 44 = .ok (.getfield 17, 3) := by decide +kernel
theorem dX11_laysCrowds_47 : decode cX11_laysCrowds 47 = .ok (.iconst 3, 1) := by decide +kernel
theorem dX11_laysCrowds_48 : decode cX11_laysCrowds 48 = .ok (.iaload, 1) := by decide +kernel
theorem dX11_laysCrowds_49 : decode cX11_laysCrowds 49 = .ok (.if_icmp .ge 55, 3) := by decide +kernel
theorem dX11_laysCrowds_52 : decode cX11_laysCrowds 52 = .ok (.iconst 0, 1) := by decide +kernel
theorem dX11_laysCrowds_53 : decode cX11_laysCrowds 53 = .ok (.istore 4, 2) := by decide +kernel
theorem dX11_laysCrowds_55 : decode cX11_laysCrowds 55 = .ok (.iload 4, 2) := by decide +kernel
theorem dX11_laysCrowds_57 : decode cX11_laysCrowds 57 = .ok (.aload_n 0, 1) := by decide +kernel
theorem dX11_laysCrowds_58 : decode cX11_laysCrowds 58 = .ok (.getfield 70, 3) := by decide +kernel
theorem dX11_laysCrowds_61 : decode cX11_laysCrowds 61 = .ok (.iload_n 1, 1) := by decide +kernel
theorem dX11_laysCrowds_62 : decode cX11_laysCrowds 62 = .ok (.iload_n 2, 1) := by decide +kernel
theorem dX11_laysCrowds_63 : decode cX11_laysCrowds 63 = .ok (.iload_n 3, 1) := by decide +kernel
theorem dX11_laysCrowds_64 : decode cX11_laysCrowds 64 = .ok (.invokestatic 239, 3) := by decide +kernel
theorem dX11_laysCrowds_67 : decode cX11_laysCrowds 67 = .ok (.iaload, 1) := by decide +kernel
theorem dX11_laysCrowds_68 : decode cX11_laysCrowds 68 = .ok (.if_icmp .ge 30, 3) := by decide +kernel
theorem dX11_laysCrowds_71 : decode cX11_laysCrowds 71 = .ok (.aload_n 0, 1) := by decide +kernel
theorem dX11_laysCrowds_72 : decode cX11_laysCrowds 72 = .ok (.getfield 79, 3) := by decide +kernel
theorem dX11_laysCrowds_75 : decode cX11_laysCrowds 75 = .ok (.iconst 3, 1) := by decide +kernel
theorem dX11_laysCrowds_76 : decode cX11_laysCrowds 76 = .ok (.aload_n 0, 1) := by decide +kernel
theorem dX11_laysCrowds_77 : decode cX11_laysCrowds 77 = .ok (.iload_n 2, 1) := by decide +kernel
theorem dX11_laysCrowds_78 : decode cX11_laysCrowds 78 = .ok (.iload_n 3, 1) := by decide +kernel
theorem dX11_laysCrowds_79 : decode cX11_laysCrowds 79 = .ok (.iload 4, 2) := by decide +kernel
theorem dX11_laysCrowds_81 : decode cX11_laysCrowds 81 = .ok (.invokevirtual 249, 3) := by decide +kernel
theorem dX11_laysCrowds_84 : decode cX11_laysCrowds 84 = .ok (.imul, 1) := by decide +kernel
theorem dX11_laysCrowds_85 : decode cX11_laysCrowds 85 = .ok (.iload_n 3, 1) := by decide +kernel
theorem dX11_laysCrowds_86 : decode cX11_laysCrowds 86 = .ok (.iadd, 1) := by decide +kernel
theorem dX11_laysCrowds_87 : decode cX11_laysCrowds 87 = .ok (.dup2, 1) := by decide +kernel
theorem dX11_laysCrowds_88 : decode cX11_laysCrowds 88 = .ok (.iaload, 1) := by decide +kernel
theorem dX11_laysCrowds_89 : decode cX11_laysCrowds 89 = .ok (.iconst 1, 1) := by decide +kernel
theorem dX11_laysCrowds_90 : decode cX11_laysCrowds 90 = .ok (.iadd, 1) := by decide +kernel
theorem dX11_laysCrowds_91 : decode cX11_laysCrowds 91 = .ok (.iastore, 1) := by decide +kernel
theorem dX11_laysCrowds_92 : decode cX11_laysCrowds 92 = .ok (.iinc 4 1, 3) := by decide +kernel
theorem dX11_laysCrowds_95 : decode cX11_laysCrowds 95 = .ok (.goto (-40), 3) := by decide +kernel
theorem dX11_laysCrowds_98 : decode cX11_laysCrowds 98 = .ok (.iinc 3 1, 3) := by decide +kernel
theorem dX11_laysCrowds_101 : decode cX11_laysCrowds 101 = .ok (.goto (-59), 3) := by decide +kernel
theorem dX11_laysCrowds_104 : decode cX11_laysCrowds 104 = .ok (.iinc 2 1, 3) := by decide +kernel
theorem dX11_laysCrowds_107 : decode cX11_laysCrowds 107 = .ok (.goto (-75), 3) := by decide +kernel
theorem dX11_laysCrowds_110 : decode cX11_laysCrowds 110 = .ok (.return_, 1) := by decide +kernel
theorem dX11_crowdOf_0 : decode cX11_crowdOf 0 = .ok (.iconst 0, 1) := by decide +kernel
theorem dX11_crowdOf_1 : decode cX11_crowdOf 1 = .ok (.istore_n 3, 1) := by decide +kernel
theorem dX11_crowdOf_2 : decode cX11_crowdOf 2 = .ok (.iconst 0, 1) := by decide +kernel
theorem dX11_crowdOf_3 : decode cX11_crowdOf 3 = .ok (.istore 4, 2) := by decide +kernel
theorem dX11_crowdOf_5 : decode cX11_crowdOf 5 = .ok (.iload 4, 2) := by decide +kernel
theorem dX11_crowdOf_7 : decode cX11_crowdOf 7 = .ok (.iconst 3, 1) := by decide +kernel
theorem dX11_crowdOf_8 : decode cX11_crowdOf 8 = .ok (.if_icmp .ge 38, 3) := by decide +kernel
theorem dX11_crowdOf_11 : decode cX11_crowdOf 11 = .ok (.iload_n 3, 1) := by decide +kernel
theorem dX11_crowdOf_12 : decode cX11_crowdOf 12 = .ok (.iload_n 2, 1) := by decide +kernel
theorem dX11_crowdOf_13 : decode cX11_crowdOf 13 = .ok (.iconst (-1), 1) := by decide +kernel
theorem dX11_crowdOf_14 : decode cX11_crowdOf 14 = .ok (.if_icmp .eq 9, 3) := by decide +kernel
theorem dX11_crowdOf_17 : decode cX11_crowdOf 17 = .ok (.iload 4, 2) := by decide +kernel
theorem dX11_crowdOf_19 : decode cX11_crowdOf 19 = .ok (.iload_n 2, 1) := by decide +kernel
theorem dX11_crowdOf_20 : decode cX11_crowdOf 20 = .ok (.if_icmp .ne 17, 3) := by decide +kernel
theorem dX11_crowdOf_23 : decode cX11_crowdOf 23 = .ok (.aload_n 0, 1) := by decide +kernel
theorem dX11_crowdOf_24 : decode cX11_crowdOf 24 = .ok (.getfield 79, 3) := by decide +kernel
theorem dX11_crowdOf_27 : decode cX11_crowdOf 27 = .ok (.iconst 3, 1) := by decide +kernel
theorem dX11_crowdOf_28 : decode cX11_crowdOf 28 = .ok (.iload_n 1, 1) := by decide +kernel
theorem dX11_crowdOf_29 : decode cX11_crowdOf 29 = .ok (.imul, 1) := by decide +kernel
theorem dX11_crowdOf_30 : decode cX11_crowdOf 30 = .ok (.iload 4, 2) := by decide +kernel
theorem dX11_crowdOf_32 : decode cX11_crowdOf 32 = .ok (.iadd, 1) := by decide +kernel
theorem dX11_crowdOf_33 : decode cX11_crowdOf 33 = .ok (.iaload, 1) := by decide +kernel
theorem dX11_crowdOf_34 : decode cX11_crowdOf 34 = .ok (.goto 4, 3) := by decide +kernel
theorem dX11_crowdOf_37 : decode cX11_crowdOf 37 = .ok (.iconst 0, 1) := by decide +kernel
theorem dX11_crowdOf_38 : decode cX11_crowdOf 38 = .ok (.iadd, 1) := by decide +kernel
theorem dX11_crowdOf_39 : decode cX11_crowdOf 39 = .ok (.istore_n 3, 1) := by decide +kernel
theorem dX11_crowdOf_40 : decode cX11_crowdOf 40 = .ok (.iinc 4 1, 3) := by decide +kernel
theorem dX11_crowdOf_43 : decode cX11_crowdOf 43 = .ok (.goto (-38), 3) := by decide +kernel
theorem dX11_crowdOf_46 : decode cX11_crowdOf 46 = .ok (.iload_n 3, 1) := by decide +kernel
theorem dX11_crowdOf_47 : decode cX11_crowdOf 47 = .ok (.ireturn, 1) := by decide +kernel
theorem dX11_hasDots_0 : decode cX11_hasDots 0 = .ok (.aload_n 0, 1) := by decide +kernel
theorem dX11_hasDots_1 : decode cX11_hasDots 1 = .ok (.iload_n 1, 1) := by decide +kernel
theorem dX11_hasDots_2 : decode cX11_hasDots 2 = .ok (.iconst (-1), 1) := by decide +kernel
theorem dX11_hasDots_3 : decode cX11_hasDots 3 = .ok (.invokevirtual 252, 3) := by decide +kernel
theorem dX11_hasDots_6 : decode cX11_hasDots 6 = .ok (.ifCond .le 7, 3) := by decide +kernel
theorem dX11_hasDots_9 : decode cX11_hasDots 9 = .ok (.iconst 1, 1) := by decide +kernel
theorem dX11_hasDots_10 : decode cX11_hasDots 10 = .ok (.goto 4, 3) := by decide +kernel
theorem dX11_hasDots_13 : decode cX11_hasDots 13 = .ok (.iconst 0, 1) := by decide +kernel
theorem dX11_hasDots_14 : decode cX11_hasDots 14 = .ok (.ireturn, 1) := by decide +kernel
theorem dX11_noCell_0 : decode cX11_noCell 0 = .ok (.aload_n 0, 1) := by decide +kernel
theorem dX11_noCell_1 : decode cX11_noCell 1 = .ok (.iload_n 1, 1) := by decide +kernel
theorem dX11_noCell_2 : decode cX11_noCell 2 = .ok (.iconst 0, 1) := by decide +kernel
theorem dX11_noCell_3 : decode cX11_noCell 3 = .ok (.aload_n 0, 1) := by decide +kernel
theorem dX11_noCell_4 : decode cX11_noCell 4 = .ok (.invokevirtual 229, 3) := by decide +kernel
theorem dX11_noCell_7 : decode cX11_noCell 7 = .ok (.iconst 1, 1) := by decide +kernel
theorem dX11_noCell_8 : decode cX11_noCell 8 = .ok (.isub, 1) := by decide +kernel
theorem dX11_noCell_9 : decode cX11_noCell 9 = .ok (.invokestatic 169, 3) := by decide +kernel
theorem dX11_noCell_12 : decode cX11_noCell 12 = .ok (.ifCond .ne 7, 3) := by decide +kernel
theorem dX11_noCell_15 : decode cX11_noCell 15 = .ok (.iconst 1, 1) := by decide +kernel
theorem dX11_noCell_16 : decode cX11_noCell 16 = .ok (.goto 4, 3) := by decide +kernel
theorem dX11_noCell_19 : decode cX11_noCell 19 = .ok (.iconst 0, 1) := by decide +kernel
theorem dX11_noCell_20 : decode cX11_noCell 20 = .ok (.iconst 1, 1) := by decide +kernel
theorem dX11_noCell_21 : decode cX11_noCell 21 = .ok (.invokevirtual 215, 3) := by decide +kernel
theorem dX11_noCell_24 : decode cX11_noCell 24 = .ok (.ireturn, 1) := by decide +kernel
theorem dX11_noZone_0 : decode cX11_noZone 0 = .ok (.aload_n 0, 1) := by decide +kernel
theorem dX11_noZone_1 : decode cX11_noZone 1 = .ok (.iload_n 1, 1) := by decide +kernel
theorem dX11_noZone_2 : decode cX11_noZone 2 = .ok (.iconst 0, 1) := by decide +kernel
theorem dX11_noZone_3 : decode cX11_noZone 3 = .ok (.aload_n 0, 1) := by decide +kernel
theorem dX11_noZone_4 : decode cX11_noZone 4 = .ok (.invokevirtual 222, 3) := by decide +kernel
theorem dX11_noZone_7 : decode cX11_noZone 7 = .ok (.iconst 1, 1) := by decide +kernel
theorem dX11_noZone_8 : decode cX11_noZone 8 = .ok (.isub, 1) := by decide +kernel
theorem dX11_noZone_9 : decode cX11_noZone 9 = .ok (.invokestatic 169, 3) := by decide +kernel
theorem dX11_noZone_12 : decode cX11_noZone 12 = .ok (.ifCond .ne 7, 3) := by decide +kernel
theorem dX11_noZone_15 : decode cX11_noZone 15 = .ok (.iconst 1, 1) := by decide +kernel
theorem dX11_noZone_16 : decode cX11_noZone 16 = .ok (.goto 4, 3) := by decide +kernel
theorem dX11_noZone_19 : decode cX11_noZone 19 = .ok (.iconst 0, 1) := by decide +kernel
theorem dX11_noZone_20 : decode cX11_noZone 20 = .ok (.iconst 1, 1) := by decide +kernel
theorem dX11_noZone_21 : decode cX11_noZone 21 = .ok (.invokevirtual 215, 3) := by decide +kernel
theorem dX11_noZone_24 : decode cX11_noZone 24 = .ok (.ireturn, 1) := by decide +kernel
theorem dX11_noGroup_0 : decode cX11_noGroup 0 = .ok (.aload_n 0, 1) := by decide +kernel
theorem dX11_noGroup_1 : decode cX11_noGroup 1 = .ok (.iload_n 1, 1) := by decide +kernel
theorem dX11_noGroup_2 : decode cX11_noGroup 2 = .ok (.iconst 0, 1) := by decide +kernel
theorem dX11_noGroup_3 : decode cX11_noGroup 3 = .ok (.aload_n 0, 1) := by decide +kernel
theorem dX11_noGroup_4 : decode cX11_noGroup 4 = .ok (.getfield 17, 3) := by decide +kernel
theorem dX11_noGroup_7 : decode cX11_noGroup 7 = .ok (.iconst 3, 1) := by decide +kernel
theorem dX11_noGroup_8 : decode cX11_noGroup 8 = .ok (.iaload, 1) := by decide +kernel
theorem dX11_noGroup_9 : decode cX11_noGroup 9 = .ok (.iconst 1, 1) := by decide +kernel
theorem dX11_noGroup_10 : decode cX11_noGroup 10 = .ok (.isub, 1) := by decide +kernel
theorem dX11_noGroup_11 : decode cX11_noGroup 11 = .ok (.invokestatic 169, 3) := by decide +kernel
theorem dX11_noGroup_14 : decode cX11_noGroup 14 = .ok (.ifCond .ne 7, 3) := by decide +kernel
theorem dX11_noGroup_17 : decode cX11_noGroup 17 = .ok (.iconst 1, 1) := by decide +kernel
theorem dX11_noGroup_18 : decode cX11_noGroup 18 = .ok (.goto 4, 3) := by decide +kernel
theorem dX11_noGroup_21 : decode cX11_noGroup 21 = .ok (.iconst 0, 1) := by decide +kernel
theorem dX11_noGroup_22 : decode cX11_noGroup 22 = .ok (.iconst 1, 1) := by decide +kernel
theorem dX11_noGroup_23 : decode cX11_noGroup 23 = .ok (.invokevirtual 215, 3) := by decide +kernel
theorem dX11_noGroup_26 : decode cX11_noGroup 26 = .ok (.ireturn, 1) := by decide +kernel
theorem dX11_noLevel_0 : decode cX11_noLevel 0 = .ok (.aload_n 0, 1) := by decide +kernel
theorem dX11_noLevel_1 : decode cX11_noLevel 1 = .ok (.iload_n 1, 1) := by decide +kernel
theorem dX11_noLevel_2 : decode cX11_noLevel 2 = .ok (.iconst 0, 1) := by decide +kernel
theorem dX11_noLevel_3 : decode cX11_noLevel 3 = .ok (.iconst 4, 1) := by decide +kernel
theorem dX11_noLevel_4 : decode cX11_noLevel 4 = .ok (.invokestatic 169, 3) := by decide +kernel
theorem dX11_noLevel_7 : decode cX11_noLevel 7 = .ok (.ifCond .ne 7, 3) := by decide +kernel
theorem dX11_noLevel_10 : decode cX11_noLevel 10 = .ok (.iconst 1, 1) := by decide +kernel
theorem dX11_noLevel_11 : decode cX11_noLevel 11 = .ok (.goto 4, 3) := by decide +kernel
theorem dX11_noLevel_14 : decode cX11_noLevel 14 = .ok (.iconst 0, 1) := by decide +kernel
theorem dX11_noLevel_15 : decode cX11_noLevel 15 = .ok (.iconst 1, 1) := by decide +kernel
theorem dX11_noLevel_16 : decode cX11_noLevel 16 = .ok (.invokevirtual 215, 3) := by decide +kernel
theorem dX11_noLevel_19 : decode cX11_noLevel 19 = .ok (.ireturn, 1) := by decide +kernel
theorem dX11_noRow_0 : decode cX11_noRow 0 = .ok (.aload_n 0, 1) := by decide +kernel
theorem dX11_noRow_1 : decode cX11_noRow 1 = .ok (.iload_n 1, 1) := by decide +kernel
theorem dX11_noRow_2 : decode cX11_noRow 2 = .ok (.iconst 0, 1) := by decide +kernel
theorem dX11_noRow_3 : decode cX11_noRow 3 = .ok (.aload_n 0, 1) := by decide +kernel
theorem dX11_noRow_4 : decode cX11_noRow 4 = .ok (.getfield 17, 3) := by decide +kernel
theorem dX11_noRow_7 : decode cX11_noRow 7 = .ok (.iconst 1, 1) := by decide +kernel
theorem dX11_noRow_8 : decode cX11_noRow 8 = .ok (.iaload, 1) := by decide +kernel
theorem dX11_noRow_9 : decode cX11_noRow 9 = .ok (.iconst 1, 1) := by decide +kernel
theorem dX11_noRow_10 : decode cX11_noRow 10 = .ok (.isub, 1) := by decide +kernel
theorem dX11_noRow_11 : decode cX11_noRow 11 = .ok (.invokestatic 169, 3) := by decide +kernel
theorem dX11_noRow_14 : decode cX11_noRow 14 = .ok (.ifCond .ne 7, 3) := by decide +kernel
theorem dX11_noRow_17 : decode cX11_noRow 17 = .ok (.iconst 1, 1) := by decide +kernel
theorem dX11_noRow_18 : decode cX11_noRow 18 = .ok (.goto 4, 3) := by decide +kernel
theorem dX11_noRow_21 : decode cX11_noRow 21 = .ok (.iconst 0, 1) := by decide +kernel
theorem dX11_noRow_22 : decode cX11_noRow 22 = .ok (.iconst 1, 1) := by decide +kernel
theorem dX11_noRow_23 : decode cX11_noRow 23 = .ok (.invokevirtual 215, 3) := by decide +kernel
theorem dX11_noRow_26 : decode cX11_noRow 26 = .ok (.ireturn, 1) := by decide +kernel
theorem dX11_cell_0 : decode cX11_cell 0 = .ok (.aload_n 0, 1) := by decide +kernel
theorem dX11_cell_1 : decode cX11_cell 1 = .ok (.iconst 0, 1) := by decide +kernel
theorem dX11_cell_2 : decode cX11_cell 2 = .ok (.putfield 106, 3) := by decide +kernel
theorem dX11_cell_5 : decode cX11_cell 5 = .ok (.aload_n 0, 1) := by decide +kernel
theorem dX11_cell_6 : decode cX11_cell 6 = .ok (.iload_n 1, 1) := by decide +kernel
theorem dX11_cell_7 : decode cX11_cell 7 = .ok (.invokevirtual 255, 3) := by decide +kernel
theorem dX11_cell_10 : decode cX11_cell 10 = .ok (.ifCond .ne 25, 3) := by decide +kernel
theorem dX11_cell_13 : decode cX11_cell 13 = .ok (.aload_n 0, 1) := by decide +kernel
theorem dX11_cell_14 : decode cX11_cell 14 = .ok (.iload_n 2, 1) := by decide +kernel
theorem dX11_cell_15 : decode cX11_cell 15 = .ok (.iconst 0, 1) := by decide +kernel
theorem dX11_cell_16 : decode cX11_cell 16 = .ok (.iconst 1, 1) := by decide +kernel
theorem dX11_cell_17 : decode cX11_cell 17 = .ok (.invokestatic 169, 3) := by decide +kernel
theorem dX11_cell_20 : decode cX11_cell 20 = .ok (.ifCond .ne 7, 3) := by decide +kernel
theorem dX11_cell_23 : decode cX11_cell 23 = .ok (.iconst 1, 1) := by decide +kernel
theorem dX11_cell_24 : decode cX11_cell 24 = .ok (.goto 4, 3) := by decide +kernel
theorem dX11_cell_27 : decode cX11_cell 27 = .ok (.iconst 0, 1) := by decide +kernel
theorem dX11_cell_28 : decode cX11_cell 28 = .ok (.iconst 2, 1) := by decide +kernel
theorem dX11_cell_29 : decode cX11_cell 29 = .ok (.invokevirtual 215, 3) := by decide +kernel
theorem dX11_cell_32 : decode cX11_cell 32 = .ok (.ifCond .eq 5, 3) := by decide +kernel
theorem dX11_cell_35 : decode cX11_cell 35 = .ok (.iconst 0, 1) := by decide +kernel
theorem dX11_cell_36 : decode cX11_cell 36 = .ok (.ireturn, 1) := by decide +kernel
theorem dX11_cell_37 : decode cX11_cell 37 = .ok (.iload_n 2, 1) := by decide +kernel
theorem dX11_cell_38 : decode cX11_cell 38 = .ok (.ifCond .ne 12, 3) := by decide +kernel
theorem dX11_cell_41 : decode cX11_cell 41 = .ok (.aload_n 0, 1) := by decide +kernel
theorem dX11_cell_42 : decode cX11_cell 42 = .ok (.getfield 23, 3) := by decide +kernel
theorem dX11_cell_45 : decode cX11_cell 45 = .ok (.iload_n 1, 1) := by decide +kernel
theorem dX11_cell_46 : decode cX11_cell 46 = .ok (.iaload, 1) := by decide +kernel
theorem dX11_cell_47 : decode cX11_cell 47 = .ok (.goto 17, 3) := by decide +kernel
theorem dX11_cell_50 : decode cX11_cell 50 = .ok (.aload_n 0, 1) := by decide +kernel
theorem dX11_cell_51 : decode cX11_cell 51 = .ok (.getfield 29, 3) := by decide +kernel
theorem dX11_cell_54 : decode cX11_cell 54 = .ok (.iload_n 1, 1) := by decide +kernel
theorem dX11_cell_55 : decode cX11_cell 55 = .ok (.baload, 1) := by decide +kernel
theorem dX11_cell_56 : decode cX11_cell 56 = .ok (.ifCond .eq 7, 3) := by decide +kernel
theorem dX11_cell_59 : decode cX11_cell 59 = .ok (.iconst 1, 1) := by decide +kernel
theorem dX11_cell_60 : decode cX11_cell 60 = .ok (.goto 4, 3) := by decide +kernel
theorem dX11_cell_63 : decode cX11_cell 63 = .ok (.iconst 0, 1) := by decide +kernel
theorem dX11_cell_64 : decode cX11_cell 64 = .ok (.ireturn, 1) := by decide +kernel
theorem dX11_beside_0 : decode cX11_beside 0 = .ok (.iload_n 1, 1) := by decide +kernel
theorem dX11_beside_1 : decode cX11_beside 1 = .ok (.aload_n 0, 1) := by decide +kernel
theorem dX11_beside_2 : decode cX11_beside 2 = .ok (.getfield 17, 3) := by decide +kernel
theorem dX11_beside_5 : decode cX11_beside 5 = .ok (.iconst 0, 1) := by decide +kernel
theorem dX11_beside_6 : decode cX11_beside 6 = .ok (.iaload, 1) := by decide +kernel
theorem dX11_beside_7 : decode cX11_beside 7 = .ok (.irem, 1) := by decide +kernel
theorem dX11_beside_8 : decode cX11_beside 8 = .ok (.istore_n 3, 1) := by decide +kernel
theorem dX11_beside_9 : decode cX11_beside 9 = .ok (.iload_n 1, 1) := by decide +kernel
theorem dX11_beside_10 : decode cX11_beside 10 = .ok (.aload_n 0, 1) := by decide +kernel
theorem dX11_beside_11 : decode cX11_beside 11 = .ok (.getfield 17, 3) := by decide +kernel
theorem dX11_beside_14 : decode cX11_beside 14 = .ok (.iconst 0, 1) := by decide +kernel
theorem dX11_beside_15 : decode cX11_beside 15 = .ok (.iaload, 1) := by decide +kernel
theorem dX11_beside_16 : decode cX11_beside 16 = .ok (.idiv, 1) := by decide +kernel
theorem dX11_beside_17 : decode cX11_beside 17 = .ok (.istore 4, 2) := by decide +kernel
theorem dX11_beside_19 : decode cX11_beside 19 = .ok (.iload_n 2, 1) := by decide +kernel
theorem dX11_beside_20 : decode cX11_beside 20 = .ok (.ifCond .ne 15, 3) := by decide +kernel
theorem dX11_beside_23 : decode cX11_beside 23 = .ok (.iload_n 3, 1) := by decide +kernel
theorem dX11_beside_24 : decode cX11_beside 24 = .ok (.ifCond .ne 7, 3) := by decide +kernel
theorem dX11_beside_27 : decode cX11_beside 27 = .ok (.iconst (-1), 1) := by decide +kernel
theorem dX11_beside_28 : decode cX11_beside 28 = .ok (.goto 6, 3) := by decide +kernel
theorem dX11_beside_31 : decode cX11_beside 31 = .ok (.iload_n 1, 1) := by decide +kernel
theorem dX11_beside_32 : decode cX11_beside 32 = .ok (.iconst 1, 1) := by decide +kernel
theorem dX11_beside_33 : decode cX11_beside 33 = .ok (.isub, 1) := by decide +kernel
theorem dX11_beside_34 : decode cX11_beside 34 = .ok (.ireturn, 1) := by decide +kernel
theorem dX11_beside_35 : decode cX11_beside 35 = .ok (.iload_n 2, 1) := by decide +kernel
theorem dX11_beside_36 : decode cX11_beside 36 = .ok (.iconst 1, 1) := by decide +kernel
theorem dX11_beside_37 : decode cX11_beside 37 = .ok (.if_icmp .ne 23, 3) := by decide +kernel
theorem dX11_beside_40 : decode cX11_beside 40 = .ok (.iload_n 3, 1) := by decide +kernel
theorem dX11_beside_41 : decode cX11_beside 41 = .ok (.iconst 1, 1) := by decide +kernel
theorem dX11_beside_42 : decode cX11_beside 42 = .ok (.iadd, 1) := by decide +kernel
theorem dX11_beside_43 : decode cX11_beside 43 = .ok (.aload_n 0, 1) := by decide +kernel
theorem dX11_beside_44 : decode cX11_beside 44 = .ok (.getfield 17, 3) := by decide +kernel
theorem dX11_beside_47 : decode cX11_beside 47 = .ok (.iconst 0, 1) := by decide +kernel
theorem dX11_beside_48 : decode cX11_beside 48 = .ok (.iaload, 1) := by decide +kernel
theorem dX11_beside_49 : decode cX11_beside 49 = .ok (.if_icmp .ne 7, 3) := by decide +kernel
theorem dX11_beside_52 : decode cX11_beside 52 = .ok (.iconst (-1), 1) := by decide +kernel
theorem dX11_beside_53 : decode cX11_beside 53 = .ok (.goto 6, 3) := by decide +kernel
theorem dX11_beside_56 : decode cX11_beside 56 = .ok (.iload_n 1, 1) := by decide +kernel
theorem dX11_beside_57 : decode cX11_beside 57 = .ok (.iconst 1, 1) := by decide +kernel
theorem dX11_beside_58 : decode cX11_beside 58 = .ok (.iadd, 1) := by decide +kernel
theorem dX11_beside_59 : decode cX11_beside 59 = .ok (.ireturn, 1) := by decide +kernel
theorem dX11_beside_60 : decode cX11_beside 60 = .ok (.iload_n 2, 1) := by decide +kernel
theorem dX11_beside_61 : decode cX11_beside 61 = .ok (.iconst 2, 1) := by decide +kernel
theorem dX11_beside_62 : decode cX11_beside 62 = .ok (.if_icmp .ne 21, 3) := by decide +kernel
theorem dX11_beside_65 : decode cX11_beside 65 = .ok (.iload 4, 2) := by decide +kernel
theorem dX11_beside_67 : decode cX11_beside 67 = .ok (.ifCond .ne 7, 3) := by decide +kernel
theorem dX11_beside_70 : decode cX11_beside 70 = .ok (.iconst (-1), 1) := by decide +kernel
theorem dX11_beside_71 : decode cX11_beside 71 = .ok (.goto 11, 3) := by decide +kernel
theorem dX11_beside_74 : decode cX11_beside 74 = .ok (.iload_n 1, 1) := by decide +kernel
theorem dX11_beside_75 : decode cX11_beside 75 = .ok (.aload_n 0, 1) := by decide +kernel
theorem dX11_beside_76 : decode cX11_beside 76 = .ok (.getfield 17, 3) := by decide +kernel
theorem dX11_beside_79 : decode cX11_beside 79 = .ok (.iconst 0, 1) := by decide +kernel
theorem dX11_beside_80 : decode cX11_beside 80 = .ok (.iaload, 1) := by decide +kernel
theorem dX11_beside_81 : decode cX11_beside 81 = .ok (.isub, 1) := by decide +kernel
theorem dX11_beside_82 : decode cX11_beside 82 = .ok (.ireturn, 1) := by decide +kernel
theorem dX11_beside_83 : decode cX11_beside 83 = .ok (.iload 4, 2) := by decide +kernel
theorem dX11_beside_85 : decode cX11_beside 85 = .ok (.iconst 1, 1) := by decide +kernel
theorem dX11_beside_86 : decode cX11_beside 86 = .ok (.iadd, 1) := by decide +kernel
theorem dX11_beside_87 : decode cX11_beside 87 = .ok (.aload_n 0, 1) := by decide +kernel
theorem dX11_beside_88 : decode cX11_beside 88 = .ok (.getfield 17, 3) := by decide +kernel
theorem dX11_beside_91 : decode cX11_beside 91 = .ok (.iconst 1, 1) := by decide +kernel
theorem dX11_beside_92 : decode cX11_beside 92 = .ok (.iaload, 1) := by decide +kernel
theorem dX11_beside_93 : decode cX11_beside 93 = .ok (.if_icmp .ne 7, 3) := by decide +kernel
theorem dX11_beside_96 : decode cX11_beside 96 = .ok (.iconst (-1), 1) := by decide +kernel
theorem dX11_beside_97 : decode cX11_beside 97 = .ok (.goto 11, 3) := by decide +kernel
theorem dX11_beside_100 : decode cX11_beside 100 = .ok (.iload_n 1, 1) := by decide +kernel
theorem dX11_beside_101 : decode cX11_beside 101 = .ok (.aload_n 0, 1) := by decide +kernel
theorem dX11_beside_102 : decode cX11_beside 102 = .ok (.getfield 17, 3) := by decide +kernel
theorem dX11_beside_105 : decode cX11_beside 105 = .ok (.iconst 0, 1) := by decide +kernel
theorem dX11_beside_106 : decode cX11_beside 106 = .ok (.iaload, 1) := by decide +kernel
theorem dX11_beside_107 : decode cX11_beside 107 = .ok (.iadd, 1) := by decide +kernel
theorem dX11_beside_108 : decode cX11_beside 108 = .ok (.ireturn, 1) := by decide +kernel
theorem dX11_sides_0 : decode cX11_sides 0 = .ok (.iconst 0, 1) := by decide +kernel
theorem dX11_sides_1 : decode cX11_sides 1 = .ok (.istore_n 3, 1) := by decide +kernel
theorem dX11_sides_2 : decode cX11_sides 2 = .ok (.iconst 0, 1) := by decide +kernel
theorem dX11_sides_3 : decode cX11_sides 3 = .ok (.istore 4, 2) := by decide +kernel
theorem dX11_sides_5 : decode cX11_sides 5 = .ok (.iload 4, 2) := by decide +kernel
theorem dX11_sides_7 : decode cX11_sides 7 = .ok (.aload_n 0, 1) := by decide +kernel
theorem dX11_sides_8 : decode cX11_sides 8 = .ok (.invokevirtual 229, 3) := by decide +kernel
theorem dX11_sides_11 : decode cX11_sides 11 = .ok (.if_icmp .ge 90, 3) := by decide +kernel
theorem dX11_sides_14 : decode cX11_sides 14 = .ok (.iconst 0, 1) := by decide +kernel
theorem dX11_sides_15 : decode cX11_sides 15 = .ok (.istore 5, 2) := by decide +kernel
theorem dX11_sides_17 : decode cX11_sides 17 = .ok (.iload 5, 2) := by decide +kernel
theorem dX11_sides_19 : decode cX11_sides 19 = .ok (.iconst 4, 1) := by decide +kernel
theorem dX11_sides_20 : decode cX11_sides 20 = .ok (.if_icmp .ge 75, 3) := by decide +kernel
theorem dX11_sides_23 : decode cX11_sides 23 = .ok (.aload_n 0, 1) := by decide +kernel
theorem dX11_sides_24 : decode cX11_sides 24 = .ok (.iload 4, 2) := by decide +kernel
theorem dX11_sides_26 : decode cX11_sides 26 = .ok (.iload_n 1, 1) := by decide +kernel
theorem dX11_sides_27 : decode cX11_sides 27 = .ok (.invokevirtual 233, 3) := by decide +kernel
theorem dX11_sides_30 : decode cX11_sides 30 = .ok (.ifCond .eq 65, 3) := by decide +kernel
theorem dX11_sides_33 : decode cX11_sides 33 = .ok (.aload_n 0, 1) := by decide +kernel
theorem dX11_sides_34 : decode cX11_sides 34 = .ok (.iload 4, 2) := by decide +kernel
theorem dX11_sides_36 : decode cX11_sides 36 = .ok (.iload 5, 2) := by decide +kernel
theorem dX11_sides_38 : decode cX11_sides 38 = .ok (.invokevirtual 258, 3) := by decide +kernel
theorem dX11_sides_41 : decode cX11_sides 41 = .ok (.istore 6, 2) := by decide +kernel
theorem dX11_sides_43 : decode cX11_sides 43 = .ok (.iload 6, 2) := by decide +kernel
theorem dX11_sides_45 : decode cX11_sides 45 = .ok (.iconst (-1), 1) := by decide +kernel
theorem dX11_sides_46 : decode cX11_sides 46 = .ok (.if_icmp .eq 43, 3) := by decide +kernel
theorem dX11_sides_49 : decode cX11_sides 49 = .ok (.iload_n 2, 1) := by decide +kernel
theorem dX11_sides_50 : decode cX11_sides 50 = .ok (.ifCond .eq 16, 3) := by decide +kernel
theorem dX11_sides_53 : decode cX11_sides 53 = .ok (.aload_n 0, 1) := by decide +kernel
theorem dX11_sides_54 : decode cX11_sides 54 = .ok (.getfield 29, 3) := by decide +kernel
theorem dX11_sides_57 : decode cX11_sides 57 = .ok (.iload 6, 2) := by decide +kernel
theorem dX11_sides_59 : decode cX11_sides 59 = .ok (.baload, 1) := by decide +kernel
theorem dX11_sides_60 : decode cX11_sides 60 = .ok (.ifCond .eq 29, 3) := by decide +kernel
theorem dX11_sides_63 : decode cX11_sides 63 = .ok (.goto 23, 3) := by decide +kernel
theorem dX11_sides_66 : decode cX11_sides 66 = .ok (.aload_n 0, 1) := by decide +kernel
theorem dX11_sides_67 : decode cX11_sides 67 = .ok (.iload 6, 2) := by decide +kernel
theorem dX11_sides_69 : decode cX11_sides 69 = .ok (.invokevirtual 261, 3) := by decide +kernel
theorem dX11_sides_72 : decode cX11_sides 72 = .ok (.ifCond .eq 17, 3) := by decide +kernel
theorem dX11_sides_75 : decode cX11_sides 75 = .ok (.aload_n 0, 1) := by decide +kernel
theorem dX11_sides_76 : decode cX11_sides 76 = .ok (.getfield 23, 3) := by decide +kernel
theorem dX11_sides_79 : decode cX11_sides 79 = .ok (.iload 6, 2) := by decide +kernel
theorem dX11_sides_81 : decode cX11_sides 81 = .ok (.iaload, 1) := by decide +kernel
theorem dX11_sides_82 : decode cX11_sides 82 = .ok (.iload_n 1, 1) := by decide +kernel
theorem dX11_sides_83 : decode cX11_sides 83 = .ok (.if_icmp .eq 6, 3) := by decide +kernel
theorem dX11_sides_86 : decode cX11_sides 86 = .ok (.iinc 3 1, 3) := by decide +kernel
theorem dX11_sides_89 : decode cX11_sides 89 = .ok (.iinc 5 1, 3) := by decide +kernel
theorem dX11_sides_92 : decode cX11_sides 92 = .ok (.goto (-75), 3) := by decide +kernel
theorem dX11_sides_95 : decode cX11_sides 95 = .ok (.iinc 4 1, 3) := by decide +kernel
theorem dX11_sides_98 : decode cX11_sides 98 = .ok (.goto (-93), 3) := by decide +kernel
theorem dX11_sides_101 : decode cX11_sides 101 = .ok (.iload_n 3, 1) := by decide +kernel
theorem dX11_sides_102 : decode cX11_sides 102 = .ok (.ireturn, 1) := by decide +kernel
theorem dX11_laysParts_0 : decode cX11_laysParts 0 = .ok (.iconst 0, 1) := by decide +kernel
theorem dX11_laysParts_1 : decode cX11_laysParts 1 = .ok (.istore_n 2, 1) := by decide +kernel
theorem dX11_laysParts_2 : decode cX11_laysParts 2 = .ok (.iconst 0, 1) := by decide +kernel
theorem dX11_laysParts_3 : decode cX11_laysParts 3 = .ok (.istore_n 3, 1) := by decide +kernel
theorem dX11_laysParts_4 : decode cX11_laysParts 4 = .ok (.iload_n 3, 1) := by decide +kernel
theorem dX11_laysParts_5 : decode cX11_laysParts 5 = .ok (.aload_n 0, 1) := by decide +kernel
theorem dX11_laysParts_6 : decode cX11_laysParts 6 = .ok (.invokevirtual 229, 3) := by decide +kernel
theorem dX11_laysParts_9 : decode cX11_laysParts 9 = .ok (.if_icmp .ge 16, 3) := by decide +kernel
theorem dX11_laysParts_12 : decode cX11_laysParts 12 = .ok (.aload_n 0, 1) := by decide +kernel
theorem dX11_laysParts_13 : decode cX11_laysParts 13 = .ok (.getfield 85, 3) := by decide +kernel
theorem dX11_laysParts_16 : decode cX11_laysParts 16 = .ok (.iload_n 3, 1) := by decide +kernel
theorem dX11_laysParts_17 : decode cX11_laysParts 17 = .ok (.iconst (-1), 1) := by decide +kernel
theorem dX11_laysParts_18 : decode cX11_laysParts 18 = .ok (.iastore, 1) := by decide +kernel
theorem dX11_laysParts_19 : decode cX11_laysParts 19 = .ok (.iinc 3 1, 3) := by decide +kernel
theorem dX11_laysParts_22 : decode cX11_laysParts 22 = .ok (.goto (-18), 3) := by decide +kernel
theorem dX11_laysParts_25 : decode cX11_laysParts 25 = .ok (.iconst 0, 1) := by decide +kernel
theorem dX11_laysParts_26 : decode cX11_laysParts 26 = .ok (.istore_n 3, 1) := by decide +kernel
theorem dX11_laysParts_27 : decode cX11_laysParts 27 = .ok (.iload_n 3, 1) := by decide +kernel
theorem dX11_laysParts_28 : decode cX11_laysParts 28 = .ok (.aload_n 0, 1) := by decide +kernel
theorem dX11_laysParts_29 : decode cX11_laysParts 29 = .ok (.invokevirtual 229, 3) := by decide +kernel
theorem dX11_laysParts_32 : decode cX11_laysParts 32 = .ok (.if_icmp .ge 147, 3) := by decide +kernel
theorem dX11_laysParts_35 : decode cX11_laysParts 35 = .ok (.aload_n 0, 1) := by decide +kernel
theorem dX11_laysParts_36 : decode cX11_laysParts 36 = .ok (.iload_n 3, 1) := by decide +kernel
theorem dX11_laysParts_37 : decode cX11_laysParts 37 = .ok (.iload_n 1, 1) := by decide +kernel
theorem dX11_laysParts_38 : decode cX11_laysParts 38 = .ok (.invokevirtual 233, 3) := by decide +kernel
theorem dX11_laysParts_41 : decode cX11_laysParts 41 = .ok (.ifCond .eq 132, 3) := by decide +kernel
theorem dX11_laysParts_44 : decode cX11_laysParts 44 = .ok (.aload_n 0, 1) := by decide +kernel
theorem dX11_laysParts_45 : decode cX11_laysParts 45 = .ok (.getfield 85, 3) := by decide +kernel
theorem dX11_laysParts_48 : decode cX11_laysParts 48 = .ok (.iload_n 3, 1) := by decide +kernel
theorem dX11_laysParts_49 : decode cX11_laysParts 49 = .ok (.iaload, 1) := by decide +kernel
theorem dX11_laysParts_50 : decode cX11_laysParts 50 = .ok (.iconst (-1), 1) := by decide +kernel
theorem dX11_laysParts_51 : decode cX11_laysParts 51 = .ok (.if_icmp .eq 6, 3) := by decide +kernel
theorem dX11_laysParts_54 : decode cX11_laysParts 54 = .ok (.goto 119, 3) := by decide +kernel
theorem dX11_laysParts_57 : decode cX11_laysParts 57 = .ok (.iconst 1, 1) := by decide +kernel
theorem dX11_laysParts_58 : decode cX11_laysParts 58 = .ok (.istore 4, 2) := by decide +kernel
theorem dX11_laysParts_60 : decode cX11_laysParts 60 = .ok (.aload_n 0, 1) := by decide +kernel
theorem dX11_laysParts_61 : decode cX11_laysParts 61 = .ok (.getfield 88, 3) := by decide +kernel
theorem dX11_laysParts_64 : decode cX11_laysParts 64 = .ok (.iconst 0, 1) := by decide +kernel
theorem dX11_laysParts_65 : decode cX11_laysParts 65 = .ok (.iload_n 3, 1) := by decide +kernel
theorem dX11_laysParts_66 : decode cX11_laysParts 66 = .ok (.iastore, 1) := by decide +kernel
theorem dX11_laysParts_67 : decode cX11_laysParts 67 = .ok (.aload_n 0, 1) := by decide +kernel
theorem dX11_laysParts_68 : decode cX11_laysParts 68 = .ok (.getfield 85, 3) := by decide +kernel
theorem dX11_laysParts_71 : decode cX11_laysParts 71 = .ok (.iload_n 3, 1) := by decide +kernel
theorem dX11_laysParts_72 : decode cX11_laysParts 72 = .ok (.iload_n 2, 1) := by decide +kernel
theorem dX11_laysParts_73 : decode cX11_laysParts 73 = .ok (.iastore, 1) := by decide +kernel
theorem dX11_laysParts_74 : decode cX11_laysParts 74 = .ok (.iconst 0, 1) := by decide +kernel
theorem dX11_laysParts_75 : decode cX11_laysParts 75 = .ok (.istore 5, 2) := by decide +kernel
theorem dX11_laysParts_77 : decode cX11_laysParts 77 = .ok (.iload 5, 2) := by decide +kernel
theorem dX11_laysParts_79 : decode cX11_laysParts 79 = .ok (.iload 4, 2) := by decide +kernel
theorem dX11_laysParts_81 : decode cX11_laysParts 81 = .ok (.if_icmp .ge 89, 3) := by decide +kernel
theorem dX11_laysParts_84 : decode cX11_laysParts 84 = .ok (.iconst 0, 1) := by decide +kernel
theorem dX11_laysParts_85 : decode cX11_laysParts 85 = .ok (.istore 6, 2) := by decide +kernel
theorem dX11_laysParts_87 : decode cX11_laysParts 87 = .ok (.iload 6, 2) := by decide +kernel
theorem dX11_laysParts_89 : decode cX11_laysParts 89 = .ok (.iconst 4, 1) := by decide +kernel
theorem dX11_laysParts_90 : decode cX11_laysParts 90 = .ok (.if_icmp .ge 74, 3) := by decide +kernel
theorem dX11_laysParts_93 : decode cX11_laysParts 93 = .ok (.aload_n 0, 1) := by decide +kernel
theorem dX11_laysParts_94 : decode cX11_laysParts 94 = .ok (.aload_n 0, 1) := by decide +kernel
theorem dX11_laysParts_95 : decode cX11_laysParts 95 = .ok (.getfield 88, 3) := by decide +kernel
theorem dX11_laysParts_98 : decode cX11_laysParts 98 = .ok (.iload 5, 2) := by decide +kernel
theorem dX11_laysParts_100 : decode cX11_laysParts 100 = .ok (.iaload, 1) := by decide +kernel
theorem dX11_laysParts_101 : decode cX11_laysParts 101 = .ok (.iload 6, 2) := by decide +kernel
theorem dX11_laysParts_103 : decode cX11_laysParts 103 = .ok (.invokevirtual 258, 3) := by decide +kernel
theorem dX11_laysParts_106 : decode cX11_laysParts 106 = .ok (.istore 7, 2) := by decide +kernel
theorem dX11_laysParts_108 : decode cX11_laysParts 108 = .ok (.iload 7, 2) := by decide +kernel
theorem dX11_laysParts_110 : decode cX11_laysParts 110 = .ok (.iconst (-1), 1) := by decide +kernel
theorem dX11_laysParts_111 : decode cX11_laysParts 111 = .ok (.if_icmp .eq 47, 3) := by decide +kernel
theorem dX11_laysParts_114 : decode cX11_laysParts 114 = .ok (.aload_n 0, 1) := by decide +kernel
theorem dX11_laysParts_115 : decode cX11_laysParts 115 = .ok (.iload 7, 2) := by decide +kernel
theorem dX11_laysParts_117 : decode cX11_laysParts 117 = .ok (.iload_n 1, 1) := by decide +kernel
theorem dX11_laysParts_118 : decode cX11_laysParts 118 = .ok (.invokevirtual 233, 3) := by decide +kernel
theorem dX11_laysParts_121 : decode cX11_laysParts 121 = .ok (.ifCond .eq 37, 3) := by decide +kernel
theorem dX11_laysParts_124 : decode cX11_laysParts 124 = .ok (.aload_n 0, 1) := by decide +kernel
theorem dX11_laysParts_125 : decode cX11_laysParts 125 = .ok (.getfield 85, 3) := by decide +kernel
theorem dX11_laysParts_128 : decode cX11_laysParts 128 = .ok (.iload 7, 2) := by decide +kernel
theorem dX11_laysParts_130 : decode cX11_laysParts 130 = .ok (.iaload, 1) := by decide +kernel
theorem dX11_laysParts_131 : decode cX11_laysParts 131 = .ok (.iconst (-1), 1) := by decide +kernel
theorem dX11_laysParts_132 : decode cX11_laysParts 132 = .ok (.if_icmp .eq 6, 3) := by decide +kernel
theorem dX11_laysParts_135 : decode cX11_laysParts 135 = .ok (.goto 23, 3) := by decide +kernel
theorem dX11_laysParts_138 : decode cX11_laysParts 138 = .ok (.aload_n 0, 1) := by decide +kernel
theorem dX11_laysParts_139 : decode cX11_laysParts 139 = .ok (.getfield 85, 3) := by decide +kernel
theorem dX11_laysParts_142 : decode cX11_laysParts 142 = .ok (.iload 7, 2) := by decide +kernel
theorem dX11_laysParts_144 : decode cX11_laysParts 144 = .ok (.iload_n 2, 1) := by decide +kernel
theorem dX11_laysParts_145 : decode cX11_laysParts 145 = .ok (.iastore, 1) := by decide +kernel
theorem dX11_laysParts_146 : decode cX11_laysParts 146 = .ok (.aload_n 0, 1) := by decide +kernel
theorem dX11_laysParts_147 : decode cX11_laysParts 147 = .ok (.getfield 88, 3) := by decide +kernel
theorem dX11_laysParts_150 : decode cX11_laysParts 150 = .ok (.iload 4, 2) := by decide +kernel
theorem dX11_laysParts_152 : decode cX11_laysParts 152 = .ok (.iload 7, 2) := by decide +kernel
theorem dX11_laysParts_154 : decode cX11_laysParts 154 = .ok (.iastore, 1) := by decide +kernel
theorem dX11_laysParts_155 : decode cX11_laysParts 155 = .ok (.iinc 4 1, 3) := by decide +kernel
theorem dX11_laysParts_158 : decode cX11_laysParts 158 = .ok (.iinc 6 1, 3) := by decide +kernel
theorem dX11_laysParts_161 : decode cX11_laysParts 161 = .ok (.goto (-74), 3) := by decide +kernel
theorem dX11_laysParts_164 : decode cX11_laysParts 164 = .ok (.iinc 5 1, 3) := by decide +kernel
theorem dX11_laysParts_167 : decode cX11_laysParts 167 = .ok (.goto (-90), 3) := by decide +kernel
theorem dX11_laysParts_170 : decode cX11_laysParts 170 = .ok (.iinc 2 1, 3) := by decide +kernel
theorem dX11_laysParts_173 : decode cX11_laysParts 173 = .ok (.iinc 3 1, 3) := by decide +kernel
theorem dX11_laysParts_176 : decode cX11_laysParts 176 = .ok (.goto (-149), 3) := by decide +kernel
theorem dX11_laysParts_179 : decode cX11_laysParts 179 = .ok (.iload_n 2, 1) := by decide +kernel
theorem dX11_laysParts_180 : decode cX11_laysParts 180 = .ok (.ireturn, 1) := by decide +kernel
theorem dX11_isRunBegin_0 : decode cX11_isRunBegin 0 = .ok (.aload_n 0, 1) := by decide +kernel
theorem dX11_isRunBegin_1 : decode cX11_isRunBegin 1 = .ok (.iload_n 2, 1) := by decide +kernel
theorem dX11_isRunBegin_2 : decode cX11_isRunBegin 2 = .ok (.iload_n 1, 1) := by decide +kernel
theorem dX11_isRunBegin_3 : decode cX11_isRunBegin 3 = .ok (.invokevirtual 233, 3) := by decide +kernel
theorem dX11_isRunBegin_6 : decode cX11_isRunBegin 6 = .ok (.ifCond .eq 29, 3) := by decide +kernel
theorem dX11_isRunBegin_9 : decode cX11_isRunBegin 9 = .ok (.iload_n 2, 1) := by decide +kernel
theorem dX11_isRunBegin_10 : decode cX11_isRunBegin 10 = .ok (.aload_n 0, 1) := by decide +kernel
theorem dX11_isRunBegin_11 : decode cX11_isRunBegin 11 = .ok (.getfield 17, 3) := by decide +kernel
theorem dX11_isRunBegin_14 : decode cX11_isRunBegin 14 = .ok (.iconst 0, 1) := by decide +kernel
theorem dX11_isRunBegin_15 : decode cX11_isRunBegin 15 = .ok (.iaload, 1) := by decide +kernel
theorem dX11_isRunBegin_16 : decode cX11_isRunBegin 16 = .ok (.irem, 1) := by decide +kernel
theorem dX11_isRunBegin_17 : decode cX11_isRunBegin 17 = .ok (.ifCond .eq 14, 3) := by decide +kernel
theorem dX11_isRunBegin_20 : decode cX11_isRunBegin 20 = .ok (.aload_n 0, 1) := by decide +kernel
theorem dX11_isRunBegin_21 : decode cX11_isRunBegin 21 = .ok (.iload_n 2, 1) := by decide +kernel
theorem dX11_isRunBegin_22 : decode cX11_isRunBegin 22 = .ok (.iconst 1, 1) := by decide +kernel
theorem dX11_isRunBegin_23 : decode cX11_isRunBegin 23 = .ok (.isub, 1) := by decide +kernel
theorem dX11_isRunBegin_24 : decode cX11_isRunBegin 24 = .ok (.iload_n 1, 1) := by decide +kernel
theorem dX11_isRunBegin_25 : decode cX11_isRunBegin 25 = .ok (.invokevirtual 233, 3) := by decide +kernel
theorem dX11_isRunBegin_28 : decode cX11_isRunBegin 28 = .ok (.ifCond .ne 7, 3) := by decide +kernel
theorem dX11_isRunBegin_31 : decode cX11_isRunBegin 31 = .ok (.iconst 1, 1) := by decide +kernel
theorem dX11_isRunBegin_32 : decode cX11_isRunBegin 32 = .ok (.goto 4, 3) := by decide +kernel
theorem dX11_isRunBegin_35 : decode cX11_isRunBegin 35 = .ok (.iconst 0, 1) := by decide +kernel
theorem dX11_isRunBegin_36 : decode cX11_isRunBegin 36 = .ok (.ireturn, 1) := by decide +kernel
theorem dX11_runsIn_0 : decode cX11_runsIn 0 = .ok (.iconst 0, 1) := by decide +kernel
theorem dX11_runsIn_1 : decode cX11_runsIn 1 = .ok (.istore_n 3, 1) := by decide +kernel
theorem dX11_runsIn_2 : decode cX11_runsIn 2 = .ok (.iconst 0, 1) := by decide +kernel
theorem dX11_runsIn_3 : decode cX11_runsIn 3 = .ok (.istore 4, 2) := by decide +kernel
theorem dX11_runsIn_5 : decode cX11_runsIn 5 = .ok (.iload 4, 2) := by decide +kernel
theorem dX11_runsIn_7 : decode cX11_runsIn 7 = .ok (.aload_n 0, 1) := by decide +kernel
theorem dX11_runsIn_8 : decode cX11_runsIn 8 = .ok (.getfield 17, 3) := by decide +kernel
theorem dX11_runsIn_11 : decode cX11_runsIn 11 = .ok (.iconst 0, 1) := by decide +kernel
theorem dX11_runsIn_12 : decode cX11_runsIn 12 = .ok (.iaload, 1) := by decide +kernel
theorem dX11_runsIn_13 : decode cX11_runsIn 13 = .ok (.if_icmp .ge 36, 3) := by decide +kernel
theorem dX11_runsIn_16 : decode cX11_runsIn 16 = .ok (.iload_n 3, 1) := by decide +kernel
theorem dX11_runsIn_17 : decode cX11_runsIn 17 = .ok (.aload_n 0, 1) := by decide +kernel
theorem dX11_runsIn_18 : decode cX11_runsIn 18 = .ok (.iload_n 1, 1) := by decide +kernel
theorem dX11_runsIn_19 : decode cX11_runsIn 19 = .ok (.aload_n 0, 1) := by decide +kernel
theorem dX11_runsIn_20 : decode cX11_runsIn 20 = .ok (.getfield 17, 3) := by decide +kernel
theorem dX11_runsIn_23 : decode cX11_runsIn 23 = .ok (.iconst 0, 1) := by decide +kernel
theorem dX11_runsIn_24 : decode cX11_runsIn 24 = .ok (.iaload, 1) := by decide +kernel
theorem dX11_runsIn_25 : decode cX11_runsIn 25 = .ok (.iload_n 2, 1) := by decide +kernel
theorem dX11_runsIn_26 : decode cX11_runsIn 26 = .ok (.imul, 1) := by decide +kernel
theorem dX11_runsIn_27 : decode cX11_runsIn 27 = .ok (.iload 4, 2) := by decide +kernel
theorem dX11_runsIn_29 : decode cX11_runsIn 29 = .ok (.iadd, 1) := by decide +kernel
theorem dX11_runsIn_30 : decode cX11_runsIn 30 = .ok (.invokevirtual 264, 3) := by decide +kernel
theorem dX11_runsIn_33 : decode cX11_runsIn 33 = .ok (.ifCond .eq 7, 3) := by decide +kernel
theorem dX11_runsIn_36 : decode cX11_runsIn 36 = .ok (.iconst 1, 1) := by decide +kernel
theorem dX11_runsIn_37 : decode cX11_runsIn 37 = .ok (.goto 4, 3) := by decide +kernel
theorem dX11_runsIn_40 : decode cX11_runsIn 40 = .ok (.iconst 0, 1) := by decide +kernel
theorem dX11_runsIn_41 : decode cX11_runsIn 41 = .ok (.iadd, 1) := by decide +kernel
theorem dX11_runsIn_42 : decode cX11_runsIn 42 = .ok (.istore_n 3, 1) := by decide +kernel
theorem dX11_runsIn_43 : decode cX11_runsIn 43 = .ok (.iinc 4 1, 3) := by decide +kernel
theorem dX11_runsIn_46 : decode cX11_runsIn 46 = .ok (.goto (-41), 3) := by decide +kernel
theorem dX11_runsIn_49 : decode cX11_runsIn 49 = .ok (.iload_n 3, 1) := by decide +kernel
theorem dX11_runsIn_50 : decode cX11_runsIn 50 = .ok (.ireturn, 1) := by decide +kernel
theorem dX11_zone_0 : decode cX11_zone 0 = .ok (.aload_n 0, 1) := by decide +kernel
theorem dX11_zone_1 : decode cX11_zone 1 = .ok (.iconst 0, 1) := by decide +kernel
theorem dX11_zone_2 : decode cX11_zone 2 = .ok (.putfield 106, 3) := by decide +kernel
theorem dX11_zone_5 : decode cX11_zone 5 = .ok (.aload_n 0, 1) := by decide +kernel
theorem dX11_zone_6 : decode cX11_zone 6 = .ok (.iload_n 1, 1) := by decide +kernel
theorem dX11_zone_7 : decode cX11_zone 7 = .ok (.invokevirtual 267, 3) := by decide +kernel
theorem dX11_zone_10 : decode cX11_zone 10 = .ok (.ifCond .ne 25, 3) := by decide +kernel
theorem dX11_zone_13 : decode cX11_zone 13 = .ok (.aload_n 0, 1) := by decide +kernel
theorem dX11_zone_14 : decode cX11_zone 14 = .ok (.iload_n 2, 1) := by decide +kernel
theorem dX11_zone_15 : decode cX11_zone 15 = .ok (.iconst 0, 1) := by decide +kernel
theorem dX11_zone_16 : decode cX11_zone 16 = .ok (.iconst 5, 1) := by decide +kernel
theorem dX11_zone_17 : decode cX11_zone 17 = .ok (.invokestatic 169, 3) := by decide +kernel
theorem dX11_zone_20 : decode cX11_zone 20 = .ok (.ifCond .ne 7, 3) := by decide +kernel
theorem dX11_zone_23 : decode cX11_zone 23 = .ok (.iconst 1, 1) := by decide +kernel
theorem dX11_zone_24 : decode cX11_zone 24 = .ok (.goto 4, 3) := by decide +kernel
theorem dX11_zone_27 : decode cX11_zone 27 = .ok (.iconst 0, 1) := by decide +kernel
theorem dX11_zone_28 : decode cX11_zone 28 = .ok (.iconst 2, 1) := by decide +kernel
theorem dX11_zone_29 : decode cX11_zone 29 = .ok (.invokevirtual 215, 3) := by decide +kernel
theorem dX11_zone_32 : decode cX11_zone 32 = .ok (.ifCond .eq 5, 3) := by decide +kernel
theorem dX11_zone_35 : decode cX11_zone 35 = .ok (.iconst 0, 1) := by decide +kernel
theorem dX11_zone_36 : decode cX11_zone 36 = .ok (.ireturn, 1) := by decide +kernel
theorem dX11_zone_37 : decode cX11_zone 37 = .ok (.iconst 0, 1) := by decide +kernel
theorem dX11_zone_38 : decode cX11_zone 38 = .ok (.istore_n 3, 1) := by decide +kernel
theorem dX11_zone_39 : decode cX11_zone 39 = .ok (.iload_n 2, 1) := by decide +kernel
theorem dX11_zone_40 : decode cX11_zone 40 = .ok (.tableswitch 101 0 4 #[36, 75, 81, 87, 94], 36) := by decide +kernel
theorem dX11_zone_76 : decode cX11_zone 76 = .ok (.iconst 0, 1) := by decide +kernel
theorem dX11_zone_77 : decode cX11_zone 77 = .ok (.istore 4, 2) := by decide +kernel
theorem dX11_zone_79 : decode cX11_zone 79 = .ok (.iload 4, 2) := by decide +kernel
theorem dX11_zone_81 : decode cX11_zone 81 = .ok (.aload_n 0, 1) := by decide +kernel
theorem dX11_zone_82 : decode cX11_zone 82 = .ok (.invokevirtual 229, 3) := by decide +kernel
theorem dX11_zone_85 : decode cX11_zone 85 = .ok (.if_icmp .ge 28, 3) := by decide +kernel
theorem dX11_zone_88 : decode cX11_zone 88 = .ok (.iload_n 3, 1) := by decide +kernel
theorem dX11_zone_89 : decode cX11_zone 89 = .ok (.aload_n 0, 1) := by decide +kernel
theorem dX11_zone_90 : decode cX11_zone 90 = .ok (.getfield 23, 3) := by decide +kernel
theorem dX11_zone_93 : decode cX11_zone 93 = .ok (.iload 4, 2) := by decide +kernel
theorem dX11_zone_95 : decode cX11_zone 95 = .ok (.iaload, 1) := by decide +kernel
theorem dX11_zone_96 : decode cX11_zone 96 = .ok (.iload_n 1, 1) := by decide +kernel
theorem dX11_zone_97 : decode cX11_zone 97 = .ok (.if_icmp .ne 7, 3) := by decide +kernel
theorem dX11_zone_100 : decode cX11_zone 100 = .ok (.iconst 1, 1) := by decide +kernel
theorem dX11_zone_101 : decode cX11_zone 101 = .ok (.goto 4, 3) := by decide +kernel
theorem dX11_zone_104 : decode cX11_zone 104 = .ok (.iconst 0, 1) := by decide +kernel
theorem dX11_zone_105 : decode cX11_zone 105 = .ok (.iadd, 1) := by decide +kernel
theorem dX11_zone_106 : decode cX11_zone 106 = .ok (.istore_n 3, 1) := by decide +kernel
theorem dX11_zone_107 : decode cX11_zone 107 = .ok (.iinc 4 1, 3) := by decide +kernel
theorem dX11_zone_110 : decode cX11_zone 110 = .ok (.goto (-31), 3) := by decide +kernel
theorem dX11_zone_113 : decode cX11_zone 113 = .ok (.iload_n 3, 1) := by decide +kernel
theorem dX11_zone_114 : decode cX11_zone 114 = .ok (.ireturn, 1) := by decide +kernel
theorem dX11_zone_115 : decode cX11_zone 115 = .ok (.aload_n 0, 1) := by decide +kernel
theorem dX11_zone_116 : decode cX11_zone 116 = .ok (.iload_n 1, 1) := by decide +kernel
theorem dX11_zone_117 : decode cX11_zone 117 = .ok (.invokevirtual 243, 3) := by decide +kernel
theorem dX11_zone_120 : decode cX11_zone 120 = .ok (.ireturn, 1) := by decide +kernel
theorem dX11_zone_121 : decode cX11_zone 121 = .ok (.aload_n 0, 1) := by decide +kernel
theorem dX11_zone_122 : decode cX11_zone 122 = .ok (.iload_n 1, 1) := by decide +kernel
theorem dX11_zone_123 : decode cX11_zone 123 = .ok (.invokevirtual 270, 3) := by decide +kernel
theorem dX11_zone_126 : decode cX11_zone 126 = .ok (.ireturn, 1) := by decide +kernel
theorem dX11_zone_127 : decode cX11_zone 127 = .ok (.aload_n 0, 1) := by decide +kernel
theorem dX11_zone_128 : decode cX11_zone 128 = .ok (.iload_n 1, 1) := by decide +kernel
theorem dX11_zone_129 : decode cX11_zone 129 = .ok (.iconst 1, 1) := by decide +kernel
theorem dX11_zone_130 : decode cX11_zone 130 = .ok (.invokevirtual 273, 3) := by decide +kernel
theorem dX11_zone_133 : decode cX11_zone 133 = .ok (.ireturn, 1) := by decide +kernel
theorem dX11_zone_134 : decode cX11_zone 134 = .ok (.aload_n 0, 1) := by decide +kernel
theorem dX11_zone_135 : decode cX11_zone 135 = .ok (.iload_n 1, 1) := by decide +kernel
theorem dX11_zone_136 : decode cX11_zone 136 = .ok (.iconst 0, 1) := by decide +kernel
theorem dX11_zone_137 : decode cX11_zone 137 = .ok (.invokevirtual 273, 3) := by decide +kernel
theorem dX11_zone_140 : decode cX11_zone 140 = .ok (.ireturn, 1) := by decide +kernel
theorem dX11_zone_141 : decode cX11_zone 141 = .ok (.iconst 0, 1) := by decide +kernel
theorem dX11_zone_142 : decode cX11_zone 142 = .ok (.istore 4, 2) := by decide +kernel
theorem dX11_zone_144 : decode cX11_zone 144 = .ok (.iload 4, 2) := by decide +kernel
theorem dX11_zone_146 : decode cX11_zone 146 = .ok (.aload_n 0, 1) := by decide +kernel
theorem dX11_zone_147 : decode cX11_zone 147 = .ok (.getfield 17, 3) := by decide +kernel
theorem dX11_zone_150 : decode cX11_zone 150 = .ok (.iconst 1, 1) := by decide +kernel
theorem dX11_zone_151 : decode cX11_zone 151 = .ok (.iaload, 1) := by decide +kernel
theorem dX11_zone_152 : decode cX11_zone 152 = .ok (.if_icmp .ge 19, 3) := by decide +kernel
theorem dX11_zone_155 : decode cX11_zone 155 = .ok (.iload_n 3, 1) := by decide +kernel
theorem dX11_zone_156 : decode cX11_zone 156 = .ok (.aload_n 0, 1) := by decide +kernel
theorem dX11_zone_157 : decode cX11_zone 157 = .ok (.iload_n 1, 1) := by decide +kernel
theorem dX11_zone_158 : decode cX11_zone 158 = .ok (.iload 4, 2) := by decide +kernel
theorem dX11_zone_160 : decode cX11_zone 160 = .ok (.invokevirtual 277, 3) := by decide +kernel
theorem dX11_zone_163 : decode cX11_zone 163 = .ok (.iadd, 1) := by decide +kernel
theorem dX11_zone_164 : decode cX11_zone 164 = .ok (.istore_n 3, 1) := by decide +kernel
theorem dX11_zone_165 : decode cX11_zone 165 = .ok (.iinc 4 1, 3) := by decide +kernel
theorem dX11_zone_168 : decode cX11_zone 168 = .ok (.goto (-24), 3) := by decide +kernel
theorem dX11_zone_171 : decode cX11_zone 171 = .ok (.iload_n 3, 1) := by decide +kernel
theorem dX11_zone_172 : decode cX11_zone 172 = .ok (.ireturn, 1) := by decide +kernel
theorem dX11_name_0 : decode cX11_name 0 = .ok (.aload_n 0, 1) := by decide +kernel
theorem dX11_name_1 : decode cX11_name 1 = .ok (.iconst 0, 1) := by decide +kernel
theorem dX11_name_2 : decode cX11_name 2 = .ok (.putfield 106, 3) := by decide +kernel
theorem dX11_name_5 : decode cX11_name 5 = .ok (.aload_n 0, 1) := by decide +kernel
theorem dX11_name_6 : decode cX11_name 6 = .ok (.iload_n 1, 1) := by decide +kernel
theorem dX11_name_7 : decode cX11_name 7 = .ok (.invokevirtual 267, 3) := by decide +kernel
theorem dX11_name_10 : decode cX11_name 10 = .ok (.ifCond .eq 5, 3) := by decide +kernel
theorem dX11_name_13 : decode cX11_name 13 = .ok (.iconst 0, 1) := by decide +kernel
theorem dX11_name_14 : decode cX11_name 14 = .ok (.ireturn, 1) := by decide +kernel
theorem dX11_name_15 : decode cX11_name 15 = .ok (.iload_n 2, 1) := by decide +kernel
theorem dX11_name_16 : decode cX11_name 16 = .ok (.iconst 0, 1) := by decide +kernel
theorem dX11_name_17 : decode cX11_name 17 = .ok (.iconst 5, 1) := by decide +kernel
theorem dX11_name_18 : decode cX11_name 18 = .ok (.invokestatic 169, 3) := by decide +kernel
theorem dX11_name_21 : decode cX11_name 21 = .ok (.ifCond .eq 31, 3) := by decide +kernel
theorem dX11_name_24 : decode cX11_name 24 = .ok (.aload_n 0, 1) := by decide +kernel
theorem dX11_name_25 : decode cX11_name 25 = .ok (.getfield 42, 3) := by decide +kernel
theorem dX11_name_28 : decode cX11_name 28 = .ok (.bipush 6, 2) := by decide +kernel
theorem dX11_name_30 : decode cX11_name 30 = .ok (.iload_n 1, 1) := by decide +kernel
theorem dX11_name_31 : decode cX11_name 31 = .ok (.imul, 1) := by decide +kernel
theorem dX11_name_32 : decode cX11_name 32 = .ok (.iload_n 2, 1) := by decide +kernel
theorem dX11_name_33 : decode cX11_name 33 = .ok (.iadd, 1) := by decide +kernel
theorem dX11_name_34 : decode cX11_name 34 = .ok (.baload, 1) := by decide +kernel
theorem dX11_name_35 : decode cX11_name 35 = .ok (.ifCond .eq 17, 3) := by decide +kernel
theorem dX11_name_38 : decode cX11_name 38 = .ok (.aload_n 0, 1) := by decide +kernel
theorem dX11_name_39 : decode cX11_name 39 = .ok (.getfield 42, 3) := by decide +kernel
theorem dX11_name_42 : decode cX11_name 42 = .ok (.bipush 6, 2) := by decide +kernel
theorem dX11_name_44 : decode cX11_name 44 = .ok (.iload_n 1, 1) := by decide +kernel
theorem dX11_name_45 : decode cX11_name 45 = .ok (.imul, 1) := by decide +kernel
theorem dX11_name_46 : decode cX11_name 46 = .ok (.iload_n 2, 1) := by decide +kernel
theorem dX11_name_47 : decode cX11_name 47 = .ok (.iadd, 1) := by decide +kernel
theorem dX11_name_48 : decode cX11_name 48 = .ok (.baload, 1) := by decide +kernel
theorem dX11_name_49 : decode cX11_name 49 = .ok (.goto 4, 3) := by decide +kernel
theorem dX11_name_52 : decode cX11_name 52 = .ok (.iconst (-1), 1) := by decide +kernel
theorem dX11_name_53 : decode cX11_name 53 = .ok (.ireturn, 1) := by decide +kernel
theorem dX11_people_0 : decode cX11_people 0 = .ok (.aload_n 0, 1) := by decide +kernel
theorem dX11_people_1 : decode cX11_people 1 = .ok (.iconst 0, 1) := by decide +kernel
theorem dX11_people_2 : decode cX11_people 2 = .ok (.putfield 106, 3) := by decide +kernel
theorem dX11_people_5 : decode cX11_people 5 = .ok (.aload_n 0, 1) := by decide +kernel
theorem dX11_people_6 : decode cX11_people 6 = .ok (.iload_n 1, 1) := by decide +kernel
theorem dX11_people_7 : decode cX11_people 7 = .ok (.invokevirtual 267, 3) := by decide +kernel
theorem dX11_people_10 : decode cX11_people 10 = .ok (.ifCond .ne 34, 3) := by decide +kernel
theorem dX11_people_13 : decode cX11_people 13 = .ok (.aload_n 0, 1) := by decide +kernel
theorem dX11_people_14 : decode cX11_people 14 = .ok (.iload_n 2, 1) := by decide +kernel
theorem dX11_people_15 : decode cX11_people 15 = .ok (.invokevirtual 280, 3) := by decide +kernel
theorem dX11_people_18 : decode cX11_people 18 = .ok (.ifCond .ne 26, 3) := by decide +kernel
theorem dX11_people_21 : decode cX11_people 21 = .ok (.aload_n 0, 1) := by decide +kernel
theorem dX11_people_22 : decode cX11_people 22 = .ok (.iload_n 3, 1) := by decide +kernel
theorem dX11_people_23 : decode cX11_people 23 = .ok (.iconst 0, 1) := by decide +kernel
theorem dX11_people_24 : decode cX11_people 24 = .ok (.ldc 194, 2) := by decide +kernel
theorem dX11_people_26 : decode cX11_people 26 = .ok (.invokestatic 169, 3) := by decide +kernel
theorem dX11_people_29 : decode cX11_people 29 = .ok (.ifCond .ne 7, 3) := by decide +kernel
theorem dX11_people_32 : decode cX11_people 32 = .ok (.iconst 1, 1) := by decide +kernel
theorem dX11_people_33 : decode cX11_people 33 = .ok (.goto 4, 3) := by decide +kernel
theorem dX11_people_36 : decode cX11_people 36 = .ok (.iconst 0, 1) := by decide +kernel
theorem dX11_people_37 : decode cX11_people 37 = .ok (.iconst 2, 1) := by decide +kernel
theorem dX11_people_38 : decode cX11_people 38 = .ok (.invokevirtual 215, 3) := by decide +kernel
theorem dX11_people_41 : decode cX11_people 41 = .ok (.ifCond .eq 5, 3) := by decide +kernel
theorem dX11_people_44 : decode cX11_people 44 = .ok (.iconst 0, 1) := by decide +kernel
theorem dX11_people_45 : decode cX11_people 45 = .ok (.ireturn, 1) := by decide +kernel
theorem dX11_people_46 : decode cX11_people 46 = .ok (.aload_n 0, 1) := by decide +kernel
theorem dX11_people_47 : decode cX11_people 47 = .ok (.getfield 36, 3) := by decide +kernel
theorem dX11_people_50 : decode cX11_people 50 = .ok (.iconst 3, 1) := by decide +kernel
theorem dX11_people_51 : decode cX11_people 51 = .ok (.iload_n 1, 1) := by decide +kernel
theorem dX11_people_52 : decode cX11_people 52 = .ok (.imul, 1) := by decide +kernel
theorem dX11_people_53 : decode cX11_people 53 = .ok (.iload_n 2, 1) := by decide +kernel
theorem dX11_people_54 : decode cX11_people 54 = .ok (.iadd, 1) := by decide +kernel
theorem dX11_people_55 : decode cX11_people 55 = .ok (.iaload, 1) := by decide +kernel
theorem dX11_people_56 : decode cX11_people 56 = .ok (.istore 4, 2) := by decide +kernel
theorem dX11_people_58 : decode cX11_people 58 = .ok (.aload_n 0, 1) := by decide +kernel
theorem dX11_people_59 : decode cX11_people 59 = .ok (.getfield 36, 3) := by decide +kernel
theorem dX11_people_62 : decode cX11_people 62 = .ok (.iconst 3, 1) := by decide +kernel
theorem dX11_people_63 : decode cX11_people 63 = .ok (.iload_n 1, 1) := by decide +kernel
theorem dX11_people_64 : decode cX11_people 64 = .ok (.imul, 1) := by decide +kernel
theorem dX11_people_65 : decode cX11_people 65 = .ok (.iload_n 2, 1) := by decide +kernel
theorem dX11_people_66 : decode cX11_people 66 = .ok (.iadd, 1) := by decide +kernel
theorem dX11_people_67 : decode cX11_people 67 = .ok (.iload_n 3, 1) := by decide +kernel
theorem dX11_people_68 : decode cX11_people 68 = .ok (.iastore, 1) := by decide +kernel
theorem dX11_people_69 : decode cX11_people 69 = .ok (.iload 4, 2) := by decide +kernel
theorem dX11_people_71 : decode cX11_people 71 = .ok (.ireturn, 1) := by decide +kernel
theorem dX11_lives_0 : decode cX11_lives 0 = .ok (.aload_n 0, 1) := by decide +kernel
theorem dX11_lives_1 : decode cX11_lives 1 = .ok (.iconst 0, 1) := by decide +kernel
theorem dX11_lives_2 : decode cX11_lives 2 = .ok (.putfield 106, 3) := by decide +kernel
theorem dX11_lives_5 : decode cX11_lives 5 = .ok (.aload_n 0, 1) := by decide +kernel
theorem dX11_lives_6 : decode cX11_lives 6 = .ok (.iload_n 1, 1) := by decide +kernel
theorem dX11_lives_7 : decode cX11_lives 7 = .ok (.invokevirtual 267, 3) := by decide +kernel
theorem dX11_lives_10 : decode cX11_lives 10 = .ok (.ifCond .ne 11, 3) := by decide +kernel
theorem dX11_lives_13 : decode cX11_lives 13 = .ok (.aload_n 0, 1) := by decide +kernel
theorem dX11_lives_14 : decode cX11_lives 14 = .ok (.iload_n 2, 1) := by decide +kernel
theorem dX11_lives_15 : decode cX11_lives 15 = .ok (.invokevirtual 280, 3) := by decide +kernel
theorem dX11_lives_18 : decode cX11_lives 18 = .ok (.ifCond .eq 7, 3) := by decide +kernel
theorem dX11_lives_21 : decode cX11_lives 21 = .ok (.iconst 0, 1) := by decide +kernel
theorem dX11_lives_22 : decode cX11_lives 22 = .ok (.goto 13, 3) := by decide +kernel
theorem dX11_lives_25 : decode cX11_lives 25 = .ok (.aload_n 0, 1) := by decide +kernel
theorem dX11_lives_26 : decode cX11_lives 26 = .ok (.getfield 36, 3) := by decide +kernel
theorem dX11_lives_29 : decode cX11_lives 29 = .ok (.iconst 3, 1) := by decide +kernel
theorem dX11_lives_30 : decode cX11_lives 30 = .ok (.iload_n 1, 1) := by decide +kernel
theorem dX11_lives_31 : decode cX11_lives 31 = .ok (.imul, 1) := by decide +kernel
theorem dX11_lives_32 : decode cX11_lives 32 = .ok (.iload_n 2, 1) := by decide +kernel
theorem dX11_lives_33 : decode cX11_lives 33 = .ok (.iadd, 1) := by decide +kernel
theorem dX11_lives_34 : decode cX11_lives 34 = .ok (.iaload, 1) := by decide +kernel
theorem dX11_lives_35 : decode cX11_lives 35 = .ok (.ireturn, 1) := by decide +kernel
theorem dX11_flood_0 : decode cX11_flood 0 = .ok (.aload_n 0, 1) := by decide +kernel
theorem dX11_flood_1 : decode cX11_flood 1 = .ok (.iconst 0, 1) := by decide +kernel
theorem dX11_flood_2 : decode cX11_flood 2 = .ok (.putfield 106, 3) := by decide +kernel
theorem dX11_flood_5 : decode cX11_flood 5 = .ok (.aload_n 0, 1) := by decide +kernel
theorem dX11_flood_6 : decode cX11_flood 6 = .ok (.iload_n 1, 1) := by decide +kernel
theorem dX11_flood_7 : decode cX11_flood 7 = .ok (.invokevirtual 255, 3) := by decide +kernel
theorem dX11_flood_10 : decode cX11_flood 10 = .ok (.ifCond .eq 5, 3) := by decide +kernel
theorem dX11_flood_13 : decode cX11_flood 13 = .ok (.iconst 0, 1) := by decide +kernel
theorem dX11_flood_14 : decode cX11_flood 14 = .ok (.ireturn, 1) := by decide +kernel
theorem dX11_flood_15 : decode cX11_flood 15 = .ok (.aload_n 0, 1) := by decide +kernel
theorem dX11_flood_16 : decode cX11_flood 16 = .ok (.getfield 29, 3) := by decide +kernel
theorem dX11_flood_19 : decode cX11_flood 19 = .ok (.iload_n 1, 1) := by decide +kernel
theorem dX11_flood_20 : decode cX11_flood 20 = .ok (.baload, 1) := by decide +kernel
theorem dX11_flood_21 : decode cX11_flood 21 = .ok (.istore_n 3, 1) := by decide +kernel
theorem dX11_flood_22 : decode cX11_flood 22 = .ok (.aload_n 0, 1) := by decide +kernel
theorem dX11_flood_23 : decode cX11_flood 23 = .ok (.getfield 29, 3) := by decide +kernel
theorem dX11_flood_26 : decode cX11_flood 26 = .ok (.iload_n 1, 1) := by decide +kernel
theorem dX11_flood_27 : decode cX11_flood 27 = .ok (.iload_n 2, 1) := by decide +kernel
theorem dX11_flood_28 : decode cX11_flood 28 = .ok (.bastore, 1) := by decide +kernel
theorem dX11_flood_29 : decode cX11_flood 29 = .ok (.aload_n 0, 1) := by decide +kernel
theorem dX11_flood_30 : decode cX11_flood 30 = .ok (.invokevirtual 219, 3) := by decide +kernel
theorem dX11_flood_33 : decode cX11_flood 33 = .ok (.iload_n 3, 1) := by decide +kernel
theorem dX11_flood_34 : decode cX11_flood 34 = .ok (.iload_n 2, 1) := by decide +kernel
theorem dX11_flood_35 : decode cX11_flood 35 = .ok (.if_icmp .eq 7, 3) := by decide +kernel
theorem dX11_flood_38 : decode cX11_flood 38 = .ok (.iconst 1, 1) := by decide +kernel
theorem dX11_flood_39 : decode cX11_flood 39 = .ok (.goto 4, 3) := by decide +kernel
theorem dX11_flood_42 : decode cX11_flood 42 = .ok (.iconst 0, 1) := by decide +kernel
theorem dX11_flood_43 : decode cX11_flood 43 = .ok (.ireturn, 1) := by decide +kernel
theorem dX11_unit_0 : decode cX11_unit 0 = .ok (.aload_n 0, 1) := by decide +kernel
theorem dX11_unit_1 : decode cX11_unit 1 = .ok (.iconst 0, 1) := by decide +kernel
theorem dX11_unit_2 : decode cX11_unit 2 = .ok (.putfield 106, 3) := by decide +kernel
theorem dX11_unit_5 : decode cX11_unit 5 = .ok (.aload_n 0, 1) := by decide +kernel
theorem dX11_unit_6 : decode cX11_unit 6 = .ok (.iload_n 1, 1) := by decide +kernel
theorem dX11_unit_7 : decode cX11_unit 7 = .ok (.iconst 1, 1) := by decide +kernel
theorem dX11_unit_8 : decode cX11_unit 8 = .ok (.sipush 9999, 3) := by decide +kernel
theorem dX11_unit_11 : decode cX11_unit 11 = .ok (.invokestatic 169, 3) := by decide +kernel
theorem dX11_unit_14 : decode cX11_unit 14 = .ok (.ifCond .ne 7, 3) := by decide +kernel
theorem dX11_unit_17 : decode cX11_unit 17 = .ok (.iconst 1, 1) := by decide +kernel
theorem dX11_unit_18 : decode cX11_unit 18 = .ok (.goto 4, 3) := by decide +kernel
theorem dX11_unit_21 : decode cX11_unit 21 = .ok (.iconst 0, 1) := by decide +kernel
theorem dX11_unit_22 : decode cX11_unit 22 = .ok (.iconst 1, 1) := by decide +kernel
theorem dX11_unit_23 : decode cX11_unit 23 = .ok (.invokevirtual 215, 3) := by decide +kernel
theorem dX11_unit_26 : decode cX11_unit 26 = .ok (.ifCond .eq 5, 3) := by decide +kernel
theorem dX11_unit_29 : decode cX11_unit 29 = .ok (.iconst 0, 1) := by decide +kernel
theorem dX11_unit_30 : decode cX11_unit 30 = .ok (.ireturn, 1) := by decide +kernel
theorem dX11_unit_31 : decode cX11_unit 31 = .ok (.aload_n 0, 1) := by decide +kernel
theorem dX11_unit_32 : decode cX11_unit 32 = .ok (.getfield 48, 3) := by decide +kernel
theorem dX11_unit_35 : decode cX11_unit 35 = .ok (.istore_n 2, 1) := by decide +kernel
theorem dX11_unit_36 : decode cX11_unit 36 = .ok (.aload_n 0, 1) := by decide +kernel
theorem dX11_unit_37 : decode cX11_unit 37 = .ok (.iload_n 1, 1) := by decide +kernel
theorem dX11_unit_38 : decode cX11_unit 38 = .ok (.putfield 48, 3) := by decide +kernel
theorem dX11_unit_41 : decode cX11_unit 41 = .ok (.iload_n 2, 1) := by decide +kernel
theorem dX11_unit_42 : decode cX11_unit 42 = .ok (.ireturn, 1) := by decide +kernel
theorem dX11_factor_0 : decode cX11_factor 0 = .ok (.aload_n 0, 1) := by decide +kernel
theorem dX11_factor_1 : decode cX11_factor 1 = .ok (.iconst 0, 1) := by decide +kernel
theorem dX11_factor_2 : decode cX11_factor 2 = .ok (.putfield 106, 3) := by decide +kernel
theorem dX11_factor_5 : decode cX11_factor 5 = .ok (.aload_n 0, 1) := by decide +kernel
theorem dX11_factor_6 : decode cX11_factor 6 = .ok (.iload_n 1, 1) := by decide +kernel
theorem dX11_factor_7 : decode cX11_factor 7 = .ok (.iconst 2, 1) := by decide +kernel
theorem dX11_factor_8 : decode cX11_factor 8 = .ok (.bipush 10, 2) := by decide +kernel
theorem dX11_factor_10 : decode cX11_factor 10 = .ok (.invokestatic 169, 3) := by decide +kernel
theorem dX11_factor_13 : decode cX11_factor 13 = .ok (.ifCond .ne 7, 3) := by decide +kernel
theorem dX11_factor_16 : decode cX11_factor 16 = .ok (.iconst 1, 1) := by decide +kernel
theorem dX11_factor_17 : decode cX11_factor 17 = .ok (.goto 4, 3) := by decide +kernel
theorem dX11_factor_20 : decode cX11_factor 20 = .ok (.iconst 0, 1) := by decide +kernel
theorem dX11_factor_21 : decode cX11_factor 21 = .ok (.iconst 1, 1) := by decide +kernel
theorem dX11_factor_22 : decode cX11_factor 22 = .ok (.invokevirtual 215, 3) := by decide +kernel
theorem dX11_factor_25 : decode cX11_factor 25 = .ok (.ifCond .eq 5, 3) := by decide +kernel
theorem dX11_factor_28 : decode cX11_factor 28 = .ok (.iconst 0, 1) := by decide +kernel
theorem dX11_factor_29 : decode cX11_factor 29 = .ok (.ireturn, 1) := by decide +kernel
theorem dX11_factor_30 : decode cX11_factor 30 = .ok (.aload_n 0, 1) := by decide +kernel
theorem dX11_factor_31 : decode cX11_factor 31 = .ok (.getfield 52, 3) := by decide +kernel
theorem dX11_factor_34 : decode cX11_factor 34 = .ok (.istore_n 2, 1) := by decide +kernel
theorem dX11_factor_35 : decode cX11_factor 35 = .ok (.aload_n 0, 1) := by decide +kernel
theorem dX11_factor_36 : decode cX11_factor 36 = .ok (.iload_n 1, 1) := by decide +kernel
theorem dX11_factor_37 : decode cX11_factor 37 = .ok (.putfield 52, 3) := by decide +kernel
theorem dX11_factor_40 : decode cX11_factor 40 = .ok (.iload_n 2, 1) := by decide +kernel
theorem dX11_factor_41 : decode cX11_factor 41 = .ok (.ireturn, 1) := by decide +kernel
theorem dX11_order_0 : decode cX11_order 0 = .ok (.aload_n 0, 1) := by decide +kernel
theorem dX11_order_1 : decode cX11_order 1 = .ok (.iconst 0, 1) := by decide +kernel
theorem dX11_order_2 : decode cX11_order 2 = .ok (.putfield 106, 3) := by decide +kernel
theorem dX11_order_5 : decode cX11_order 5 = .ok (.aload_n 0, 1) := by decide +kernel
theorem dX11_order_6 : decode cX11_order 6 = .ok (.iload_n 1, 1) := by decide +kernel
theorem dX11_order_7 : decode cX11_order 7 = .ok (.invokevirtual 267, 3) := by decide +kernel
theorem dX11_order_10 : decode cX11_order 10 = .ok (.ifCond .eq 5, 3) := by decide +kernel
theorem dX11_order_13 : decode cX11_order 13 = .ok (.iconst 0, 1) := by decide +kernel
theorem dX11_order_14 : decode cX11_order 14 = .ok (.ireturn, 1) := by decide +kernel
theorem dX11_order_15 : decode cX11_order 15 = .ok (.iload_n 2, 1) := by decide +kernel
theorem dX11_order_16 : decode cX11_order 16 = .ok (.iconst 0, 1) := by decide +kernel
theorem dX11_order_17 : decode cX11_order 17 = .ok (.aload_n 0, 1) := by decide +kernel
theorem dX11_order_18 : decode cX11_order 18 = .ok (.iload_n 1, 1) := by decide +kernel
theorem dX11_order_19 : decode cX11_order 19 = .ok (.invokevirtual 243, 3) := by decide +kernel
theorem dX11_order_22 : decode cX11_order 22 = .ok (.iconst 1, 1) := by decide +kernel
theorem dX11_order_23 : decode cX11_order 23 = .ok (.isub, 1) := by decide +kernel
theorem dX11_order_24 : decode cX11_order 24 = .ok (.invokestatic 169, 3) := by decide +kernel
theorem dX11_order_27 : decode cX11_order 27 = .ok (.ifCond .eq 19, 3) := by decide +kernel
theorem dX11_order_30 : decode cX11_order 30 = .ok (.aload_n 0, 1) := by decide +kernel
theorem dX11_order_31 : decode cX11_order 31 = .ok (.getfield 58, 3) := by decide +kernel
theorem dX11_order_34 : decode cX11_order 34 = .ok (.aload_n 0, 1) := by decide +kernel
theorem dX11_order_35 : decode cX11_order 35 = .ok (.getfield 61, 3) := by decide +kernel
theorem dX11_order_38 : decode cX11_order 38 = .ok (.iload_n 1, 1) := by decide +kernel
theorem dX11_order_39 : decode cX11_order 39 = .ok (.iaload, 1) := by decide +kernel
theorem dX11_order_40 : decode cX11_order 40 = .ok (.iload_n 2, 1) := by decide +kernel
theorem dX11_order_41 : decode cX11_order 41 = .ok (.iadd, 1) := by decide +kernel
theorem dX11_order_42 : decode cX11_order 42 = .ok (.iaload, 1) := by decide +kernel
theorem dX11_order_43 : decode cX11_order 43 = .ok (.goto 4, 3) := by decide +kernel
theorem dX11_order_46 : decode cX11_order 46 = .ok (.iconst (-1), 1) := by decide +kernel
theorem dX11_order_47 : decode cX11_order 47 = .ok (.ireturn, 1) := by decide +kernel
theorem dX11_stands_0 : decode cX11_stands 0 = .ok (.aload_n 0, 1) := by decide +kernel
theorem dX11_stands_1 : decode cX11_stands 1 = .ok (.iconst 0, 1) := by decide +kernel
theorem dX11_stands_2 : decode cX11_stands 2 = .ok (.putfield 106, 3) := by decide +kernel
theorem dX11_stands_5 : decode cX11_stands 5 = .ok (.aload_n 0, 1) := by decide +kernel
theorem dX11_stands_6 : decode cX11_stands 6 = .ok (.iload_n 1, 1) := by decide +kernel
theorem dX11_stands_7 : decode cX11_stands 7 = .ok (.invokevirtual 255, 3) := by decide +kernel
theorem dX11_stands_10 : decode cX11_stands 10 = .ok (.ifCond .eq 7, 3) := by decide +kernel
theorem dX11_stands_13 : decode cX11_stands 13 = .ok (.iconst 0, 1) := by decide +kernel
theorem dX11_stands_14 : decode cX11_stands 14 = .ok (.goto 9, 3) := by decide +kernel
theorem dX11_stands_17 : decode cX11_stands 17 = .ok (.aload_n 0, 1) := by decide +kernel
theorem dX11_stands_18 : decode cX11_stands 18 = .ok (.getfield 64, 3) := by decide +kernel
theorem dX11_stands_21 : decode cX11_stands 21 = .ok (.iload_n 1, 1) := by decide +kernel
theorem dX11_stands_22 : decode cX11_stands 22 = .ok (.iaload, 1) := by decide +kernel
theorem dX11_stands_23 : decode cX11_stands 23 = .ok (.ireturn, 1) := by decide +kernel
theorem dX11_dots_0 : decode cX11_dots 0 = .ok (.aload_n 0, 1) := by decide +kernel
theorem dX11_dots_1 : decode cX11_dots 1 = .ok (.iconst 0, 1) := by decide +kernel
theorem dX11_dots_2 : decode cX11_dots 2 = .ok (.putfield 106, 3) := by decide +kernel
theorem dX11_dots_5 : decode cX11_dots 5 = .ok (.aload_n 0, 1) := by decide +kernel
theorem dX11_dots_6 : decode cX11_dots 6 = .ok (.iload_n 1, 1) := by decide +kernel
theorem dX11_dots_7 : decode cX11_dots 7 = .ok (.invokevirtual 267, 3) := by decide +kernel
theorem dX11_dots_10 : decode cX11_dots 10 = .ok (.ifCond .ne 19, 3) := by decide +kernel
theorem dX11_dots_13 : decode cX11_dots 13 = .ok (.aload_n 0, 1) := by decide +kernel
theorem dX11_dots_14 : decode cX11_dots 14 = .ok (.iload_n 2, 1) := by decide +kernel
theorem dX11_dots_15 : decode cX11_dots 15 = .ok (.invokevirtual 280, 3) := by decide +kernel
theorem dX11_dots_18 : decode cX11_dots 18 = .ok (.ifCond .ne 11, 3) := by decide +kernel
theorem dX11_dots_21 : decode cX11_dots 21 = .ok (.aload_n 0, 1) := by decide +kernel
theorem dX11_dots_22 : decode cX11_dots 22 = .ok (.iload_n 3, 1) := by decide +kernel
theorem dX11_dots_23 : decode cX11_dots 23 = .ok (.invokevirtual 283, 3) := by decide +kernel
theorem dX11_dots_26 : decode cX11_dots 26 = .ok (.ifCond .eq 5, 3) := by decide +kernel
theorem dX11_dots_29 : decode cX11_dots 29 = .ok (.iconst 0, 1) := by decide +kernel
theorem dX11_dots_30 : decode cX11_dots 30 = .ok (.ireturn, 1) := by decide +kernel
theorem dX11_dots_31 : decode cX11_dots 31 = .ok (.aload_n 0, 1) := by decide +kernel
theorem dX11_dots_32 : decode cX11_dots 32 = .ok (.aload_n 0, 1) := by decide +kernel
theorem dX11_dots_33 : decode cX11_dots 33 = .ok (.getfield 48, 3) := by decide +kernel
theorem dX11_dots_36 : decode cX11_dots 36 = .ok (.invokevirtual 246, 3) := by decide +kernel
theorem dX11_dots_39 : decode cX11_dots 39 = .ok (.aload_n 0, 1) := by decide +kernel
theorem dX11_dots_40 : decode cX11_dots 40 = .ok (.getfield 70, 3) := by decide +kernel
theorem dX11_dots_43 : decode cX11_dots 43 = .ok (.iload_n 3, 1) := by decide +kernel
theorem dX11_dots_44 : decode cX11_dots 44 = .ok (.iload_n 1, 1) := by decide +kernel
theorem dX11_dots_45 : decode cX11_dots 45 = .ok (.iload_n 2, 1) := by decide +kernel
theorem dX11_dots_46 : decode cX11_dots 46 = .ok (.invokestatic 239, 3) := by decide +kernel
theorem dX11_dots_49 : decode cX11_dots 49 = .ok (.iaload, 1) := by decide +kernel
theorem dX11_dots_50 : decode cX11_dots 50 = .ok (.ireturn, 1) := by decide +kernel
theorem dX11_carried_0 : decode cX11_carried 0 = .ok (.aload_n 0, 1) := by decide +kernel
theorem dX11_carried_1 : decode cX11_carried 1 = .ok (.iconst 0, 1) := by decide +kernel
theorem dX11_carried_2 : decode cX11_carried 2 = .ok (.putfield 106, 3) := by decide +kernel
theorem dX11_carried_5 : decode cX11_carried 5 = .ok (.aload_n 0, 1) := by decide +kernel
theorem dX11_carried_6 : decode cX11_carried 6 = .ok (.iload_n 1, 1) := by decide +kernel
theorem dX11_carried_7 : decode cX11_carried 7 = .ok (.invokevirtual 267, 3) := by decide +kernel
theorem dX11_carried_10 : decode cX11_carried 10 = .ok (.ifCond .ne 19, 3) := by decide +kernel
theorem dX11_carried_13 : decode cX11_carried 13 = .ok (.aload_n 0, 1) := by decide +kernel
theorem dX11_carried_14 : decode cX11_carried 14 = .ok (.iload_n 2, 1) := by decide +kernel
theorem dX11_carried_15 : decode cX11_carried 15 = .ok (.invokevirtual 280, 3) := by decide +kernel
theorem dX11_carried_18 : decode cX11_carried 18 = .ok (.ifCond .ne 11, 3) := by decide +kernel
theorem dX11_carried_21 : decode cX11_carried 21 = .ok (.aload_n 0, 1) := by decide +kernel
theorem dX11_carried_22 : decode cX11_carried 22 = .ok (.iload_n 3, 1) := by decide +kernel
theorem dX11_carried_23 : decode cX11_carried 23 = .ok (.invokevirtual 283, 3) := by decide +kernel
theorem dX11_carried_26 : decode cX11_carried 26 = .ok (.ifCond .eq 5, 3) := by decide +kernel
theorem dX11_carried_29 : decode cX11_carried 29 = .ok (.iconst 0, 1) := by decide +kernel
theorem dX11_carried_30 : decode cX11_carried 30 = .ok (.ireturn, 1) := by decide +kernel
theorem dX11_carried_31 : decode cX11_carried 31 = .ok (.aload_n 0, 1) := by decide +kernel
theorem dX11_carried_32 : decode cX11_carried 32 = .ok (.aload_n 0, 1) := by decide +kernel
theorem dX11_carried_33 : decode cX11_carried 33 = .ok (.getfield 48, 3) := by decide +kernel
theorem dX11_carried_36 : decode cX11_carried 36 = .ok (.invokevirtual 246, 3) := by decide +kernel
theorem dX11_carried_39 : decode cX11_carried 39 = .ok (.aload_n 0, 1) := by decide +kernel
theorem dX11_carried_40 : decode cX11_carried 40 = .ok (.getfield 73, 3) := by decide +kernel
theorem dX11_carried_43 : decode cX11_carried 43 = .ok (.iload_n 3, 1) := by decide +kernel
theorem dX11_carried_44 : decode cX11_carried 44 = .ok (.iload_n 1, 1) := by decide +kernel
theorem dX11_carried_45 : decode cX11_carried 45 = .ok (.iload_n 2, 1) := by decide +kernel
theorem dX11_carried_46 : decode cX11_carried 46 = .ok (.invokestatic 239, 3) := by decide +kernel
theorem dX11_carried_49 : decode cX11_carried 49 = .ok (.iaload, 1) := by decide +kernel
theorem dX11_carried_50 : decode cX11_carried 50 = .ok (.ireturn, 1) := by decide +kernel
theorem dX11_left_0 : decode cX11_left 0 = .ok (.aload_n 0, 1) := by decide +kernel
theorem dX11_left_1 : decode cX11_left 1 = .ok (.iconst 0, 1) := by decide +kernel
theorem dX11_left_2 : decode cX11_left 2 = .ok (.putfield 106, 3) := by decide +kernel
theorem dX11_left_5 : decode cX11_left 5 = .ok (.aload_n 0, 1) := by decide +kernel
theorem dX11_left_6 : decode cX11_left 6 = .ok (.iload_n 1, 1) := by decide +kernel
theorem dX11_left_7 : decode cX11_left 7 = .ok (.invokevirtual 280, 3) := by decide +kernel
theorem dX11_left_10 : decode cX11_left 10 = .ok (.ifCond .ne 11, 3) := by decide +kernel
theorem dX11_left_13 : decode cX11_left 13 = .ok (.aload_n 0, 1) := by decide +kernel
theorem dX11_left_14 : decode cX11_left 14 = .ok (.iload_n 2, 1) := by decide +kernel
theorem dX11_left_15 : decode cX11_left 15 = .ok (.invokevirtual 283, 3) := by decide +kernel
theorem dX11_left_18 : decode cX11_left 18 = .ok (.ifCond .eq 5, 3) := by decide +kernel
theorem dX11_left_21 : decode cX11_left 21 = .ok (.iconst 0, 1) := by decide +kernel
theorem dX11_left_22 : decode cX11_left 22 = .ok (.ireturn, 1) := by decide +kernel
theorem dX11_left_23 : decode cX11_left 23 = .ok (.aload_n 0, 1) := by decide +kernel
theorem dX11_left_24 : decode cX11_left 24 = .ok (.aload_n 0, 1) := by decide +kernel
theorem dX11_left_25 : decode cX11_left 25 = .ok (.getfield 48, 3) := by decide +kernel
theorem dX11_left_28 : decode cX11_left 28 = .ok (.invokevirtual 246, 3) := by decide +kernel
theorem dX11_left_31 : decode cX11_left 31 = .ok (.aload_n 0, 1) := by decide +kernel
theorem dX11_left_32 : decode cX11_left 32 = .ok (.getfield 76, 3) := by decide +kernel
theorem dX11_left_35 : decode cX11_left 35 = .ok (.iconst 3, 1) := by decide +kernel
theorem dX11_left_36 : decode cX11_left 36 = .ok (.iload_n 2, 1) := by decide +kernel
theorem dX11_left_37 : decode cX11_left 37 = .ok (.imul, 1) := by decide +kernel
theorem dX11_left_38 : decode cX11_left 38 = .ok (.iload_n 1, 1) := by decide +kernel
theorem dX11_left_39 : decode cX11_left 39 = .ok (.iadd, 1) := by decide +kernel
theorem dX11_left_40 : decode cX11_left 40 = .ok (.iaload, 1) := by decide +kernel
theorem dX11_left_41 : decode cX11_left 41 = .ok (.ireturn, 1) := by decide +kernel
theorem dX11_all_0 : decode cX11_all 0 = .ok (.aload_n 0, 1) := by decide +kernel
theorem dX11_all_1 : decode cX11_all 1 = .ok (.iconst 0, 1) := by decide +kernel
theorem dX11_all_2 : decode cX11_all 2 = .ok (.putfield 106, 3) := by decide +kernel
theorem dX11_all_5 : decode cX11_all 5 = .ok (.iload_n 1, 1) := by decide +kernel
theorem dX11_all_6 : decode cX11_all 6 = .ok (.iconst (-1), 1) := by decide +kernel
theorem dX11_all_7 : decode cX11_all 7 = .ok (.if_icmp .eq 11, 3) := by decide +kernel
theorem dX11_all_10 : decode cX11_all 10 = .ok (.aload_n 0, 1) := by decide +kernel
theorem dX11_all_11 : decode cX11_all 11 = .ok (.iload_n 1, 1) := by decide +kernel
theorem dX11_all_12 : decode cX11_all 12 = .ok (.invokevirtual 280, 3) := by decide +kernel
theorem dX11_all_15 : decode cX11_all 15 = .ok (.ifCond .ne 11, 3) := by decide +kernel
theorem dX11_all_18 : decode cX11_all 18 = .ok (.aload_n 0, 1) := by decide +kernel
theorem dX11_all_19 : decode cX11_all 19 = .ok (.iload_n 2, 1) := by decide +kernel
theorem dX11_all_20 : decode cX11_all 20 = .ok (.invokevirtual 283, 3) := by decide +kernel
theorem dX11_all_23 : decode cX11_all 23 = .ok (.ifCond .eq 5, 3) := by decide +kernel
theorem dX11_all_26 : decode cX11_all 26 = .ok (.iconst 0, 1) := by decide +kernel
theorem dX11_all_27 : decode cX11_all 27 = .ok (.ireturn, 1) := by decide +kernel
theorem dX11_all_28 : decode cX11_all 28 = .ok (.aload_n 0, 1) := by decide +kernel
theorem dX11_all_29 : decode cX11_all 29 = .ok (.aload_n 0, 1) := by decide +kernel
theorem dX11_all_30 : decode cX11_all 30 = .ok (.getfield 48, 3) := by decide +kernel
theorem dX11_all_33 : decode cX11_all 33 = .ok (.invokevirtual 246, 3) := by decide +kernel
theorem dX11_all_36 : decode cX11_all 36 = .ok (.aload_n 0, 1) := by decide +kernel
theorem dX11_all_37 : decode cX11_all 37 = .ok (.iload_n 1, 1) := by decide +kernel
theorem dX11_all_38 : decode cX11_all 38 = .ok (.iload_n 2, 1) := by decide +kernel
theorem dX11_all_39 : decode cX11_all 39 = .ok (.invokevirtual 286, 3) := by decide +kernel
theorem dX11_all_42 : decode cX11_all 42 = .ok (.ireturn, 1) := by decide +kernel
theorem dX11_dot_0 : decode cX11_dot 0 = .ok (.aload_n 0, 1) := by decide +kernel
theorem dX11_dot_1 : decode cX11_dot 1 = .ok (.iconst 0, 1) := by decide +kernel
theorem dX11_dot_2 : decode cX11_dot 2 = .ok (.putfield 106, 3) := by decide +kernel
theorem dX11_dot_5 : decode cX11_dot 5 = .ok (.aload_n 0, 1) := by decide +kernel
theorem dX11_dot_6 : decode cX11_dot 6 = .ok (.iload_n 1, 1) := by decide +kernel
theorem dX11_dot_7 : decode cX11_dot 7 = .ok (.invokevirtual 267, 3) := by decide +kernel
theorem dX11_dot_10 : decode cX11_dot 10 = .ok (.ifCond .ne 19, 3) := by decide +kernel
theorem dX11_dot_13 : decode cX11_dot 13 = .ok (.aload_n 0, 1) := by decide +kernel
theorem dX11_dot_14 : decode cX11_dot 14 = .ok (.iload_n 2, 1) := by decide +kernel
theorem dX11_dot_15 : decode cX11_dot 15 = .ok (.invokevirtual 280, 3) := by decide +kernel
theorem dX11_dot_18 : decode cX11_dot 18 = .ok (.ifCond .ne 11, 3) := by decide +kernel
theorem dX11_dot_21 : decode cX11_dot 21 = .ok (.aload_n 0, 1) := by decide +kernel
theorem dX11_dot_22 : decode cX11_dot 22 = .ok (.iload_n 3, 1) := by decide +kernel
theorem dX11_dot_23 : decode cX11_dot 23 = .ok (.invokevirtual 283, 3) := by decide +kernel
theorem dX11_dot_26 : decode cX11_dot 26 = .ok (.ifCond .eq 5, 3) := by decide +kernel
theorem dX11_dot_29 : decode cX11_dot 29 = .ok (.iconst 0, 1) := by decide +kernel
theorem dX11_dot_30 : decode cX11_dot 30 = .ok (.ireturn, 1) := by decide +kernel
theorem dX11_dot_31 : decode cX11_dot 31 = .ok (.aload_n 0, 1) := by decide +kernel
theorem dX11_dot_32 : decode cX11_dot 32 = .ok (.aload_n 0, 1) := by decide +kernel
theorem dX11_dot_33 : decode cX11_dot 33 = .ok (.getfield 48, 3) := by decide +kernel
theorem dX11_dot_36 : decode cX11_dot 36 = .ok (.invokevirtual 246, 3) := by decide +kernel
theorem dX11_dot_39 : decode cX11_dot 39 = .ok (.aload_n 0, 1) := by decide +kernel
theorem dX11_dot_40 : decode cX11_dot 40 = .ok (.iload 4, 2) := by decide +kernel
theorem dX11_dot_42 : decode cX11_dot 42 = .ok (.iconst 0, 1) := by decide +kernel
theorem dX11_dot_43 : decode cX11_dot 43 = .ok (.aload_n 0, 1) := by decide +kernel
theorem dX11_dot_44 : decode cX11_dot 44 = .ok (.getfield 70, 3) := by decide +kernel
theorem dX11_dot_47 : decode cX11_dot 47 = .ok (.iload_n 3, 1) := by decide +kernel
theorem dX11_dot_48 : decode cX11_dot 48 = .ok (.iload_n 1, 1) := by decide +kernel
theorem dX11_dot_49 : decode cX11_dot 49 = .ok (.iload_n 2, 1) := by decide +kernel
theorem dX11_dot_50 : decode cX11_dot 50 = .ok (.invokestatic 239, 3) := by decide +kernel
theorem dX11_dot_53 : decode cX11_dot 53 = .ok (.iaload, 1) := by decide +kernel
theorem dX11_dot_54 : decode cX11_dot 54 = .ok (.iconst 1, 1) := by decide +kernel
theorem dX11_dot_55 : decode cX11_dot 55 = .ok (.isub, 1) := by decide +kernel
theorem dX11_dot_56 : decode cX11_dot 56 = .ok (.invokestatic 169, 3) := by decide +kernel
theorem dX11_dot_59 : decode cX11_dot 59 = .ok (.ifCond .ne 7, 3) := by decide +kernel
theorem dX11_dot_62 : decode cX11_dot 62 = .ok (.iconst 1, 1) := by decide +kernel
theorem dX11_dot_63 : decode cX11_dot 63 = .ok (.goto 4, 3) := by decide +kernel
theorem dX11_dot_66 : decode cX11_dot 66 = .ok (.iconst 0, 1) := by decide +kernel
theorem dX11_dot_67 : decode cX11_dot 67 = .ok (.iconst 2, 1) := by decide +kernel
theorem dX11_dot_68 : decode cX11_dot 68 = .ok (.invokevirtual 215, 3) := by decide +kernel
theorem dX11_dot_71 : decode cX11_dot 71 = .ok (.ifCond .eq 7, 3) := by decide +kernel
theorem dX11_dot_74 : decode cX11_dot 74 = .ok (.iconst 0, 1) := by decide +kernel
theorem dX11_dot_75 : decode cX11_dot 75 = .ok (.goto 11, 3) := by decide +kernel
theorem dX11_dot_78 : decode cX11_dot 78 = .ok (.aload_n 0, 1) := by decide +kernel
theorem dX11_dot_79 : decode cX11_dot 79 = .ok (.iload_n 1, 1) := by decide +kernel
theorem dX11_dot_80 : decode cX11_dot 80 = .ok (.iload_n 2, 1) := by decide +kernel
theorem dX11_dot_81 : decode cX11_dot 81 = .ok (.iload 4, 2) := by decide +kernel
theorem dX11_dot_83 : decode cX11_dot 83 = .ok (.invokevirtual 249, 3) := by decide +kernel
theorem dX11_dot_86 : decode cX11_dot 86 = .ok (.ireturn, 1) := by decide +kernel
theorem dX11_crowd_0 : decode cX11_crowd 0 = .ok (.aload_n 0, 1) := by decide +kernel
theorem dX11_crowd_1 : decode cX11_crowd 1 = .ok (.iconst 0, 1) := by decide +kernel
theorem dX11_crowd_2 : decode cX11_crowd 2 = .ok (.putfield 106, 3) := by decide +kernel
theorem dX11_crowd_5 : decode cX11_crowd 5 = .ok (.aload_n 0, 1) := by decide +kernel
theorem dX11_crowd_6 : decode cX11_crowd 6 = .ok (.iload_n 1, 1) := by decide +kernel
theorem dX11_crowd_7 : decode cX11_crowd 7 = .ok (.invokevirtual 255, 3) := by decide +kernel
theorem dX11_crowd_10 : decode cX11_crowd 10 = .ok (.ifCond .ne 24, 3) := by decide +kernel
theorem dX11_crowd_13 : decode cX11_crowd 13 = .ok (.iload_n 2, 1) := by decide +kernel
theorem dX11_crowd_14 : decode cX11_crowd 14 = .ok (.iconst (-1), 1) := by decide +kernel
theorem dX11_crowd_15 : decode cX11_crowd 15 = .ok (.if_icmp .eq 11, 3) := by decide +kernel
theorem dX11_crowd_18 : decode cX11_crowd 18 = .ok (.aload_n 0, 1) := by decide +kernel
theorem dX11_crowd_19 : decode cX11_crowd 19 = .ok (.iload_n 2, 1) := by decide +kernel
theorem dX11_crowd_20 : decode cX11_crowd 20 = .ok (.invokevirtual 280, 3) := by decide +kernel
theorem dX11_crowd_23 : decode cX11_crowd 23 = .ok (.ifCond .ne 11, 3) := by decide +kernel
theorem dX11_crowd_26 : decode cX11_crowd 26 = .ok (.aload_n 0, 1) := by decide +kernel
theorem dX11_crowd_27 : decode cX11_crowd 27 = .ok (.iload_n 3, 1) := by decide +kernel
theorem dX11_crowd_28 : decode cX11_crowd 28 = .ok (.invokevirtual 283, 3) := by decide +kernel
theorem dX11_crowd_31 : decode cX11_crowd 31 = .ok (.ifCond .eq 5, 3) := by decide +kernel
theorem dX11_crowd_34 : decode cX11_crowd 34 = .ok (.iconst 0, 1) := by decide +kernel
theorem dX11_crowd_35 : decode cX11_crowd 35 = .ok (.ireturn, 1) := by decide +kernel
theorem dX11_crowd_36 : decode cX11_crowd 36 = .ok (.aload_n 0, 1) := by decide +kernel
theorem dX11_crowd_37 : decode cX11_crowd 37 = .ok (.iload_n 3, 1) := by decide +kernel
theorem dX11_crowd_38 : decode cX11_crowd 38 = .ok (.invokevirtual 289, 3) := by decide +kernel
theorem dX11_crowd_41 : decode cX11_crowd 41 = .ok (.aload_n 0, 1) := by decide +kernel
theorem dX11_crowd_42 : decode cX11_crowd 42 = .ok (.iload_n 1, 1) := by decide +kernel
theorem dX11_crowd_43 : decode cX11_crowd 43 = .ok (.iload_n 2, 1) := by decide +kernel
theorem dX11_crowd_44 : decode cX11_crowd 44 = .ok (.invokevirtual 252, 3) := by decide +kernel
theorem dX11_crowd_47 : decode cX11_crowd 47 = .ok (.ireturn, 1) := by decide +kernel
theorem dX11_apart_0 : decode cX11_apart 0 = .ok (.aload_n 0, 1) := by decide +kernel
theorem dX11_apart_1 : decode cX11_apart 1 = .ok (.iconst 0, 1) := by decide +kernel
theorem dX11_apart_2 : decode cX11_apart 2 = .ok (.putfield 106, 3) := by decide +kernel
theorem dX11_apart_5 : decode cX11_apart 5 = .ok (.aload_n 0, 1) := by decide +kernel
theorem dX11_apart_6 : decode cX11_apart 6 = .ok (.iload_n 1, 1) := by decide +kernel
theorem dX11_apart_7 : decode cX11_apart 7 = .ok (.invokevirtual 283, 3) := by decide +kernel
theorem dX11_apart_10 : decode cX11_apart 10 = .ok (.ifCond .eq 5, 3) := by decide +kernel
theorem dX11_apart_13 : decode cX11_apart 13 = .ok (.iconst 0, 1) := by decide +kernel
theorem dX11_apart_14 : decode cX11_apart 14 = .ok (.ireturn, 1) := by decide +kernel
theorem dX11_apart_15 : decode cX11_apart 15 = .ok (.aload_n 0, 1) := by decide +kernel
theorem dX11_apart_16 : decode cX11_apart 16 = .ok (.iload_n 1, 1) := by decide +kernel
theorem dX11_apart_17 : decode cX11_apart 17 = .ok (.invokevirtual 289, 3) := by decide +kernel
theorem dX11_apart_20 : decode cX11_apart 20 = .ok (.ldc 232, 2) := by decide +kernel
theorem dX11_apart_22 : decode cX11_apart 22 = .ok (.istore_n 2, 1) := by decide +kernel
theorem dX11_apart_23 : decode cX11_apart 23 = .ok (.iconst 0, 1) := by decide +kernel
theorem dX11_apart_24 : decode cX11_apart 24 = .ok (.istore_n 3, 1) := by decide +kernel
theorem dX11_apart_25 : decode cX11_apart 25 = .ok (.iload_n 3, 1) := by decide +kernel
theorem dX11_apart_26 : decode cX11_apart 26 = .ok (.aload_n 0, 1) := by decide +kernel
theorem dX11_apart_27 : decode cX11_apart 27 = .ok (.invokevirtual 229, 3) := by decide +kernel
theorem dX11_apart_30 : decode cX11_apart 30 = .ok (.if_icmp .ge 60, 3) := by decide +kernel
theorem dX11_apart_33 : decode cX11_apart 33 = .ok (.iconst 0, 1) := by decide +kernel
theorem dX11_apart_34 : decode cX11_apart 34 = .ok (.istore 4, 2) := by decide +kernel
theorem dX11_apart_36 : decode cX11_apart 36 = .ok (.iload 4, 2) := by decide +kernel
theorem dX11_apart_38 : decode cX11_apart 38 = .ok (.iload_n 3, 1) := by decide +kernel
theorem dX11_apart_39 : decode cX11_apart 39 = .ok (.if_icmp .ge 45, 3) := by decide +kernel
theorem dX11_apart_42 : decode cX11_apart 42 = .ok (.aload_n 0, 1) := by decide +kernel
theorem dX11_apart_43 : decode cX11_apart 43 = .ok (.iload_n 3, 1) := by decide +kernel
theorem dX11_apart_44 : decode cX11_apart 44 = .ok (.invokevirtual 292, 3) := by decide +kernel
theorem dX11_apart_47 : decode cX11_apart 47 = .ok (.ifCond .eq 37, 3) := by decide +kernel
theorem dX11_apart_50 : decode cX11_apart 50 = .ok (.aload_n 0, 1) := by decide +kernel
theorem dX11_apart_51 : decode cX11_apart 51 = .ok (.iload 4, 2) := by decide +kernel
theorem dX11_apart_53 : decode cX11_apart 53 = .ok (.invokevirtual 292, 3) := by decide +kernel
theorem dX11_apart_56 : decode cX11_apart 56 = .ok (.ifCond .eq 22, 3) := by decide +kernel
theorem dX11_apart_59 : decode cX11_apart 59 = .ok (.aload_n 0, 1) := by decide +kernel
theorem dX11_apart_60 : decode cX11_apart 60 = .ok (.iload_n 3, 1) := by decide +kernel
theorem dX11_apart_61 : decode cX11_apart 61 = .ok (.iload 4, 2) := by decide +kernel
theorem dX11_apart_63 : decode cX11_apart 63 = .ok (.invokevirtual 236, 3) := by decide +kernel
theorem dX11_apart_66 : decode cX11_apart 66 = .ok (.iload_n 2, 1) := by decide +kernel
theorem dX11_apart_67 : decode cX11_apart 67 = .ok (.if_icmp .ge 11, 3) := by decide +kernel
theorem dX11_apart_70 : decode cX11_apart 70 = .ok (.aload_n 0, 1) := by decide +kernel
theorem dX11_apart_71 : decode cX11_apart 71 = .ok (.iload_n 3, 1) := by decide +kernel
theorem dX11_apart_72 : decode cX11_apart 72 = .ok (.iload 4, 2) := by decide +kernel
theorem dX11_apart_74 : decode cX11_apart 74 = .ok (.invokevirtual 236, 3) := by decide +kernel
theorem dX11_apart_77 : decode cX11_apart 77 = .ok (.istore_n 2, 1) := by decide +kernel
theorem dX11_apart_78 : decode cX11_apart 78 = .ok (.iinc 4 1, 3) := by decide +kernel
theorem dX11_apart_81 : decode cX11_apart 81 = .ok (.goto (-45), 3) := by decide +kernel
theorem dX11_apart_84 : decode cX11_apart 84 = .ok (.iinc 3 1, 3) := by decide +kernel
theorem dX11_apart_87 : decode cX11_apart 87 = .ok (.goto (-62), 3) := by decide +kernel
theorem dX11_apart_90 : decode cX11_apart 90 = .ok (.iload_n 2, 1) := by decide +kernel
theorem dX11_apart_91 : decode cX11_apart 91 = .ok (.ldc 232, 2) := by decide +kernel
theorem dX11_apart_93 : decode cX11_apart 93 = .ok (.if_icmp .ne 7, 3) := by decide +kernel
theorem dX11_apart_96 : decode cX11_apart 96 = .ok (.iconst (-1), 1) := by decide +kernel
theorem dX11_apart_97 : decode cX11_apart 97 = .ok (.goto 4, 3) := by decide +kernel
theorem dX11_apart_100 : decode cX11_apart 100 = .ok (.iload_n 2, 1) := by decide +kernel
theorem dX11_apart_101 : decode cX11_apart 101 = .ok (.ireturn, 1) := by decide +kernel
theorem dX11_off_0 : decode cX11_off 0 = .ok (.aload_n 0, 1) := by decide +kernel
theorem dX11_off_1 : decode cX11_off 1 = .ok (.iconst 0, 1) := by decide +kernel
theorem dX11_off_2 : decode cX11_off 2 = .ok (.putfield 106, 3) := by decide +kernel
theorem dX11_off_5 : decode cX11_off 5 = .ok (.aload_n 0, 1) := by decide +kernel
theorem dX11_off_6 : decode cX11_off 6 = .ok (.iload_n 1, 1) := by decide +kernel
theorem dX11_off_7 : decode cX11_off 7 = .ok (.invokevirtual 267, 3) := by decide +kernel
theorem dX11_off_10 : decode cX11_off 10 = .ok (.ifCond .ne 11, 3) := by decide +kernel
theorem dX11_off_13 : decode cX11_off 13 = .ok (.aload_n 0, 1) := by decide +kernel
theorem dX11_off_14 : decode cX11_off 14 = .ok (.iload_n 2, 1) := by decide +kernel
theorem dX11_off_15 : decode cX11_off 15 = .ok (.invokevirtual 280, 3) := by decide +kernel
theorem dX11_off_18 : decode cX11_off 18 = .ok (.ifCond .eq 5, 3) := by decide +kernel
theorem dX11_off_21 : decode cX11_off 21 = .ok (.iconst 0, 1) := by decide +kernel
theorem dX11_off_22 : decode cX11_off 22 = .ok (.ireturn, 1) := by decide +kernel
theorem dX11_off_23 : decode cX11_off 23 = .ok (.aload_n 0, 1) := by decide +kernel
theorem dX11_off_24 : decode cX11_off 24 = .ok (.aload_n 0, 1) := by decide +kernel
theorem dX11_off_25 : decode cX11_off 25 = .ok (.getfield 48, 3) := by decide +kernel
theorem dX11_off_28 : decode cX11_off 28 = .ok (.invokevirtual 246, 3) := by decide +kernel
theorem dX11_off_31 : decode cX11_off 31 = .ok (.aload_n 0, 1) := by decide +kernel
theorem dX11_off_32 : decode cX11_off 32 = .ok (.getfield 70, 3) := by decide +kernel
theorem dX11_off_35 : decode cX11_off 35 = .ok (.iconst 0, 1) := by decide +kernel
theorem dX11_off_36 : decode cX11_off 36 = .ok (.iload_n 1, 1) := by decide +kernel
theorem dX11_off_37 : decode cX11_off 37 = .ok (.iload_n 2, 1) := by decide +kernel
theorem dX11_off_38 : decode cX11_off 38 = .ok (.invokestatic 239, 3) := by decide +kernel
theorem dX11_off_41 : decode cX11_off 41 = .ok (.iaload, 1) := by decide +kernel
theorem dX11_off_42 : decode cX11_off 42 = .ok (.aload_n 0, 1) := by decide +kernel
theorem dX11_off_43 : decode cX11_off 43 = .ok (.getfield 48, 3) := by decide +kernel
theorem dX11_off_46 : decode cX11_off 46 = .ok (.imul, 1) := by decide +kernel
theorem dX11_off_47 : decode cX11_off 47 = .ok (.aload_n 0, 1) := by decide +kernel
theorem dX11_off_48 : decode cX11_off 48 = .ok (.getfield 36, 3) := by decide +kernel
theorem dX11_off_51 : decode cX11_off 51 = .ok (.iconst 3, 1) := by decide +kernel
theorem dX11_off_52 : decode cX11_off 52 = .ok (.iload_n 1, 1) := by decide +kernel
theorem dX11_off_53 : decode cX11_off 53 = .ok (.imul, 1) := by decide +kernel
theorem dX11_off_54 : decode cX11_off 54 = .ok (.iload_n 2, 1) := by decide +kernel
theorem dX11_off_55 : decode cX11_off 55 = .ok (.iadd, 1) := by decide +kernel
theorem dX11_off_56 : decode cX11_off 56 = .ok (.iaload, 1) := by decide +kernel
theorem dX11_off_57 : decode cX11_off 57 = .ok (.isub, 1) := by decide +kernel
theorem dX11_off_58 : decode cX11_off 58 = .ok (.ireturn, 1) := by decide +kernel
theorem dX11_noEdge_0 : decode cX11_noEdge 0 = .ok (.aload_n 0, 1) := by decide +kernel
theorem dX11_noEdge_1 : decode cX11_noEdge 1 = .ok (.iload_n 1, 1) := by decide +kernel
theorem dX11_noEdge_2 : decode cX11_noEdge 2 = .ok (.invokevirtual 267, 3) := by decide +kernel
theorem dX11_noEdge_5 : decode cX11_noEdge 5 = .ok (.ifCond .ne 19, 3) := by decide +kernel
theorem dX11_noEdge_8 : decode cX11_noEdge 8 = .ok (.aload_n 0, 1) := by decide +kernel
theorem dX11_noEdge_9 : decode cX11_noEdge 9 = .ok (.iload_n 2, 1) := by decide +kernel
theorem dX11_noEdge_10 : decode cX11_noEdge 10 = .ok (.invokevirtual 267, 3) := by decide +kernel
theorem dX11_noEdge_13 : decode cX11_noEdge 13 = .ok (.ifCond .ne 11, 3) := by decide +kernel
theorem dX11_noEdge_16 : decode cX11_noEdge 16 = .ok (.aload_n 0, 1) := by decide +kernel
theorem dX11_noEdge_17 : decode cX11_noEdge 17 = .ok (.iload_n 3, 1) := by decide +kernel
theorem dX11_noEdge_18 : decode cX11_noEdge 18 = .ok (.invokevirtual 295, 3) := by decide +kernel
theorem dX11_noEdge_21 : decode cX11_noEdge 21 = .ok (.ifCond .eq 7, 3) := by decide +kernel
theorem dX11_noEdge_24 : decode cX11_noEdge 24 = .ok (.iconst 1, 1) := by decide +kernel
theorem dX11_noEdge_25 : decode cX11_noEdge 25 = .ok (.goto 4, 3) := by decide +kernel
theorem dX11_noEdge_28 : decode cX11_noEdge 28 = .ok (.iconst 0, 1) := by decide +kernel
theorem dX11_noEdge_29 : decode cX11_noEdge 29 = .ok (.ireturn, 1) := by decide +kernel
theorem dX11_moves_0 : decode cX11_moves 0 = .ok (.iconst 0, 1) := by decide +kernel
theorem dX11_moves_1 : decode cX11_moves 1 = .ok (.istore 6, 2) := by decide +kernel
theorem dX11_moves_3 : decode cX11_moves 3 = .ok (.aload_n 0, 1) := by decide +kernel
theorem dX11_moves_4 : decode cX11_moves 4 = .ok (.iload_n 1, 1) := by decide +kernel
theorem dX11_moves_5 : decode cX11_moves 5 = .ok (.invokevirtual 243, 3) := by decide +kernel
theorem dX11_moves_8 : decode cX11_moves 8 = .ok (.istore 7, 2) := by decide +kernel
theorem dX11_moves_10 : decode cX11_moves 10 = .ok (.iload 4, 2) := by decide +kernel
theorem dX11_moves_12 : decode cX11_moves 12 = .ok (.istore 8, 2) := by decide +kernel
theorem dX11_moves_14 : decode cX11_moves 14 = .ok (.iload 8, 2) := by decide +kernel
theorem dX11_moves_16 : decode cX11_moves 16 = .ok (.iload 5, 2) := by decide +kernel
theorem dX11_moves_18 : decode cX11_moves 18 = .ok (.if_icmp .gt 47, 3) := by decide +kernel
theorem dX11_moves_21 : decode cX11_moves 21 = .ok (.aload_n 0, 1) := by decide +kernel
theorem dX11_moves_22 : decode cX11_moves 22 = .ok (.getfield 17, 3) := by decide +kernel
theorem dX11_moves_25 : decode cX11_moves 25 = .ok (.iconst 0, 1) := by decide +kernel
theorem dX11_moves_26 : decode cX11_moves 26 = .ok (.iaload, 1) := by decide +kernel
theorem dX11_moves_27 : decode cX11_moves 27 = .ok (.iload_n 3, 1) := by decide +kernel
theorem dX11_moves_28 : decode cX11_moves 28 = .ok (.imul, 1) := by decide +kernel
theorem dX11_moves_29 : decode cX11_moves 29 = .ok (.iload 8, 2) := by decide +kernel
theorem dX11_moves_31 : decode cX11_moves 31 = .ok (.iadd, 1) := by decide +kernel
theorem dX11_moves_32 : decode cX11_moves 32 = .ok (.istore 9, 2) := by decide +kernel
theorem dX11_moves_34 : decode cX11_moves 34 = .ok (.aload_n 0, 1) := by decide +kernel
theorem dX11_moves_35 : decode cX11_moves 35 = .ok (.getfield 23, 3) := by decide +kernel
theorem dX11_moves_38 : decode cX11_moves 38 = .ok (.iload 9, 2) := by decide +kernel
theorem dX11_moves_40 : decode cX11_moves 40 = .ok (.iaload, 1) := by decide +kernel
theorem dX11_moves_41 : decode cX11_moves 41 = .ok (.iload_n 1, 1) := by decide +kernel
theorem dX11_moves_42 : decode cX11_moves 42 = .ok (.if_icmp .eq 6, 3) := by decide +kernel
theorem dX11_moves_45 : decode cX11_moves 45 = .ok (.goto 14, 3) := by decide +kernel
theorem dX11_moves_48 : decode cX11_moves 48 = .ok (.aload_n 0, 1) := by decide +kernel
theorem dX11_moves_49 : decode cX11_moves 49 = .ok (.getfield 23, 3) := by decide +kernel
theorem dX11_moves_52 : decode cX11_moves 52 = .ok (.iload 9, 2) := by decide +kernel
theorem dX11_moves_54 : decode cX11_moves 54 = .ok (.iload_n 2, 1) := by decide +kernel
theorem dX11_moves_55 : decode cX11_moves 55 = .ok (.iastore, 1) := by decide +kernel
theorem dX11_moves_56 : decode cX11_moves 56 = .ok (.iinc 6 1, 3) := by decide +kernel
theorem dX11_moves_59 : decode cX11_moves 59 = .ok (.iinc 8 1, 3) := by decide +kernel
theorem dX11_moves_62 : decode cX11_moves 62 = .ok (.goto (-48), 3) := by decide +kernel
theorem dX11_moves_65 : decode cX11_moves 65 = .ok (.aload_n 0, 1) := by decide +kernel
theorem dX11_moves_66 : decode cX11_moves 66 = .ok (.invokevirtual 219, 3) := by decide +kernel
theorem dX11_moves_69 : decode cX11_moves 69 = .ok (.iload 7, 2) := by decide +kernel
theorem dX11_moves_71 : decode cX11_moves 71 = .ok (.aload_n 0, 1) := by decide +kernel
theorem dX11_moves_72 : decode cX11_moves 72 = .ok (.iload_n 1, 1) := by decide +kernel
theorem dX11_moves_73 : decode cX11_moves 73 = .ok (.invokevirtual 243, 3) := by decide +kernel
theorem dX11_moves_76 : decode cX11_moves 76 = .ok (.isub, 1) := by decide +kernel
theorem dX11_moves_77 : decode cX11_moves 77 = .ok (.istore 8, 2) := by decide +kernel
theorem dX11_moves_79 : decode cX11_moves 79 = .ok (.iconst 0, 1) := by decide +kernel
theorem dX11_moves_80 : decode cX11_moves 80 = .ok (.istore 9, 2) := by decide +kernel
theorem dX11_moves_82 : decode cX11_moves 82 = .ok (.iload 9, 2) := by decide +kernel
theorem dX11_moves_84 : decode cX11_moves 84 = .ok (.aload_n 0, 1) := by decide +kernel
theorem dX11_moves_85 : decode cX11_moves 85 = .ok (.getfield 17, 3) := by decide +kernel
theorem dX11_moves_88 : decode cX11_moves 88 = .ok (.iconst 3, 1) := by decide +kernel
theorem dX11_moves_89 : decode cX11_moves 89 = .ok (.iaload, 1) := by decide +kernel
theorem dX11_moves_90 : decode cX11_moves 90 = .ok (.if_icmp .ge 94, 3) := by decide +kernel
theorem dX11_moves_93 : decode cX11_moves 93 = .ok (.iload 7, 2) := by decide +kernel
theorem dX11_moves_95 : decode cX11_moves 95 = .ok (.ifCond .le 89, 3) := by decide +kernel
theorem dX11_moves_98 : decode cX11_moves 98 = .ok (.aload_n 0, 1) := by decide +kernel
theorem dX11_moves_99 : decode cX11_moves 99 = .ok (.getfield 36, 3) := by decide +kernel
theorem dX11_moves_102 : decode cX11_moves 102 = .ok (.iconst 3, 1) := by decide +kernel
theorem dX11_moves_103 : decode cX11_moves 103 = .ok (.iload_n 1, 1) := by decide +kernel
theorem dX11_moves_104 : decode cX11_moves 104 = .ok (.imul, 1) := by decide +kernel
theorem dX11_moves_105 : decode cX11_moves 105 = .ok (.iload 9, 2) := by decide +kernel
theorem dX11_moves_107 : decode cX11_moves 107 = .ok (.iadd, 1) := by decide +kernel
theorem dX11_moves_108 : decode cX11_moves 108 = .ok (.iaload, 1) := by decide +kernel
theorem dX11_moves_109 : decode cX11_moves 109 = .ok (.i2l, 1) := by decide +kernel
theorem dX11_moves_110 : decode cX11_moves 110 = .ok (.iload 8, 2) := by decide +kernel
theorem dX11_moves_112 : decode cX11_moves 112 = .ok (.i2l, 1) := by decide +kernel
theorem dX11_moves_113 : decode cX11_moves 113 = .ok (.lmul, 1) := by decide +kernel
theorem dX11_moves_114 : decode cX11_moves 114 = .ok (.iload 7, 2) := by decide +kernel
theorem dX11_moves_116 : decode cX11_moves 116 = .ok (.i2l, 1) := by decide +kernel
theorem dX11_moves_117 : decode cX11_moves 117 = .ok (.ldiv, 1) := by decide +kernel
theorem dX11_moves_118 : decode cX11_moves 118 = .ok (.l2i, 1) := by decide +kernel
theorem dX11_moves_119 : decode cX11_moves 119 = .ok (.istore 10, 2) := by decide +kernel
theorem dX11_moves_121 : decode cX11_moves 121 = .ok (.aload_n 0, 1) := by decide +kernel
theorem dX11_moves_122 : decode cX11_moves 122 = .ok (.getfield 36, 3) := by decide +kernel
theorem dX11_moves_125 : decode cX11_moves 125 = .ok (.iconst 3, 1) := by decide +kernel
theorem dX11_moves_126 : decode cX11_moves 126 = .ok (.iload_n 1, 1) := by decide +kernel
theorem dX11_moves_127 : decode cX11_moves 127 = .ok (.imul, 1) := by decide +kernel
theorem dX11_moves_128 : decode cX11_moves 128 = .ok (.iload 9, 2) := by decide +kernel
theorem dX11_moves_130 : decode cX11_moves 130 = .ok (.iadd, 1) := by decide +kernel
theorem dX11_moves_131 : decode cX11_moves 131 = .ok (.dup2, 1) := by decide +kernel
theorem dX11_moves_132 : decode cX11_moves 132 = .ok (.iaload, 1) := by decide +kernel
theorem dX11_moves_133 : decode cX11_moves 133 = .ok (.iload 10, 2) := by decide +kernel
theorem dX11_moves_135 : decode cX11_moves 135 = .ok (.isub, 1) := by decide +kernel
theorem dX11_moves_136 : decode cX11_moves 136 = .ok (.iastore, 1) := by decide +kernel
theorem dX11_moves_137 : decode cX11_moves 137 = .ok (.aload_n 0, 1) := by decide +kernel
theorem dX11_moves_138 : decode cX11_moves 138 = .ok (.getfield 36, 3) := by decide +kernel
theorem dX11_moves_141 : decode cX11_moves 141 = .ok (.iconst 3, 1) := by decide +kernel
theorem dX11_moves_142 : decode cX11_moves 142 = .ok (.iload_n 2, 1) := by decide +kernel
theorem dX11_moves_143 : decode cX11_moves 143 = .ok (.imul, 1) := by decide +kernel
theorem dX11_moves_144 : decode cX11_moves 144 = .ok (.iload 9, 2) := by decide +kernel
theorem dX11_moves_146 : decode cX11_moves 146 = .ok (.iadd, 1) := by decide +kernel
theorem dX11_moves_147 : decode cX11_moves 147 = .ok (.iaload, 1) := by decide +kernel
theorem dX11_moves_148 : decode cX11_moves 148 = .ok (.iload 10, 2) := by decide +kernel
theorem dX11_moves_150 : decode cX11_moves 150 = .ok (.iadd, 1) := by decide +kernel
theorem dX11_moves_151 : decode cX11_moves 151 = .ok (.istore 11, 2) := by decide +kernel
theorem dX11_moves_153 : decode cX11_moves 153 = .ok (.aload_n 0, 1) := by decide +kernel
theorem dX11_moves_154 : decode cX11_moves 154 = .ok (.getfield 36, 3) := by decide +kernel
theorem dX11_moves_157 : decode cX11_moves 157 = .ok (.iconst 3, 1) := by decide +kernel
theorem dX11_moves_158 : decode cX11_moves 158 = .ok (.iload_n 2, 1) := by decide +kernel
theorem dX11_moves_159 : decode cX11_moves 159 = .ok (.imul, 1) := by decide +kernel
theorem dX11_moves_160 : decode cX11_moves 160 = .ok (.iload 9, 2) := by decide +kernel
theorem dX11_moves_162 : decode cX11_moves 162 = .ok (.iadd, 1) := by decide +kernel
theorem dX11_moves_163 : decode cX11_moves 163 = .ok (.iload 11, 2) := by decide +kernel
theorem dX11_moves_165 : decode cX11_moves 165 = .ok (.ldc 194, 2) := by decide +kernel
theorem dX11_moves_167 : decode cX11_moves 167 = .ok (.if_icmp .le 8, 3) := by decide +kernel
theorem dX11_moves_170 : decode cX11_moves 170 = .ok (.ldc 194, 2) := by decide +kernel
theorem dX11_moves_172 : decode cX11_moves 172 = .ok (.goto 5, 3) := by decide +kernel
theorem dX11_moves_175 : decode cX11_moves 175 = .ok (.iload 11, 2) := by decide +kernel
theorem dX11_moves_177 : decode cX11_moves 177 = .ok (.iastore, 1) := by decide +kernel
theorem dX11_moves_178 : decode cX11_moves 178 = .ok (.iinc 9 1, 3) := by decide +kernel
theorem dX11_moves_181 : decode cX11_moves 181 = .ok (.goto (-99), 3) := by decide +kernel
theorem dX11_moves_184 : decode cX11_moves 184 = .ok (.iload 6, 2) := by decide +kernel
theorem dX11_moves_186 : decode cX11_moves 186 = .ok (.ireturn, 1) := by decide +kernel
theorem dX11_noRun_0 : decode cX11_noRun 0 = .ok (.aload_n 0, 1) := by decide +kernel
theorem dX11_noRun_1 : decode cX11_noRun 1 = .ok (.iload_n 1, 1) := by decide +kernel
theorem dX11_noRun_2 : decode cX11_noRun 2 = .ok (.iload_n 2, 1) := by decide +kernel
theorem dX11_noRun_3 : decode cX11_noRun 3 = .ok (.if_icmp .eq 24, 3) := by decide +kernel
theorem dX11_noRun_6 : decode cX11_noRun 6 = .ok (.iload_n 3, 1) := by decide +kernel
theorem dX11_noRun_7 : decode cX11_noRun 7 = .ok (.ifCond .lt 20, 3) := by decide +kernel
theorem dX11_noRun_10 : decode cX11_noRun 10 = .ok (.iload 4, 2) := by decide +kernel
theorem dX11_noRun_12 : decode cX11_noRun 12 = .ok (.iload_n 3, 1) := by decide +kernel
theorem dX11_noRun_13 : decode cX11_noRun 13 = .ok (.if_icmp .lt 14, 3) := by decide +kernel
theorem dX11_noRun_16 : decode cX11_noRun 16 = .ok (.iload 4, 2) := by decide +kernel
theorem dX11_noRun_18 : decode cX11_noRun 18 = .ok (.aload_n 0, 1) := by decide +kernel
theorem dX11_noRun_19 : decode cX11_noRun 19 = .ok (.getfield 17, 3) := by decide +kernel
theorem dX11_noRun_22 : decode cX11_noRun 22 = .ok (.iconst 0, 1) := by decide +kernel
theorem dX11_noRun_23 : decode cX11_noRun 23 = .ok (.iaload, 1) := by decide +kernel
theorem dX11_noRun_24 : decode cX11_noRun 24 = .ok (.if_icmp .lt 7, 3) := by decide +kernel
theorem dX11_noRun_27 : decode cX11_noRun 27 = .ok (.iconst 1, 1) := by decide +kernel
theorem dX11_noRun_28 : decode cX11_noRun 28 = .ok (.goto 4, 3) := by decide +kernel
theorem dX11_noRun_31 : decode cX11_noRun 31 = .ok (.iconst 0, 1) := by decide +kernel
theorem dX11_noRun_32 : decode cX11_noRun 32 = .ok (.iconst 2, 1) := by decide +kernel
theorem dX11_noRun_33 : decode cX11_noRun 33 = .ok (.invokevirtual 215, 3) := by decide +kernel
theorem dX11_noRun_36 : decode cX11_noRun 36 = .ok (.ireturn, 1) := by decide +kernel
theorem dX11_move_0 : decode cX11_move 0 = .ok (.aload_n 0, 1) := by decide +kernel
theorem dX11_move_1 : decode cX11_move 1 = .ok (.iconst 0, 1) := by decide +kernel
theorem dX11_move_2 : decode cX11_move 2 = .ok (.putfield 106, 3) := by decide +kernel
theorem dX11_move_5 : decode cX11_move 5 = .ok (.aload_n 0, 1) := by decide +kernel
theorem dX11_move_6 : decode cX11_move 6 = .ok (.iload_n 1, 1) := by decide +kernel
theorem dX11_move_7 : decode cX11_move 7 = .ok (.iload_n 2, 1) := by decide +kernel
theorem dX11_move_8 : decode cX11_move 8 = .ok (.iload_n 3, 1) := by decide +kernel
theorem dX11_move_9 : decode cX11_move 9 = .ok (.iload 4, 2) := by decide +kernel
theorem dX11_move_11 : decode cX11_move 11 = .ok (.iload 5, 2) := by decide +kernel
theorem dX11_move_13 : decode cX11_move 13 = .ok (.invokevirtual 298, 3) := by decide +kernel
theorem dX11_move_16 : decode cX11_move 16 = .ok (.ifCond .ne 16, 3) := by decide +kernel
theorem dX11_move_19 : decode cX11_move 19 = .ok (.aload_n 0, 1) := by decide +kernel
theorem dX11_move_20 : decode cX11_move 20 = .ok (.iload_n 1, 1) := by decide +kernel
theorem dX11_move_21 : decode cX11_move 21 = .ok (.iload_n 2, 1) := by decide +kernel
theorem dX11_move_22 : decode cX11_move 22 = .ok (.iload 4, 2) := by decide +kernel
theorem dX11_move_24 : decode cX11_move 24 = .ok (.iload 5, 2) := by decide +kernel
theorem dX11_move_26 : decode cX11_move 26 = .ok (.invokevirtual 302, 3) := by decide +kernel
theorem dX11_move_29 : decode cX11_move 29 = .ok (.ifCond .eq 5, 3) := by decide +kernel
theorem dX11_move_32 : decode cX11_move 32 = .ok (.iconst 0, 1) := by decide +kernel
theorem dX11_move_33 : decode cX11_move 33 = .ok (.ireturn, 1) := by decide +kernel
theorem dX11_move_34 : decode cX11_move 34 = .ok (.aload_n 0, 1) := by decide +kernel
theorem dX11_move_35 : decode cX11_move 35 = .ok (.iload_n 1, 1) := by decide +kernel
theorem dX11_move_36 : decode cX11_move 36 = .ok (.iload_n 2, 1) := by decide +kernel
theorem dX11_move_37 : decode cX11_move 37 = .ok (.iload_n 3, 1) := by decide +kernel
theorem dX11_move_38 : decode cX11_move 38 = .ok (.iload 4, 2) := by decide +kernel
theorem dX11_move_40 : decode cX11_move 40 = .ok (.iload 5, 2) := by decide +kernel
theorem dX11_move_42 : decode cX11_move 42 = .ok (.invokevirtual 306, 3) := by decide +kernel
theorem dX11_move_45 : decode cX11_move 45 = .ok (.ireturn, 1) := by decide +kernel
theorem dX11_tries_0 : decode cX11_tries 0 = .ok (.aload_n 0, 1) := by decide +kernel
theorem dX11_tries_1 : decode cX11_tries 1 = .ok (.iconst 0, 1) := by decide +kernel
theorem dX11_tries_2 : decode cX11_tries 2 = .ok (.putfield 106, 3) := by decide +kernel
theorem dX11_tries_5 : decode cX11_tries 5 = .ok (.aload_n 0, 1) := by decide +kernel
theorem dX11_tries_6 : decode cX11_tries 6 = .ok (.iload_n 1, 1) := by decide +kernel
theorem dX11_tries_7 : decode cX11_tries 7 = .ok (.iload_n 2, 1) := by decide +kernel
theorem dX11_tries_8 : decode cX11_tries 8 = .ok (.iload_n 3, 1) := by decide +kernel
theorem dX11_tries_9 : decode cX11_tries 9 = .ok (.iload 4, 2) := by decide +kernel
theorem dX11_tries_11 : decode cX11_tries 11 = .ok (.iload 5, 2) := by decide +kernel
theorem dX11_tries_13 : decode cX11_tries 13 = .ok (.invokevirtual 298, 3) := by decide +kernel
theorem dX11_tries_16 : decode cX11_tries 16 = .ok (.ifCond .ne 25, 3) := by decide +kernel
theorem dX11_tries_19 : decode cX11_tries 19 = .ok (.aload_n 0, 1) := by decide +kernel
theorem dX11_tries_20 : decode cX11_tries 20 = .ok (.iload 6, 2) := by decide +kernel
theorem dX11_tries_22 : decode cX11_tries 22 = .ok (.invokevirtual 283, 3) := by decide +kernel
theorem dX11_tries_25 : decode cX11_tries 25 = .ok (.ifCond .ne 16, 3) := by decide +kernel
theorem dX11_tries_28 : decode cX11_tries 28 = .ok (.aload_n 0, 1) := by decide +kernel
theorem dX11_tries_29 : decode cX11_tries 29 = .ok (.iload_n 1, 1) := by decide +kernel
theorem dX11_tries_30 : decode cX11_tries 30 = .ok (.iload_n 2, 1) := by decide +kernel
theorem dX11_tries_31 : decode cX11_tries 31 = .ok (.iload 4, 2) := by decide +kernel
theorem dX11_tries_33 : decode cX11_tries 33 = .ok (.iload 5, 2) := by decide +kernel
theorem dX11_tries_35 : decode cX11_tries 35 = .ok (.invokevirtual 302, 3) := by decide +kernel
theorem dX11_tries_38 : decode cX11_tries 38 = .ok (.ifCond .eq 5, 3) := by decide +kernel
theorem dX11_tries_41 : decode cX11_tries 41 = .ok (.iconst 0, 1) := by decide +kernel
theorem dX11_tries_42 : decode cX11_tries 42 = .ok (.ireturn, 1) := by decide +kernel
theorem dX11_tries_43 : decode cX11_tries 43 = .ok (.aload_n 0, 1) := by decide +kernel
theorem dX11_tries_44 : decode cX11_tries 44 = .ok (.iload 6, 2) := by decide +kernel
theorem dX11_tries_46 : decode cX11_tries 46 = .ok (.invokevirtual 289, 3) := by decide +kernel
theorem dX11_tries_49 : decode cX11_tries 49 = .ok (.iconst 0, 1) := by decide +kernel
theorem dX11_tries_50 : decode cX11_tries 50 = .ok (.istore 7, 2) := by decide +kernel
theorem dX11_tries_52 : decode cX11_tries 52 = .ok (.iload 7, 2) := by decide +kernel
theorem dX11_tries_54 : decode cX11_tries 54 = .ok (.sipush 1152, 3) := by decide +kernel
theorem dX11_tries_57 : decode cX11_tries 57 = .ok (.if_icmp .ge 23, 3) := by decide +kernel
theorem dX11_tries_60 : decode cX11_tries 60 = .ok (.aload_n 0, 1) := by decide +kernel
theorem dX11_tries_61 : decode cX11_tries 61 = .ok (.getfield 82, 3) := by decide +kernel
theorem dX11_tries_64 : decode cX11_tries 64 = .ok (.iload 7, 2) := by decide +kernel
theorem dX11_tries_66 : decode cX11_tries 66 = .ok (.aload_n 0, 1) := by decide +kernel
theorem dX11_tries_67 : decode cX11_tries 67 = .ok (.getfield 79, 3) := by decide +kernel
theorem dX11_tries_70 : decode cX11_tries 70 = .ok (.iload 7, 2) := by decide +kernel
theorem dX11_tries_72 : decode cX11_tries 72 = .ok (.iaload, 1) := by decide +kernel
theorem dX11_tries_73 : decode cX11_tries 73 = .ok (.iastore, 1) := by decide +kernel
theorem dX11_tries_74 : decode cX11_tries 74 = .ok (.iinc 7 1, 3) := by decide +kernel
theorem dX11_tries_77 : decode cX11_tries 77 = .ok (.goto (-25), 3) := by decide +kernel
theorem dX11_tries_80 : decode cX11_tries 80 = .ok (.aload_n 0, 1) := by decide +kernel
theorem dX11_tries_81 : decode cX11_tries 81 = .ok (.invokevirtual 310, 3) := by decide +kernel
theorem dX11_tries_84 : decode cX11_tries 84 = .ok (.aload_n 0, 1) := by decide +kernel
theorem dX11_tries_85 : decode cX11_tries 85 = .ok (.iload_n 1, 1) := by decide +kernel
theorem dX11_tries_86 : decode cX11_tries 86 = .ok (.iload_n 2, 1) := by decide +kernel
theorem dX11_tries_87 : decode cX11_tries 87 = .ok (.iload_n 3, 1) := by decide +kernel
theorem dX11_tries_88 : decode cX11_tries 88 = .ok (.iload 4, 2) := by decide +kernel
theorem dX11_tries_90 : decode cX11_tries 90 = .ok (.iload 5, 2) := by decide +kernel
theorem dX11_tries_92 : decode cX11_tries 92 = .ok (.invokevirtual 306, 3) := by decide +kernel
theorem dX11_tries_95 : decode cX11_tries 95 = .ok (.istore 7, 2) := by decide +kernel
theorem dX11_tries_97 : decode cX11_tries 97 = .ok (.aload_n 0, 1) := by decide +kernel
theorem dX11_tries_98 : decode cX11_tries 98 = .ok (.iload 6, 2) := by decide +kernel
theorem dX11_tries_100 : decode cX11_tries 100 = .ok (.invokevirtual 289, 3) := by decide +kernel
theorem dX11_tries_103 : decode cX11_tries 103 = .ok (.iconst 0, 1) := by decide +kernel
theorem dX11_tries_104 : decode cX11_tries 104 = .ok (.istore 8, 2) := by decide +kernel
theorem dX11_tries_106 : decode cX11_tries 106 = .ok (.iconst 0, 1) := by decide +kernel
theorem dX11_tries_107 : decode cX11_tries 107 = .ok (.istore 9, 2) := by decide +kernel
theorem dX11_tries_109 : decode cX11_tries 109 = .ok (.iload 9, 2) := by decide +kernel
theorem dX11_tries_111 : decode cX11_tries 111 = .ok (.sipush 1152, 3) := by decide +kernel
theorem dX11_tries_114 : decode cX11_tries 114 = .ok (.if_icmp .ge 50, 3) := by decide +kernel
theorem dX11_tries_117 : decode cX11_tries 117 = .ok (.iload 8, 2) := by decide +kernel
theorem dX11_tries_119 : decode cX11_tries 119 = .ok (.aload_n 0, 1) := by decide +kernel
theorem dX11_tries_120 : decode cX11_tries 120 = .ok (.getfield 79, 3) := by decide +kernel
theorem dX11_tries_123 : decode cX11_tries 123 = .ok (.iload 9, 2) := by decide +kernel
theorem dX11_tries_125 : decode cX11_tries 125 = .ok (.iaload, 1) := by decide +kernel
theorem dX11_tries_126 : decode cX11_tries 126 = .ok (.aload_n 0, 1) := by decide +kernel
theorem dX11_tries_127 : decode cX11_tries 127 = .ok (.getfield 82, 3) := by decide +kernel
theorem dX11_tries_130 : decode cX11_tries 130 = .ok (.iload 9, 2) := by decide +kernel
theorem dX11_tries_132 : decode cX11_tries 132 = .ok (.iaload, 1) := by decide +kernel
theorem dX11_tries_133 : decode cX11_tries 133 = .ok (.if_icmp .le 21, 3) := by decide +kernel
theorem dX11_tries_136 : decode cX11_tries 136 = .ok (.aload_n 0, 1) := by decide +kernel
theorem dX11_tries_137 : decode cX11_tries 137 = .ok (.getfield 79, 3) := by decide +kernel
theorem dX11_tries_140 : decode cX11_tries 140 = .ok (.iload 9, 2) := by decide +kernel
theorem dX11_tries_142 : decode cX11_tries 142 = .ok (.iaload, 1) := by decide +kernel
theorem dX11_tries_143 : decode cX11_tries 143 = .ok (.aload_n 0, 1) := by decide +kernel
theorem dX11_tries_144 : decode cX11_tries 144 = .ok (.getfield 82, 3) := by decide +kernel
theorem dX11_tries_147 : decode cX11_tries 147 = .ok (.iload 9, 2) := by decide +kernel
theorem dX11_tries_149 : decode cX11_tries 149 = .ok (.iaload, 1) := by decide +kernel
theorem dX11_tries_150 : decode cX11_tries 150 = .ok (.isub, 1) := by decide +kernel
theorem dX11_tries_151 : decode cX11_tries 151 = .ok (.goto 4, 3) := by decide +kernel
theorem dX11_tries_154 : decode cX11_tries 154 = .ok (.iconst 0, 1) := by decide +kernel
theorem dX11_tries_155 : decode cX11_tries 155 = .ok (.iadd, 1) := by decide +kernel
theorem dX11_tries_156 : decode cX11_tries 156 = .ok (.istore 8, 2) := by decide +kernel
theorem dX11_tries_158 : decode cX11_tries 158 = .ok (.iinc 9 1, 3) := by decide +kernel
theorem dX11_tries_161 : decode cX11_tries 161 = .ok (.goto (-52), 3) := by decide +kernel
theorem dX11_tries_164 : decode cX11_tries 164 = .ok (.aload_n 0, 1) := by decide +kernel
theorem dX11_tries_165 : decode cX11_tries 165 = .ok (.invokevirtual 313, 3) := by decide +kernel
theorem dX11_tries_168 : decode cX11_tries 168 = .ok (.iload 8, 2) := by decide +kernel
theorem dX11_tries_170 : decode cX11_tries 170 = .ok (.ireturn, 1) := by decide +kernel
theorem dX11_runEnd_0 : decode cX11_runEnd 0 = .ok (.iload_n 2, 1) := by decide +kernel
theorem dX11_runEnd_1 : decode cX11_runEnd 1 = .ok (.istore_n 3, 1) := by decide +kernel
theorem dX11_runEnd_2 : decode cX11_runEnd 2 = .ok (.iload_n 3, 1) := by decide +kernel
theorem dX11_runEnd_3 : decode cX11_runEnd 3 = .ok (.aload_n 0, 1) := by decide +kernel
theorem dX11_runEnd_4 : decode cX11_runEnd 4 = .ok (.getfield 17, 3) := by decide +kernel
theorem dX11_runEnd_7 : decode cX11_runEnd 7 = .ok (.iconst 0, 1) := by decide +kernel
theorem dX11_runEnd_8 : decode cX11_runEnd 8 = .ok (.iaload, 1) := by decide +kernel
theorem dX11_runEnd_9 : decode cX11_runEnd 9 = .ok (.irem, 1) := by decide +kernel
theorem dX11_runEnd_10 : decode cX11_runEnd 10 = .ok (.iconst 1, 1) := by decide +kernel
theorem dX11_runEnd_11 : decode cX11_runEnd 11 = .ok (.iadd, 1) := by decide +kernel
theorem dX11_runEnd_12 : decode cX11_runEnd 12 = .ok (.aload_n 0, 1) := by decide +kernel
theorem dX11_runEnd_13 : decode cX11_runEnd 13 = .ok (.getfield 17, 3) := by decide +kernel
theorem dX11_runEnd_16 : decode cX11_runEnd 16 = .ok (.iconst 0, 1) := by decide +kernel
theorem dX11_runEnd_17 : decode cX11_runEnd 17 = .ok (.iaload, 1) := by decide +kernel
theorem dX11_runEnd_18 : decode cX11_runEnd 18 = .ok (.if_icmp .ge 20, 3) := by decide +kernel
theorem dX11_runEnd_21 : decode cX11_runEnd 21 = .ok (.aload_n 0, 1) := by decide +kernel
theorem dX11_runEnd_22 : decode cX11_runEnd 22 = .ok (.iload_n 3, 1) := by decide +kernel
theorem dX11_runEnd_23 : decode cX11_runEnd 23 = .ok (.iconst 1, 1) := by decide +kernel
theorem dX11_runEnd_24 : decode cX11_runEnd 24 = .ok (.iadd, 1) := by decide +kernel
theorem dX11_runEnd_25 : decode cX11_runEnd 25 = .ok (.iload_n 1, 1) := by decide +kernel
theorem dX11_runEnd_26 : decode cX11_runEnd 26 = .ok (.invokevirtual 233, 3) := by decide +kernel
theorem dX11_runEnd_29 : decode cX11_runEnd 29 = .ok (.ifCond .eq 9, 3) := by decide +kernel
theorem dX11_runEnd_32 : decode cX11_runEnd 32 = .ok (.iinc 3 1, 3) := by decide +kernel
theorem dX11_runEnd_35 : decode cX11_runEnd 35 = .ok (.goto (-33), 3) := by decide +kernel
theorem dX11_runEnd_38 : decode cX11_runEnd 38 = .ok (.iload_n 3, 1) := by decide +kernel
theorem dX11_runEnd_39 : decode cX11_runEnd 39 = .ok (.ireturn, 1) := by decide +kernel
theorem dX11_run_0 : decode cX11_run 0 = .ok (.aload_n 0, 1) := by decide +kernel
theorem dX11_run_1 : decode cX11_run 1 = .ok (.iconst 0, 1) := by decide +kernel
theorem dX11_run_2 : decode cX11_run 2 = .ok (.putfield 106, 3) := by decide +kernel
theorem dX11_run_5 : decode cX11_run 5 = .ok (.aload_n 0, 1) := by decide +kernel
theorem dX11_run_6 : decode cX11_run 6 = .ok (.iload_n 1, 1) := by decide +kernel
theorem dX11_run_7 : decode cX11_run 7 = .ok (.invokevirtual 267, 3) := by decide +kernel
theorem dX11_run_10 : decode cX11_run 10 = .ok (.ifCond .ne 11, 3) := by decide +kernel
theorem dX11_run_13 : decode cX11_run 13 = .ok (.aload_n 0, 1) := by decide +kernel
theorem dX11_run_14 : decode cX11_run 14 = .ok (.iload_n 2, 1) := by decide +kernel
theorem dX11_run_15 : decode cX11_run 15 = .ok (.invokevirtual 295, 3) := by decide +kernel
theorem dX11_run_18 : decode cX11_run 18 = .ok (.ifCond .eq 5, 3) := by decide +kernel
theorem dX11_run_21 : decode cX11_run 21 = .ok (.iconst 0, 1) := by decide +kernel
theorem dX11_run_22 : decode cX11_run 22 = .ok (.ireturn, 1) := by decide +kernel
theorem dX11_run_23 : decode cX11_run 23 = .ok (.iload_n 3, 1) := by decide +kernel
theorem dX11_run_24 : decode cX11_run 24 = .ok (.iconst (-1), 1) := by decide +kernel
theorem dX11_run_25 : decode cX11_run 25 = .ok (.if_icmp .ne 10, 3) := by decide +kernel
theorem dX11_run_28 : decode cX11_run 28 = .ok (.aload_n 0, 1) := by decide +kernel
theorem dX11_run_29 : decode cX11_run 29 = .ok (.iload_n 1, 1) := by decide +kernel
theorem dX11_run_30 : decode cX11_run 30 = .ok (.iload_n 2, 1) := by decide +kernel
theorem dX11_run_31 : decode cX11_run 31 = .ok (.invokevirtual 277, 3) := by decide +kernel
theorem dX11_run_34 : decode cX11_run 34 = .ok (.ireturn, 1) := by decide +kernel
theorem dX11_run_35 : decode cX11_run 35 = .ok (.iconst 0, 1) := by decide +kernel
theorem dX11_run_36 : decode cX11_run 36 = .ok (.istore 5, 2) := by decide +kernel
theorem dX11_run_38 : decode cX11_run 38 = .ok (.iconst 0, 1) := by decide +kernel
theorem dX11_run_39 : decode cX11_run 39 = .ok (.istore 6, 2) := by decide +kernel
theorem dX11_run_41 : decode cX11_run 41 = .ok (.iload 6, 2) := by decide +kernel
theorem dX11_run_43 : decode cX11_run 43 = .ok (.aload_n 0, 1) := by decide +kernel
theorem dX11_run_44 : decode cX11_run 44 = .ok (.getfield 17, 3) := by decide +kernel
theorem dX11_run_47 : decode cX11_run 47 = .ok (.iconst 0, 1) := by decide +kernel
theorem dX11_run_48 : decode cX11_run 48 = .ok (.iaload, 1) := by decide +kernel
theorem dX11_run_49 : decode cX11_run 49 = .ok (.if_icmp .ge 69, 3) := by decide +kernel
theorem dX11_run_52 : decode cX11_run 52 = .ok (.aload_n 0, 1) := by decide +kernel
theorem dX11_run_53 : decode cX11_run 53 = .ok (.getfield 17, 3) := by decide +kernel
theorem dX11_run_56 : decode cX11_run 56 = .ok (.iconst 0, 1) := by decide +kernel
theorem dX11_run_57 : decode cX11_run 57 = .ok (.iaload, 1) := by decide +kernel
theorem dX11_run_58 : decode cX11_run 58 = .ok (.iload_n 2, 1) := by decide +kernel
theorem dX11_run_59 : decode cX11_run 59 = .ok (.imul, 1) := by decide +kernel
theorem dX11_run_60 : decode cX11_run 60 = .ok (.iload 6, 2) := by decide +kernel
theorem dX11_run_62 : decode cX11_run 62 = .ok (.iadd, 1) := by decide +kernel
theorem dX11_run_63 : decode cX11_run 63 = .ok (.istore 7, 2) := by decide +kernel
theorem dX11_run_65 : decode cX11_run 65 = .ok (.aload_n 0, 1) := by decide +kernel
theorem dX11_run_66 : decode cX11_run 66 = .ok (.iload_n 1, 1) := by decide +kernel
theorem dX11_run_67 : decode cX11_run 67 = .ok (.iload 7, 2) := by decide +kernel
theorem dX11_run_69 : decode cX11_run 69 = .ok (.invokevirtual 264, 3) := by decide +kernel
theorem dX11_run_72 : decode cX11_run 72 = .ok (.ifCond .ne 6, 3) := by decide +kernel
theorem dX11_run_75 : decode cX11_run 75 = .ok (.goto 37, 3) := by decide +kernel
theorem dX11_run_78 : decode cX11_run 78 = .ok (.iload 5, 2) := by decide +kernel
theorem dX11_run_80 : decode cX11_run 80 = .ok (.iload_n 3, 1) := by decide +kernel
theorem dX11_run_81 : decode cX11_run 81 = .ok (.if_icmp .ne 28, 3) := by decide +kernel
theorem dX11_run_84 : decode cX11_run 84 = .ok (.iload 4, 2) := by decide +kernel
theorem dX11_run_86 : decode cX11_run 86 = .ok (.ifCond .eq 20, 3) := by decide +kernel
theorem dX11_run_89 : decode cX11_run 89 = .ok (.aload_n 0, 1) := by decide +kernel
theorem dX11_run_90 : decode cX11_run 90 = .ok (.iload_n 1, 1) := by decide +kernel
theorem dX11_run_91 : decode cX11_run 91 = .ok (.iload 7, 2) := by decide +kernel
theorem dX11_run_93 : decode cX11_run 93 = .ok (.invokevirtual 316, 3) := by decide +kernel
theorem dX11_run_96 : decode cX11_run 96 = .ok (.aload_n 0, 1) := by decide +kernel
theorem dX11_run_97 : decode cX11_run 97 = .ok (.getfield 17, 3) := by decide +kernel
theorem dX11_run_100 : decode cX11_run 100 = .ok (.iconst 0, 1) := by decide +kernel
theorem dX11_run_101 : decode cX11_run 101 = .ok (.iaload, 1) := by decide +kernel
theorem dX11_run_102 : decode cX11_run 102 = .ok (.irem, 1) := by decide +kernel
theorem dX11_run_103 : decode cX11_run 103 = .ok (.goto 5, 3) := by decide +kernel
theorem dX11_run_106 : decode cX11_run 106 = .ok (.iload 6, 2) := by decide +kernel
theorem dX11_run_108 : decode cX11_run 108 = .ok (.ireturn, 1) := by decide +kernel
theorem dX11_run_109 : decode cX11_run 109 = .ok (.iinc 5 1, 3) := by decide +kernel
theorem dX11_run_112 : decode cX11_run 112 = .ok (.iinc 6 1, 3) := by decide +kernel
theorem dX11_run_115 : decode cX11_run 115 = .ok (.goto (-74), 3) := by decide +kernel
theorem dX11_run_118 : decode cX11_run 118 = .ok (.iconst (-1), 1) := by decide +kernel
theorem dX11_run_119 : decode cX11_run 119 = .ok (.ireturn, 1) := by decide +kernel
theorem dX11_part_0 : decode cX11_part 0 = .ok (.aload_n 0, 1) := by decide +kernel
theorem dX11_part_1 : decode cX11_part 1 = .ok (.iconst 0, 1) := by decide +kernel
theorem dX11_part_2 : decode cX11_part 2 = .ok (.putfield 106, 3) := by decide +kernel
theorem dX11_part_5 : decode cX11_part 5 = .ok (.aload_n 0, 1) := by decide +kernel
theorem dX11_part_6 : decode cX11_part 6 = .ok (.iload_n 1, 1) := by decide +kernel
theorem dX11_part_7 : decode cX11_part 7 = .ok (.invokevirtual 255, 3) := by decide +kernel
theorem dX11_part_10 : decode cX11_part 10 = .ok (.ifCond .ne 11, 3) := by decide +kernel
theorem dX11_part_13 : decode cX11_part 13 = .ok (.aload_n 0, 1) := by decide +kernel
theorem dX11_part_14 : decode cX11_part 14 = .ok (.iload_n 1, 1) := by decide +kernel
theorem dX11_part_15 : decode cX11_part 15 = .ok (.invokevirtual 261, 3) := by decide +kernel
theorem dX11_part_18 : decode cX11_part 18 = .ok (.ifCond .ne 16, 3) := by decide +kernel
theorem dX11_part_21 : decode cX11_part 21 = .ok (.aload_n 0, 1) := by decide +kernel
theorem dX11_part_22 : decode cX11_part 22 = .ok (.getfield 106, 3) := by decide +kernel
theorem dX11_part_25 : decode cX11_part 25 = .ok (.ifCond .le 7, 3) := by decide +kernel
theorem dX11_part_28 : decode cX11_part 28 = .ok (.iconst 0, 1) := by decide +kernel
theorem dX11_part_29 : decode cX11_part 29 = .ok (.goto 4, 3) := by decide +kernel
theorem dX11_part_32 : decode cX11_part 32 = .ok (.iconst (-1), 1) := by decide +kernel
theorem dX11_part_33 : decode cX11_part 33 = .ok (.ireturn, 1) := by decide +kernel
theorem dX11_part_34 : decode cX11_part 34 = .ok (.aload_n 0, 1) := by decide +kernel
theorem dX11_part_35 : decode cX11_part 35 = .ok (.aload_n 0, 1) := by decide +kernel
theorem dX11_part_36 : decode cX11_part 36 = .ok (.getfield 23, 3) := by decide +kernel
theorem dX11_part_39 : decode cX11_part 39 = .ok (.iload_n 1, 1) := by decide +kernel
theorem dX11_part_40 : decode cX11_part 40 = .ok (.iaload, 1) := by decide +kernel
theorem dX11_part_41 : decode cX11_part 41 = .ok (.invokevirtual 270, 3) := by decide +kernel
theorem dX11_part_44 : decode cX11_part 44 = .ok (.istore_n 2, 1) := by decide +kernel
theorem dX11_part_45 : decode cX11_part 45 = .ok (.aload_n 0, 1) := by decide +kernel
theorem dX11_part_46 : decode cX11_part 46 = .ok (.getfield 85, 3) := by decide +kernel
theorem dX11_part_49 : decode cX11_part 49 = .ok (.iload_n 1, 1) := by decide +kernel
theorem dX11_part_50 : decode cX11_part 50 = .ok (.iaload, 1) := by decide +kernel
theorem dX11_part_51 : decode cX11_part 51 = .ok (.ireturn, 1) := by decide +kernel
theorem dX11_leastFar_0 : decode cX11_leastFar 0 = .ok (.iconst (-1), 1) := by decide +kernel
theorem dX11_leastFar_1 : decode cX11_leastFar 1 = .ok (.istore_n 3, 1) := by decide +kernel
theorem dX11_leastFar_2 : decode cX11_leastFar 2 = .ok (.iconst 0, 1) := by decide +kernel
theorem dX11_leastFar_3 : decode cX11_leastFar 3 = .ok (.istore 4, 2) := by decide +kernel
theorem dX11_leastFar_5 : decode cX11_leastFar 5 = .ok (.iload 4, 2) := by decide +kernel
theorem dX11_leastFar_7 : decode cX11_leastFar 7 = .ok (.aload_n 0, 1) := by decide +kernel
theorem dX11_leastFar_8 : decode cX11_leastFar 8 = .ok (.invokevirtual 229, 3) := by decide +kernel
theorem dX11_leastFar_11 : decode cX11_leastFar 11 = .ok (.if_icmp .ge 65, 3) := by decide +kernel
theorem dX11_leastFar_14 : decode cX11_leastFar 14 = .ok (.iload_n 2, 1) := by decide +kernel
theorem dX11_leastFar_15 : decode cX11_leastFar 15 = .ok (.ifCond .eq 16, 3) := by decide +kernel
theorem dX11_leastFar_18 : decode cX11_leastFar 18 = .ok (.aload_n 0, 1) := by decide +kernel
theorem dX11_leastFar_19 : decode cX11_leastFar 19 = .ok (.getfield 29, 3) := by decide +kernel
theorem dX11_leastFar_22 : decode cX11_leastFar 22 = .ok (.iload 4, 2) := by decide +kernel
theorem dX11_leastFar_24 : decode cX11_leastFar 24 = .ok (.baload, 1) := by decide +kernel
theorem dX11_leastFar_25 : decode cX11_leastFar 25 = .ok (.ifCond .eq 45, 3) := by decide +kernel
theorem dX11_leastFar_28 : decode cX11_leastFar 28 = .ok (.goto 15, 3) := by decide +kernel
theorem dX11_leastFar_31 : decode cX11_leastFar 31 = .ok (.aload_n 0, 1) := by decide +kernel
theorem dX11_leastFar_32 : decode cX11_leastFar 32 = .ok (.iload 4, 2) := by decide +kernel
theorem dX11_leastFar_34 : decode cX11_leastFar 34 = .ok (.invokevirtual 292, 3) := by decide +kernel
theorem dX11_leastFar_37 : decode cX11_leastFar 37 = .ok (.ifCond .ne 6, 3) := by decide +kernel
theorem dX11_leastFar_40 : decode cX11_leastFar 40 = .ok (.goto 30, 3) := by decide +kernel
theorem dX11_leastFar_43 : decode cX11_leastFar 43 = .ok (.aload_n 0, 1) := by decide +kernel
theorem dX11_leastFar_44 : decode cX11_leastFar 44 = .ok (.iload 4, 2) := by decide +kernel
theorem dX11_leastFar_46 : decode cX11_leastFar 46 = .ok (.iload_n 1, 1) := by decide +kernel
theorem dX11_leastFar_47 : decode cX11_leastFar 47 = .ok (.invokevirtual 236, 3) := by decide +kernel
theorem dX11_leastFar_50 : decode cX11_leastFar 50 = .ok (.istore 5, 2) := by decide +kernel
theorem dX11_leastFar_52 : decode cX11_leastFar 52 = .ok (.iload_n 3, 1) := by decide +kernel
theorem dX11_leastFar_53 : decode cX11_leastFar 53 = .ok (.iconst (-1), 1) := by decide +kernel
theorem dX11_leastFar_54 : decode cX11_leastFar 54 = .ok (.if_icmp .eq 9, 3) := by decide +kernel
theorem dX11_leastFar_57 : decode cX11_leastFar 57 = .ok (.iload 5, 2) := by decide +kernel
theorem dX11_leastFar_59 : decode cX11_leastFar 59 = .ok (.iload_n 3, 1) := by decide +kernel
theorem dX11_leastFar_60 : decode cX11_leastFar 60 = .ok (.if_icmp .ge 8, 3) := by decide +kernel
theorem dX11_leastFar_63 : decode cX11_leastFar 63 = .ok (.iload 5, 2) := by decide +kernel
theorem dX11_leastFar_65 : decode cX11_leastFar 65 = .ok (.goto 4, 3) := by decide +kernel
theorem dX11_leastFar_68 : decode cX11_leastFar 68 = .ok (.iload_n 3, 1) := by decide +kernel
theorem dX11_leastFar_69 : decode cX11_leastFar 69 = .ok (.istore_n 3, 1) := by decide +kernel
theorem dX11_leastFar_70 : decode cX11_leastFar 70 = .ok (.iinc 4 1, 3) := by decide +kernel
theorem dX11_leastFar_73 : decode cX11_leastFar 73 = .ok (.goto (-68), 3) := by decide +kernel
theorem dX11_leastFar_76 : decode cX11_leastFar 76 = .ok (.iload_n 3, 1) := by decide +kernel
theorem dX11_leastFar_77 : decode cX11_leastFar 77 = .ok (.ireturn, 1) := by decide +kernel
theorem dX11_measureOf_0 : decode cX11_measureOf 0 = .ok (.iconst 0, 1) := by decide +kernel
theorem dX11_measureOf_1 : decode cX11_measureOf 1 = .ok (.istore 4, 2) := by decide +kernel
theorem dX11_measureOf_3 : decode cX11_measureOf 3 = .ok (.iload_n 2, 1) := by decide +kernel
theorem dX11_measureOf_4 : decode cX11_measureOf 4 = .ok (.tableswitch 101 0 3 #[32, 39, 87, 94], 32) := by decide +kernel
theorem dX11_measureOf_36 : decode cX11_measureOf 36 = .ok (.aload_n 0, 1) := by decide +kernel
theorem dX11_measureOf_37 : decode cX11_measureOf 37 = .ok (.iload_n 1, 1) := by decide +kernel
theorem dX11_measureOf_38 : decode cX11_measureOf 38 = .ok (.iconst (-1), 1) := by decide +kernel
theorem dX11_measureOf_39 : decode cX11_measureOf 39 = .ok (.invokevirtual 252, 3) := by decide +kernel
theorem dX11_measureOf_42 : decode cX11_measureOf 42 = .ok (.ireturn, 1) := by decide +kernel
theorem dX11_measureOf_43 : decode cX11_measureOf 43 = .ok (.iconst 0, 1) := by decide +kernel
theorem dX11_measureOf_44 : decode cX11_measureOf 44 = .ok (.istore 5, 2) := by decide +kernel
theorem dX11_measureOf_46 : decode cX11_measureOf 46 = .ok (.iload 5, 2) := by decide +kernel
theorem dX11_measureOf_48 : decode cX11_measureOf 48 = .ok (.aload_n 0, 1) := by decide +kernel
theorem dX11_measureOf_49 : decode cX11_measureOf 49 = .ok (.invokevirtual 229, 3) := by decide +kernel
theorem dX11_measureOf_52 : decode cX11_measureOf 52 = .ok (.if_icmp .ge 36, 3) := by decide +kernel
theorem dX11_measureOf_55 : decode cX11_measureOf 55 = .ok (.iload 4, 2) := by decide +kernel
theorem dX11_measureOf_57 : decode cX11_measureOf 57 = .ok (.aload_n 0, 1) := by decide +kernel
theorem dX11_measureOf_58 : decode cX11_measureOf 58 = .ok (.iload 5, 2) := by decide +kernel
theorem dX11_measureOf_60 : decode cX11_measureOf 60 = .ok (.iload_n 1, 1) := by decide +kernel
theorem dX11_measureOf_61 : decode cX11_measureOf 61 = .ok (.invokevirtual 236, 3) := by decide +kernel
theorem dX11_measureOf_64 : decode cX11_measureOf 64 = .ok (.iload_n 3, 1) := by decide +kernel
theorem dX11_measureOf_65 : decode cX11_measureOf 65 = .ok (.if_icmp .gt 13, 3) := by decide +kernel
theorem dX11_measureOf_68 : decode cX11_measureOf 68 = .ok (.aload_n 0, 1) := by decide +kernel
theorem dX11_measureOf_69 : decode cX11_measureOf 69 = .ok (.iload 5, 2) := by decide +kernel
theorem dX11_measureOf_71 : decode cX11_measureOf 71 = .ok (.iconst (-1), 1) := by decide +kernel
theorem dX11_measureOf_72 : decode cX11_measureOf 72 = .ok (.invokevirtual 252, 3) := by decide +kernel
theorem dX11_measureOf_75 : decode cX11_measureOf 75 = .ok (.goto 4, 3) := by decide +kernel
theorem dX11_measureOf_78 : decode cX11_measureOf 78 = .ok (.iconst 0, 1) := by decide +kernel
theorem dX11_measureOf_79 : decode cX11_measureOf 79 = .ok (.iadd, 1) := by decide +kernel
theorem dX11_measureOf_80 : decode cX11_measureOf 80 = .ok (.istore 4, 2) := by decide +kernel
theorem dX11_measureOf_82 : decode cX11_measureOf 82 = .ok (.iinc 5 1, 3) := by decide +kernel
theorem dX11_measureOf_85 : decode cX11_measureOf 85 = .ok (.goto (-39), 3) := by decide +kernel
theorem dX11_measureOf_88 : decode cX11_measureOf 88 = .ok (.iload 4, 2) := by decide +kernel
theorem dX11_measureOf_90 : decode cX11_measureOf 90 = .ok (.ireturn, 1) := by decide +kernel
theorem dX11_measureOf_91 : decode cX11_measureOf 91 = .ok (.aload_n 0, 1) := by decide +kernel
theorem dX11_measureOf_92 : decode cX11_measureOf 92 = .ok (.iload_n 1, 1) := by decide +kernel
theorem dX11_measureOf_93 : decode cX11_measureOf 93 = .ok (.iconst 0, 1) := by decide +kernel
theorem dX11_measureOf_94 : decode cX11_measureOf 94 = .ok (.invokevirtual 319, 3) := by decide +kernel
theorem dX11_measureOf_97 : decode cX11_measureOf 97 = .ok (.ireturn, 1) := by decide +kernel
theorem dX11_measureOf_98 : decode cX11_measureOf 98 = .ok (.aload_n 0, 1) := by decide +kernel
theorem dX11_measureOf_99 : decode cX11_measureOf 99 = .ok (.iload_n 1, 1) := by decide +kernel
theorem dX11_measureOf_100 : decode cX11_measureOf 100 = .ok (.iconst 1, 1) := by decide +kernel
theorem dX11_measureOf_101 : decode cX11_measureOf 101 = .ok (.invokevirtual 319, 3) := by decide +kernel
theorem dX11_measureOf_104 : decode cX11_measureOf 104 = .ok (.ireturn, 1) := by decide +kernel
theorem dX11_measureOf_105 : decode cX11_measureOf 105 = .ok (.iconst 0, 1) := by decide +kernel
theorem dX11_measureOf_106 : decode cX11_measureOf 106 = .ok (.istore 5, 2) := by decide +kernel
theorem dX11_measureOf_108 : decode cX11_measureOf 108 = .ok (.iload 5, 2) := by decide +kernel
theorem dX11_measureOf_110 : decode cX11_measureOf 110 = .ok (.aload_n 0, 1) := by decide +kernel
theorem dX11_measureOf_111 : decode cX11_measureOf 111 = .ok (.invokevirtual 229, 3) := by decide +kernel
theorem dX11_measureOf_114 : decode cX11_measureOf 114 = .ok (.if_icmp .ge 68, 3) := by decide +kernel
theorem dX11_measureOf_117 : decode cX11_measureOf 117 = .ok (.iload 4, 2) := by decide +kernel
theorem dX11_measureOf_119 : decode cX11_measureOf 119 = .ok (.aload_n 0, 1) := by decide +kernel
theorem dX11_measureOf_120 : decode cX11_measureOf 120 = .ok (.iload 5, 2) := by decide +kernel
theorem dX11_measureOf_122 : decode cX11_measureOf 122 = .ok (.invokevirtual 292, 3) := by decide +kernel
theorem dX11_measureOf_125 : decode cX11_measureOf 125 = .ok (.ifCond .eq 47, 3) := by decide +kernel
theorem dX11_measureOf_128 : decode cX11_measureOf 128 = .ok (.iload 5, 2) := by decide +kernel
theorem dX11_measureOf_130 : decode cX11_measureOf 130 = .ok (.aload_n 0, 1) := by decide +kernel
theorem dX11_measureOf_131 : decode cX11_measureOf 131 = .ok (.getfield 17, 3) := by decide +kernel
theorem dX11_measureOf_134 : decode cX11_measureOf 134 = .ok (.iconst 0, 1) := by decide +kernel
theorem dX11_measureOf_135 : decode cX11_measureOf 135 = .ok (.iaload, 1) := by decide +kernel
theorem dX11_measureOf_136 : decode cX11_measureOf 136 = .ok (.idiv, 1) := by decide +kernel
theorem dX11_measureOf_137 : decode cX11_measureOf 137 = .ok (.iload_n 1, 1) := by decide +kernel
theorem dX11_measureOf_138 : decode cX11_measureOf 138 = .ok (.aload_n 0, 1) := by decide +kernel
theorem dX11_measureOf_139 : decode cX11_measureOf 139 = .ok (.getfield 17, 3) := by decide +kernel
theorem dX11_measureOf_142 : decode cX11_measureOf 142 = .ok (.iconst 0, 1) := by decide +kernel
theorem dX11_measureOf_143 : decode cX11_measureOf 143 = .ok (.iaload, 1) := by decide +kernel
theorem dX11_measureOf_144 : decode cX11_measureOf 144 = .ok (.idiv, 1) := by decide +kernel
theorem dX11_measureOf_145 : decode cX11_measureOf 145 = .ok (.if_icmp .eq 23, 3) := by decide +kernel
theorem dX11_measureOf_148 : decode cX11_measureOf 148 = .ok (.iload 5, 2) := by decide +kernel
theorem dX11_measureOf_150 : decode cX11_measureOf 150 = .ok (.aload_n 0, 1) := by decide +kernel
theorem dX11_measureOf_151 : decode cX11_measureOf 151 = .ok (.getfield 17, 3) := by decide +kernel
theorem dX11_measureOf_154 : decode cX11_measureOf 154 = .ok (.iconst 0, 1) := by decide +kernel
theorem dX11_measureOf_155 : decode cX11_measureOf 155 = .ok (.iaload, 1) := by decide +kernel
theorem dX11_measureOf_156 : decode cX11_measureOf 156 = .ok (.irem, 1) := by decide +kernel
theorem dX11_measureOf_157 : decode cX11_measureOf 157 = .ok (.iload_n 1, 1) := by decide +kernel
theorem dX11_measureOf_158 : decode cX11_measureOf 158 = .ok (.aload_n 0, 1) := by decide +kernel
theorem dX11_measureOf_159 : decode cX11_measureOf 159 = .ok (.getfield 17, 3) := by decide +kernel
theorem dX11_measureOf_162 : decode cX11_measureOf 162 = .ok (.iconst 0, 1) := by decide +kernel
theorem dX11_measureOf_163 : decode cX11_measureOf 163 = .ok (.iaload, 1) := by decide +kernel
theorem dX11_measureOf_164 : decode cX11_measureOf 164 = .ok (.irem, 1) := by decide +kernel
theorem dX11_measureOf_165 : decode cX11_measureOf 165 = .ok (.if_icmp .ne 7, 3) := by decide +kernel
theorem dX11_measureOf_168 : decode cX11_measureOf 168 = .ok (.iconst 1, 1) := by decide +kernel
theorem dX11_measureOf_169 : decode cX11_measureOf 169 = .ok (.goto 4, 3) := by decide +kernel
theorem dX11_measureOf_172 : decode cX11_measureOf 172 = .ok (.iconst 0, 1) := by decide +kernel
theorem dX11_measureOf_173 : decode cX11_measureOf 173 = .ok (.iadd, 1) := by decide +kernel
theorem dX11_measureOf_174 : decode cX11_measureOf 174 = .ok (.istore 4, 2) := by decide +kernel
theorem dX11_measureOf_176 : decode cX11_measureOf 176 = .ok (.iinc 5 1, 3) := by decide +kernel
theorem dX11_measureOf_179 : decode cX11_measureOf 179 = .ok (.goto (-71), 3) := by decide +kernel
theorem dX11_measureOf_182 : decode cX11_measureOf 182 = .ok (.iload 4, 2) := by decide +kernel
theorem dX11_measureOf_184 : decode cX11_measureOf 184 = .ok (.ireturn, 1) := by decide +kernel
theorem dX11_noMeasure_0 : decode cX11_noMeasure 0 = .ok (.aload_n 0, 1) := by decide +kernel
theorem dX11_noMeasure_1 : decode cX11_noMeasure 1 = .ok (.iload_n 1, 1) := by decide +kernel
theorem dX11_noMeasure_2 : decode cX11_noMeasure 2 = .ok (.iconst 0, 1) := by decide +kernel
theorem dX11_noMeasure_3 : decode cX11_noMeasure 3 = .ok (.iconst 4, 1) := by decide +kernel
theorem dX11_noMeasure_4 : decode cX11_noMeasure 4 = .ok (.invokestatic 169, 3) := by decide +kernel
theorem dX11_noMeasure_7 : decode cX11_noMeasure 7 = .ok (.ifCond .ne 7, 3) := by decide +kernel
theorem dX11_noMeasure_10 : decode cX11_noMeasure 10 = .ok (.iconst 1, 1) := by decide +kernel
theorem dX11_noMeasure_11 : decode cX11_noMeasure 11 = .ok (.goto 4, 3) := by decide +kernel
theorem dX11_noMeasure_14 : decode cX11_noMeasure 14 = .ok (.iconst 0, 1) := by decide +kernel
theorem dX11_noMeasure_15 : decode cX11_noMeasure 15 = .ok (.iconst 2, 1) := by decide +kernel
theorem dX11_noMeasure_16 : decode cX11_noMeasure 16 = .ok (.invokevirtual 215, 3) := by decide +kernel
theorem dX11_noMeasure_19 : decode cX11_noMeasure 19 = .ok (.ifCond .ne 27, 3) := by decide +kernel
theorem dX11_noMeasure_22 : decode cX11_noMeasure 22 = .ok (.aload_n 0, 1) := by decide +kernel
theorem dX11_noMeasure_23 : decode cX11_noMeasure 23 = .ok (.iload_n 2, 1) := by decide +kernel
theorem dX11_noMeasure_24 : decode cX11_noMeasure 24 = .ok (.iconst 0, 1) := by decide +kernel
theorem dX11_noMeasure_25 : decode cX11_noMeasure 25 = .ok (.sipush 999, 3) := by decide +kernel
theorem dX11_noMeasure_28 : decode cX11_noMeasure 28 = .ok (.invokestatic 169, 3) := by decide +kernel
theorem dX11_noMeasure_31 : decode cX11_noMeasure 31 = .ok (.ifCond .ne 7, 3) := by decide +kernel
theorem dX11_noMeasure_34 : decode cX11_noMeasure 34 = .ok (.iconst 1, 1) := by decide +kernel
theorem dX11_noMeasure_35 : decode cX11_noMeasure 35 = .ok (.goto 4, 3) := by decide +kernel
theorem dX11_noMeasure_38 : decode cX11_noMeasure 38 = .ok (.iconst 0, 1) := by decide +kernel
theorem dX11_noMeasure_39 : decode cX11_noMeasure 39 = .ok (.iconst 3, 1) := by decide +kernel
theorem dX11_noMeasure_40 : decode cX11_noMeasure 40 = .ok (.invokevirtual 215, 3) := by decide +kernel
theorem dX11_noMeasure_43 : decode cX11_noMeasure 43 = .ok (.ifCond .eq 7, 3) := by decide +kernel
theorem dX11_noMeasure_46 : decode cX11_noMeasure 46 = .ok (.iconst 1, 1) := by decide +kernel
theorem dX11_noMeasure_47 : decode cX11_noMeasure 47 = .ok (.goto 4, 3) := by decide +kernel
theorem dX11_noMeasure_50 : decode cX11_noMeasure 50 = .ok (.iconst 0, 1) := by decide +kernel
theorem dX11_noMeasure_51 : decode cX11_noMeasure 51 = .ok (.ireturn, 1) := by decide +kernel
theorem dX11_measure_0 : decode cX11_measure 0 = .ok (.aload_n 0, 1) := by decide +kernel
theorem dX11_measure_1 : decode cX11_measure 1 = .ok (.iconst 0, 1) := by decide +kernel
theorem dX11_measure_2 : decode cX11_measure 2 = .ok (.putfield 106, 3) := by decide +kernel
theorem dX11_measure_5 : decode cX11_measure 5 = .ok (.aload_n 0, 1) := by decide +kernel
theorem dX11_measure_6 : decode cX11_measure 6 = .ok (.iload_n 1, 1) := by decide +kernel
theorem dX11_measure_7 : decode cX11_measure 7 = .ok (.invokevirtual 255, 3) := by decide +kernel
theorem dX11_measure_10 : decode cX11_measure 10 = .ok (.ifCond .ne 21, 3) := by decide +kernel
theorem dX11_measure_13 : decode cX11_measure 13 = .ok (.aload_n 0, 1) := by decide +kernel
theorem dX11_measure_14 : decode cX11_measure 14 = .ok (.iload_n 3, 1) := by decide +kernel
theorem dX11_measure_15 : decode cX11_measure 15 = .ok (.invokevirtual 283, 3) := by decide +kernel
theorem dX11_measure_18 : decode cX11_measure 18 = .ok (.ifCond .ne 13, 3) := by decide +kernel
theorem dX11_measure_21 : decode cX11_measure 21 = .ok (.aload_n 0, 1) := by decide +kernel
theorem dX11_measure_22 : decode cX11_measure 22 = .ok (.iload_n 2, 1) := by decide +kernel
theorem dX11_measure_23 : decode cX11_measure 23 = .ok (.iload 4, 2) := by decide +kernel
theorem dX11_measure_25 : decode cX11_measure 25 = .ok (.invokevirtual 322, 3) := by decide +kernel
theorem dX11_measure_28 : decode cX11_measure 28 = .ok (.ifCond .eq 5, 3) := by decide +kernel
theorem dX11_measure_31 : decode cX11_measure 31 = .ok (.iconst 0, 1) := by decide +kernel
theorem dX11_measure_32 : decode cX11_measure 32 = .ok (.ireturn, 1) := by decide +kernel
theorem dX11_measure_33 : decode cX11_measure 33 = .ok (.aload_n 0, 1) := by decide +kernel
theorem dX11_measure_34 : decode cX11_measure 34 = .ok (.iload_n 3, 1) := by decide +kernel
theorem dX11_measure_35 : decode cX11_measure 35 = .ok (.invokevirtual 289, 3) := by decide +kernel
theorem dX11_measure_38 : decode cX11_measure 38 = .ok (.aload_n 0, 1) := by decide +kernel
theorem dX11_measure_39 : decode cX11_measure 39 = .ok (.iload_n 1, 1) := by decide +kernel
theorem dX11_measure_40 : decode cX11_measure 40 = .ok (.iload_n 2, 1) := by decide +kernel
theorem dX11_measure_41 : decode cX11_measure 41 = .ok (.iload 4, 2) := by decide +kernel
theorem dX11_measure_43 : decode cX11_measure 43 = .ok (.invokevirtual 325, 3) := by decide +kernel
theorem dX11_measure_46 : decode cX11_measure 46 = .ok (.ireturn, 1) := by decide +kernel
theorem dX11_best_0 : decode cX11_best 0 = .ok (.aload_n 0, 1) := by decide +kernel
theorem dX11_best_1 : decode cX11_best 1 = .ok (.iconst 0, 1) := by decide +kernel
theorem dX11_best_2 : decode cX11_best 2 = .ok (.putfield 106, 3) := by decide +kernel
theorem dX11_best_5 : decode cX11_best 5 = .ok (.aload_n 0, 1) := by decide +kernel
theorem dX11_best_6 : decode cX11_best 6 = .ok (.iload_n 2, 1) := by decide +kernel
theorem dX11_best_7 : decode cX11_best 7 = .ok (.invokevirtual 283, 3) := by decide +kernel
theorem dX11_best_10 : decode cX11_best 10 = .ok (.ifCond .ne 12, 3) := by decide +kernel
theorem dX11_best_13 : decode cX11_best 13 = .ok (.aload_n 0, 1) := by decide +kernel
theorem dX11_best_14 : decode cX11_best 14 = .ok (.iload_n 1, 1) := by decide +kernel
theorem dX11_best_15 : decode cX11_best 15 = .ok (.iload_n 3, 1) := by decide +kernel
theorem dX11_best_16 : decode cX11_best 16 = .ok (.invokevirtual 322, 3) := by decide +kernel
theorem dX11_best_19 : decode cX11_best 19 = .ok (.ifCond .eq 5, 3) := by decide +kernel
theorem dX11_best_22 : decode cX11_best 22 = .ok (.iconst 0, 1) := by decide +kernel
theorem dX11_best_23 : decode cX11_best 23 = .ok (.ireturn, 1) := by decide +kernel
theorem dX11_best_24 : decode cX11_best 24 = .ok (.aload_n 0, 1) := by decide +kernel
theorem dX11_best_25 : decode cX11_best 25 = .ok (.iload_n 2, 1) := by decide +kernel
theorem dX11_best_26 : decode cX11_best 26 = .ok (.invokevirtual 289, 3) := by decide +kernel
theorem dX11_best_29 : decode cX11_best 29 = .ok (.iconst (-1), 1) := by decide +kernel
theorem dX11_best_30 : decode cX11_best 30 = .ok (.istore 4, 2) := by decide +kernel
theorem dX11_best_32 : decode cX11_best 32 = .ok (.iconst 0, 1) := by decide +kernel
theorem dX11_best_33 : decode cX11_best 33 = .ok (.istore 5, 2) := by decide +kernel
theorem dX11_best_35 : decode cX11_best 35 = .ok (.iconst 0, 1) := by decide +kernel
theorem dX11_best_36 : decode cX11_best 36 = .ok (.istore 6, 2) := by decide +kernel
theorem dX11_best_38 : decode cX11_best 38 = .ok (.iload 6, 2) := by decide +kernel
theorem dX11_best_40 : decode cX11_best 40 = .ok (.aload_n 0, 1) := by decide +kernel
theorem dX11_best_41 : decode cX11_best 41 = .ok (.invokevirtual 229, 3) := by decide +kernel
theorem dX11_best_44 : decode cX11_best 44 = .ok (.if_icmp .ge 55, 3) := by decide +kernel
theorem dX11_best_47 : decode cX11_best 47 = .ok (.aload_n 0, 1) := by decide +kernel
theorem dX11_best_48 : decode cX11_best 48 = .ok (.iload 6, 2) := by decide +kernel
theorem dX11_best_50 : decode cX11_best 50 = .ok (.invokevirtual 261, 3) := by decide +kernel
theorem dX11_best_53 : decode cX11_best 53 = .ok (.ifCond .ne 6, 3) := by decide +kernel
theorem dX11_best_56 : decode cX11_best 56 = .ok (.goto 37, 3) := by decide +kernel
theorem dX11_best_59 : decode cX11_best 59 = .ok (.aload_n 0, 1) := by decide +kernel
theorem dX11_best_60 : decode cX11_best 60 = .ok (.iload 6, 2) := by decide +kernel
theorem dX11_best_62 : decode cX11_best 62 = .ok (.iload_n 1, 1) := by decide +kernel
theorem dX11_best_63 : decode cX11_best 63 = .ok (.iload_n 3, 1) := by decide +kernel
theorem dX11_best_64 : decode cX11_best 64 = .ok (.invokevirtual 325, 3) := by decide +kernel
theorem dX11_best_67 : decode cX11_best 67 = .ok (.istore 7, 2) := by decide +kernel
theorem dX11_best_69 : decode cX11_best 69 = .ok (.iload 4, 2) := by decide +kernel
theorem dX11_best_71 : decode cX11_best 71 = .ok (.iconst (-1), 1) := by decide +kernel
theorem dX11_best_72 : decode cX11_best 72 = .ok (.if_icmp .eq 13, 3) := by decide +kernel
theorem dX11_best_75 : decode cX11_best 75 = .ok (.iload 7, 2) := by decide +kernel
theorem dX11_best_77 : decode cX11_best 77 = .ok (.iload 5, 2) := by decide +kernel
theorem dX11_best_79 : decode cX11_best 79 = .ok (.if_icmp .gt 6, 3) := by decide +kernel
theorem dX11_best_82 : decode cX11_best 82 = .ok (.goto 11, 3) := by decide +kernel
theorem dX11_best_85 : decode cX11_best 85 = .ok (.iload 6, 2) := by decide +kernel
theorem dX11_best_87 : decode cX11_best 87 = .ok (.istore 4, 2) := by decide +kernel
theorem dX11_best_89 : decode cX11_best 89 = .ok (.iload 7, 2) := by decide +kernel
theorem dX11_best_91 : decode cX11_best 91 = .ok (.istore 5, 2) := by decide +kernel
theorem dX11_best_93 : decode cX11_best 93 = .ok (.iinc 6 1, 3) := by decide +kernel
theorem dX11_best_96 : decode cX11_best 96 = .ok (.goto (-58), 3) := by decide +kernel
theorem dX11_best_99 : decode cX11_best 99 = .ok (.iload 4, 2) := by decide +kernel
theorem dX11_best_101 : decode cX11_best 101 = .ok (.ireturn, 1) := by decide +kernel
theorem dX11_nearestTo_0 : decode cX11_nearestTo 0 = .ok (.iconst (-1), 1) := by decide +kernel
theorem dX11_nearestTo_1 : decode cX11_nearestTo 1 = .ok (.istore_n 2, 1) := by decide +kernel
theorem dX11_nearestTo_2 : decode cX11_nearestTo 2 = .ok (.iconst 0, 1) := by decide +kernel
theorem dX11_nearestTo_3 : decode cX11_nearestTo 3 = .ok (.istore_n 3, 1) := by decide +kernel
theorem dX11_nearestTo_4 : decode cX11_nearestTo 4 = .ok (.iload_n 3, 1) := by decide +kernel
theorem dX11_nearestTo_5 : decode cX11_nearestTo 5 = .ok (.aload_n 0, 1) := by decide +kernel
theorem dX11_nearestTo_6 : decode cX11_nearestTo 6 = .ok (.invokevirtual 229, 3) := by decide +kernel
theorem dX11_nearestTo_9 : decode cX11_nearestTo 9 = .ok (.if_icmp .ge 39, 3) := by decide +kernel
theorem dX11_nearestTo_12 : decode cX11_nearestTo 12 = .ok (.aload_n 0, 1) := by decide +kernel
theorem dX11_nearestTo_13 : decode cX11_nearestTo 13 = .ok (.iload_n 3, 1) := by decide +kernel
theorem dX11_nearestTo_14 : decode cX11_nearestTo 14 = .ok (.invokevirtual 292, 3) := by decide +kernel
theorem dX11_nearestTo_17 : decode cX11_nearestTo 17 = .ok (.ifCond .eq 25, 3) := by decide +kernel
theorem dX11_nearestTo_20 : decode cX11_nearestTo 20 = .ok (.iload_n 2, 1) := by decide +kernel
theorem dX11_nearestTo_21 : decode cX11_nearestTo 21 = .ok (.iconst (-1), 1) := by decide +kernel
theorem dX11_nearestTo_22 : decode cX11_nearestTo 22 = .ok (.if_icmp .eq 18, 3) := by decide +kernel
theorem dX11_nearestTo_25 : decode cX11_nearestTo 25 = .ok (.aload_n 0, 1) := by decide +kernel
theorem dX11_nearestTo_26 : decode cX11_nearestTo 26 = .ok (.iload_n 3, 1) := by decide +kernel
theorem dX11_nearestTo_27 : decode cX11_nearestTo 27 = .ok (.iload_n 1, 1) := by decide +kernel
theorem dX11_nearestTo_28 : decode cX11_nearestTo 28 = .ok (.invokevirtual 236, 3) := by decide +kernel
theorem dX11_nearestTo_31 : decode cX11_nearestTo 31 = .ok (.aload_n 0, 1) := by decide +kernel
theorem dX11_nearestTo_32 : decode cX11_nearestTo 32 = .ok (.iload_n 2, 1) := by decide +kernel
theorem dX11_nearestTo_33 : decode cX11_nearestTo 33 = .ok (.iload_n 1, 1) := by decide +kernel
theorem dX11_nearestTo_34 : decode cX11_nearestTo 34 = .ok (.invokevirtual 236, 3) := by decide +kernel
theorem dX11_nearestTo_37 : decode cX11_nearestTo 37 = .ok (.if_icmp .ge 5, 3) := by decide +kernel
theorem dX11_nearestTo_40 : decode cX11_nearestTo 40 = .ok (.iload_n 3, 1) := by decide +kernel
theorem dX11_nearestTo_41 : decode cX11_nearestTo 41 = .ok (.istore_n 2, 1) := by decide +kernel
theorem dX11_nearestTo_42 : decode cX11_nearestTo 42 = .ok (.iinc 3 1, 3) := by decide +kernel
theorem dX11_nearestTo_45 : decode cX11_nearestTo 45 = .ok (.goto (-41), 3) := by decide +kernel
theorem dX11_nearestTo_48 : decode cX11_nearestTo 48 = .ok (.iload_n 2, 1) := by decide +kernel
theorem dX11_nearestTo_49 : decode cX11_nearestTo 49 = .ok (.ireturn, 1) := by decide +kernel
theorem dX11_nearest_0 : decode cX11_nearest 0 = .ok (.aload_n 0, 1) := by decide +kernel
theorem dX11_nearest_1 : decode cX11_nearest 1 = .ok (.iconst 0, 1) := by decide +kernel
theorem dX11_nearest_2 : decode cX11_nearest 2 = .ok (.putfield 106, 3) := by decide +kernel
theorem dX11_nearest_5 : decode cX11_nearest 5 = .ok (.aload_n 0, 1) := by decide +kernel
theorem dX11_nearest_6 : decode cX11_nearest 6 = .ok (.iload_n 1, 1) := by decide +kernel
theorem dX11_nearest_7 : decode cX11_nearest 7 = .ok (.invokevirtual 255, 3) := by decide +kernel
theorem dX11_nearest_10 : decode cX11_nearest 10 = .ok (.ifCond .ne 11, 3) := by decide +kernel
theorem dX11_nearest_13 : decode cX11_nearest 13 = .ok (.aload_n 0, 1) := by decide +kernel
theorem dX11_nearest_14 : decode cX11_nearest 14 = .ok (.iload_n 2, 1) := by decide +kernel
theorem dX11_nearest_15 : decode cX11_nearest 15 = .ok (.invokevirtual 283, 3) := by decide +kernel
theorem dX11_nearest_18 : decode cX11_nearest 18 = .ok (.ifCond .eq 5, 3) := by decide +kernel
theorem dX11_nearest_21 : decode cX11_nearest 21 = .ok (.iconst 0, 1) := by decide +kernel
theorem dX11_nearest_22 : decode cX11_nearest 22 = .ok (.ireturn, 1) := by decide +kernel
theorem dX11_nearest_23 : decode cX11_nearest 23 = .ok (.aload_n 0, 1) := by decide +kernel
theorem dX11_nearest_24 : decode cX11_nearest 24 = .ok (.iload_n 2, 1) := by decide +kernel
theorem dX11_nearest_25 : decode cX11_nearest 25 = .ok (.invokevirtual 289, 3) := by decide +kernel
theorem dX11_nearest_28 : decode cX11_nearest 28 = .ok (.aload_n 0, 1) := by decide +kernel
theorem dX11_nearest_29 : decode cX11_nearest 29 = .ok (.iload_n 1, 1) := by decide +kernel
theorem dX11_nearest_30 : decode cX11_nearest 30 = .ok (.invokevirtual 328, 3) := by decide +kernel
theorem dX11_nearest_33 : decode cX11_nearest 33 = .ok (.ireturn, 1) := by decide +kernel
theorem dX11_served_0 : decode cX11_served 0 = .ok (.aload_n 0, 1) := by decide +kernel
theorem dX11_served_1 : decode cX11_served 1 = .ok (.iconst 0, 1) := by decide +kernel
theorem dX11_served_2 : decode cX11_served 2 = .ok (.putfield 106, 3) := by decide +kernel
theorem dX11_served_5 : decode cX11_served 5 = .ok (.aload_n 0, 1) := by decide +kernel
theorem dX11_served_6 : decode cX11_served 6 = .ok (.iload_n 1, 1) := by decide +kernel
theorem dX11_served_7 : decode cX11_served 7 = .ok (.invokevirtual 255, 3) := by decide +kernel
theorem dX11_served_10 : decode cX11_served 10 = .ok (.ifCond .ne 11, 3) := by decide +kernel
theorem dX11_served_13 : decode cX11_served 13 = .ok (.aload_n 0, 1) := by decide +kernel
theorem dX11_served_14 : decode cX11_served 14 = .ok (.iload_n 2, 1) := by decide +kernel
theorem dX11_served_15 : decode cX11_served 15 = .ok (.invokevirtual 283, 3) := by decide +kernel
theorem dX11_served_18 : decode cX11_served 18 = .ok (.ifCond .eq 5, 3) := by decide +kernel
theorem dX11_served_21 : decode cX11_served 21 = .ok (.iconst 0, 1) := by decide +kernel
theorem dX11_served_22 : decode cX11_served 22 = .ok (.ireturn, 1) := by decide +kernel
theorem dX11_served_23 : decode cX11_served 23 = .ok (.aload_n 0, 1) := by decide +kernel
theorem dX11_served_24 : decode cX11_served 24 = .ok (.iload_n 2, 1) := by decide +kernel
theorem dX11_served_25 : decode cX11_served 25 = .ok (.invokevirtual 289, 3) := by decide +kernel
theorem dX11_served_28 : decode cX11_served 28 = .ok (.iconst 0, 1) := by decide +kernel
theorem dX11_served_29 : decode cX11_served 29 = .ok (.istore_n 3, 1) := by decide +kernel
theorem dX11_served_30 : decode cX11_served 30 = .ok (.iconst 0, 1) := by decide +kernel
theorem dX11_served_31 : decode cX11_served 31 = .ok (.istore 4, 2) := by decide +kernel
theorem dX11_served_33 : decode cX11_served 33 = .ok (.iload 4, 2) := by decide +kernel
theorem dX11_served_35 : decode cX11_served 35 = .ok (.aload_n 0, 1) := by decide +kernel
theorem dX11_served_36 : decode cX11_served 36 = .ok (.invokevirtual 229, 3) := by decide +kernel
theorem dX11_served_39 : decode cX11_served 39 = .ok (.if_icmp .ge 44, 3) := by decide +kernel
theorem dX11_served_42 : decode cX11_served 42 = .ok (.aload_n 0, 1) := by decide +kernel
theorem dX11_served_43 : decode cX11_served 43 = .ok (.iload_n 1, 1) := by decide +kernel
theorem dX11_served_44 : decode cX11_served 44 = .ok (.invokevirtual 292, 3) := by decide +kernel
theorem dX11_served_47 : decode cX11_served 47 = .ok (.ifCond .eq 36, 3) := by decide +kernel
theorem dX11_served_50 : decode cX11_served 50 = .ok (.iload_n 3, 1) := by decide +kernel
theorem dX11_served_51 : decode cX11_served 51 = .ok (.aload_n 0, 1) := by decide +kernel
theorem dX11_served_52 : decode cX11_served 52 = .ok (.iload 4, 2) := by decide +kernel
theorem dX11_served_54 : decode cX11_served 54 = .ok (.invokevirtual 261, 3) := by decide +kernel
theorem dX11_served_57 : decode cX11_served 57 = .ok (.ifCond .eq 17, 3) := by decide +kernel
theorem dX11_served_60 : decode cX11_served 60 = .ok (.aload_n 0, 1) := by decide +kernel
theorem dX11_served_61 : decode cX11_served 61 = .ok (.iload 4, 2) := by decide +kernel
theorem dX11_served_63 : decode cX11_served 63 = .ok (.invokevirtual 328, 3) := by decide +kernel
theorem dX11_served_66 : decode cX11_served 66 = .ok (.iload_n 1, 1) := by decide +kernel
theorem dX11_served_67 : decode cX11_served 67 = .ok (.if_icmp .ne 7, 3) := by decide +kernel
theorem dX11_served_70 : decode cX11_served 70 = .ok (.iconst 1, 1) := by decide +kernel
theorem dX11_served_71 : decode cX11_served 71 = .ok (.goto 4, 3) := by decide +kernel
theorem dX11_served_74 : decode cX11_served 74 = .ok (.iconst 0, 1) := by decide +kernel
theorem dX11_served_75 : decode cX11_served 75 = .ok (.iadd, 1) := by decide +kernel
theorem dX11_served_76 : decode cX11_served 76 = .ok (.istore_n 3, 1) := by decide +kernel
theorem dX11_served_77 : decode cX11_served 77 = .ok (.iinc 4 1, 3) := by decide +kernel
theorem dX11_served_80 : decode cX11_served 80 = .ok (.goto (-47), 3) := by decide +kernel
theorem dX11_served_83 : decode cX11_served 83 = .ok (.iload_n 3, 1) := by decide +kernel
theorem dX11_served_84 : decode cX11_served 84 = .ok (.ireturn, 1) := by decide +kernel
theorem dX11_fits_0 : decode cX11_fits 0 = .ok (.aload_n 0, 1) := by decide +kernel
theorem dX11_fits_1 : decode cX11_fits 1 = .ok (.iconst 0, 1) := by decide +kernel
theorem dX11_fits_2 : decode cX11_fits 2 = .ok (.putfield 106, 3) := by decide +kernel
theorem dX11_fits_5 : decode cX11_fits 5 = .ok (.iconst 1, 1) := by decide +kernel
theorem dX11_fits_6 : decode cX11_fits 6 = .ok (.istore_n 2, 1) := by decide +kernel
theorem dX11_fits_7 : decode cX11_fits 7 = .ok (.iload_n 2, 1) := by decide +kernel
theorem dX11_fits_8 : decode cX11_fits 8 = .ok (.sipush 9999, 3) := by decide +kernel
theorem dX11_fits_11 : decode cX11_fits 11 = .ok (.if_icmp .gt 26, 3) := by decide +kernel
theorem dX11_fits_14 : decode cX11_fits 14 = .ok (.aload_n 0, 1) := by decide +kernel
theorem dX11_fits_15 : decode cX11_fits 15 = .ok (.iload_n 2, 1) := by decide +kernel
theorem dX11_fits_16 : decode cX11_fits 16 = .ok (.invokevirtual 246, 3) := by decide +kernel
theorem dX11_fits_19 : decode cX11_fits 19 = .ok (.aload_n 0, 1) := by decide +kernel
theorem dX11_fits_20 : decode cX11_fits 20 = .ok (.iconst (-1), 1) := by decide +kernel
theorem dX11_fits_21 : decode cX11_fits 21 = .ok (.iconst 0, 1) := by decide +kernel
theorem dX11_fits_22 : decode cX11_fits 22 = .ok (.invokevirtual 286, 3) := by decide +kernel
theorem dX11_fits_25 : decode cX11_fits 25 = .ok (.iload_n 1, 1) := by decide +kernel
theorem dX11_fits_26 : decode cX11_fits 26 = .ok (.if_icmp .gt 5, 3) := by decide +kernel
theorem dX11_fits_29 : decode cX11_fits 29 = .ok (.iload_n 2, 1) := by decide +kernel
theorem dX11_fits_30 : decode cX11_fits 30 = .ok (.ireturn, 1) := by decide +kernel
theorem dX11_fits_31 : decode cX11_fits 31 = .ok (.iinc 2 1, 3) := by decide +kernel
theorem dX11_fits_34 : decode cX11_fits 34 = .ok (.goto (-27), 3) := by decide +kernel
theorem dX11_fits_37 : decode cX11_fits 37 = .ok (.iconst (-1), 1) := by decide +kernel
theorem dX11_fits_38 : decode cX11_fits 38 = .ok (.ireturn, 1) := by decide +kernel
theorem dX11_scale_0 : decode cX11_scale 0 = .ok (.aload_n 0, 1) := by decide +kernel
theorem dX11_scale_1 : decode cX11_scale 1 = .ok (.iconst 0, 1) := by decide +kernel
theorem dX11_scale_2 : decode cX11_scale 2 = .ok (.putfield 106, 3) := by decide +kernel
theorem dX11_scale_5 : decode cX11_scale 5 = .ok (.aload_n 0, 1) := by decide +kernel
theorem dX11_scale_6 : decode cX11_scale 6 = .ok (.aload_n 0, 1) := by decide +kernel
theorem dX11_scale_7 : decode cX11_scale 7 = .ok (.getfield 48, 3) := by decide +kernel
theorem dX11_scale_10 : decode cX11_scale 10 = .ok (.invokevirtual 246, 3) := by decide +kernel
theorem dX11_scale_13 : decode cX11_scale 13 = .ok (.iconst 0, 1) := by decide +kernel
theorem dX11_scale_14 : decode cX11_scale 14 = .ok (.istore_n 2, 1) := by decide +kernel
theorem dX11_scale_15 : decode cX11_scale 15 = .ok (.iload_n 2, 1) := by decide +kernel
theorem dX11_scale_16 : decode cX11_scale 16 = .ok (.iconst 5, 1) := by decide +kernel
theorem dX11_scale_17 : decode cX11_scale 17 = .ok (.if_icmp .ge 21, 3) := by decide +kernel
theorem dX11_scale_20 : decode cX11_scale 20 = .ok (.aload_n 0, 1) := by decide +kernel
theorem dX11_scale_21 : decode cX11_scale 21 = .ok (.iconst (-1), 1) := by decide +kernel
theorem dX11_scale_22 : decode cX11_scale 22 = .ok (.iload_n 2, 1) := by decide +kernel
theorem dX11_scale_23 : decode cX11_scale 23 = .ok (.invokevirtual 286, 3) := by decide +kernel
theorem dX11_scale_26 : decode cX11_scale 26 = .ok (.iload_n 1, 1) := by decide +kernel
theorem dX11_scale_27 : decode cX11_scale 27 = .ok (.if_icmp .gt 5, 3) := by decide +kernel
theorem dX11_scale_30 : decode cX11_scale 30 = .ok (.iload_n 2, 1) := by decide +kernel
theorem dX11_scale_31 : decode cX11_scale 31 = .ok (.ireturn, 1) := by decide +kernel
theorem dX11_scale_32 : decode cX11_scale 32 = .ok (.iinc 2 1, 3) := by decide +kernel
theorem dX11_scale_35 : decode cX11_scale 35 = .ok (.goto (-20), 3) := by decide +kernel
theorem dX11_scale_38 : decode cX11_scale 38 = .ok (.iconst (-1), 1) := by decide +kernel
theorem dX11_scale_39 : decode cX11_scale 39 = .ok (.ireturn, 1) := by decide +kernel
theorem dX11_picks_0 : decode cX11_picks 0 = .ok (.aload_n 0, 1) := by decide +kernel
theorem dX11_picks_1 : decode cX11_picks 1 = .ok (.getfield 97, 3) := by decide +kernel
theorem dX11_picks_4 : decode cX11_picks 4 = .ok (.aload_n 0, 1) := by decide +kernel
theorem dX11_picks_5 : decode cX11_picks 5 = .ok (.getfield 331, 3) := by decide +kernel
theorem dX11_picks_8 : decode cX11_picks 8 = .ok (.iload_n 1, 1) := by decide +kernel
theorem dX11_picks_9 : decode cX11_picks 9 = .ok (.iastore, 1) := by decide +kernel
theorem dX11_picks_10 : decode cX11_picks 10 = .ok (.aload_n 0, 1) := by decide +kernel
theorem dX11_picks_11 : decode cX11_picks 11 = .ok (.dup, 1) := by decide +kernel
theorem dX11_picks_12 : decode cX11_picks 12 = .ok (.getfield 331, 3) := by decide +kernel
theorem dX11_picks_15 : decode cX11_picks 15 = .ok (.iconst 1, 1) := by decide +kernel
theorem dX11_picks_16 : decode cX11_picks 16 = .ok (.iadd, 1) := by decide +kernel
theorem dX11_picks_17 : decode cX11_picks 17 = .ok (.putfield 331, 3) := by decide +kernel
theorem dX11_picks_20 : decode cX11_picks 20 = .ok (.return_, 1) := by decide +kernel
theorem dX11_pickedAt_0 : decode cX11_pickedAt 0 = .ok (.iload_n 1, 1) := by decide +kernel
theorem dX11_pickedAt_1 : decode cX11_pickedAt 1 = .ok (.iconst (-1), 1) := by decide +kernel
theorem dX11_pickedAt_2 : decode cX11_pickedAt 2 = .ok (.if_icmp .ne 10, 3) := by decide +kernel
theorem dX11_pickedAt_5 : decode cX11_pickedAt 5 = .ok (.aload_n 0, 1) := by decide +kernel
theorem dX11_pickedAt_6 : decode cX11_pickedAt 6 = .ok (.getfield 331, 3) := by decide +kernel
theorem dX11_pickedAt_9 : decode cX11_pickedAt 9 = .ok (.goto 27, 3) := by decide +kernel
theorem dX11_pickedAt_12 : decode cX11_pickedAt 12 = .ok (.iload_n 1, 1) := by decide +kernel
theorem dX11_pickedAt_13 : decode cX11_pickedAt 13 = .ok (.iconst 0, 1) := by decide +kernel
theorem dX11_pickedAt_14 : decode cX11_pickedAt 14 = .ok (.aload_n 0, 1) := by decide +kernel
theorem dX11_pickedAt_15 : decode cX11_pickedAt 15 = .ok (.getfield 331, 3) := by decide +kernel
theorem dX11_pickedAt_18 : decode cX11_pickedAt 18 = .ok (.iconst 1, 1) := by decide +kernel
theorem dX11_pickedAt_19 : decode cX11_pickedAt 19 = .ok (.isub, 1) := by decide +kernel
theorem dX11_pickedAt_20 : decode cX11_pickedAt 20 = .ok (.invokestatic 169, 3) := by decide +kernel
theorem dX11_pickedAt_23 : decode cX11_pickedAt 23 = .ok (.ifCond .eq 12, 3) := by decide +kernel
theorem dX11_pickedAt_26 : decode cX11_pickedAt 26 = .ok (.aload_n 0, 1) := by decide +kernel
theorem dX11_pickedAt_27 : decode cX11_pickedAt 27 = .ok (.getfield 97, 3) := by decide +kernel
theorem dX11_pickedAt_30 : decode cX11_pickedAt 30 = .ok (.iload_n 1, 1) := by decide +kernel
theorem dX11_pickedAt_31 : decode cX11_pickedAt 31 = .ok (.iaload, 1) := by decide +kernel
theorem dX11_pickedAt_32 : decode cX11_pickedAt 32 = .ok (.goto 4, 3) := by decide +kernel
theorem dX11_pickedAt_35 : decode cX11_pickedAt 35 = .ok (.iconst (-1), 1) := by decide +kernel
theorem dX11_pickedAt_36 : decode cX11_pickedAt 36 = .ok (.ireturn, 1) := by decide +kernel
theorem dX11_isAway_0 : decode cX11_isAway 0 = .ok (.iconst 0, 1) := by decide +kernel
theorem dX11_isAway_1 : decode cX11_isAway 1 = .ok (.istore_n 3, 1) := by decide +kernel
theorem dX11_isAway_2 : decode cX11_isAway 2 = .ok (.iload_n 3, 1) := by decide +kernel
theorem dX11_isAway_3 : decode cX11_isAway 3 = .ok (.aload_n 0, 1) := by decide +kernel
theorem dX11_isAway_4 : decode cX11_isAway 4 = .ok (.getfield 331, 3) := by decide +kernel
theorem dX11_isAway_7 : decode cX11_isAway 7 = .ok (.if_icmp .ge 26, 3) := by decide +kernel
theorem dX11_isAway_10 : decode cX11_isAway 10 = .ok (.aload_n 0, 1) := by decide +kernel
theorem dX11_isAway_11 : decode cX11_isAway 11 = .ok (.aload_n 0, 1) := by decide +kernel
theorem dX11_isAway_12 : decode cX11_isAway 12 = .ok (.getfield 97, 3) := by decide +kernel
theorem dX11_isAway_15 : decode cX11_isAway 15 = .ok (.iload_n 3, 1) := by decide +kernel
theorem dX11_isAway_16 : decode cX11_isAway 16 = .ok (.iaload, 1) := by decide +kernel
theorem dX11_isAway_17 : decode cX11_isAway 17 = .ok (.iload_n 1, 1) := by decide +kernel
theorem dX11_isAway_18 : decode cX11_isAway 18 = .ok (.invokevirtual 236, 3) := by decide +kernel
theorem dX11_isAway_21 : decode cX11_isAway 21 = .ok (.iload_n 2, 1) := by decide +kernel
theorem dX11_isAway_22 : decode cX11_isAway 22 = .ok (.if_icmp .ge 5, 3) := by decide +kernel
theorem dX11_isAway_25 : decode cX11_isAway 25 = .ok (.iconst 0, 1) := by decide +kernel
theorem dX11_isAway_26 : decode cX11_isAway 26 = .ok (.ireturn, 1) := by decide +kernel
theorem dX11_isAway_27 : decode cX11_isAway 27 = .ok (.iinc 3 1, 3) := by decide +kernel
theorem dX11_isAway_30 : decode cX11_isAway 30 = .ok (.goto (-28), 3) := by decide +kernel
theorem dX11_isAway_33 : decode cX11_isAway 33 = .ok (.iconst 1, 1) := by decide +kernel
theorem dX11_isAway_34 : decode cX11_isAway 34 = .ok (.ireturn, 1) := by decide +kernel
theorem dX11_thinned_0 : decode cX11_thinned 0 = .ok (.aload_n 0, 1) := by decide +kernel
theorem dX11_thinned_1 : decode cX11_thinned 1 = .ok (.iconst 0, 1) := by decide +kernel
theorem dX11_thinned_2 : decode cX11_thinned 2 = .ok (.putfield 106, 3) := by decide +kernel
theorem dX11_thinned_5 : decode cX11_thinned 5 = .ok (.aload_n 0, 1) := by decide +kernel
theorem dX11_thinned_6 : decode cX11_thinned 6 = .ok (.iload_n 1, 1) := by decide +kernel
theorem dX11_thinned_7 : decode cX11_thinned 7 = .ok (.invokevirtual 283, 3) := by decide +kernel
theorem dX11_thinned_10 : decode cX11_thinned 10 = .ok (.ifCond .ne 27, 3) := by decide +kernel
theorem dX11_thinned_13 : decode cX11_thinned 13 = .ok (.aload_n 0, 1) := by decide +kernel
theorem dX11_thinned_14 : decode cX11_thinned 14 = .ok (.iload_n 2, 1) := by decide +kernel
theorem dX11_thinned_15 : decode cX11_thinned 15 = .ok (.iconst 0, 1) := by decide +kernel
theorem dX11_thinned_16 : decode cX11_thinned 16 = .ok (.sipush 999, 3) := by decide +kernel
theorem dX11_thinned_19 : decode cX11_thinned 19 = .ok (.invokestatic 169, 3) := by decide +kernel
theorem dX11_thinned_22 : decode cX11_thinned 22 = .ok (.ifCond .ne 7, 3) := by decide +kernel
theorem dX11_thinned_25 : decode cX11_thinned 25 = .ok (.iconst 1, 1) := by decide +kernel
theorem dX11_thinned_26 : decode cX11_thinned 26 = .ok (.goto 4, 3) := by decide +kernel
theorem dX11_thinned_29 : decode cX11_thinned 29 = .ok (.iconst 0, 1) := by decide +kernel
theorem dX11_thinned_30 : decode cX11_thinned 30 = .ok (.iconst 2, 1) := by decide +kernel
theorem dX11_thinned_31 : decode cX11_thinned 31 = .ok (.invokevirtual 215, 3) := by decide +kernel
theorem dX11_thinned_34 : decode cX11_thinned 34 = .ok (.ifCond .eq 5, 3) := by decide +kernel
theorem dX11_thinned_37 : decode cX11_thinned 37 = .ok (.iconst 0, 1) := by decide +kernel
theorem dX11_thinned_38 : decode cX11_thinned 38 = .ok (.ireturn, 1) := by decide +kernel
theorem dX11_thinned_39 : decode cX11_thinned 39 = .ok (.aload_n 0, 1) := by decide +kernel
theorem dX11_thinned_40 : decode cX11_thinned 40 = .ok (.iload_n 1, 1) := by decide +kernel
theorem dX11_thinned_41 : decode cX11_thinned 41 = .ok (.invokevirtual 289, 3) := by decide +kernel
theorem dX11_thinned_44 : decode cX11_thinned 44 = .ok (.aload_n 0, 1) := by decide +kernel
theorem dX11_thinned_45 : decode cX11_thinned 45 = .ok (.iconst 0, 1) := by decide +kernel
theorem dX11_thinned_46 : decode cX11_thinned 46 = .ok (.putfield 331, 3) := by decide +kernel
theorem dX11_thinned_49 : decode cX11_thinned 49 = .ok (.iconst 0, 1) := by decide +kernel
theorem dX11_thinned_50 : decode cX11_thinned 50 = .ok (.istore 4, 2) := by decide +kernel
theorem dX11_thinned_52 : decode cX11_thinned 52 = .ok (.iload 4, 2) := by decide +kernel
theorem dX11_thinned_54 : decode cX11_thinned 54 = .ok (.aload_n 0, 1) := by decide +kernel
theorem dX11_thinned_55 : decode cX11_thinned 55 = .ok (.invokevirtual 229, 3) := by decide +kernel
theorem dX11_thinned_58 : decode cX11_thinned 58 = .ok (.if_icmp .ge 34, 3) := by decide +kernel
theorem dX11_thinned_61 : decode cX11_thinned 61 = .ok (.aload_n 0, 1) := by decide +kernel
theorem dX11_thinned_62 : decode cX11_thinned 62 = .ok (.iload 4, 2) := by decide +kernel
theorem dX11_thinned_64 : decode cX11_thinned 64 = .ok (.invokevirtual 292, 3) := by decide +kernel
theorem dX11_thinned_67 : decode cX11_thinned 67 = .ok (.ifCond .eq 19, 3) := by decide +kernel
theorem dX11_thinned_70 : decode cX11_thinned 70 = .ok (.aload_n 0, 1) := by decide +kernel
theorem dX11_thinned_71 : decode cX11_thinned 71 = .ok (.iload 4, 2) := by decide +kernel
theorem dX11_thinned_73 : decode cX11_thinned 73 = .ok (.iload_n 2, 1) := by decide +kernel
theorem dX11_thinned_74 : decode cX11_thinned 74 = .ok (.invokevirtual 334, 3) := by decide +kernel
theorem dX11_thinned_77 : decode cX11_thinned 77 = .ok (.ifCond .eq 9, 3) := by decide +kernel
theorem dX11_thinned_80 : decode cX11_thinned 80 = .ok (.aload_n 0, 1) := by decide +kernel
theorem dX11_thinned_81 : decode cX11_thinned 81 = .ok (.iload 4, 2) := by decide +kernel
theorem dX11_thinned_83 : decode cX11_thinned 83 = .ok (.invokevirtual 337, 3) := by decide +kernel
theorem dX11_thinned_86 : decode cX11_thinned 86 = .ok (.iinc 4 1, 3) := by decide +kernel
theorem dX11_thinned_89 : decode cX11_thinned 89 = .ok (.goto (-37), 3) := by decide +kernel
theorem dX11_thinned_92 : decode cX11_thinned 92 = .ok (.aload_n 0, 1) := by decide +kernel
theorem dX11_thinned_93 : decode cX11_thinned 93 = .ok (.iload_n 3, 1) := by decide +kernel
theorem dX11_thinned_94 : decode cX11_thinned 94 = .ok (.invokevirtual 340, 3) := by decide +kernel
theorem dX11_thinned_97 : decode cX11_thinned 97 = .ok (.ireturn, 1) := by decide +kernel
theorem dX11_tours_0 : decode cX11_tours 0 = .ok (.aload_n 0, 1) := by decide +kernel
theorem dX11_tours_1 : decode cX11_tours 1 = .ok (.iload_n 1, 1) := by decide +kernel
theorem dX11_tours_2 : decode cX11_tours 2 = .ok (.invokevirtual 289, 3) := by decide +kernel
theorem dX11_tours_5 : decode cX11_tours 5 = .ok (.aload_n 0, 1) := by decide +kernel
theorem dX11_tours_6 : decode cX11_tours 6 = .ok (.iconst 0, 1) := by decide +kernel
theorem dX11_tours_7 : decode cX11_tours 7 = .ok (.putfield 331, 3) := by decide +kernel
theorem dX11_tours_10 : decode cX11_tours 10 = .ok (.aload_n 0, 1) := by decide +kernel
theorem dX11_tours_11 : decode cX11_tours 11 = .ok (.iconst 0, 1) := by decide +kernel
theorem dX11_tours_12 : decode cX11_tours 12 = .ok (.putfield 343, 3) := by decide +kernel
theorem dX11_tours_15 : decode cX11_tours 15 = .ok (.iconst 0, 1) := by decide +kernel
theorem dX11_tours_16 : decode cX11_tours 16 = .ok (.istore_n 2, 1) := by decide +kernel
theorem dX11_tours_17 : decode cX11_tours 17 = .ok (.iload_n 2, 1) := by decide +kernel
theorem dX11_tours_18 : decode cX11_tours 18 = .ok (.sipush 384, 3) := by decide +kernel
theorem dX11_tours_21 : decode cX11_tours 21 = .ok (.if_icmp .ge 16, 3) := by decide +kernel
theorem dX11_tours_24 : decode cX11_tours 24 = .ok (.aload_n 0, 1) := by decide +kernel
theorem dX11_tours_25 : decode cX11_tours 25 = .ok (.getfield 100, 3) := by decide +kernel
theorem dX11_tours_28 : decode cX11_tours 28 = .ok (.iload_n 2, 1) := by decide +kernel
theorem dX11_tours_29 : decode cX11_tours 29 = .ok (.iconst 0, 1) := by decide +kernel
theorem dX11_tours_30 : decode cX11_tours 30 = .ok (.bastore, 1) := by decide +kernel
theorem dX11_tours_31 : decode cX11_tours 31 = .ok (.iinc 2 1, 3) := by decide +kernel
theorem dX11_tours_34 : decode cX11_tours 34 = .ok (.goto (-17), 3) := by decide +kernel
theorem dX11_tours_37 : decode cX11_tours 37 = .ok (.iconst (-1), 1) := by decide +kernel
theorem dX11_tours_38 : decode cX11_tours 38 = .ok (.istore_n 2, 1) := by decide +kernel
theorem dX11_tours_39 : decode cX11_tours 39 = .ok (.aload_n 0, 1) := by decide +kernel
theorem dX11_tours_40 : decode cX11_tours 40 = .ok (.invokevirtual 229, 3) := by decide +kernel
theorem dX11_tours_43 : decode cX11_tours 43 = .ok (.iconst 1, 1) := by decide +kernel
theorem dX11_tours_44 : decode cX11_tours 44 = .ok (.isub, 1) := by decide +kernel
theorem dX11_tours_45 : decode cX11_tours 45 = .ok (.istore_n 3, 1) := by decide +kernel
theorem dX11_tours_46 : decode cX11_tours 46 = .ok (.iload_n 3, 1) := by decide +kernel
theorem dX11_tours_47 : decode cX11_tours 47 = .ok (.ifCond .lt 19, 3) := by decide +kernel
theorem dX11_tours_50 : decode cX11_tours 50 = .ok (.aload_n 0, 1) := by decide +kernel
theorem dX11_tours_51 : decode cX11_tours 51 = .ok (.iload_n 3, 1) := by decide +kernel
theorem dX11_tours_52 : decode cX11_tours 52 = .ok (.invokevirtual 292, 3) := by decide +kernel
theorem dX11_tours_55 : decode cX11_tours 55 = .ok (.ifCond .eq 5, 3) := by decide +kernel
theorem dX11_tours_58 : decode cX11_tours 58 = .ok (.iload_n 3, 1) := by decide +kernel
theorem dX11_tours_59 : decode cX11_tours 59 = .ok (.istore_n 2, 1) := by decide +kernel
theorem dX11_tours_60 : decode cX11_tours 60 = .ok (.iinc 3 (-1), 3) := by decide +kernel
theorem dX11_tours_63 : decode cX11_tours 63 = .ok (.goto (-17), 3) := by decide +kernel
theorem dX11_tours_66 : decode cX11_tours 66 = .ok (.iload_n 2, 1) := by decide +kernel
theorem dX11_tours_67 : decode cX11_tours 67 = .ok (.iconst (-1), 1) := by decide +kernel
theorem dX11_tours_68 : decode cX11_tours 68 = .ok (.if_icmp .eq 103, 3) := by decide +kernel
theorem dX11_tours_71 : decode cX11_tours 71 = .ok (.iload_n 2, 1) := by decide +kernel
theorem dX11_tours_72 : decode cX11_tours 72 = .ok (.istore_n 3, 1) := by decide +kernel
theorem dX11_tours_73 : decode cX11_tours 73 = .ok (.aload_n 0, 1) := by decide +kernel
theorem dX11_tours_74 : decode cX11_tours 74 = .ok (.iload_n 3, 1) := by decide +kernel
theorem dX11_tours_75 : decode cX11_tours 75 = .ok (.invokevirtual 337, 3) := by decide +kernel
theorem dX11_tours_78 : decode cX11_tours 78 = .ok (.aload_n 0, 1) := by decide +kernel
theorem dX11_tours_79 : decode cX11_tours 79 = .ok (.getfield 100, 3) := by decide +kernel
theorem dX11_tours_82 : decode cX11_tours 82 = .ok (.iload_n 3, 1) := by decide +kernel
theorem dX11_tours_83 : decode cX11_tours 83 = .ok (.iconst 1, 1) := by decide +kernel
theorem dX11_tours_84 : decode cX11_tours 84 = .ok (.bastore, 1) := by decide +kernel
theorem dX11_tours_85 : decode cX11_tours 85 = .ok (.iconst (-1), 1) := by decide +kernel
theorem dX11_tours_86 : decode cX11_tours 86 = .ok (.istore_n 2, 1) := by decide +kernel
theorem dX11_tours_87 : decode cX11_tours 87 = .ok (.iconst 0, 1) := by decide +kernel
theorem dX11_tours_88 : decode cX11_tours 88 = .ok (.istore 4, 2) := by decide +kernel
theorem dX11_tours_90 : decode cX11_tours 90 = .ok (.iload 4, 2) := by decide +kernel
theorem dX11_tours_92 : decode cX11_tours 92 = .ok (.aload_n 0, 1) := by decide +kernel
theorem dX11_tours_93 : decode cX11_tours 93 = .ok (.invokevirtual 229, 3) := by decide +kernel
theorem dX11_tours_96 : decode cX11_tours 96 = .ok (.if_icmp .ge 52, 3) := by decide +kernel
theorem dX11_tours_99 : decode cX11_tours 99 = .ok (.aload_n 0, 1) := by decide +kernel
theorem dX11_tours_100 : decode cX11_tours 100 = .ok (.iload 4, 2) := by decide +kernel
theorem dX11_tours_102 : decode cX11_tours 102 = .ok (.invokevirtual 292, 3) := by decide +kernel
theorem dX11_tours_105 : decode cX11_tours 105 = .ok (.ifCond .eq 37, 3) := by decide +kernel
theorem dX11_tours_108 : decode cX11_tours 108 = .ok (.aload_n 0, 1) := by decide +kernel
theorem dX11_tours_109 : decode cX11_tours 109 = .ok (.getfield 100, 3) := by decide +kernel
theorem dX11_tours_112 : decode cX11_tours 112 = .ok (.iload 4, 2) := by decide +kernel
theorem dX11_tours_114 : decode cX11_tours 114 = .ok (.baload, 1) := by decide +kernel
theorem dX11_tours_115 : decode cX11_tours 115 = .ok (.ifCond .ne 27, 3) := by decide +kernel
theorem dX11_tours_118 : decode cX11_tours 118 = .ok (.iload_n 2, 1) := by decide +kernel
theorem dX11_tours_119 : decode cX11_tours 119 = .ok (.iconst (-1), 1) := by decide +kernel
theorem dX11_tours_120 : decode cX11_tours 120 = .ok (.if_icmp .eq 19, 3) := by decide +kernel
theorem dX11_tours_123 : decode cX11_tours 123 = .ok (.aload_n 0, 1) := by decide +kernel
theorem dX11_tours_124 : decode cX11_tours 124 = .ok (.iload 4, 2) := by decide +kernel
theorem dX11_tours_126 : decode cX11_tours 126 = .ok (.iload_n 3, 1) := by decide +kernel
theorem dX11_tours_127 : decode cX11_tours 127 = .ok (.invokevirtual 236, 3) := by decide +kernel
theorem dX11_tours_130 : decode cX11_tours 130 = .ok (.aload_n 0, 1) := by decide +kernel
theorem dX11_tours_131 : decode cX11_tours 131 = .ok (.iload_n 2, 1) := by decide +kernel
theorem dX11_tours_132 : decode cX11_tours 132 = .ok (.iload_n 3, 1) := by decide +kernel
theorem dX11_tours_133 : decode cX11_tours 133 = .ok (.invokevirtual 236, 3) := by decide +kernel
theorem dX11_tours_136 : decode cX11_tours 136 = .ok (.if_icmp .ge 6, 3) := by decide +kernel
theorem dX11_tours_139 : decode cX11_tours 139 = .ok (.iload 4, 2) := by decide +kernel
theorem dX11_tours_141 : decode cX11_tours 141 = .ok (.istore_n 2, 1) := by decide +kernel
theorem dX11_tours_142 : decode cX11_tours 142 = .ok (.iinc 4 1, 3) := by decide +kernel
theorem dX11_tours_145 : decode cX11_tours 145 = .ok (.goto (-55), 3) := by decide +kernel
theorem dX11_tours_148 : decode cX11_tours 148 = .ok (.iload_n 2, 1) := by decide +kernel
theorem dX11_tours_149 : decode cX11_tours 149 = .ok (.iconst (-1), 1) := by decide +kernel
theorem dX11_tours_150 : decode cX11_tours 150 = .ok (.if_icmp .eq 18, 3) := by decide +kernel
theorem dX11_tours_153 : decode cX11_tours 153 = .ok (.aload_n 0, 1) := by decide +kernel
theorem dX11_tours_154 : decode cX11_tours 154 = .ok (.dup, 1) := by decide +kernel
theorem dX11_tours_155 : decode cX11_tours 155 = .ok (.getfield 343, 3) := by decide +kernel
theorem dX11_tours_158 : decode cX11_tours 158 = .ok (.aload_n 0, 1) := by decide +kernel
theorem dX11_tours_159 : decode cX11_tours 159 = .ok (.iload_n 2, 1) := by decide +kernel
theorem dX11_tours_160 : decode cX11_tours 160 = .ok (.iload_n 3, 1) := by decide +kernel
theorem dX11_tours_161 : decode cX11_tours 161 = .ok (.invokevirtual 236, 3) := by decide +kernel
theorem dX11_tours_164 : decode cX11_tours 164 = .ok (.iadd, 1) := by decide +kernel
theorem dX11_tours_165 : decode cX11_tours 165 = .ok (.putfield 343, 3) := by decide +kernel
theorem dX11_tours_168 : decode cX11_tours 168 = .ok (.goto (-102), 3) := by decide +kernel
theorem dX11_tours_171 : decode cX11_tours 171 = .ok (.return_, 1) := by decide +kernel
theorem dX11_tour_0 : decode cX11_tour 0 = .ok (.aload_n 0, 1) := by decide +kernel
theorem dX11_tour_1 : decode cX11_tour 1 = .ok (.iconst 0, 1) := by decide +kernel
theorem dX11_tour_2 : decode cX11_tour 2 = .ok (.putfield 106, 3) := by decide +kernel
theorem dX11_tour_5 : decode cX11_tour 5 = .ok (.aload_n 0, 1) := by decide +kernel
theorem dX11_tour_6 : decode cX11_tour 6 = .ok (.iload_n 1, 1) := by decide +kernel
theorem dX11_tour_7 : decode cX11_tour 7 = .ok (.invokevirtual 283, 3) := by decide +kernel
theorem dX11_tour_10 : decode cX11_tour 10 = .ok (.ifCond .eq 5, 3) := by decide +kernel
theorem dX11_tour_13 : decode cX11_tour 13 = .ok (.iconst 0, 1) := by decide +kernel
theorem dX11_tour_14 : decode cX11_tour 14 = .ok (.ireturn, 1) := by decide +kernel
theorem dX11_tour_15 : decode cX11_tour 15 = .ok (.aload_n 0, 1) := by decide +kernel
theorem dX11_tour_16 : decode cX11_tour 16 = .ok (.iload_n 1, 1) := by decide +kernel
theorem dX11_tour_17 : decode cX11_tour 17 = .ok (.invokevirtual 346, 3) := by decide +kernel
theorem dX11_tour_20 : decode cX11_tour 20 = .ok (.aload_n 0, 1) := by decide +kernel
theorem dX11_tour_21 : decode cX11_tour 21 = .ok (.iload_n 2, 1) := by decide +kernel
theorem dX11_tour_22 : decode cX11_tour 22 = .ok (.invokevirtual 340, 3) := by decide +kernel
theorem dX11_tour_25 : decode cX11_tour 25 = .ok (.ireturn, 1) := by decide +kernel
theorem dX11_way_0 : decode cX11_way 0 = .ok (.aload_n 0, 1) := by decide +kernel
theorem dX11_way_1 : decode cX11_way 1 = .ok (.iconst 0, 1) := by decide +kernel
theorem dX11_way_2 : decode cX11_way 2 = .ok (.putfield 106, 3) := by decide +kernel
theorem dX11_way_5 : decode cX11_way 5 = .ok (.aload_n 0, 1) := by decide +kernel
theorem dX11_way_6 : decode cX11_way 6 = .ok (.iload_n 1, 1) := by decide +kernel
theorem dX11_way_7 : decode cX11_way 7 = .ok (.invokevirtual 283, 3) := by decide +kernel
theorem dX11_way_10 : decode cX11_way 10 = .ok (.ifCond .eq 5, 3) := by decide +kernel
theorem dX11_way_13 : decode cX11_way 13 = .ok (.iconst 0, 1) := by decide +kernel
theorem dX11_way_14 : decode cX11_way 14 = .ok (.ireturn, 1) := by decide +kernel
theorem dX11_way_15 : decode cX11_way 15 = .ok (.aload_n 0, 1) := by decide +kernel
theorem dX11_way_16 : decode cX11_way 16 = .ok (.iload_n 1, 1) := by decide +kernel
theorem dX11_way_17 : decode cX11_way 17 = .ok (.invokevirtual 346, 3) := by decide +kernel
theorem dX11_way_20 : decode cX11_way 20 = .ok (.aload_n 0, 1) := by decide +kernel
theorem dX11_way_21 : decode cX11_way 21 = .ok (.getfield 343, 3) := by decide +kernel
theorem dX11_way_24 : decode cX11_way 24 = .ok (.ireturn, 1) := by decide +kernel
theorem dX11_hand_0 : decode cX11_hand 0 = .ok (.aload_n 0, 1) := by decide +kernel
theorem dX11_hand_1 : decode cX11_hand 1 = .ok (.getfield 17, 3) := by decide +kernel
theorem dX11_hand_4 : decode cX11_hand 4 = .ok (.iconst 0, 1) := by decide +kernel
theorem dX11_hand_5 : decode cX11_hand 5 = .ok (.iaload, 1) := by decide +kernel
theorem dX11_hand_6 : decode cX11_hand 6 = .ok (.istore 4, 2) := by decide +kernel
theorem dX11_hand_8 : decode cX11_hand 8 = .ok (.iload_n 2, 1) := by decide +kernel
theorem dX11_hand_9 : decode cX11_hand 9 = .ok (.iload 4, 2) := by decide +kernel
theorem dX11_hand_11 : decode cX11_hand 11 = .ok (.irem, 1) := by decide +kernel
theorem dX11_hand_12 : decode cX11_hand 12 = .ok (.iload_n 1, 1) := by decide +kernel
theorem dX11_hand_13 : decode cX11_hand 13 = .ok (.iload 4, 2) := by decide +kernel
theorem dX11_hand_15 : decode cX11_hand 15 = .ok (.irem, 1) := by decide +kernel
theorem dX11_hand_16 : decode cX11_hand 16 = .ok (.isub, 1) := by decide +kernel
theorem dX11_hand_17 : decode cX11_hand 17 = .ok (.iload_n 3, 1) := by decide +kernel
theorem dX11_hand_18 : decode cX11_hand 18 = .ok (.iload 4, 2) := by decide +kernel
theorem dX11_hand_20 : decode cX11_hand 20 = .ok (.idiv, 1) := by decide +kernel
theorem dX11_hand_21 : decode cX11_hand 21 = .ok (.iload_n 1, 1) := by decide +kernel
theorem dX11_hand_22 : decode cX11_hand 22 = .ok (.iload 4, 2) := by decide +kernel
theorem dX11_hand_24 : decode cX11_hand 24 = .ok (.idiv, 1) := by decide +kernel
theorem dX11_hand_25 : decode cX11_hand 25 = .ok (.isub, 1) := by decide +kernel
theorem dX11_hand_26 : decode cX11_hand 26 = .ok (.imul, 1) := by decide +kernel
theorem dX11_hand_27 : decode cX11_hand 27 = .ok (.iload_n 2, 1) := by decide +kernel
theorem dX11_hand_28 : decode cX11_hand 28 = .ok (.iload 4, 2) := by decide +kernel
theorem dX11_hand_30 : decode cX11_hand 30 = .ok (.idiv, 1) := by decide +kernel
theorem dX11_hand_31 : decode cX11_hand 31 = .ok (.iload_n 1, 1) := by decide +kernel
theorem dX11_hand_32 : decode cX11_hand 32 = .ok (.iload 4, 2) := by decide +kernel
theorem dX11_hand_34 : decode cX11_hand 34 = .ok (.idiv, 1) := by decide +kernel
theorem dX11_hand_35 : decode cX11_hand 35 = .ok (.isub, 1) := by decide +kernel
theorem dX11_hand_36 : decode cX11_hand 36 = .ok (.iload_n 3, 1) := by decide +kernel
theorem dX11_hand_37 : decode cX11_hand 37 = .ok (.iload 4, 2) := by decide +kernel
theorem dX11_hand_39 : decode cX11_hand 39 = .ok (.irem, 1) := by decide +kernel
theorem dX11_hand_40 : decode cX11_hand 40 = .ok (.iload_n 1, 1) := by decide +kernel
theorem dX11_hand_41 : decode cX11_hand 41 = .ok (.iload 4, 2) := by decide +kernel
theorem dX11_hand_43 : decode cX11_hand 43 = .ok (.irem, 1) := by decide +kernel
theorem dX11_hand_44 : decode cX11_hand 44 = .ok (.isub, 1) := by decide +kernel
theorem dX11_hand_45 : decode cX11_hand 45 = .ok (.imul, 1) := by decide +kernel
theorem dX11_hand_46 : decode cX11_hand 46 = .ok (.isub, 1) := by decide +kernel
theorem dX11_hand_47 : decode cX11_hand 47 = .ok (.ireturn, 1) := by decide +kernel
theorem dX11_hulls_0 : decode cX11_hulls 0 = .ok (.aload_n 0, 1) := by decide +kernel
theorem dX11_hulls_1 : decode cX11_hulls 1 = .ok (.iload_n 1, 1) := by decide +kernel
theorem dX11_hulls_2 : decode cX11_hulls 2 = .ok (.invokevirtual 289, 3) := by decide +kernel
theorem dX11_hulls_5 : decode cX11_hulls 5 = .ok (.aload_n 0, 1) := by decide +kernel
theorem dX11_hulls_6 : decode cX11_hulls 6 = .ok (.iconst 0, 1) := by decide +kernel
theorem dX11_hulls_7 : decode cX11_hulls 7 = .ok (.putfield 331, 3) := by decide +kernel
theorem dX11_hulls_10 : decode cX11_hulls 10 = .ok (.iconst (-1), 1) := by decide +kernel
theorem dX11_hulls_11 : decode cX11_hulls 11 = .ok (.istore_n 2, 1) := by decide +kernel
theorem dX11_hulls_12 : decode cX11_hulls 12 = .ok (.aload_n 0, 1) := by decide +kernel
theorem dX11_hulls_13 : decode cX11_hulls 13 = .ok (.invokevirtual 229, 3) := by decide +kernel
theorem dX11_hulls_16 : decode cX11_hulls 16 = .ok (.iconst 1, 1) := by decide +kernel
theorem dX11_hulls_17 : decode cX11_hulls 17 = .ok (.isub, 1) := by decide +kernel
theorem dX11_hulls_18 : decode cX11_hulls 18 = .ok (.istore_n 3, 1) := by decide +kernel
theorem dX11_hulls_19 : decode cX11_hulls 19 = .ok (.iload_n 3, 1) := by decide +kernel
theorem dX11_hulls_20 : decode cX11_hulls 20 = .ok (.ifCond .lt 19, 3) := by decide +kernel
theorem dX11_hulls_23 : decode cX11_hulls 23 = .ok (.aload_n 0, 1) := by decide +kernel
theorem dX11_hulls_24 : decode cX11_hulls 24 = .ok (.iload_n 3, 1) := by decide +kernel
theorem dX11_hulls_25 : decode cX11_hulls 25 = .ok (.invokevirtual 292, 3) := by decide +kernel
theorem dX11_hulls_28 : decode cX11_hulls 28 = .ok (.ifCond .eq 5, 3) := by decide +kernel
theorem dX11_hulls_31 : decode cX11_hulls 31 = .ok (.iload_n 3, 1) := by decide +kernel
theorem dX11_hulls_32 : decode cX11_hulls 32 = .ok (.istore_n 2, 1) := by decide +kernel
theorem dX11_hulls_33 : decode cX11_hulls 33 = .ok (.iinc 3 (-1), 3) := by decide +kernel
theorem dX11_hulls_36 : decode cX11_hulls 36 = .ok (.goto (-17), 3) := by decide +kernel
theorem dX11_hulls_39 : decode cX11_hulls 39 = .ok (.iload_n 2, 1) := by decide +kernel
theorem dX11_hulls_40 : decode cX11_hulls 40 = .ok (.istore_n 3, 1) := by decide +kernel
theorem dX11_hulls_41 : decode cX11_hulls 41 = .ok (.iload_n 3, 1) := by decide +kernel
theorem dX11_hulls_42 : decode cX11_hulls 42 = .ok (.iconst (-1), 1) := by decide +kernel
theorem dX11_hulls_43 : decode cX11_hulls 43 = .ok (.if_icmp .eq 115, 3) := by decide +kernel
theorem dX11_hulls_46 : decode cX11_hulls 46 = .ok (.aload_n 0, 1) := by decide +kernel
theorem dX11_hulls_47 : decode cX11_hulls 47 = .ok (.iload_n 3, 1) := by decide +kernel
theorem dX11_hulls_48 : decode cX11_hulls 48 = .ok (.invokevirtual 337, 3) := by decide +kernel
theorem dX11_hulls_51 : decode cX11_hulls 51 = .ok (.iconst (-1), 1) := by decide +kernel
theorem dX11_hulls_52 : decode cX11_hulls 52 = .ok (.istore 4, 2) := by decide +kernel
theorem dX11_hulls_54 : decode cX11_hulls 54 = .ok (.iconst 0, 1) := by decide +kernel
theorem dX11_hulls_55 : decode cX11_hulls 55 = .ok (.istore 5, 2) := by decide +kernel
theorem dX11_hulls_57 : decode cX11_hulls 57 = .ok (.iload 5, 2) := by decide +kernel
theorem dX11_hulls_59 : decode cX11_hulls 59 = .ok (.aload_n 0, 1) := by decide +kernel
theorem dX11_hulls_60 : decode cX11_hulls 60 = .ok (.invokevirtual 229, 3) := by decide +kernel
theorem dX11_hulls_63 : decode cX11_hulls 63 = .ok (.if_icmp .ge 79, 3) := by decide +kernel
theorem dX11_hulls_66 : decode cX11_hulls 66 = .ok (.aload_n 0, 1) := by decide +kernel
theorem dX11_hulls_67 : decode cX11_hulls 67 = .ok (.iload 5, 2) := by decide +kernel
theorem dX11_hulls_69 : decode cX11_hulls 69 = .ok (.invokevirtual 292, 3) := by decide +kernel
theorem dX11_hulls_72 : decode cX11_hulls 72 = .ok (.ifCond .eq 64, 3) := by decide +kernel
theorem dX11_hulls_75 : decode cX11_hulls 75 = .ok (.iload 5, 2) := by decide +kernel
theorem dX11_hulls_77 : decode cX11_hulls 77 = .ok (.iload_n 3, 1) := by decide +kernel
theorem dX11_hulls_78 : decode cX11_hulls 78 = .ok (.if_icmp .ne 6, 3) := by decide +kernel
theorem dX11_hulls_81 : decode cX11_hulls 81 = .ok (.goto 55, 3) := by decide +kernel
theorem dX11_hulls_84 : decode cX11_hulls 84 = .ok (.iload 4, 2) := by decide +kernel
theorem dX11_hulls_86 : decode cX11_hulls 86 = .ok (.iconst (-1), 1) := by decide +kernel
theorem dX11_hulls_87 : decode cX11_hulls 87 = .ok (.if_icmp .ne 7, 3) := by decide +kernel
theorem dX11_hulls_90 : decode cX11_hulls 90 = .ok (.iconst (-1), 1) := by decide +kernel
theorem dX11_hulls_91 : decode cX11_hulls 91 = .ok (.goto 12, 3) := by decide +kernel
theorem dX11_hulls_94 : decode cX11_hulls 94 = .ok (.aload_n 0, 1) := by decide +kernel
theorem dX11_hulls_95 : decode cX11_hulls 95 = .ok (.iload_n 3, 1) := by decide +kernel
theorem dX11_hulls_96 : decode cX11_hulls 96 = .ok (.iload 4, 2) := by decide +kernel
theorem dX11_hulls_98 : decode cX11_hulls 98 = .ok (.iload 5, 2) := by decide +kernel
theorem dX11_hulls_100 : decode cX11_hulls 100 = .ok (.invokevirtual 349, 3) := by decide +kernel
theorem dX11_hulls_103 : decode cX11_hulls 103 = .ok (.istore 6, 2) := by decide +kernel
theorem dX11_hulls_105 : decode cX11_hulls 105 = .ok (.iload 6, 2) := by decide +kernel
theorem dX11_hulls_107 : decode cX11_hulls 107 = .ok (.ifCond .lt 25, 3) := by decide +kernel
theorem dX11_hulls_110 : decode cX11_hulls 110 = .ok (.iload 6, 2) := by decide +kernel
theorem dX11_hulls_112 : decode cX11_hulls 112 = .ok (.ifCond .ne 24, 3) := by decide +kernel
theorem dX11_hulls_115 : decode cX11_hulls 115 = .ok (.aload_n 0, 1) := by decide +kernel
theorem dX11_hulls_116 : decode cX11_hulls 116 = .ok (.iload 5, 2) := by decide +kernel
theorem dX11_hulls_118 : decode cX11_hulls 118 = .ok (.iload_n 3, 1) := by decide +kernel
theorem dX11_hulls_119 : decode cX11_hulls 119 = .ok (.invokevirtual 236, 3) := by decide +kernel
theorem dX11_hulls_122 : decode cX11_hulls 122 = .ok (.aload_n 0, 1) := by decide +kernel
theorem dX11_hulls_123 : decode cX11_hulls 123 = .ok (.iload 4, 2) := by decide +kernel
theorem dX11_hulls_125 : decode cX11_hulls 125 = .ok (.iload_n 3, 1) := by decide +kernel
theorem dX11_hulls_126 : decode cX11_hulls 126 = .ok (.invokevirtual 236, 3) := by decide +kernel
theorem dX11_hulls_129 : decode cX11_hulls 129 = .ok (.if_icmp .le 7, 3) := by decide +kernel
theorem dX11_hulls_132 : decode cX11_hulls 132 = .ok (.iload 5, 2) := by decide +kernel
theorem dX11_hulls_134 : decode cX11_hulls 134 = .ok (.istore 4, 2) := by decide +kernel
theorem dX11_hulls_136 : decode cX11_hulls 136 = .ok (.iinc 5 1, 3) := by decide +kernel
theorem dX11_hulls_139 : decode cX11_hulls 139 = .ok (.goto (-82), 3) := by decide +kernel
theorem dX11_hulls_142 : decode cX11_hulls 142 = .ok (.iload 4, 2) := by decide +kernel
theorem dX11_hulls_144 : decode cX11_hulls 144 = .ok (.iload_n 2, 1) := by decide +kernel
theorem dX11_hulls_145 : decode cX11_hulls 145 = .ok (.if_icmp .ne 7, 3) := by decide +kernel
theorem dX11_hulls_148 : decode cX11_hulls 148 = .ok (.iconst (-1), 1) := by decide +kernel
theorem dX11_hulls_149 : decode cX11_hulls 149 = .ok (.goto 5, 3) := by decide +kernel
theorem dX11_hulls_152 : decode cX11_hulls 152 = .ok (.iload 4, 2) := by decide +kernel
theorem dX11_hulls_154 : decode cX11_hulls 154 = .ok (.istore_n 3, 1) := by decide +kernel
theorem dX11_hulls_155 : decode cX11_hulls 155 = .ok (.goto (-114), 3) := by decide +kernel
theorem dX11_hulls_158 : decode cX11_hulls 158 = .ok (.return_, 1) := by decide +kernel
theorem dX11_hull_0 : decode cX11_hull 0 = .ok (.aload_n 0, 1) := by decide +kernel
theorem dX11_hull_1 : decode cX11_hull 1 = .ok (.iconst 0, 1) := by decide +kernel
theorem dX11_hull_2 : decode cX11_hull 2 = .ok (.putfield 106, 3) := by decide +kernel
theorem dX11_hull_5 : decode cX11_hull 5 = .ok (.aload_n 0, 1) := by decide +kernel
theorem dX11_hull_6 : decode cX11_hull 6 = .ok (.iload_n 1, 1) := by decide +kernel
theorem dX11_hull_7 : decode cX11_hull 7 = .ok (.invokevirtual 283, 3) := by decide +kernel
theorem dX11_hull_10 : decode cX11_hull 10 = .ok (.ifCond .eq 5, 3) := by decide +kernel
theorem dX11_hull_13 : decode cX11_hull 13 = .ok (.iconst 0, 1) := by decide +kernel
theorem dX11_hull_14 : decode cX11_hull 14 = .ok (.ireturn, 1) := by decide +kernel
theorem dX11_hull_15 : decode cX11_hull 15 = .ok (.aload_n 0, 1) := by decide +kernel
theorem dX11_hull_16 : decode cX11_hull 16 = .ok (.iload_n 1, 1) := by decide +kernel
theorem dX11_hull_17 : decode cX11_hull 17 = .ok (.invokevirtual 352, 3) := by decide +kernel
theorem dX11_hull_20 : decode cX11_hull 20 = .ok (.aload_n 0, 1) := by decide +kernel
theorem dX11_hull_21 : decode cX11_hull 21 = .ok (.iload_n 2, 1) := by decide +kernel
theorem dX11_hull_22 : decode cX11_hull 22 = .ok (.invokevirtual 340, 3) := by decide +kernel
theorem dX11_hull_25 : decode cX11_hull 25 = .ok (.ireturn, 1) := by decide +kernel
theorem dX11_area_0 : decode cX11_area 0 = .ok (.aload_n 0, 1) := by decide +kernel
theorem dX11_area_1 : decode cX11_area 1 = .ok (.iconst 0, 1) := by decide +kernel
theorem dX11_area_2 : decode cX11_area 2 = .ok (.putfield 106, 3) := by decide +kernel
theorem dX11_area_5 : decode cX11_area 5 = .ok (.aload_n 0, 1) := by decide +kernel
theorem dX11_area_6 : decode cX11_area 6 = .ok (.iload_n 1, 1) := by decide +kernel
theorem dX11_area_7 : decode cX11_area 7 = .ok (.invokevirtual 283, 3) := by decide +kernel
theorem dX11_area_10 : decode cX11_area 10 = .ok (.ifCond .eq 5, 3) := by decide +kernel
theorem dX11_area_13 : decode cX11_area 13 = .ok (.iconst 0, 1) := by decide +kernel
theorem dX11_area_14 : decode cX11_area 14 = .ok (.ireturn, 1) := by decide +kernel
theorem dX11_area_15 : decode cX11_area 15 = .ok (.aload_n 0, 1) := by decide +kernel
theorem dX11_area_16 : decode cX11_area 16 = .ok (.iload_n 1, 1) := by decide +kernel
theorem dX11_area_17 : decode cX11_area 17 = .ok (.invokevirtual 352, 3) := by decide +kernel
theorem dX11_area_20 : decode cX11_area 20 = .ok (.iconst 0, 1) := by decide +kernel
theorem dX11_area_21 : decode cX11_area 21 = .ok (.istore_n 2, 1) := by decide +kernel
theorem dX11_area_22 : decode cX11_area 22 = .ok (.iconst 2, 1) := by decide +kernel
theorem dX11_area_23 : decode cX11_area 23 = .ok (.istore_n 3, 1) := by decide +kernel
theorem dX11_area_24 : decode cX11_area 24 = .ok (.iload_n 3, 1) := by decide +kernel
theorem dX11_area_25 : decode cX11_area 25 = .ok (.aload_n 0, 1) := by decide +kernel
theorem dX11_area_26 : decode cX11_area 26 = .ok (.getfield 331, 3) := by decide +kernel
theorem dX11_area_29 : decode cX11_area 29 = .ok (.if_icmp .ge 36, 3) := by decide +kernel
theorem dX11_area_32 : decode cX11_area 32 = .ok (.iload_n 2, 1) := by decide +kernel
theorem dX11_area_33 : decode cX11_area 33 = .ok (.aload_n 0, 1) := by decide +kernel
theorem dX11_area_34 : decode cX11_area 34 = .ok (.aload_n 0, 1) := by decide +kernel
theorem dX11_area_35 : decode cX11_area 35 = .ok (.getfield 97, 3) := by decide +kernel
theorem dX11_area_38 : decode cX11_area 38 = .ok (.iconst 0, 1) := by decide +kernel
theorem dX11_area_39 : decode cX11_area 39 = .ok (.iaload, 1) := by decide +kernel
theorem dX11_area_40 : decode cX11_area 40 = .ok (.aload_n 0, 1) := by decide +kernel
theorem dX11_area_41 : decode cX11_area 41 = .ok (.getfield 97, 3) := by decide +kernel
theorem dX11_area_44 : decode cX11_area 44 = .ok (.iload_n 3, 1) := by decide +kernel
theorem dX11_area_45 : decode cX11_area 45 = .ok (.iconst 1, 1) := by decide +kernel
theorem dX11_area_46 : decode cX11_area 46 = .ok (.isub, 1) := by decide +kernel
theorem dX11_area_47 : decode cX11_area 47 = .ok (.iaload, 1) := by decide +kernel
theorem dX11_area_48 : decode cX11_area 48 = .ok (.aload_n 0, 1) := by decide +kernel
theorem dX11_area_49 : decode cX11_area 49 = .ok (.getfield 97, 3) := by decide +kernel
theorem dX11_area_52 : decode cX11_area 52 = .ok (.iload_n 3, 1) := by decide +kernel
theorem dX11_area_53 : decode cX11_area 53 = .ok (.iaload, 1) := by decide +kernel
theorem dX11_area_54 : decode cX11_area 54 = .ok (.invokevirtual 349, 3) := by decide +kernel
theorem dX11_area_57 : decode cX11_area 57 = .ok (.iadd, 1) := by decide +kernel
theorem dX11_area_58 : decode cX11_area 58 = .ok (.istore_n 2, 1) := by decide +kernel
theorem dX11_area_59 : decode cX11_area 59 = .ok (.iinc 3 1, 3) := by decide +kernel
theorem dX11_area_62 : decode cX11_area 62 = .ok (.goto (-38), 3) := by decide +kernel
theorem dX11_area_65 : decode cX11_area 65 = .ok (.iload_n 2, 1) := by decide +kernel
theorem dX11_area_66 : decode cX11_area 66 = .ok (.ireturn, 1) := by decide +kernel
theorem dX11_middle_0 : decode cX11_middle 0 = .ok (.aload_n 0, 1) := by decide +kernel
theorem dX11_middle_1 : decode cX11_middle 1 = .ok (.iconst 0, 1) := by decide +kernel
theorem dX11_middle_2 : decode cX11_middle 2 = .ok (.putfield 106, 3) := by decide +kernel
theorem dX11_middle_5 : decode cX11_middle 5 = .ok (.iload_n 1, 1) := by decide +kernel
theorem dX11_middle_6 : decode cX11_middle 6 = .ok (.iconst (-1), 1) := by decide +kernel
theorem dX11_middle_7 : decode cX11_middle 7 = .ok (.if_icmp .eq 11, 3) := by decide +kernel
theorem dX11_middle_10 : decode cX11_middle 10 = .ok (.aload_n 0, 1) := by decide +kernel
theorem dX11_middle_11 : decode cX11_middle 11 = .ok (.iload_n 1, 1) := by decide +kernel
theorem dX11_middle_12 : decode cX11_middle 12 = .ok (.invokevirtual 280, 3) := by decide +kernel
theorem dX11_middle_15 : decode cX11_middle 15 = .ok (.ifCond .ne 11, 3) := by decide +kernel
theorem dX11_middle_18 : decode cX11_middle 18 = .ok (.aload_n 0, 1) := by decide +kernel
theorem dX11_middle_19 : decode cX11_middle 19 = .ok (.iload_n 2, 1) := by decide +kernel
theorem dX11_middle_20 : decode cX11_middle 20 = .ok (.invokevirtual 283, 3) := by decide +kernel
theorem dX11_middle_23 : decode cX11_middle 23 = .ok (.ifCond .eq 5, 3) := by decide +kernel
theorem dX11_middle_26 : decode cX11_middle 26 = .ok (.iconst 0, 1) := by decide +kernel
theorem dX11_middle_27 : decode cX11_middle 27 = .ok (.ireturn, 1) := by decide +kernel
theorem dX11_middle_28 : decode cX11_middle 28 = .ok (.aload_n 0, 1) := by decide +kernel
theorem dX11_middle_29 : decode cX11_middle 29 = .ok (.iload_n 2, 1) := by decide +kernel
theorem dX11_middle_30 : decode cX11_middle 30 = .ok (.invokevirtual 289, 3) := by decide +kernel
theorem dX11_middle_33 : decode cX11_middle 33 = .ok (.aload_n 0, 1) := by decide +kernel
theorem dX11_middle_34 : decode cX11_middle 34 = .ok (.iload_n 1, 1) := by decide +kernel
theorem dX11_middle_35 : decode cX11_middle 35 = .ok (.iload_n 2, 1) := by decide +kernel
theorem dX11_middle_36 : decode cX11_middle 36 = .ok (.invokevirtual 286, 3) := by decide +kernel
theorem dX11_middle_39 : decode cX11_middle 39 = .ok (.ifCond .ne 5, 3) := by decide +kernel
theorem dX11_middle_42 : decode cX11_middle 42 = .ok (.iconst (-1), 1) := by decide +kernel
theorem dX11_middle_43 : decode cX11_middle 43 = .ok (.ireturn, 1) := by decide +kernel
theorem dX11_middle_44 : decode cX11_middle 44 = .ok (.iconst (-1), 1) := by decide +kernel
theorem dX11_middle_45 : decode cX11_middle 45 = .ok (.istore_n 3, 1) := by decide +kernel
theorem dX11_middle_46 : decode cX11_middle 46 = .ok (.lconst 0, 1) := by decide +kernel
theorem dX11_middle_47 : decode cX11_middle 47 = .ok (.lstore 4, 2) := by decide +kernel
theorem dX11_middle_49 : decode cX11_middle 49 = .ok (.iconst 0, 1) := by decide +kernel
theorem dX11_middle_50 : decode cX11_middle 50 = .ok (.istore 6, 2) := by decide +kernel
theorem dX11_middle_52 : decode cX11_middle 52 = .ok (.iload 6, 2) := by decide +kernel
theorem dX11_middle_54 : decode cX11_middle 54 = .ok (.aload_n 0, 1) := by decide +kernel
theorem dX11_middle_55 : decode cX11_middle 55 = .ok (.invokevirtual 229, 3) := by decide +kernel
theorem dX11_middle_58 : decode cX11_middle 58 = .ok (.if_icmp .ge 76, 3) := by decide +kernel
theorem dX11_middle_61 : decode cX11_middle 61 = .ok (.lconst 0, 1) := by decide +kernel
theorem dX11_middle_62 : decode cX11_middle 62 = .ok (.lstore 7, 2) := by decide +kernel
theorem dX11_middle_64 : decode cX11_middle 64 = .ok (.iconst 0, 1) := by decide +kernel
theorem dX11_middle_65 : decode cX11_middle 65 = .ok (.istore 9, 2) := by decide +kernel
theorem dX11_middle_67 : decode cX11_middle 67 = .ok (.iload 9, 2) := by decide +kernel
theorem dX11_middle_69 : decode cX11_middle 69 = .ok (.aload_n 0, 1) := by decide +kernel
theorem dX11_middle_70 : decode cX11_middle 70 = .ok (.invokevirtual 229, 3) := by decide +kernel
theorem dX11_middle_73 : decode cX11_middle 73 = .ok (.if_icmp .ge 32, 3) := by decide +kernel
theorem dX11_middle_76 : decode cX11_middle 76 = .ok (.lload 7, 2) := by decide +kernel
theorem dX11_middle_78 : decode cX11_middle 78 = .ok (.aload_n 0, 1) := by decide +kernel
theorem dX11_middle_79 : decode cX11_middle 79 = .ok (.iload 9, 2) := by decide +kernel
theorem dX11_middle_81 : decode cX11_middle 81 = .ok (.iload_n 1, 1) := by decide +kernel
theorem dX11_middle_82 : decode cX11_middle 82 = .ok (.invokevirtual 252, 3) := by decide +kernel
theorem dX11_middle_85 : decode cX11_middle 85 = .ok (.i2l, 1) := by decide +kernel
theorem dX11_middle_86 : decode cX11_middle 86 = .ok (.aload_n 0, 1) := by decide +kernel
theorem dX11_middle_87 : decode cX11_middle 87 = .ok (.iload 6, 2) := by decide +kernel
theorem dX11_middle_89 : decode cX11_middle 89 = .ok (.iload 9, 2) := by decide +kernel
theorem dX11_middle_91 : decode cX11_middle 91 = .ok (.invokevirtual 236, 3) := by decide +kernel
theorem dX11_middle_94 : decode cX11_middle 94 = .ok (.i2l, 1) := by decide +kernel
theorem dX11_middle_95 : decode cX11_middle 95 = .ok (.lmul, 1) := by decide +kernel
theorem dX11_middle_96 : decode cX11_middle 96 = .ok (.ladd, 1) := by decide +kernel
theorem dX11_middle_97 : decode cX11_middle 97 = .ok (.lstore 7, 2) := by decide +kernel
theorem dX11_middle_99 : decode cX11_middle 99 = .ok (.iinc 9 1, 3) := by decide +kernel
theorem dX11_middle_102 : decode cX11_middle 102 = .ok (.goto (-35), 3) := by decide +kernel
theorem dX11_middle_105 : decode cX11_middle 105 = .ok (.iload_n 3, 1) := by decide +kernel
theorem dX11_middle_106 : decode cX11_middle 106 = .ok (.iconst (-1), 1) := by decide +kernel
theorem dX11_middle_107 : decode cX11_middle 107 = .ok (.if_icmp .eq 14, 3) := by decide +kernel
theorem dX11_middle_110 : decode cX11_middle 110 = .ok (.lload 7, 2) := by decide +kernel
theorem dX11_middle_112 : decode cX11_middle 112 = .ok (.lload 4, 2) := by decide +kernel
theorem dX11_middle_114 : decode cX11_middle 114 = .ok (.lcmp, 1) := by decide +kernel
theorem dX11_middle_115 : decode cX11_middle 115 = .ok (.ifCond .lt 6, 3) := by decide +kernel
theorem dX11_middle_118 : decode cX11_middle 118 = .ok (.goto 10, 3) := by decide +kernel
theorem dX11_middle_121 : decode cX11_middle 121 = .ok (.iload 6, 2) := by decide +kernel
theorem dX11_middle_123 : decode cX11_middle 123 = .ok (.istore_n 3, 1) := by decide +kernel
theorem dX11_middle_124 : decode cX11_middle 124 = .ok (.lload 7, 2) := by decide +kernel
theorem dX11_middle_126 : decode cX11_middle 126 = .ok (.lstore 4, 2) := by decide +kernel
theorem dX11_middle_128 : decode cX11_middle 128 = .ok (.iinc 6 1, 3) := by decide +kernel
theorem dX11_middle_131 : decode cX11_middle 131 = .ok (.goto (-79), 3) := by decide +kernel
theorem dX11_middle_134 : decode cX11_middle 134 = .ok (.iload_n 3, 1) := by decide +kernel
theorem dX11_middle_135 : decode cX11_middle 135 = .ok (.ireturn, 1) := by decide +kernel
theorem dX11_line__0 : decode cX11_line_ 0 = .ok (.aload_n 0, 1) := by decide +kernel
theorem dX11_line__1 : decode cX11_line_ 1 = .ok (.iconst 0, 1) := by decide +kernel
theorem dX11_line__2 : decode cX11_line_ 2 = .ok (.putfield 106, 3) := by decide +kernel
theorem dX11_line__5 : decode cX11_line_ 5 = .ok (.aload_n 0, 1) := by decide +kernel
theorem dX11_line__6 : decode cX11_line_ 6 = .ok (.iload_n 2, 1) := by decide +kernel
theorem dX11_line__7 : decode cX11_line_ 7 = .ok (.iconst 0, 1) := by decide +kernel
theorem dX11_line__8 : decode cX11_line_ 8 = .ok (.iload_n 1, 1) := by decide +kernel
theorem dX11_line__9 : decode cX11_line_ 9 = .ok (.ifCond .eq 12, 3) := by decide +kernel
theorem dX11_line__12 : decode cX11_line_ 12 = .ok (.aload_n 0, 1) := by decide +kernel
theorem dX11_line__13 : decode cX11_line_ 13 = .ok (.getfield 17, 3) := by decide +kernel
theorem dX11_line__16 : decode cX11_line_ 16 = .ok (.iconst 0, 1) := by decide +kernel
theorem dX11_line__17 : decode cX11_line_ 17 = .ok (.iaload, 1) := by decide +kernel
theorem dX11_line__18 : decode cX11_line_ 18 = .ok (.goto 9, 3) := by decide +kernel
theorem dX11_line__21 : decode cX11_line_ 21 = .ok (.aload_n 0, 1) := by decide +kernel
theorem dX11_line__22 : decode cX11_line_ 22 = .ok (.getfield 17, 3) := by decide +kernel
theorem dX11_line__25 : decode cX11_line_ 25 = .ok (.iconst 1, 1) := by decide +kernel
theorem dX11_line__26 : decode cX11_line_ 26 = .ok (.iaload, 1) := by decide +kernel
theorem dX11_line__27 : decode cX11_line_ 27 = .ok (.iconst 1, 1) := by decide +kernel
theorem dX11_line__28 : decode cX11_line_ 28 = .ok (.isub, 1) := by decide +kernel
theorem dX11_line__29 : decode cX11_line_ 29 = .ok (.invokestatic 169, 3) := by decide +kernel
theorem dX11_line__32 : decode cX11_line_ 32 = .ok (.ifCond .ne 7, 3) := by decide +kernel
theorem dX11_line__35 : decode cX11_line_ 35 = .ok (.iconst 1, 1) := by decide +kernel
theorem dX11_line__36 : decode cX11_line_ 36 = .ok (.goto 4, 3) := by decide +kernel
theorem dX11_line__39 : decode cX11_line_ 39 = .ok (.iconst 0, 1) := by decide +kernel
theorem dX11_line__40 : decode cX11_line_ 40 = .ok (.iconst 1, 1) := by decide +kernel
theorem dX11_line__41 : decode cX11_line_ 41 = .ok (.invokevirtual 215, 3) := by decide +kernel
theorem dX11_line__44 : decode cX11_line_ 44 = .ok (.ifCond .ne 11, 3) := by decide +kernel
theorem dX11_line__47 : decode cX11_line_ 47 = .ok (.aload_n 0, 1) := by decide +kernel
theorem dX11_line__48 : decode cX11_line_ 48 = .ok (.iload_n 3, 1) := by decide +kernel
theorem dX11_line__49 : decode cX11_line_ 49 = .ok (.invokevirtual 283, 3) := by decide +kernel
theorem dX11_line__52 : decode cX11_line_ 52 = .ok (.ifCond .eq 5, 3) := by decide +kernel
theorem dX11_line__55 : decode cX11_line_ 55 = .ok (.iconst 0, 1) := by decide +kernel
theorem dX11_line__56 : decode cX11_line_ 56 = .ok (.ireturn, 1) := by decide +kernel
theorem dX11_line__57 : decode cX11_line_ 57 = .ok (.aload_n 0, 1) := by decide +kernel
theorem dX11_line__58 : decode cX11_line_ 58 = .ok (.iload_n 3, 1) := by decide +kernel
theorem dX11_line__59 : decode cX11_line_ 59 = .ok (.invokevirtual 289, 3) := by decide +kernel
theorem dX11_line__62 : decode cX11_line_ 62 = .ok (.iconst 0, 1) := by decide +kernel
theorem dX11_line__63 : decode cX11_line_ 63 = .ok (.istore 4, 2) := by decide +kernel
theorem dX11_line__65 : decode cX11_line_ 65 = .ok (.iconst 0, 1) := by decide +kernel
theorem dX11_line__66 : decode cX11_line_ 66 = .ok (.istore 5, 2) := by decide +kernel
theorem dX11_line__68 : decode cX11_line_ 68 = .ok (.iload 5, 2) := by decide +kernel
theorem dX11_line__70 : decode cX11_line_ 70 = .ok (.aload_n 0, 1) := by decide +kernel
theorem dX11_line__71 : decode cX11_line_ 71 = .ok (.invokevirtual 229, 3) := by decide +kernel
theorem dX11_line__74 : decode cX11_line_ 74 = .ok (.if_icmp .ge 54, 3) := by decide +kernel
theorem dX11_line__77 : decode cX11_line_ 77 = .ok (.iload 4, 2) := by decide +kernel
theorem dX11_line__79 : decode cX11_line_ 79 = .ok (.iload_n 1, 1) := by decide +kernel
theorem dX11_line__80 : decode cX11_line_ 80 = .ok (.ifCond .eq 15, 3) := by decide +kernel
theorem dX11_line__83 : decode cX11_line_ 83 = .ok (.iload 5, 2) := by decide +kernel
theorem dX11_line__85 : decode cX11_line_ 85 = .ok (.aload_n 0, 1) := by decide +kernel
theorem dX11_line__86 : decode cX11_line_ 86 = .ok (.getfield 17, 3) := by decide +kernel
theorem dX11_line__89 : decode cX11_line_ 89 = .ok (.iconst 0, 1) := by decide +kernel
theorem dX11_line__90 : decode cX11_line_ 90 = .ok (.iaload, 1) := by decide +kernel
theorem dX11_line__91 : decode cX11_line_ 91 = .ok (.irem, 1) := by decide +kernel
theorem dX11_line__92 : decode cX11_line_ 92 = .ok (.goto 12, 3) := by decide +kernel
theorem dX11_line__95 : decode cX11_line_ 95 = .ok (.iload 5, 2) := by decide +kernel
theorem dX11_line__97 : decode cX11_line_ 97 = .ok (.aload_n 0, 1) := by decide +kernel
theorem dX11_line__98 : decode cX11_line_ 98 = .ok (.getfield 17, 3) := by decide +kernel
theorem dX11_line__101 : decode cX11_line_ 101 = .ok (.iconst 0, 1) := by decide +kernel
theorem dX11_line__102 : decode cX11_line_ 102 = .ok (.iaload, 1) := by decide +kernel
theorem dX11_line__103 : decode cX11_line_ 103 = .ok (.idiv, 1) := by decide +kernel
theorem dX11_line__104 : decode cX11_line_ 104 = .ok (.iload_n 2, 1) := by decide +kernel
theorem dX11_line__105 : decode cX11_line_ 105 = .ok (.if_icmp .ne 13, 3) := by decide +kernel
theorem dX11_line__108 : decode cX11_line_ 108 = .ok (.aload_n 0, 1) := by decide +kernel
theorem dX11_line__109 : decode cX11_line_ 109 = .ok (.iload 5, 2) := by decide +kernel
theorem dX11_line__111 : decode cX11_line_ 111 = .ok (.iconst (-1), 1) := by decide +kernel
theorem dX11_line__112 : decode cX11_line_ 112 = .ok (.invokevirtual 252, 3) := by decide +kernel
theorem dX11_line__115 : decode cX11_line_ 115 = .ok (.goto 4, 3) := by decide +kernel
theorem dX11_line__118 : decode cX11_line_ 118 = .ok (.iconst 0, 1) := by decide +kernel
theorem dX11_line__119 : decode cX11_line_ 119 = .ok (.iadd, 1) := by decide +kernel
theorem dX11_line__120 : decode cX11_line_ 120 = .ok (.istore 4, 2) := by decide +kernel
theorem dX11_line__122 : decode cX11_line_ 122 = .ok (.iinc 5 1, 3) := by decide +kernel
theorem dX11_line__125 : decode cX11_line_ 125 = .ok (.goto (-57), 3) := by decide +kernel
theorem dX11_line__128 : decode cX11_line_ 128 = .ok (.iload 4, 2) := by decide +kernel
theorem dX11_line__130 : decode cX11_line_ 130 = .ok (.ireturn, 1) := by decide +kernel
theorem dX11_keepsAll_0 : decode cX11_keepsAll 0 = .ok (.iconst 0, 1) := by decide +kernel
theorem dX11_keepsAll_1 : decode cX11_keepsAll 1 = .ok (.istore_n 1, 1) := by decide +kernel
theorem dX11_keepsAll_2 : decode cX11_keepsAll 2 = .ok (.iload_n 1, 1) := by decide +kernel
theorem dX11_keepsAll_3 : decode cX11_keepsAll 3 = .ok (.sipush 384, 3) := by decide +kernel
theorem dX11_keepsAll_6 : decode cX11_keepsAll 6 = .ok (.if_icmp .ge 21, 3) := by decide +kernel
theorem dX11_keepsAll_9 : decode cX11_keepsAll 9 = .ok (.aload_n 0, 1) := by decide +kernel
theorem dX11_keepsAll_10 : decode cX11_keepsAll 10 = .ok (.getfield 91, 3) := by decide +kernel
theorem dX11_keepsAll_13 : decode cX11_keepsAll 13 = .ok (.iload_n 1, 1) := by decide +kernel
theorem dX11_keepsAll_14 : decode cX11_keepsAll 14 = .ok (.aload_n 0, 1) := by decide +kernel
theorem dX11_keepsAll_15 : decode cX11_keepsAll 15 = .ok (.getfield 23, 3) := by decide +kernel
theorem dX11_keepsAll_18 : decode cX11_keepsAll 18 = .ok (.iload_n 1, 1) := by decide +kernel
theorem dX11_keepsAll_19 : decode cX11_keepsAll 19 = .ok (.iaload, 1) := by decide +kernel
theorem dX11_keepsAll_20 : decode cX11_keepsAll 20 = .ok (.iastore, 1) := by decide +kernel
theorem dX11_keepsAll_21 : decode cX11_keepsAll 21 = .ok (.iinc 1 1, 3) := by decide +kernel
theorem dX11_keepsAll_24 : decode cX11_keepsAll 24 = .ok (.goto (-22), 3) := by decide +kernel
theorem dX11_keepsAll_27 : decode cX11_keepsAll 27 = .ok (.iconst 0, 1) := by decide +kernel
theorem dX11_keepsAll_28 : decode cX11_keepsAll 28 = .ok (.istore_n 1, 1) := by decide +kernel
theorem dX11_keepsAll_29 : decode cX11_keepsAll 29 = .ok (.iload_n 1, 1) := by decide +kernel
theorem dX11_keepsAll_30 : decode cX11_keepsAll 30 = .ok (.bipush 24, 2) := by decide +kernel
theorem dX11_keepsAll_32 : decode cX11_keepsAll 32 = .ok (.if_icmp .ge 21, 3) := by decide +kernel
theorem dX11_keepsAll_35 : decode cX11_keepsAll 35 = .ok (.aload_n 0, 1) := by decide +kernel
theorem dX11_keepsAll_36 : decode cX11_keepsAll 36 = .ok (.getfield 94, 3) := by decide +kernel
theorem dX11_keepsAll_39 : decode cX11_keepsAll 39 = .ok (.iload_n 1, 1) := by decide +kernel
theorem dX11_keepsAll_40 : decode cX11_keepsAll 40 = .ok (.aload_n 0, 1) := by decide +kernel
theorem dX11_keepsAll_41 : decode cX11_keepsAll 41 = .ok (.getfield 36, 3) := by decide +kernel
theorem dX11_keepsAll_44 : decode cX11_keepsAll 44 = .ok (.iload_n 1, 1) := by decide +kernel
theorem dX11_keepsAll_45 : decode cX11_keepsAll 45 = .ok (.iaload, 1) := by decide +kernel
theorem dX11_keepsAll_46 : decode cX11_keepsAll 46 = .ok (.iastore, 1) := by decide +kernel
theorem dX11_keepsAll_47 : decode cX11_keepsAll 47 = .ok (.iinc 1 1, 3) := by decide +kernel
theorem dX11_keepsAll_50 : decode cX11_keepsAll 50 = .ok (.goto (-21), 3) := by decide +kernel
theorem dX11_keepsAll_53 : decode cX11_keepsAll 53 = .ok (.return_, 1) := by decide +kernel
theorem dX11_bringsBack_0 : decode cX11_bringsBack 0 = .ok (.iconst 0, 1) := by decide +kernel
theorem dX11_bringsBack_1 : decode cX11_bringsBack 1 = .ok (.istore_n 1, 1) := by decide +kernel
theorem dX11_bringsBack_2 : decode cX11_bringsBack 2 = .ok (.iload_n 1, 1) := by decide +kernel
theorem dX11_bringsBack_3 : decode cX11_bringsBack 3 = .ok (.sipush 384, 3) := by decide +kernel
theorem dX11_bringsBack_6 : decode cX11_bringsBack 6 = .ok (.if_icmp .ge 21, 3) := by decide +kernel
theorem dX11_bringsBack_9 : decode cX11_bringsBack 9 = .ok (.aload_n 0, 1) := by decide +kernel
theorem dX11_bringsBack_10 : decode cX11_bringsBack 10 = .ok (.getfield 23, 3) := by decide +kernel
theorem dX11_bringsBack_13 : decode cX11_bringsBack 13 = .ok (.iload_n 1, 1) := by decide +kernel
theorem dX11_bringsBack_14 : decode cX11_bringsBack 14 = .ok (.aload_n 0, 1) := by decide +kernel
theorem dX11_bringsBack_15 : decode cX11_bringsBack 15 = .ok (.getfield 91, 3) := by decide +kernel
theorem dX11_bringsBack_18 : decode cX11_bringsBack 18 = .ok (.iload_n 1, 1) := by decide +kernel
theorem dX11_bringsBack_19 : decode cX11_bringsBack 19 = .ok (.iaload, 1) := by decide +kernel
theorem dX11_bringsBack_20 : decode cX11_bringsBack 20 = .ok (.iastore, 1) := by decide +kernel
theorem dX11_bringsBack_21 : decode cX11_bringsBack 21 = .ok (.iinc 1 1, 3) := by decide +kernel
theorem dX11_bringsBack_24 : decode cX11_bringsBack 24 = .ok (.goto (-22), 3) := by decide +kernel
theorem dX11_bringsBack_27 : decode cX11_bringsBack 27 = .ok (.iconst 0, 1) := by decide +kernel
theorem dX11_bringsBack_28 : decode cX11_bringsBack 28 = .ok (.istore_n 1, 1) := by decide +kernel
theorem dX11_bringsBack_29 : decode cX11_bringsBack 29 = .ok (.iload_n 1, 1) := by decide +kernel
theorem dX11_bringsBack_30 : decode cX11_bringsBack 30 = .ok (.bipush 24, 2) := by decide +kernel
theorem dX11_bringsBack_32 : decode cX11_bringsBack 32 = .ok (.if_icmp .ge 21, 3) := by decide +kernel
theorem dX11_bringsBack_35 : decode cX11_bringsBack 35 = .ok (.aload_n 0, 1) := by decide +kernel
theorem dX11_bringsBack_36 : decode cX11_bringsBack 36 = .ok (.getfield 36, 3) := by decide +kernel
theorem dX11_bringsBack_39 : decode cX11_bringsBack 39 = .ok (.iload_n 1, 1) := by decide +kernel
theorem dX11_bringsBack_40 : decode cX11_bringsBack 40 = .ok (.aload_n 0, 1) := by decide +kernel
theorem dX11_bringsBack_41 : decode cX11_bringsBack 41 = .ok (.getfield 94, 3) := by decide +kernel
theorem dX11_bringsBack_44 : decode cX11_bringsBack 44 = .ok (.iload_n 1, 1) := by decide +kernel
theorem dX11_bringsBack_45 : decode cX11_bringsBack 45 = .ok (.iaload, 1) := by decide +kernel
theorem dX11_bringsBack_46 : decode cX11_bringsBack 46 = .ok (.iastore, 1) := by decide +kernel
theorem dX11_bringsBack_47 : decode cX11_bringsBack 47 = .ok (.iinc 1 1, 3) := by decide +kernel
theorem dX11_bringsBack_50 : decode cX11_bringsBack 50 = .ok (.goto (-21), 3) := by decide +kernel
theorem dX11_bringsBack_53 : decode cX11_bringsBack 53 = .ok (.aload_n 0, 1) := by decide +kernel
theorem dX11_bringsBack_54 : decode cX11_bringsBack 54 = .ok (.invokevirtual 219, 3) := by decide +kernel
theorem dX11_bringsBack_57 : decode cX11_bringsBack 57 = .ok (.return_, 1) := by decide +kernel
theorem dX11_joined_0 : decode cX11_joined 0 = .ok (.aload_n 0, 1) := by decide +kernel
theorem dX11_joined_1 : decode cX11_joined 1 = .ok (.iconst 0, 1) := by decide +kernel
theorem dX11_joined_2 : decode cX11_joined 2 = .ok (.putfield 106, 3) := by decide +kernel
theorem dX11_joined_5 : decode cX11_joined 5 = .ok (.aload_n 0, 1) := by decide +kernel
theorem dX11_joined_6 : decode cX11_joined 6 = .ok (.iload_n 1, 1) := by decide +kernel
theorem dX11_joined_7 : decode cX11_joined 7 = .ok (.invokevirtual 267, 3) := by decide +kernel
theorem dX11_joined_10 : decode cX11_joined 10 = .ok (.ifCond .ne 37, 3) := by decide +kernel
theorem dX11_joined_13 : decode cX11_joined 13 = .ok (.aload_n 0, 1) := by decide +kernel
theorem dX11_joined_14 : decode cX11_joined 14 = .ok (.iload_n 2, 1) := by decide +kernel
theorem dX11_joined_15 : decode cX11_joined 15 = .ok (.invokevirtual 267, 3) := by decide +kernel
theorem dX11_joined_18 : decode cX11_joined 18 = .ok (.ifCond .ne 29, 3) := by decide +kernel
theorem dX11_joined_21 : decode cX11_joined 21 = .ok (.aload_n 0, 1) := by decide +kernel
theorem dX11_joined_22 : decode cX11_joined 22 = .ok (.iload_n 3, 1) := by decide +kernel
theorem dX11_joined_23 : decode cX11_joined 23 = .ok (.invokevirtual 283, 3) := by decide +kernel
theorem dX11_joined_26 : decode cX11_joined 26 = .ok (.ifCond .ne 21, 3) := by decide +kernel
theorem dX11_joined_29 : decode cX11_joined 29 = .ok (.aload_n 0, 1) := by decide +kernel
theorem dX11_joined_30 : decode cX11_joined 30 = .ok (.iload_n 1, 1) := by decide +kernel
theorem dX11_joined_31 : decode cX11_joined 31 = .ok (.iload_n 2, 1) := by decide +kernel
theorem dX11_joined_32 : decode cX11_joined 32 = .ok (.if_icmp .ne 7, 3) := by decide +kernel
theorem dX11_joined_35 : decode cX11_joined 35 = .ok (.iconst 1, 1) := by decide +kernel
theorem dX11_joined_36 : decode cX11_joined 36 = .ok (.goto 4, 3) := by decide +kernel
theorem dX11_joined_39 : decode cX11_joined 39 = .ok (.iconst 0, 1) := by decide +kernel
theorem dX11_joined_40 : decode cX11_joined 40 = .ok (.iconst 2, 1) := by decide +kernel
theorem dX11_joined_41 : decode cX11_joined 41 = .ok (.invokevirtual 215, 3) := by decide +kernel
theorem dX11_joined_44 : decode cX11_joined 44 = .ok (.ifCond .eq 5, 3) := by decide +kernel
theorem dX11_joined_47 : decode cX11_joined 47 = .ok (.iconst 0, 1) := by decide +kernel
theorem dX11_joined_48 : decode cX11_joined 48 = .ok (.ireturn, 1) := by decide +kernel
theorem dX11_joined_49 : decode cX11_joined 49 = .ok (.aload_n 0, 1) := by decide +kernel
theorem dX11_joined_50 : decode cX11_joined 50 = .ok (.invokevirtual 310, 3) := by decide +kernel
theorem dX11_joined_53 : decode cX11_joined 53 = .ok (.iconst 0, 1) := by decide +kernel
theorem dX11_joined_54 : decode cX11_joined 54 = .ok (.istore 4, 2) := by decide +kernel
theorem dX11_joined_56 : decode cX11_joined 56 = .ok (.iload 4, 2) := by decide +kernel
theorem dX11_joined_58 : decode cX11_joined 58 = .ok (.aload_n 0, 1) := by decide +kernel
theorem dX11_joined_59 : decode cX11_joined 59 = .ok (.invokevirtual 229, 3) := by decide +kernel
theorem dX11_joined_62 : decode cX11_joined 62 = .ok (.if_icmp .ge 28, 3) := by decide +kernel
theorem dX11_joined_65 : decode cX11_joined 65 = .ok (.aload_n 0, 1) := by decide +kernel
theorem dX11_joined_66 : decode cX11_joined 66 = .ok (.getfield 23, 3) := by decide +kernel
theorem dX11_joined_69 : decode cX11_joined 69 = .ok (.iload 4, 2) := by decide +kernel
theorem dX11_joined_71 : decode cX11_joined 71 = .ok (.iaload, 1) := by decide +kernel
theorem dX11_joined_72 : decode cX11_joined 72 = .ok (.iload_n 2, 1) := by decide +kernel
theorem dX11_joined_73 : decode cX11_joined 73 = .ok (.if_icmp .ne 11, 3) := by decide +kernel
theorem dX11_joined_76 : decode cX11_joined 76 = .ok (.aload_n 0, 1) := by decide +kernel
theorem dX11_joined_77 : decode cX11_joined 77 = .ok (.getfield 23, 3) := by decide +kernel
theorem dX11_joined_80 : decode cX11_joined 80 = .ok (.iload 4, 2) := by decide +kernel
theorem dX11_joined_82 : decode cX11_joined 82 = .ok (.iload_n 1, 1) := by decide +kernel
theorem dX11_joined_83 : decode cX11_joined 83 = .ok (.iastore, 1) := by decide +kernel
theorem dX11_joined_84 : decode cX11_joined 84 = .ok (.iinc 4 1, 3) := by decide +kernel
theorem dX11_joined_87 : decode cX11_joined 87 = .ok (.goto (-31), 3) := by decide +kernel
theorem dX11_joined_90 : decode cX11_joined 90 = .ok (.iconst 0, 1) := by decide +kernel
theorem dX11_joined_91 : decode cX11_joined 91 = .ok (.istore 4, 2) := by decide +kernel
theorem dX11_joined_93 : decode cX11_joined 93 = .ok (.iload 4, 2) := by decide +kernel
theorem dX11_joined_95 : decode cX11_joined 95 = .ok (.aload_n 0, 1) := by decide +kernel
theorem dX11_joined_96 : decode cX11_joined 96 = .ok (.getfield 17, 3) := by decide +kernel
theorem dX11_joined_99 : decode cX11_joined 99 = .ok (.iconst 3, 1) := by decide +kernel
theorem dX11_joined_100 : decode cX11_joined 100 = .ok (.iaload, 1) := by decide +kernel
theorem dX11_joined_101 : decode cX11_joined 101 = .ok (.if_icmp .ge 71, 3) := by decide +kernel
theorem dX11_joined_104 : decode cX11_joined 104 = .ok (.aload_n 0, 1) := by decide +kernel
theorem dX11_joined_105 : decode cX11_joined 105 = .ok (.getfield 36, 3) := by decide +kernel
theorem dX11_joined_108 : decode cX11_joined 108 = .ok (.iconst 3, 1) := by decide +kernel
theorem dX11_joined_109 : decode cX11_joined 109 = .ok (.iload_n 1, 1) := by decide +kernel
theorem dX11_joined_110 : decode cX11_joined 110 = .ok (.imul, 1) := by decide +kernel
theorem dX11_joined_111 : decode cX11_joined 111 = .ok (.iload 4, 2) := by decide +kernel
theorem dX11_joined_113 : decode cX11_joined 113 = .ok (.iadd, 1) := by decide +kernel
theorem dX11_joined_114 : decode cX11_joined 114 = .ok (.iaload, 1) := by decide +kernel
theorem dX11_joined_115 : decode cX11_joined 115 = .ok (.aload_n 0, 1) := by decide +kernel
theorem dX11_joined_116 : decode cX11_joined 116 = .ok (.getfield 36, 3) := by decide +kernel
theorem dX11_joined_119 : decode cX11_joined 119 = .ok (.iconst 3, 1) := by decide +kernel
theorem dX11_joined_120 : decode cX11_joined 120 = .ok (.iload_n 2, 1) := by decide +kernel
theorem dX11_joined_121 : decode cX11_joined 121 = .ok (.imul, 1) := by decide +kernel
theorem dX11_joined_122 : decode cX11_joined 122 = .ok (.iload 4, 2) := by decide +kernel
theorem dX11_joined_124 : decode cX11_joined 124 = .ok (.iadd, 1) := by decide +kernel
theorem dX11_joined_125 : decode cX11_joined 125 = .ok (.iaload, 1) := by decide +kernel
theorem dX11_joined_126 : decode cX11_joined 126 = .ok (.iadd, 1) := by decide +kernel
theorem dX11_joined_127 : decode cX11_joined 127 = .ok (.istore 5, 2) := by decide +kernel
theorem dX11_joined_129 : decode cX11_joined 129 = .ok (.aload_n 0, 1) := by decide +kernel
theorem dX11_joined_130 : decode cX11_joined 130 = .ok (.getfield 36, 3) := by decide +kernel
theorem dX11_joined_133 : decode cX11_joined 133 = .ok (.iconst 3, 1) := by decide +kernel
theorem dX11_joined_134 : decode cX11_joined 134 = .ok (.iload_n 1, 1) := by decide +kernel
theorem dX11_joined_135 : decode cX11_joined 135 = .ok (.imul, 1) := by decide +kernel
theorem dX11_joined_136 : decode cX11_joined 136 = .ok (.iload 4, 2) := by decide +kernel
theorem dX11_joined_138 : decode cX11_joined 138 = .ok (.iadd, 1) := by decide +kernel
theorem dX11_joined_139 : decode cX11_joined 139 = .ok (.iload 5, 2) := by decide +kernel
theorem dX11_joined_141 : decode cX11_joined 141 = .ok (.ldc 194, 2) := by decide +kernel
theorem dX11_joined_143 : decode cX11_joined 143 = .ok (.if_icmp .le 8, 3) := by decide +kernel
theorem dX11_joined_146 : decode cX11_joined 146 = .ok (.ldc 194, 2) := by decide +kernel
theorem dX11_joined_148 : decode cX11_joined 148 = .ok (.goto 5, 3) := by decide +kernel
theorem dX11_joined_151 : decode cX11_joined 151 = .ok (.iload 5, 2) := by decide +kernel
theorem dX11_joined_153 : decode cX11_joined 153 = .ok (.iastore, 1) := by decide +kernel
theorem dX11_joined_154 : decode cX11_joined 154 = .ok (.aload_n 0, 1) := by decide +kernel
theorem dX11_joined_155 : decode cX11_joined 155 = .ok (.getfield 36, 3) := by decide +kernel
theorem dX11_joined_158 : decode cX11_joined 158 = .ok (.iconst 3, 1) := by decide +kernel
theorem dX11_joined_159 : decode cX11_joined 159 = .ok (.iload_n 2, 1) := by decide +kernel
theorem dX11_joined_160 : decode cX11_joined 160 = .ok (.imul, 1) := by decide +kernel
theorem dX11_joined_161 : decode cX11_joined 161 = .ok (.iload 4, 2) := by decide +kernel
theorem dX11_joined_163 : decode cX11_joined 163 = .ok (.iadd, 1) := by decide +kernel
theorem dX11_joined_164 : decode cX11_joined 164 = .ok (.iconst 0, 1) := by decide +kernel
theorem dX11_joined_165 : decode cX11_joined 165 = .ok (.iastore, 1) := by decide +kernel
theorem dX11_joined_166 : decode cX11_joined 166 = .ok (.iinc 4 1, 3) := by decide +kernel
theorem dX11_joined_169 : decode cX11_joined 169 = .ok (.goto (-76), 3) := by decide +kernel
theorem dX11_joined_172 : decode cX11_joined 172 = .ok (.aload_n 0, 1) := by decide +kernel
theorem dX11_joined_173 : decode cX11_joined 173 = .ok (.invokevirtual 219, 3) := by decide +kernel
theorem dX11_joined_176 : decode cX11_joined 176 = .ok (.aload_n 0, 1) := by decide +kernel
theorem dX11_joined_177 : decode cX11_joined 177 = .ok (.aload_n 0, 1) := by decide +kernel
theorem dX11_joined_178 : decode cX11_joined 178 = .ok (.getfield 48, 3) := by decide +kernel
theorem dX11_joined_181 : decode cX11_joined 181 = .ok (.invokevirtual 246, 3) := by decide +kernel
theorem dX11_joined_184 : decode cX11_joined 184 = .ok (.iconst 0, 1) := by decide +kernel
theorem dX11_joined_185 : decode cX11_joined 185 = .ok (.istore 4, 2) := by decide +kernel
theorem dX11_joined_187 : decode cX11_joined 187 = .ok (.iconst 0, 1) := by decide +kernel
theorem dX11_joined_188 : decode cX11_joined 188 = .ok (.istore 5, 2) := by decide +kernel
theorem dX11_joined_190 : decode cX11_joined 190 = .ok (.iload 5, 2) := by decide +kernel
theorem dX11_joined_192 : decode cX11_joined 192 = .ok (.aload_n 0, 1) := by decide +kernel
theorem dX11_joined_193 : decode cX11_joined 193 = .ok (.getfield 17, 3) := by decide +kernel
theorem dX11_joined_196 : decode cX11_joined 196 = .ok (.iconst 3, 1) := by decide +kernel
theorem dX11_joined_197 : decode cX11_joined 197 = .ok (.iaload, 1) := by decide +kernel
theorem dX11_joined_198 : decode cX11_joined 198 = .ok (.if_icmp .ge 26, 3) := by decide +kernel
theorem dX11_joined_201 : decode cX11_joined 201 = .ok (.iload 4, 2) := by decide +kernel
theorem dX11_joined_203 : decode cX11_joined 203 = .ok (.aload_n 0, 1) := by decide +kernel
theorem dX11_joined_204 : decode cX11_joined 204 = .ok (.getfield 70, 3) := by decide +kernel
theorem dX11_joined_207 : decode cX11_joined 207 = .ok (.iload_n 3, 1) := by decide +kernel
theorem dX11_joined_208 : decode cX11_joined 208 = .ok (.iload_n 1, 1) := by decide +kernel
theorem dX11_joined_209 : decode cX11_joined 209 = .ok (.iload 5, 2) := by decide +kernel
theorem dX11_joined_211 : decode cX11_joined 211 = .ok (.invokestatic 239, 3) := by decide +kernel
theorem dX11_joined_214 : decode cX11_joined 214 = .ok (.iaload, 1) := by decide +kernel
theorem dX11_joined_215 : decode cX11_joined 215 = .ok (.iadd, 1) := by decide +kernel
theorem dX11_joined_216 : decode cX11_joined 216 = .ok (.istore 4, 2) := by decide +kernel
theorem dX11_joined_218 : decode cX11_joined 218 = .ok (.iinc 5 1, 3) := by decide +kernel
theorem dX11_joined_221 : decode cX11_joined 221 = .ok (.goto (-31), 3) := by decide +kernel
theorem dX11_joined_224 : decode cX11_joined 224 = .ok (.aload_n 0, 1) := by decide +kernel
theorem dX11_joined_225 : decode cX11_joined 225 = .ok (.invokevirtual 313, 3) := by decide +kernel
theorem dX11_joined_228 : decode cX11_joined 228 = .ok (.iload 4, 2) := by decide +kernel
theorem dX11_joined_230 : decode cX11_joined 230 = .ok (.ireturn, 1) := by decide +kernel
theorem dX11_says_0 : decode cX11_says 0 = .ok (.aload_n 0, 1) := by decide +kernel
theorem dX11_says_1 : decode cX11_says 1 = .ok (.getfield 103, 3) := by decide +kernel
theorem dX11_says_4 : decode cX11_says 4 = .ok (.aload_n 0, 1) := by decide +kernel
theorem dX11_says_5 : decode cX11_says 5 = .ok (.getfield 355, 3) := by decide +kernel
theorem dX11_says_8 : decode cX11_says 8 = .ok (.iload_n 1, 1) := by decide +kernel
theorem dX11_says_9 : decode cX11_says 9 = .ok (.i2b, 1) := by decide +kernel
theorem dX11_says_10 : decode cX11_says 10 = .ok (.bastore, 1) := by decide +kernel
theorem dX11_says_11 : decode cX11_says 11 = .ok (.aload_n 0, 1) := by decide +kernel
theorem dX11_says_12 : decode cX11_says 12 = .ok (.dup, 1) := by decide +kernel
theorem dX11_says_13 : decode cX11_says 13 = .ok (.getfield 355, 3) := by decide +kernel
theorem dX11_says_16 : decode cX11_says 16 = .ok (.iconst 1, 1) := by decide +kernel
theorem dX11_says_17 : decode cX11_says 17 = .ok (.iadd, 1) := by decide +kernel
theorem dX11_says_18 : decode cX11_says 18 = .ok (.putfield 355, 3) := by decide +kernel
theorem dX11_says_21 : decode cX11_says 21 = .ok (.return_, 1) := by decide +kernel
theorem dX11_saysWord_0 : decode cX11_saysWord 0 = .ok (.iconst 0, 1) := by decide +kernel
theorem dX11_saysWord_1 : decode cX11_saysWord 1 = .ok (.istore_n 2, 1) := by decide +kernel
theorem dX11_saysWord_2 : decode cX11_saysWord 2 = .ok (.iload_n 2, 1) := by decide +kernel
theorem dX11_saysWord_3 : decode cX11_saysWord 3 = .ok (.aload_n 1, 1) := by decide +kernel
theorem dX11_saysWord_4 : decode cX11_saysWord 4 = .ok (.invokevirtual 147, 3) := by decide +kernel
theorem dX11_saysWord_7 : decode cX11_saysWord 7 = .ok (.if_icmp .ge 18, 3) := by decide +kernel
theorem dX11_saysWord_10 : decode cX11_saysWord 10 = .ok (.aload_n 0, 1) := by decide +kernel
theorem dX11_saysWord_11 : decode cX11_saysWord 11 = .ok (.aload_n 1, 1) := by decide +kernel
theorem dX11_saysWord_12 : decode cX11_saysWord 12 = .ok (.iload_n 2, 1) := by decide +kernel
theorem dX11_saysWord_13 : decode cX11_saysWord 13 = .ok (.invokevirtual 152, 3) := by decide +kernel
theorem dX11_saysWord_16 : decode cX11_saysWord 16 = .ok (.invokevirtual 358, 3) := by decide +kernel
theorem dX11_saysWord_19 : decode cX11_saysWord 19 = .ok (.iinc 2 1, 3) := by decide +kernel
theorem dX11_saysWord_22 : decode cX11_saysWord 22 = .ok (.goto (-20), 3) := by decide +kernel
theorem dX11_saysWord_25 : decode cX11_saysWord 25 = .ok (.return_, 1) := by decide +kernel
theorem dX11_saysNumber_0 : decode cX11_saysNumber 0 = .ok (.iload_n 1, 1) := by decide +kernel
theorem dX11_saysNumber_1 : decode cX11_saysNumber 1 = .ok (.bipush 9, 2) := by decide +kernel
theorem dX11_saysNumber_3 : decode cX11_saysNumber 3 = .ok (.if_icmp .le 11, 3) := by decide +kernel
theorem dX11_saysNumber_6 : decode cX11_saysNumber 6 = .ok (.aload_n 0, 1) := by decide +kernel
theorem dX11_saysNumber_7 : decode cX11_saysNumber 7 = .ok (.iload_n 1, 1) := by decide +kernel
theorem dX11_saysNumber_8 : decode cX11_saysNumber 8 = .ok (.bipush 10, 2) := by decide +kernel
theorem dX11_saysNumber_10 : decode cX11_saysNumber 10 = .ok (.idiv, 1) := by decide +kernel
theorem dX11_saysNumber_11 : decode cX11_saysNumber 11 = .ok (.invokevirtual 361, 3) := by decide +kernel
theorem dX11_saysNumber_14 : decode cX11_saysNumber 14 = .ok (.aload_n 0, 1) := by decide +kernel
theorem dX11_saysNumber_15 : decode cX11_saysNumber 15 = .ok (.bipush 48, 2) := by decide +kernel
theorem dX11_saysNumber_17 : decode cX11_saysNumber 17 = .ok (.iload_n 1, 1) := by decide +kernel
theorem dX11_saysNumber_18 : decode cX11_saysNumber 18 = .ok (.bipush 10, 2) := by decide +kernel
theorem dX11_saysNumber_20 : decode cX11_saysNumber 20 = .ok (.irem, 1) := by decide +kernel
theorem dX11_saysNumber_21 : decode cX11_saysNumber 21 = .ok (.iadd, 1) := by decide +kernel
theorem dX11_saysNumber_22 : decode cX11_saysNumber 22 = .ok (.invokevirtual 358, 3) := by decide +kernel
theorem dX11_saysNumber_25 : decode cX11_saysNumber 25 = .ok (.return_, 1) := by decide +kernel
theorem dX11_write_0 : decode cX11_write 0 = .ok (.aload_n 0, 1) := by decide +kernel
theorem dX11_write_1 : decode cX11_write 1 = .ok (.iconst 0, 1) := by decide +kernel
theorem dX11_write_2 : decode cX11_write 2 = .ok (.putfield 106, 3) := by decide +kernel
theorem dX11_write_5 : decode cX11_write 5 = .ok (.aload_n 0, 1) := by decide +kernel
theorem dX11_write_6 : decode cX11_write 6 = .ok (.iload_n 1, 1) := by decide +kernel
theorem dX11_write_7 : decode cX11_write 7 = .ok (.invokevirtual 267, 3) := by decide +kernel
theorem dX11_write_10 : decode cX11_write 10 = .ok (.ifCond .eq 5, 3) := by decide +kernel
theorem dX11_write_13 : decode cX11_write 13 = .ok (.iconst 0, 1) := by decide +kernel
theorem dX11_write_14 : decode cX11_write 14 = .ok (.ireturn, 1) := by decide +kernel
theorem dX11_write_15 : decode cX11_write 15 = .ok (.aload_n 0, 1) := by decide +kernel
theorem dX11_write_16 : decode cX11_write 16 = .ok (.iconst 0, 1) := by decide +kernel
theorem dX11_write_17 : decode cX11_write 17 = .ok (.putfield 355, 3) := by decide +kernel
theorem dX11_write_20 : decode cX11_write 20 = .ok (.iconst 0, 1) := by decide +kernel
theorem dX11_write_21 : decode cX11_write 21 = .ok (.istore_n 2, 1) := by decide +kernel
theorem dX11_write_22 : decode cX11_write 22 = .ok (.iload_n 2, 1) := by decide +kernel
theorem dX11_write_23 : decode cX11_write 23 = .ok (.aload_n 0, 1) := by decide +kernel
theorem dX11_write_24 : decode cX11_write 24 = .ok (.getfield 17, 3) := by decide +kernel
theorem dX11_write_27 : decode cX11_write 27 = .ok (.iconst 1, 1) := by decide +kernel
theorem dX11_write_28 : decode cX11_write 28 = .ok (.iaload, 1) := by decide +kernel
theorem dX11_write_29 : decode cX11_write 29 = .ok (.if_icmp .ge 186, 3) := by decide +kernel
theorem dX11_write_32 : decode cX11_write 32 = .ok (.aload_n 0, 1) := by decide +kernel
theorem dX11_write_33 : decode cX11_write 33 = .ok (.iload_n 1, 1) := by decide +kernel
theorem dX11_write_34 : decode cX11_write 34 = .ok (.iload_n 2, 1) := by decide +kernel
theorem dX11_write_35 : decode cX11_write 35 = .ok (.invokevirtual 277, 3) := by decide +kernel
theorem dX11_write_38 : decode cX11_write 38 = .ok (.ifCond .ne 6, 3) := by decide +kernel
theorem dX11_write_41 : decode cX11_write 41 = .ok (.goto 168, 3) := by decide +kernel
theorem dX11_write_44 : decode cX11_write 44 = .ok (.aload_n 0, 1) := by decide +kernel
theorem dX11_write_45 : decode cX11_write 45 = .ok (.ldc_w 364, 3) := by decide +kernel
theorem dX11_write_48 : decode cX11_write 48 = .ok (.invokevirtual 366, 3) := by decide +kernel
theorem dX11_write_51 : decode cX11_write 51 = .ok (.iconst 0, 1) := by decide +kernel
theorem dX11_write_52 : decode cX11_write 52 = .ok (.istore_n 3, 1) := by decide +kernel
theorem dX11_write_53 : decode cX11_write 53 = .ok (.iload_n 3, 1) := by decide +kernel
theorem dX11_write_54 : decode cX11_write 54 = .ok (.bipush 6, 2) := by decide +kernel
theorem dX11_write_56 : decode cX11_write 56 = .ok (.if_icmp .ge 38, 3) := by decide +kernel
theorem dX11_write_59 : decode cX11_write 59 = .ok (.aload_n 0, 1) := by decide +kernel
theorem dX11_write_60 : decode cX11_write 60 = .ok (.getfield 42, 3) := by decide +kernel
theorem dX11_write_63 : decode cX11_write 63 = .ok (.bipush 6, 2) := by decide +kernel
theorem dX11_write_65 : decode cX11_write 65 = .ok (.iload_n 1, 1) := by decide +kernel
theorem dX11_write_66 : decode cX11_write 66 = .ok (.imul, 1) := by decide +kernel
theorem dX11_write_67 : decode cX11_write 67 = .ok (.iload_n 3, 1) := by decide +kernel
theorem dX11_write_68 : decode cX11_write 68 = .ok (.iadd, 1) := by decide +kernel
theorem dX11_write_69 : decode cX11_write 69 = .ok (.baload, 1) := by decide +kernel
theorem dX11_write_70 : decode cX11_write 70 = .ok (.ifCond .eq 24, 3) := by decide +kernel
theorem dX11_write_73 : decode cX11_write 73 = .ok (.aload_n 0, 1) := by decide +kernel
theorem dX11_write_74 : decode cX11_write 74 = .ok (.aload_n 0, 1) := by decide +kernel
theorem dX11_write_75 : decode cX11_write 75 = .ok (.getfield 42, 3) := by decide +kernel
theorem dX11_write_78 : decode cX11_write 78 = .ok (.bipush 6, 2) := by decide +kernel
theorem dX11_write_80 : decode cX11_write 80 = .ok (.iload_n 1, 1) := by decide +kernel
theorem dX11_write_81 : decode cX11_write 81 = .ok (.imul, 1) := by decide +kernel
theorem dX11_write_82 : decode cX11_write 82 = .ok (.iload_n 3, 1) := by decide +kernel
theorem dX11_write_83 : decode cX11_write 83 = .ok (.iadd, 1) := by decide +kernel
theorem dX11_write_84 : decode cX11_write 84 = .ok (.baload, 1) := by decide +kernel
theorem dX11_write_85 : decode cX11_write 85 = .ok (.invokevirtual 358, 3) := by decide +kernel
theorem dX11_write_88 : decode cX11_write 88 = .ok (.iinc 3 1, 3) := by decide +kernel
theorem dX11_write_91 : decode cX11_write 91 = .ok (.goto (-38), 3) := by decide +kernel
theorem dX11_write_94 : decode cX11_write 94 = .ok (.aload_n 0, 1) := by decide +kernel
theorem dX11_write_95 : decode cX11_write 95 = .ok (.bipush 32, 2) := by decide +kernel
theorem dX11_write_97 : decode cX11_write 97 = .ok (.invokevirtual 358, 3) := by decide +kernel
theorem dX11_write_100 : decode cX11_write 100 = .ok (.aload_n 0, 1) := by decide +kernel
theorem dX11_write_101 : decode cX11_write 101 = .ok (.iload_n 2, 1) := by decide +kernel
theorem dX11_write_102 : decode cX11_write 102 = .ok (.invokevirtual 361, 3) := by decide +kernel
theorem dX11_write_105 : decode cX11_write 105 = .ok (.aload_n 0, 1) := by decide +kernel
theorem dX11_write_106 : decode cX11_write 106 = .ok (.ldc_w 369, 3) := by decide +kernel
theorem dX11_write_109 : decode cX11_write 109 = .ok (.invokevirtual 366, 3) := by decide +kernel
theorem dX11_write_112 : decode cX11_write 112 = .ok (.iconst 0, 1) := by decide +kernel
theorem dX11_write_113 : decode cX11_write 113 = .ok (.istore_n 3, 1) := by decide +kernel
theorem dX11_write_114 : decode cX11_write 114 = .ok (.iconst 0, 1) := by decide +kernel
theorem dX11_write_115 : decode cX11_write 115 = .ok (.istore 4, 2) := by decide +kernel
theorem dX11_write_117 : decode cX11_write 117 = .ok (.iload 4, 2) := by decide +kernel
theorem dX11_write_119 : decode cX11_write 119 = .ok (.aload_n 0, 1) := by decide +kernel
theorem dX11_write_120 : decode cX11_write 120 = .ok (.getfield 17, 3) := by decide +kernel
theorem dX11_write_123 : decode cX11_write 123 = .ok (.iconst 0, 1) := by decide +kernel
theorem dX11_write_124 : decode cX11_write 124 = .ok (.iaload, 1) := by decide +kernel
theorem dX11_write_125 : decode cX11_write 125 = .ok (.if_icmp .ge 78, 3) := by decide +kernel
theorem dX11_write_128 : decode cX11_write 128 = .ok (.aload_n 0, 1) := by decide +kernel
theorem dX11_write_129 : decode cX11_write 129 = .ok (.getfield 17, 3) := by decide +kernel
theorem dX11_write_132 : decode cX11_write 132 = .ok (.iconst 0, 1) := by decide +kernel
theorem dX11_write_133 : decode cX11_write 133 = .ok (.iaload, 1) := by decide +kernel
theorem dX11_write_134 : decode cX11_write 134 = .ok (.iload_n 2, 1) := by decide +kernel
theorem dX11_write_135 : decode cX11_write 135 = .ok (.imul, 1) := by decide +kernel
theorem dX11_write_136 : decode cX11_write 136 = .ok (.iload 4, 2) := by decide +kernel
theorem dX11_write_138 : decode cX11_write 138 = .ok (.iadd, 1) := by decide +kernel
theorem dX11_write_139 : decode cX11_write 139 = .ok (.istore 5, 2) := by decide +kernel
theorem dX11_write_141 : decode cX11_write 141 = .ok (.aload_n 0, 1) := by decide +kernel
theorem dX11_write_142 : decode cX11_write 142 = .ok (.iload_n 1, 1) := by decide +kernel
theorem dX11_write_143 : decode cX11_write 143 = .ok (.iload 5, 2) := by decide +kernel
theorem dX11_write_145 : decode cX11_write 145 = .ok (.invokevirtual 264, 3) := by decide +kernel
theorem dX11_write_148 : decode cX11_write 148 = .ok (.ifCond .ne 6, 3) := by decide +kernel
theorem dX11_write_151 : decode cX11_write 151 = .ok (.goto 46, 3) := by decide +kernel
theorem dX11_write_154 : decode cX11_write 154 = .ok (.iload_n 3, 1) := by decide +kernel
theorem dX11_write_155 : decode cX11_write 155 = .ok (.ifCond .eq 10, 3) := by decide +kernel
theorem dX11_write_158 : decode cX11_write 158 = .ok (.aload_n 0, 1) := by decide +kernel
theorem dX11_write_159 : decode cX11_write 159 = .ok (.ldc_w 371, 3) := by decide +kernel
theorem dX11_write_162 : decode cX11_write 162 = .ok (.invokevirtual 366, 3) := by decide +kernel
theorem dX11_write_165 : decode cX11_write 165 = .ok (.iconst 1, 1) := by decide +kernel
theorem dX11_write_166 : decode cX11_write 166 = .ok (.istore_n 3, 1) := by decide +kernel
theorem dX11_write_167 : decode cX11_write 167 = .ok (.aload_n 0, 1) := by decide +kernel
theorem dX11_write_168 : decode cX11_write 168 = .ok (.iload 4, 2) := by decide +kernel
theorem dX11_write_170 : decode cX11_write 170 = .ok (.invokevirtual 361, 3) := by decide +kernel
theorem dX11_write_173 : decode cX11_write 173 = .ok (.aload_n 0, 1) := by decide +kernel
theorem dX11_write_174 : decode cX11_write 174 = .ok (.bipush 45, 2) := by decide +kernel
theorem dX11_write_176 : decode cX11_write 176 = .ok (.invokevirtual 358, 3) := by decide +kernel
theorem dX11_write_179 : decode cX11_write 179 = .ok (.aload_n 0, 1) := by decide +kernel
theorem dX11_write_180 : decode cX11_write 180 = .ok (.aload_n 0, 1) := by decide +kernel
theorem dX11_write_181 : decode cX11_write 181 = .ok (.iload_n 1, 1) := by decide +kernel
theorem dX11_write_182 : decode cX11_write 182 = .ok (.iload 5, 2) := by decide +kernel
theorem dX11_write_184 : decode cX11_write 184 = .ok (.invokevirtual 316, 3) := by decide +kernel
theorem dX11_write_187 : decode cX11_write 187 = .ok (.aload_n 0, 1) := by decide +kernel
theorem dX11_write_188 : decode cX11_write 188 = .ok (.getfield 17, 3) := by decide +kernel
theorem dX11_write_191 : decode cX11_write 191 = .ok (.iconst 0, 1) := by decide +kernel
theorem dX11_write_192 : decode cX11_write 192 = .ok (.iaload, 1) := by decide +kernel
theorem dX11_write_193 : decode cX11_write 193 = .ok (.irem, 1) := by decide +kernel
theorem dX11_write_194 : decode cX11_write 194 = .ok (.invokevirtual 361, 3) := by decide +kernel
theorem dX11_write_197 : decode cX11_write 197 = .ok (.iinc 4 1, 3) := by decide +kernel
theorem dX11_write_200 : decode cX11_write 200 = .ok (.goto (-83), 3) := by decide +kernel
theorem dX11_write_203 : decode cX11_write 203 = .ok (.aload_n 0, 1) := by decide +kernel
theorem dX11_write_204 : decode cX11_write 204 = .ok (.bipush 59, 2) := by decide +kernel
theorem dX11_write_206 : decode cX11_write 206 = .ok (.invokevirtual 358, 3) := by decide +kernel
theorem dX11_write_209 : decode cX11_write 209 = .ok (.iinc 2 1, 3) := by decide +kernel
theorem dX11_write_212 : decode cX11_write 212 = .ok (.goto (-190), 3) := by decide +kernel
theorem dX11_write_215 : decode cX11_write 215 = .ok (.aload_n 0, 1) := by decide +kernel
theorem dX11_write_216 : decode cX11_write 216 = .ok (.getfield 355, 3) := by decide +kernel
theorem dX11_write_219 : decode cX11_write 219 = .ok (.ireturn, 1) := by decide +kernel
theorem dX11_octet_0 : decode cX11_octet 0 = .ok (.aload_n 0, 1) := by decide +kernel
theorem dX11_octet_1 : decode cX11_octet 1 = .ok (.iconst 0, 1) := by decide +kernel
theorem dX11_octet_2 : decode cX11_octet 2 = .ok (.putfield 106, 3) := by decide +kernel
theorem dX11_octet_5 : decode cX11_octet 5 = .ok (.iload_n 1, 1) := by decide +kernel
theorem dX11_octet_6 : decode cX11_octet 6 = .ok (.iconst 0, 1) := by decide +kernel
theorem dX11_octet_7 : decode cX11_octet 7 = .ok (.aload_n 0, 1) := by decide +kernel
theorem dX11_octet_8 : decode cX11_octet 8 = .ok (.getfield 355, 3) := by decide +kernel
theorem dX11_octet_11 : decode cX11_octet 11 = .ok (.iconst 1, 1) := by decide +kernel
theorem dX11_octet_12 : decode cX11_octet 12 = .ok (.isub, 1) := by decide +kernel
theorem dX11_octet_13 : decode cX11_octet 13 = .ok (.invokestatic 169, 3) := by decide +kernel
theorem dX11_octet_16 : decode cX11_octet 16 = .ok (.ifCond .eq 12, 3) := by decide +kernel
theorem dX11_octet_19 : decode cX11_octet 19 = .ok (.aload_n 0, 1) := by decide +kernel
theorem dX11_octet_20 : decode cX11_octet 20 = .ok (.getfield 103, 3) := by decide +kernel
theorem dX11_octet_23 : decode cX11_octet 23 = .ok (.iload_n 1, 1) := by decide +kernel
theorem dX11_octet_24 : decode cX11_octet 24 = .ok (.baload, 1) := by decide +kernel
theorem dX11_octet_25 : decode cX11_octet 25 = .ok (.goto 4, 3) := by decide +kernel
theorem dX11_octet_28 : decode cX11_octet 28 = .ok (.iconst (-1), 1) := by decide +kernel
theorem dX11_octet_29 : decode cX11_octet 29 = .ok (.ireturn, 1) := by decide +kernel
theorem dX11_cellsOf_0 : decode cX11_cellsOf 0 = .ok (.iconst 0, 1) := by decide +kernel
theorem dX11_cellsOf_1 : decode cX11_cellsOf 1 = .ok (.istore_n 2, 1) := by decide +kernel
theorem dX11_cellsOf_2 : decode cX11_cellsOf 2 = .ok (.iconst 0, 1) := by decide +kernel
theorem dX11_cellsOf_3 : decode cX11_cellsOf 3 = .ok (.istore_n 3, 1) := by decide +kernel
theorem dX11_cellsOf_4 : decode cX11_cellsOf 4 = .ok (.iload_n 3, 1) := by decide +kernel
theorem dX11_cellsOf_5 : decode cX11_cellsOf 5 = .ok (.aload_n 0, 1) := by decide +kernel
theorem dX11_cellsOf_6 : decode cX11_cellsOf 6 = .ok (.invokevirtual 229, 3) := by decide +kernel
theorem dX11_cellsOf_9 : decode cX11_cellsOf 9 = .ok (.if_icmp .ge 79, 3) := by decide +kernel
theorem dX11_cellsOf_12 : decode cX11_cellsOf 12 = .ok (.iload_n 2, 1) := by decide +kernel
theorem dX11_cellsOf_13 : decode cX11_cellsOf 13 = .ok (.iload_n 1, 1) := by decide +kernel
theorem dX11_cellsOf_14 : decode cX11_cellsOf 14 = .ok (.iconst 4, 1) := by decide +kernel
theorem dX11_cellsOf_15 : decode cX11_cellsOf 15 = .ok (.if_icmp .ne 20, 3) := by decide +kernel
theorem dX11_cellsOf_18 : decode cX11_cellsOf 18 = .ok (.aload_n 0, 1) := by decide +kernel
theorem dX11_cellsOf_19 : decode cX11_cellsOf 19 = .ok (.getfield 29, 3) := by decide +kernel
theorem dX11_cellsOf_22 : decode cX11_cellsOf 22 = .ok (.iload_n 3, 1) := by decide +kernel
theorem dX11_cellsOf_23 : decode cX11_cellsOf 23 = .ok (.baload, 1) := by decide +kernel
theorem dX11_cellsOf_24 : decode cX11_cellsOf 24 = .ok (.ifCond .eq 7, 3) := by decide +kernel
theorem dX11_cellsOf_27 : decode cX11_cellsOf 27 = .ok (.iconst 1, 1) := by decide +kernel
theorem dX11_cellsOf_28 : decode cX11_cellsOf 28 = .ok (.goto 52, 3) := by decide +kernel
theorem dX11_cellsOf_31 : decode cX11_cellsOf 31 = .ok (.iconst 0, 1) := by decide +kernel
theorem dX11_cellsOf_32 : decode cX11_cellsOf 32 = .ok (.goto 48, 3) := by decide +kernel
theorem dX11_cellsOf_35 : decode cX11_cellsOf 35 = .ok (.iload_n 1, 1) := by decide +kernel
theorem dX11_cellsOf_36 : decode cX11_cellsOf 36 = .ok (.iconst 5, 1) := by decide +kernel
theorem dX11_cellsOf_37 : decode cX11_cellsOf 37 = .ok (.if_icmp .ne 19, 3) := by decide +kernel
theorem dX11_cellsOf_40 : decode cX11_cellsOf 40 = .ok (.aload_n 0, 1) := by decide +kernel
theorem dX11_cellsOf_41 : decode cX11_cellsOf 41 = .ok (.iload_n 3, 1) := by decide +kernel
theorem dX11_cellsOf_42 : decode cX11_cellsOf 42 = .ok (.invokevirtual 261, 3) := by decide +kernel
theorem dX11_cellsOf_45 : decode cX11_cellsOf 45 = .ok (.ifCond .eq 7, 3) := by decide +kernel
theorem dX11_cellsOf_48 : decode cX11_cellsOf 48 = .ok (.iconst 1, 1) := by decide +kernel
theorem dX11_cellsOf_49 : decode cX11_cellsOf 49 = .ok (.goto 31, 3) := by decide +kernel
theorem dX11_cellsOf_52 : decode cX11_cellsOf 52 = .ok (.iconst 0, 1) := by decide +kernel
theorem dX11_cellsOf_53 : decode cX11_cellsOf 53 = .ok (.goto 27, 3) := by decide +kernel
theorem dX11_cellsOf_56 : decode cX11_cellsOf 56 = .ok (.aload_n 0, 1) := by decide +kernel
theorem dX11_cellsOf_57 : decode cX11_cellsOf 57 = .ok (.getfield 23, 3) := by decide +kernel
theorem dX11_cellsOf_60 : decode cX11_cellsOf 60 = .ok (.iload_n 3, 1) := by decide +kernel
theorem dX11_cellsOf_61 : decode cX11_cellsOf 61 = .ok (.iaload, 1) := by decide +kernel
theorem dX11_cellsOf_62 : decode cX11_cellsOf 62 = .ok (.iconst (-1), 1) := by decide +kernel
theorem dX11_cellsOf_63 : decode cX11_cellsOf 63 = .ok (.if_icmp .ne 16, 3) := by decide +kernel
theorem dX11_cellsOf_66 : decode cX11_cellsOf 66 = .ok (.aload_n 0, 1) := by decide +kernel
theorem dX11_cellsOf_67 : decode cX11_cellsOf 67 = .ok (.getfield 29, 3) := by decide +kernel
theorem dX11_cellsOf_70 : decode cX11_cellsOf 70 = .ok (.iload_n 3, 1) := by decide +kernel
theorem dX11_cellsOf_71 : decode cX11_cellsOf 71 = .ok (.baload, 1) := by decide +kernel
theorem dX11_cellsOf_72 : decode cX11_cellsOf 72 = .ok (.ifCond .ne 7, 3) := by decide +kernel
theorem dX11_cellsOf_75 : decode cX11_cellsOf 75 = .ok (.iconst 1, 1) := by decide +kernel
theorem dX11_cellsOf_76 : decode cX11_cellsOf 76 = .ok (.goto 4, 3) := by decide +kernel
theorem dX11_cellsOf_79 : decode cX11_cellsOf 79 = .ok (.iconst 0, 1) := by decide +kernel
theorem dX11_cellsOf_80 : decode cX11_cellsOf 80 = .ok (.iadd, 1) := by decide +kernel
theorem dX11_cellsOf_81 : decode cX11_cellsOf 81 = .ok (.istore_n 2, 1) := by decide +kernel
theorem dX11_cellsOf_82 : decode cX11_cellsOf 82 = .ok (.iinc 3 1, 3) := by decide +kernel
theorem dX11_cellsOf_85 : decode cX11_cellsOf 85 = .ok (.goto (-81), 3) := by decide +kernel
theorem dX11_cellsOf_88 : decode cX11_cellsOf 88 = .ok (.iload_n 2, 1) := by decide +kernel
theorem dX11_cellsOf_89 : decode cX11_cellsOf 89 = .ok (.ireturn, 1) := by decide +kernel
theorem dX11_count_0 : decode cX11_count 0 = .ok (.aload_n 0, 1) := by decide +kernel
theorem dX11_count_1 : decode cX11_count 1 = .ok (.iconst 0, 1) := by decide +kernel
theorem dX11_count_2 : decode cX11_count 2 = .ok (.putfield 106, 3) := by decide +kernel
theorem dX11_count_5 : decode cX11_count 5 = .ok (.iload_n 1, 1) := by decide +kernel
theorem dX11_count_6 : decode cX11_count 6 = .ok (.tableswitch 154 0 10 #[58, 58, 65, 72, 79, 79, 79, 85, 90, 95, 100], 58) := by decide +kernel
theorem dX11_count_64 : decode cX11_count 64 = .ok (.aload_n 0, 1) := by decide +kernel
theorem dX11_count_65 : decode cX11_count 65 = .ok (.getfield 17, 3) := by decide +kernel
theorem dX11_count_68 : decode cX11_count 68 = .ok (.iload_n 1, 1) := by decide +kernel
theorem dX11_count_69 : decode cX11_count 69 = .ok (.iaload, 1) := by decide +kernel
theorem dX11_count_70 : decode cX11_count 70 = .ok (.ireturn, 1) := by decide +kernel
theorem dX11_count_71 : decode cX11_count 71 = .ok (.aload_n 0, 1) := by decide +kernel
theorem dX11_count_72 : decode cX11_count 72 = .ok (.getfield 17, 3) := by decide +kernel
theorem dX11_count_75 : decode cX11_count 75 = .ok (.iconst 2, 1) := by decide +kernel
theorem dX11_count_76 : decode cX11_count 76 = .ok (.iaload, 1) := by decide +kernel
theorem dX11_count_77 : decode cX11_count 77 = .ok (.ireturn, 1) := by decide +kernel
theorem dX11_count_78 : decode cX11_count 78 = .ok (.aload_n 0, 1) := by decide +kernel
theorem dX11_count_79 : decode cX11_count 79 = .ok (.getfield 17, 3) := by decide +kernel
theorem dX11_count_82 : decode cX11_count 82 = .ok (.iconst 3, 1) := by decide +kernel
theorem dX11_count_83 : decode cX11_count 83 = .ok (.iaload, 1) := by decide +kernel
theorem dX11_count_84 : decode cX11_count 84 = .ok (.ireturn, 1) := by decide +kernel
theorem dX11_count_85 : decode cX11_count 85 = .ok (.aload_n 0, 1) := by decide +kernel
theorem dX11_count_86 : decode cX11_count 86 = .ok (.iload_n 1, 1) := by decide +kernel
theorem dX11_count_87 : decode cX11_count 87 = .ok (.invokevirtual 373, 3) := by decide +kernel
theorem dX11_count_90 : decode cX11_count 90 = .ok (.ireturn, 1) := by decide +kernel
theorem dX11_count_91 : decode cX11_count 91 = .ok (.aload_n 0, 1) := by decide +kernel
theorem dX11_count_92 : decode cX11_count 92 = .ok (.getfield 48, 3) := by decide +kernel
theorem dX11_count_95 : decode cX11_count 95 = .ok (.ireturn, 1) := by decide +kernel
theorem dX11_count_96 : decode cX11_count 96 = .ok (.aload_n 0, 1) := by decide +kernel
theorem dX11_count_97 : decode cX11_count 97 = .ok (.getfield 52, 3) := by decide +kernel
theorem dX11_count_100 : decode cX11_count 100 = .ok (.ireturn, 1) := by decide +kernel
theorem dX11_count_101 : decode cX11_count 101 = .ok (.aload_n 0, 1) := by decide +kernel
theorem dX11_count_102 : decode cX11_count 102 = .ok (.getfield 355, 3) := by decide +kernel
theorem dX11_count_105 : decode cX11_count 105 = .ok (.ireturn, 1) := by decide +kernel
theorem dX11_count_106 : decode cX11_count 106 = .ok (.iconst 0, 1) := by decide +kernel
theorem dX11_count_107 : decode cX11_count 107 = .ok (.istore_n 2, 1) := by decide +kernel
theorem dX11_count_108 : decode cX11_count 108 = .ok (.iconst 0, 1) := by decide +kernel
theorem dX11_count_109 : decode cX11_count 109 = .ok (.istore_n 3, 1) := by decide +kernel
theorem dX11_count_110 : decode cX11_count 110 = .ok (.iload_n 3, 1) := by decide +kernel
theorem dX11_count_111 : decode cX11_count 111 = .ok (.aload_n 0, 1) := by decide +kernel
theorem dX11_count_112 : decode cX11_count 112 = .ok (.invokevirtual 222, 3) := by decide +kernel
theorem dX11_count_115 : decode cX11_count 115 = .ok (.if_icmp .ge 43, 3) := by decide +kernel
theorem dX11_count_118 : decode cX11_count 118 = .ok (.iconst 0, 1) := by decide +kernel
theorem dX11_count_119 : decode cX11_count 119 = .ok (.istore 4, 2) := by decide +kernel
theorem dX11_count_121 : decode cX11_count 121 = .ok (.iload 4, 2) := by decide +kernel
theorem dX11_count_123 : decode cX11_count 123 = .ok (.aload_n 0, 1) := by decide +kernel
theorem dX11_count_124 : decode cX11_count 124 = .ok (.getfield 17, 3) := by decide +kernel
theorem dX11_count_127 : decode cX11_count 127 = .ok (.iconst 3, 1) := by decide +kernel
theorem dX11_count_128 : decode cX11_count 128 = .ok (.iaload, 1) := by decide +kernel
theorem dX11_count_129 : decode cX11_count 129 = .ok (.if_icmp .ge 23, 3) := by decide +kernel
theorem dX11_count_132 : decode cX11_count 132 = .ok (.iload_n 2, 1) := by decide +kernel
theorem dX11_count_133 : decode cX11_count 133 = .ok (.aload_n 0, 1) := by decide +kernel
theorem dX11_count_134 : decode cX11_count 134 = .ok (.getfield 36, 3) := by decide +kernel
theorem dX11_count_137 : decode cX11_count 137 = .ok (.iconst 3, 1) := by decide +kernel
theorem dX11_count_138 : decode cX11_count 138 = .ok (.iload_n 3, 1) := by decide +kernel
theorem dX11_count_139 : decode cX11_count 139 = .ok (.imul, 1) := by decide +kernel
theorem dX11_count_140 : decode cX11_count 140 = .ok (.iload 4, 2) := by decide +kernel
theorem dX11_count_142 : decode cX11_count 142 = .ok (.iadd, 1) := by decide +kernel
theorem dX11_count_143 : decode cX11_count 143 = .ok (.iaload, 1) := by decide +kernel
theorem dX11_count_144 : decode cX11_count 144 = .ok (.iadd, 1) := by decide +kernel
theorem dX11_count_145 : decode cX11_count 145 = .ok (.istore_n 2, 1) := by decide +kernel
theorem dX11_count_146 : decode cX11_count 146 = .ok (.iinc 4 1, 3) := by decide +kernel
theorem dX11_count_149 : decode cX11_count 149 = .ok (.goto (-28), 3) := by decide +kernel
theorem dX11_count_152 : decode cX11_count 152 = .ok (.iinc 3 1, 3) := by decide +kernel
theorem dX11_count_155 : decode cX11_count 155 = .ok (.goto (-45), 3) := by decide +kernel
theorem dX11_count_158 : decode cX11_count 158 = .ok (.iload_n 2, 1) := by decide +kernel
theorem dX11_count_159 : decode cX11_count 159 = .ok (.ireturn, 1) := by decide +kernel
theorem dX11_count_160 : decode cX11_count 160 = .ok (.iconst (-1), 1) := by decide +kernel
theorem dX11_count_161 : decode cX11_count 161 = .ok (.ireturn, 1) := by decide +kernel
theorem dJ9_max_7cf53_0 : decode cJ9_max_7cf53 0 = .ok (.iload_n 0, 1) := by decide +kernel
theorem dJ9_max_7cf53_1 : decode cJ9_max_7cf53 1 = .ok (.iload_n 1, 1) := by decide +kernel
theorem dJ9_max_7cf53_2 : decode cJ9_max_7cf53 2 = .ok (.if_icmp .lt 7, 3) := by decide +kernel
theorem dJ9_max_7cf53_5 : decode cJ9_max_7cf53 5 = .ok (.iload_n 0, 1) := by decide +kernel
theorem dJ9_max_7cf53_6 : decode cJ9_max_7cf53 6 = .ok (.goto 4, 3) := by decide +kernel
theorem dJ9_max_7cf53_9 : decode cJ9_max_7cf53 9 = .ok (.iload_n 1, 1) := by decide +kernel
theorem dJ9_max_7cf53_10 : decode cJ9_max_7cf53 10 = .ok (.ireturn, 1) := by decide +kernel
theorem dJ9_min_7cf53_0 : decode cJ9_min_7cf53 0 = .ok (.iload_n 0, 1) := by decide +kernel
theorem dJ9_min_7cf53_1 : decode cJ9_min_7cf53 1 = .ok (.iload_n 1, 1) := by decide +kernel
theorem dJ9_min_7cf53_2 : decode cJ9_min_7cf53 2 = .ok (.if_icmp .gt 7, 3) := by decide +kernel
theorem dJ9_min_7cf53_5 : decode cJ9_min_7cf53 5 = .ok (.iload_n 0, 1) := by decide +kernel
theorem dJ9_min_7cf53_6 : decode cJ9_min_7cf53 6 = .ok (.goto 4, 3) := by decide +kernel
theorem dJ9_min_7cf53_9 : decode cJ9_min_7cf53 9 = .ok (.iload_n 1, 1) := by decide +kernel
theorem dJ9_min_7cf53_10 : decode cJ9_min_7cf53 10 = .ok (.ireturn, 1) := by decide +kernel
theorem dJ0_length_8abf5_0 : decode cJ0_length_8abf5 0 = .ok (.aload_n 0, 1) := by decide +kernel
theorem dJ0_length_8abf5_1 : decode cJ0_length_8abf5 1 = .ok (.getfield 9, 3) := by decide +kernel
theorem dJ0_length_8abf5_4 : decode cJ0_length_8abf5 4 = .ok (.arraylength, 1) := by decide +kernel
theorem dJ0_length_8abf5_5 : decode cJ0_length_8abf5 5 = .ok (.aload_n 0, 1) := by decide +kernel
theorem dJ0_length_8abf5_6 : decode cJ0_length_8abf5 6 = .ok (.invokevirtual 335, 3) := by decide +kernel
theorem dJ0_length_8abf5_9 : decode cJ0_length_8abf5 9 = .ok (.ishr, 1) := by decide +kernel
theorem dJ0_length_8abf5_10 : decode cJ0_length_8abf5 10 = .ok (.ireturn, 1) := by decide +kernel
theorem dJ0_charAt_5068e_0 : decode cJ0_charAt_5068e 0 = .ok (.aload_n 0, 1) := by decide +kernel
theorem dJ0_charAt_5068e_1 : decode cJ0_charAt_5068e 1 = .ok (.invokevirtual 492, 3) := by decide +kernel
theorem dJ0_charAt_5068e_4 : decode cJ0_charAt_5068e 4 = .ok (.ifCond .eq 12, 3) := by decide +kernel
theorem dJ0_charAt_5068e_7 : decode cJ0_charAt_5068e 7 = .ok (.aload_n 0, 1) := by decide +kernel
theorem dJ0_charAt_5068e_8 : decode cJ0_charAt_5068e 8 = .ok (.getfield 9, 3) := by decide +kernel
theorem dJ0_charAt_5068e_11 : decode cJ0_charAt_5068e 11 = .ok (.iload_n 1, 1) := by decide +kernel
theorem dJ0_charAt_5068e_12 : decode cJ0_charAt_5068e 12 = .ok (.invokestatic 495, 3) := by decide +kernel
theorem dJ0_charAt_5068e_15 : decode cJ0_charAt_5068e 15 = .ok (.ireturn, 1) := by decide +kernel
theorem dJ0_charAt_5068e_16 : decode cJ0_charAt_5068e 16 = .ok (.aload_n 0, 1) := by decide +kernel
theorem dJ0_charAt_5068e_17 : decode cJ0_charAt_5068e 17 = .ok (.getfield 9, 3) := by decide +kernel
theorem dJ0_charAt_5068e_20 : decode cJ0_charAt_5068e 20 = .ok (.iload_n 1, 1) := by decide +kernel
theorem dJ0_charAt_5068e_21 : decode cJ0_charAt_5068e 21 = .ok (.invokestatic 498, 3) := by decide +kernel
theorem dJ0_charAt_5068e_24 : decode cJ0_charAt_5068e 24 = .ok (.ireturn, 1) := by decide +kernel
theorem dJ0_coder_7d493_0 : decode cJ0_coder_7d493 0 = .ok (.getstatic 38, 3) := by decide +kernel
theorem dJ0_coder_7d493_3 : decode cJ0_coder_7d493 3 = .ok (.ifCond .eq 10, 3) := by decide +kernel
theorem dJ0_coder_7d493_6 : decode cJ0_coder_7d493 6 = .ok (.aload_n 0, 1) := by decide +kernel
theorem dJ0_coder_7d493_7 : decode cJ0_coder_7d493 7 = .ok (.getfield 15, 3) := by decide +kernel
theorem dJ0_coder_7d493_10 : decode cJ0_coder_7d493 10 = .ok (.goto 4, 3) := by decide +kernel
theorem dJ0_coder_7d493_13 : decode cJ0_coder_7d493 13 = .ok (.iconst 1, 1) := by decide +kernel
theorem dJ0_coder_7d493_14 : decode cJ0_coder_7d493 14 = .ok (.ireturn, 1) := by decide +kernel
theorem dJ0_isLatin1_aae02_0 : decode cJ0_isLatin1_aae02 0 = .ok (.getstatic 38, 3) := by decide +kernel
theorem dJ0_isLatin1_aae02_3 : decode cJ0_isLatin1_aae02 3 = .ok (.ifCond .eq 14, 3) := by decide +kernel
theorem dJ0_isLatin1_aae02_6 : decode cJ0_isLatin1_aae02 6 = .ok (.aload_n 0, 1) := by decide +kernel
theorem dJ0_isLatin1_aae02_7 : decode cJ0_isLatin1_aae02 7 = .ok (.getfield 15, 3) := by decide +kernel
theorem dJ0_isLatin1_aae02_10 : decode cJ0_isLatin1_aae02 10 = .ok (.ifCond .ne 7, 3) := by decide +kernel
theorem dJ0_isLatin1_aae02_13 : decode cJ0_isLatin1_aae02 13 = .ok (.iconst 1, 1) := by decide +kernel
theorem dJ0_isLatin1_aae02_14 : decode cJ0_isLatin1_aae02 14 = .ok (.goto 4, 3) := by decide +kernel
theorem dJ0_isLatin1_aae02_17 : decode cJ0_isLatin1_aae02 17 = .ok (.iconst 0, 1) := by decide +kernel
theorem dJ0_isLatin1_aae02_18 : decode cJ0_isLatin1_aae02 18 = .ok (.ireturn, 1) := by decide +kernel
theorem dJ0_checkIndex_df160_0 : decode cJ0_checkIndex_df160 0 = .ok (.iload_n 0, 1) := by decide +kernel
theorem dJ0_checkIndex_df160_1 : decode cJ0_checkIndex_df160 1 = .ok (.iload_n 1, 1) := by decide +kernel
theorem dJ0_checkIndex_df160_2 : decode cJ0_checkIndex_df160 2 = .ok (.getstatic 1053, 3) := by decide +kernel
theorem dJ0_checkIndex_df160_5 : decode cJ0_checkIndex_df160 5 = .ok (.invokestatic 1059, 3) := by decide +kernel
theorem dJ0_checkIndex_df160_8 : decode cJ0_checkIndex_df160 8 = .ok (.pop, 1) := by decide +kernel
theorem dJ0_checkIndex_df160_9 : decode cJ0_checkIndex_df160 9 = .ok (.return_, 1) := by decide +kernel
theorem dJ1_charAt_3b067_0 : decode cJ1_charAt_3b067 0 = .ok (.iload_n 1, 1) := by decide +kernel
theorem dJ1_charAt_3b067_1 : decode cJ1_charAt_3b067 1 = .ok (.aload_n 0, 1) := by decide +kernel
theorem dJ1_charAt_3b067_2 : decode cJ1_charAt_3b067 2 = .ok (.arraylength, 1) := by decide +kernel
theorem dJ1_charAt_3b067_3 : decode cJ1_charAt_3b067 3 = .ok (.invokestatic 9, 3) := by decide +kernel
theorem dJ1_charAt_3b067_6 : decode cJ1_charAt_3b067 6 = .ok (.aload_n 0, 1) := by decide +kernel
theorem dJ1_charAt_3b067_7 : decode cJ1_charAt_3b067 7 = .ok (.iload_n 1, 1) := by decide +kernel
theorem dJ1_charAt_3b067_8 : decode cJ1_charAt_3b067 8 = .ok (.baload, 1) := by decide +kernel
theorem dJ1_charAt_3b067_9 : decode cJ1_charAt_3b067 9 = .ok (.sipush 255, 3) := by decide +kernel
theorem dJ1_charAt_3b067_12 : decode cJ1_charAt_3b067 12 = .ok (.iand, 1) := by decide +kernel
theorem dJ1_charAt_3b067_13 : decode cJ1_charAt_3b067 13 = .ok (.i2c, 1) := by decide +kernel
theorem dJ1_charAt_3b067_14 : decode cJ1_charAt_3b067 14 = .ok (.ireturn, 1) := by decide +kernel
theorem dJ2_getChar_3b067_0 : decode cJ2_getChar_3b067 0 = .ok (.getstatic 44, 3) := by decide +kernel
theorem dJ2_getChar_3b067_3 : decode cJ2_getChar_3b067 3 = .ok (.ifCond .ne 25, 3) := by decide +kernel
theorem dJ2_getChar_3b067_6 : decode cJ2_getChar_3b067 6 = .ok (.iload_n 1, 1) := by decide +kernel
theorem dJ2_getChar_3b067_7 : decode cJ2_getChar_3b067 7 = .ok (.ifCond .lt 11, 3) := by decide +kernel
theorem dJ2_getChar_3b067_10 : decode cJ2_getChar_3b067 10 = .ok (.iload_n 1, 1) := by decide +kernel
theorem dJ2_getChar_3b067_11 : decode cJ2_getChar_3b067 11 = .ok (.aload_n 0, 1) := by decide +kernel
theorem dJ2_getChar_3b067_12 : decode cJ2_getChar_3b067 12 = .ok (.invokestatic 48, 3) := by decide +kernel
theorem dJ2_getChar_3b067_15 : decode cJ2_getChar_3b067 15 = .ok (.if_icmp .lt 13, 3) := by decide +kernel
theorem dJ2_getChar_3b067_18 : decode cJ2_getChar_3b067 18 = .ok (.new 52, 3) := by decide +kernel
theorem dJ2_getChar_3b067_21 : decode cJ2_getChar_3b067 21 = .ok (.dup, 1) := by decide +kernel
theorem dJ2_getChar_3b067_22 : decode cJ2_getChar_3b067 22 = .ok (.ldc 54, 2) := by decide +kernel
theorem dJ2_getChar_3b067_24 : decode cJ2_getChar_3b067 24 = .ok (.invokespecial 56, 3) := by decide +kernel
theorem dJ2_getChar_3b067_27 : decode cJ2_getChar_3b067 27 = .ok (.athrow, 1) := by decide +kernel
theorem dJ2_getChar_3b067_28 : decode cJ2_getChar_3b067 28 = .ok (.iload_n 1, 1) := by decide +kernel
theorem dJ2_getChar_3b067_29 : decode cJ2_getChar_3b067 29 = .ok (.iconst 1, 1) := by decide +kernel
theorem dJ2_getChar_3b067_30 : decode cJ2_getChar_3b067 30 = .ok (.ishl, 1) := by decide +kernel
theorem dJ2_getChar_3b067_31 : decode cJ2_getChar_3b067 31 = .ok (.istore_n 1, 1) := by decide +kernel
theorem dJ2_getChar_3b067_32 : decode cJ2_getChar_3b067 32 = .ok (.aload_n 0, 1) := by decide +kernel
theorem dJ2_getChar_3b067_33 : decode cJ2_getChar_3b067 33 = .ok (.iload_n 1, 1) := by decide +kernel
theorem dJ2_getChar_3b067_34 : decode cJ2_getChar_3b067 34 = .ok (.iinc 1 1, 3) := by decide +kernel
theorem dJ2_getChar_3b067_37 : decode cJ2_getChar_3b067 37 = .ok (.baload, 1) := by decide +kernel
theorem dJ2_getChar_3b067_38 : decode cJ2_getChar_3b067 38 = .ok (.sipush 255, 3) := by decide +kernel
theorem dJ2_getChar_3b067_41 : decode cJ2_getChar_3b067 41 = .ok (.iand, 1) := by decide +kernel
theorem dJ2_getChar_3b067_42 : decode cJ2_getChar_3b067 42 = .ok (.getstatic 59, 3) := by decide +kernel
theorem dJ2_getChar_3b067_45 : decode cJ2_getChar_3b067 45 = .ok (.ishl, 1) := by decide +kernel
theorem dJ2_getChar_3b067_46 : decode cJ2_getChar_3b067 46 = .ok (.aload_n 0, 1) := by decide +kernel
theorem dJ2_getChar_3b067_47 : decode cJ2_getChar_3b067 47 = .ok (.iload_n 1, 1) := by decide +kernel
theorem dJ2_getChar_3b067_48 : decode cJ2_getChar_3b067 48 = .ok (.baload, 1) := by decide +kernel
theorem dJ2_getChar_3b067_49 : decode cJ2_getChar_3b067 49 = .ok (.sipush 255, 3) := by decide +kernel
theorem dJ2_getChar_3b067_52 : decode cJ2_getChar_3b067 52 = .ok (.iand, 1) := by decide +kernel
theorem dJ2_getChar_3b067_53 : decode cJ2_getChar_3b067 53 = .ok (.getstatic 63, 3) := by decide +kernel
theorem dJ2_getChar_3b067_56 : decode cJ2_getChar_3b067 56 = .ok (.ishl, 1) := by decide +kernel
theorem dJ2_getChar_3b067_57 : decode cJ2_getChar_3b067 57 = .ok (.ior, 1) := by decide +kernel
theorem dJ2_getChar_3b067_58 : decode cJ2_getChar_3b067 58 = .ok (.i2c, 1) := by decide +kernel
theorem dJ2_getChar_3b067_59 : decode cJ2_getChar_3b067 59 = .ok (.ireturn, 1) := by decide +kernel
theorem dJ2_length_9d52b_0 : decode cJ2_length_9d52b 0 = .ok (.aload_n 0, 1) := by decide +kernel
theorem dJ2_length_9d52b_1 : decode cJ2_length_9d52b 1 = .ok (.arraylength, 1) := by decide +kernel
theorem dJ2_length_9d52b_2 : decode cJ2_length_9d52b 2 = .ok (.iconst 1, 1) := by decide +kernel
theorem dJ2_length_9d52b_3 : decode cJ2_length_9d52b 3 = .ok (.ishr, 1) := by decide +kernel
theorem dJ2_length_9d52b_4 : decode cJ2_length_9d52b 4 = .ok (.ireturn, 1) := by decide +kernel
theorem dJ2_charAt_3b067_0 : decode cJ2_charAt_3b067 0 = .ok (.iload_n 1, 1) := by decide +kernel
theorem dJ2_charAt_3b067_1 : decode cJ2_charAt_3b067 1 = .ok (.aload_n 0, 1) := by decide +kernel
theorem dJ2_charAt_3b067_2 : decode cJ2_charAt_3b067 2 = .ok (.invokestatic 67, 3) := by decide +kernel
theorem dJ2_charAt_3b067_5 : decode cJ2_charAt_3b067 5 = .ok (.aload_n 0, 1) := by decide +kernel
theorem dJ2_charAt_3b067_6 : decode cJ2_charAt_3b067 6 = .ok (.iload_n 1, 1) := by decide +kernel
theorem dJ2_charAt_3b067_7 : decode cJ2_charAt_3b067 7 = .ok (.invokestatic 71, 3) := by decide +kernel
theorem dJ2_charAt_3b067_10 : decode cJ2_charAt_3b067 10 = .ok (.ireturn, 1) := by decide +kernel
theorem dJ2_checkIndex_2214a_0 : decode cJ2_checkIndex_2214a 0 = .ok (.iload_n 0, 1) := by decide +kernel
theorem dJ2_checkIndex_2214a_1 : decode cJ2_checkIndex_2214a 1 = .ok (.aload_n 1, 1) := by decide +kernel
theorem dJ2_checkIndex_2214a_2 : decode cJ2_checkIndex_2214a 2 = .ok (.invokestatic 48, 3) := by decide +kernel
theorem dJ2_checkIndex_2214a_5 : decode cJ2_checkIndex_2214a 5 = .ok (.invokestatic 414, 3) := by decide +kernel
theorem dJ2_checkIndex_2214a_8 : decode cJ2_checkIndex_2214a 8 = .ok (.return_, 1) := by decide +kernel
theorem dJ7_fill_53178_0 : decode cJ7_fill_53178 0 = .ok (.iconst 0, 1) := by decide +kernel
theorem dJ7_fill_53178_1 : decode cJ7_fill_53178 1 = .ok (.istore_n 2, 1) := by decide +kernel
theorem dJ7_fill_53178_2 : decode cJ7_fill_53178 2 = .ok (.aload_n 0, 1) := by decide +kernel
theorem dJ7_fill_53178_3 : decode cJ7_fill_53178 3 = .ok (.arraylength, 1) := by decide +kernel
theorem dJ7_fill_53178_4 : decode cJ7_fill_53178 4 = .ok (.istore_n 3, 1) := by decide +kernel
theorem dJ7_fill_53178_5 : decode cJ7_fill_53178 5 = .ok (.iload_n 2, 1) := by decide +kernel
theorem dJ7_fill_53178_6 : decode cJ7_fill_53178 6 = .ok (.iload_n 3, 1) := by decide +kernel
theorem dJ7_fill_53178_7 : decode cJ7_fill_53178 7 = .ok (.if_icmp .ge 13, 3) := by decide +kernel
theorem dJ7_fill_53178_10 : decode cJ7_fill_53178 10 = .ok (.aload_n 0, 1) := by decide +kernel
theorem dJ7_fill_53178_11 : decode cJ7_fill_53178 11 = .ok (.iload_n 2, 1) := by decide +kernel
theorem dJ7_fill_53178_12 : decode cJ7_fill_53178 12 = .ok (.iload_n 1, 1) := by decide +kernel
theorem dJ7_fill_53178_13 : decode cJ7_fill_53178 13 = .ok (.iastore, 1) := by decide +kernel
theorem dJ7_fill_53178_14 : decode cJ7_fill_53178 14 = .ok (.iinc 2 1, 3) := by decide +kernel
theorem dJ7_fill_53178_17 : decode cJ7_fill_53178 17 = .ok (.goto (-12), 3) := by decide +kernel
theorem dJ7_fill_53178_20 : decode cJ7_fill_53178 20 = .ok (.return_, 1) := by decide +kernel
theorem dJ3_checkIndex_8e157_0 : decode cJ3_checkIndex_8e157 0 = .ok (.iload_n 0, 1) := by decide +kernel
theorem dJ3_checkIndex_8e157_1 : decode cJ3_checkIndex_8e157 1 = .ok (.ifCond .lt 8, 3) := by decide +kernel
theorem dJ3_checkIndex_8e157_4 : decode cJ3_checkIndex_8e157 4 = .ok (.iload_n 0, 1) := by decide +kernel
theorem dJ3_checkIndex_8e157_5 : decode cJ3_checkIndex_8e157 5 = .ok (.iload_n 1, 1) := by decide +kernel
theorem dJ3_checkIndex_8e157_6 : decode cJ3_checkIndex_8e157 6 = .ok (.if_icmp .lt 10, 3) := by decide +kernel
theorem dJ3_checkIndex_8e157_9 : decode cJ3_checkIndex_8e157 9 = .ok (.aload_n 2, 1) := by decide +kernel
theorem dJ3_checkIndex_8e157_10 : decode cJ3_checkIndex_8e157 10 = .ok (.iload_n 0, 1) := by decide +kernel
theorem dJ3_checkIndex_8e157_11 : decode cJ3_checkIndex_8e157 11 = .ok (.iload_n 1, 1) := by decide +kernel
theorem dJ3_checkIndex_8e157_12 : decode cJ3_checkIndex_8e157 12 = .ok (.invokestatic 95, 3) := by decide +kernel
theorem dJ3_checkIndex_8e157_15 : decode cJ3_checkIndex_8e157 15 = .ok (.athrow, 1) := by decide +kernel
theorem dJ3_checkIndex_8e157_16 : decode cJ3_checkIndex_8e157 16 = .ok (.iload_n 0, 1) := by decide +kernel
theorem dJ3_checkIndex_8e157_17 : decode cJ3_checkIndex_8e157 17 = .ok (.ireturn, 1) := by decide +kernel
