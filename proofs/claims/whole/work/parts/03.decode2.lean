theorem dX9_readLine_68 : decode cX9_readLine 68 = .ok (.iconst 0, 1) := by decide +kernel
theorem dX9_readLine_69 : decode cX9_readLine 69 = .ok (.ireturn, 1) := by decide +kernel
theorem dX9_readLine_70 : decode cX9_readLine 70 = .ok (.aload_n 0, 1) := by decide +kernel
theorem dX9_readLine_71 : decode cX9_readLine 71 = .ok (.ldc 108, 2) := by decide +kernel
theorem dX9_readLine_73 : decode cX9_readLine 73 = .ok (.invokevirtual 84, 3) := by decide +kernel
theorem dX9_readLine_76 : decode cX9_readLine 76 = .ok (.ifCond .eq 9, 3) := by decide +kernel
theorem dX9_readLine_79 : decode cX9_readLine 79 = .ok (.aload_n 0, 1) := by decide +kernel
theorem dX9_readLine_80 : decode cX9_readLine 80 = .ok (.iconst (-1), 1) := by decide +kernel
theorem dX9_readLine_81 : decode cX9_readLine 81 = .ok (.invokevirtual 104, 3) := by decide +kernel
theorem dX9_readLine_84 : decode cX9_readLine 84 = .ok (.ireturn, 1) := by decide +kernel
theorem dX9_readLine_85 : decode cX9_readLine 85 = .ok (.aload_n 0, 1) := by decide +kernel
theorem dX9_readLine_86 : decode cX9_readLine 86 = .ok (.aload_n 0, 1) := by decide +kernel
theorem dX9_readLine_87 : decode cX9_readLine 87 = .ok (.getfield 29, 3) := by decide +kernel
theorem dX9_readLine_90 : decode cX9_readLine 90 = .ok (.invokevirtual 110, 3) := by decide +kernel
theorem dX9_readLine_93 : decode cX9_readLine 93 = .ok (.ireturn, 1) := by decide +kernel
theorem dX9_readGroups_0 : decode cX9_readGroups 0 = .ok (.aload_n 0, 1) := by decide +kernel
theorem dX9_readGroups_1 : decode cX9_readGroups 1 = .ok (.getfield 44, 3) := by decide +kernel
theorem dX9_readGroups_4 : decode cX9_readGroups 4 = .ok (.ifCond .ne 13, 3) := by decide +kernel
theorem dX9_readGroups_7 : decode cX9_readGroups 7 = .ok (.aload_n 0, 1) := by decide +kernel
theorem dX9_readGroups_8 : decode cX9_readGroups 8 = .ok (.getfield 18, 3) := by decide +kernel
theorem dX9_readGroups_11 : decode cX9_readGroups 11 = .ok (.getfield 113, 3) := by decide +kernel
theorem dX9_readGroups_14 : decode cX9_readGroups 14 = .ok (.ifCond .le 12, 3) := by decide +kernel
theorem dX9_readGroups_17 : decode cX9_readGroups 17 = .ok (.aload_n 0, 1) := by decide +kernel
theorem dX9_readGroups_18 : decode cX9_readGroups 18 = .ok (.aload_n 0, 1) := by decide +kernel
theorem dX9_readGroups_19 : decode cX9_readGroups 19 = .ok (.getfield 29, 3) := by decide +kernel
theorem dX9_readGroups_22 : decode cX9_readGroups 22 = .ok (.invokevirtual 110, 3) := by decide +kernel
theorem dX9_readGroups_25 : decode cX9_readGroups 25 = .ok (.ireturn, 1) := by decide +kernel
theorem dX9_readGroups_26 : decode cX9_readGroups 26 = .ok (.aload_n 0, 1) := by decide +kernel
theorem dX9_readGroups_27 : decode cX9_readGroups 27 = .ok (.iconst 1, 1) := by decide +kernel
theorem dX9_readGroups_28 : decode cX9_readGroups 28 = .ok (.iconst 3, 1) := by decide +kernel
theorem dX9_readGroups_29 : decode cX9_readGroups 29 = .ok (.invokevirtual 67, 3) := by decide +kernel
theorem dX9_readGroups_32 : decode cX9_readGroups 32 = .ok (.ifCond .ne 5, 3) := by decide +kernel
theorem dX9_readGroups_35 : decode cX9_readGroups 35 = .ok (.iconst 0, 1) := by decide +kernel
theorem dX9_readGroups_36 : decode cX9_readGroups 36 = .ok (.ireturn, 1) := by decide +kernel
theorem dX9_readGroups_37 : decode cX9_readGroups 37 = .ok (.aload_n 0, 1) := by decide +kernel
theorem dX9_readGroups_38 : decode cX9_readGroups 38 = .ok (.iconst 1, 1) := by decide +kernel
theorem dX9_readGroups_39 : decode cX9_readGroups 39 = .ok (.putfield 44, 3) := by decide +kernel
theorem dX9_readGroups_42 : decode cX9_readGroups 42 = .ok (.aload_n 0, 1) := by decide +kernel
theorem dX9_readGroups_43 : decode cX9_readGroups 43 = .ok (.getfield 18, 3) := by decide +kernel
theorem dX9_readGroups_46 : decode cX9_readGroups 46 = .ok (.aload_n 0, 1) := by decide +kernel
theorem dX9_readGroups_47 : decode cX9_readGroups 47 = .ok (.getfield 38, 3) := by decide +kernel
theorem dX9_readGroups_50 : decode cX9_readGroups 50 = .ok (.putfield 116, 3) := by decide +kernel
theorem dX9_readGroups_53 : decode cX9_readGroups 53 = .ok (.aload_n 0, 1) := by decide +kernel
theorem dX9_readGroups_54 : decode cX9_readGroups 54 = .ok (.bipush 59, 2) := by decide +kernel
theorem dX9_readGroups_56 : decode cX9_readGroups 56 = .ok (.invokevirtual 75, 3) := by decide +kernel
theorem dX9_readGroups_59 : decode cX9_readGroups 59 = .ok (.ireturn, 1) := by decide +kernel
theorem dX9_readZone_0 : decode cX9_readZone 0 = .ok (.aload_n 0, 1) := by decide +kernel
theorem dX9_readZone_1 : decode cX9_readZone 1 = .ok (.getfield 18, 3) := by decide +kernel
theorem dX9_readZone_4 : decode cX9_readZone 4 = .ok (.getfield 113, 3) := by decide +kernel
theorem dX9_readZone_7 : decode cX9_readZone 7 = .ok (.bipush 8, 2) := by decide +kernel
theorem dX9_readZone_9 : decode cX9_readZone 9 = .ok (.if_icmp .lt 12, 3) := by decide +kernel
theorem dX9_readZone_12 : decode cX9_readZone 12 = .ok (.aload_n 0, 1) := by decide +kernel
theorem dX9_readZone_13 : decode cX9_readZone 13 = .ok (.aload_n 0, 1) := by decide +kernel
theorem dX9_readZone_14 : decode cX9_readZone 14 = .ok (.getfield 29, 3) := by decide +kernel
theorem dX9_readZone_17 : decode cX9_readZone 17 = .ok (.invokevirtual 110, 3) := by decide +kernel
theorem dX9_readZone_20 : decode cX9_readZone 20 = .ok (.ireturn, 1) := by decide +kernel
theorem dX9_readZone_21 : decode cX9_readZone 21 = .ok (.aload_n 0, 1) := by decide +kernel
theorem dX9_readZone_22 : decode cX9_readZone 22 = .ok (.invokevirtual 79, 3) := by decide +kernel
theorem dX9_readZone_25 : decode cX9_readZone 25 = .ok (.ifCond .ne 5, 3) := by decide +kernel
theorem dX9_readZone_28 : decode cX9_readZone 28 = .ok (.iconst 0, 1) := by decide +kernel
theorem dX9_readZone_29 : decode cX9_readZone 29 = .ok (.ireturn, 1) := by decide +kernel
theorem dX9_readZone_30 : decode cX9_readZone 30 = .ok (.aload_n 0, 1) := by decide +kernel
theorem dX9_readZone_31 : decode cX9_readZone 31 = .ok (.getfield 32, 3) := by decide +kernel
theorem dX9_readZone_34 : decode cX9_readZone 34 = .ok (.bipush 6, 2) := by decide +kernel
theorem dX9_readZone_36 : decode cX9_readZone 36 = .ok (.if_icmp .gt 18, 3) := by decide +kernel
theorem dX9_readZone_39 : decode cX9_readZone 39 = .ok (.aload_n 0, 1) := by decide +kernel
theorem dX9_readZone_40 : decode cX9_readZone 40 = .ok (.invokevirtual 118, 3) := by decide +kernel
theorem dX9_readZone_43 : decode cX9_readZone 43 = .ok (.ifCond .ne 11, 3) := by decide +kernel
theorem dX9_readZone_46 : decode cX9_readZone 46 = .ok (.aload_n 0, 1) := by decide +kernel
theorem dX9_readZone_47 : decode cX9_readZone 47 = .ok (.invokevirtual 100, 3) := by decide +kernel
theorem dX9_readZone_50 : decode cX9_readZone 50 = .ok (.iconst (-1), 1) := by decide +kernel
theorem dX9_readZone_51 : decode cX9_readZone 51 = .ok (.if_icmp .eq 12, 3) := by decide +kernel
theorem dX9_readZone_54 : decode cX9_readZone 54 = .ok (.aload_n 0, 1) := by decide +kernel
theorem dX9_readZone_55 : decode cX9_readZone 55 = .ok (.aload_n 0, 1) := by decide +kernel
theorem dX9_readZone_56 : decode cX9_readZone 56 = .ok (.getfield 29, 3) := by decide +kernel
theorem dX9_readZone_59 : decode cX9_readZone 59 = .ok (.invokevirtual 110, 3) := by decide +kernel
theorem dX9_readZone_62 : decode cX9_readZone 62 = .ok (.ireturn, 1) := by decide +kernel
theorem dX9_readZone_63 : decode cX9_readZone 63 = .ok (.aload_n 0, 1) := by decide +kernel
theorem dX9_readZone_64 : decode cX9_readZone 64 = .ok (.getfield 18, 3) := by decide +kernel
theorem dX9_readZone_67 : decode cX9_readZone 67 = .ok (.getfield 113, 3) := by decide +kernel
theorem dX9_readZone_70 : decode cX9_readZone 70 = .ok (.istore_n 1, 1) := by decide +kernel
theorem dX9_readZone_71 : decode cX9_readZone 71 = .ok (.aload_n 0, 1) := by decide +kernel
theorem dX9_readZone_72 : decode cX9_readZone 72 = .ok (.getfield 22, 3) := by decide +kernel
theorem dX9_readZone_75 : decode cX9_readZone 75 = .ok (.aload_n 0, 1) := by decide +kernel
theorem dX9_readZone_76 : decode cX9_readZone 76 = .ok (.getfield 29, 3) := by decide +kernel
theorem dX9_readZone_79 : decode cX9_readZone 79 = .ok (.aload_n 0, 1) := by decide +kernel
theorem dX9_readZone_80 : decode cX9_readZone 80 = .ok (.getfield 18, 3) := by decide +kernel
theorem dX9_readZone_83 : decode cX9_readZone 83 = .ok (.getfield 121, 3) := by decide +kernel
theorem dX9_readZone_86 : decode cX9_readZone 86 = .ok (.iload_n 1, 1) := by decide +kernel
theorem dX9_readZone_87 : decode cX9_readZone 87 = .ok (.bipush 6, 2) := by decide +kernel
theorem dX9_readZone_89 : decode cX9_readZone 89 = .ok (.imul, 1) := by decide +kernel
theorem dX9_readZone_90 : decode cX9_readZone 90 = .ok (.aload_n 0, 1) := by decide +kernel
theorem dX9_readZone_91 : decode cX9_readZone 91 = .ok (.getfield 32, 3) := by decide +kernel
theorem dX9_readZone_94 : decode cX9_readZone 94 = .ok (.invokestatic 124, 3) := by decide +kernel
theorem dX9_readZone_97 : decode cX9_readZone 97 = .ok (.aload_n 0, 1) := by decide +kernel
theorem dX9_readZone_98 : decode cX9_readZone 98 = .ok (.getfield 18, 3) := by decide +kernel
theorem dX9_readZone_101 : decode cX9_readZone 101 = .ok (.getfield 130, 3) := by decide +kernel
theorem dX9_readZone_104 : decode cX9_readZone 104 = .ok (.iload_n 1, 1) := by decide +kernel
theorem dX9_readZone_105 : decode cX9_readZone 105 = .ok (.aload_n 0, 1) := by decide +kernel
theorem dX9_readZone_106 : decode cX9_readZone 106 = .ok (.getfield 32, 3) := by decide +kernel
theorem dX9_readZone_109 : decode cX9_readZone 109 = .ok (.iastore, 1) := by decide +kernel
theorem dX9_readZone_110 : decode cX9_readZone 110 = .ok (.aload_n 0, 1) := by decide +kernel
theorem dX9_readZone_111 : decode cX9_readZone 111 = .ok (.ldc 134, 2) := by decide +kernel
theorem dX9_readZone_113 : decode cX9_readZone 113 = .ok (.invokevirtual 63, 3) := by decide +kernel
theorem dX9_readZone_116 : decode cX9_readZone 116 = .ok (.ifCond .eq 20, 3) := by decide +kernel
theorem dX9_readZone_119 : decode cX9_readZone 119 = .ok (.aload_n 0, 1) := by decide +kernel
theorem dX9_readZone_120 : decode cX9_readZone 120 = .ok (.iload_n 1, 1) := by decide +kernel
theorem dX9_readZone_121 : decode cX9_readZone 121 = .ok (.invokevirtual 136, 3) := by decide +kernel
theorem dX9_readZone_124 : decode cX9_readZone 124 = .ok (.ifCond .eq 12, 3) := by decide +kernel
theorem dX9_readZone_127 : decode cX9_readZone 127 = .ok (.aload_n 0, 1) := by decide +kernel
theorem dX9_readZone_128 : decode cX9_readZone 128 = .ok (.bipush 59, 2) := by decide +kernel
theorem dX9_readZone_130 : decode cX9_readZone 130 = .ok (.invokevirtual 75, 3) := by decide +kernel
theorem dX9_readZone_133 : decode cX9_readZone 133 = .ok (.ifCond .ne 5, 3) := by decide +kernel
theorem dX9_readZone_136 : decode cX9_readZone 136 = .ok (.iconst 0, 1) := by decide +kernel
theorem dX9_readZone_137 : decode cX9_readZone 137 = .ok (.ireturn, 1) := by decide +kernel
theorem dX9_readZone_138 : decode cX9_readZone 138 = .ok (.aload_n 0, 1) := by decide +kernel
theorem dX9_readZone_139 : decode cX9_readZone 139 = .ok (.getfield 18, 3) := by decide +kernel
theorem dX9_readZone_142 : decode cX9_readZone 142 = .ok (.dup, 1) := by decide +kernel
theorem dX9_readZone_143 : decode cX9_readZone 143 = .ok (.getfield 113, 3) := by decide +kernel
theorem dX9_readZone_146 : decode cX9_readZone 146 = .ok (.iconst 1, 1) := by decide +kernel
theorem dX9_readZone_147 : decode cX9_readZone 147 = .ok (.iadd, 1) := by decide +kernel
theorem dX9_readZone_148 : decode cX9_readZone 148 = .ok (.putfield 113, 3) := by decide +kernel
theorem dX9_readZone_151 : decode cX9_readZone 151 = .ok (.iconst 1, 1) := by decide +kernel
theorem dX9_readZone_152 : decode cX9_readZone 152 = .ok (.ireturn, 1) := by decide +kernel
theorem dX9_readPeople_0 : decode cX9_readPeople 0 = .ok (.iconst 0, 1) := by decide +kernel
theorem dX9_readPeople_1 : decode cX9_readPeople 1 = .ok (.istore_n 2, 1) := by decide +kernel
theorem dX9_readPeople_2 : decode cX9_readPeople 2 = .ok (.iload_n 2, 1) := by decide +kernel
theorem dX9_readPeople_3 : decode cX9_readPeople 3 = .ok (.aload_n 0, 1) := by decide +kernel
theorem dX9_readPeople_4 : decode cX9_readPeople 4 = .ok (.getfield 18, 3) := by decide +kernel
theorem dX9_readPeople_7 : decode cX9_readPeople 7 = .ok (.getfield 116, 3) := by decide +kernel
theorem dX9_readPeople_10 : decode cX9_readPeople 10 = .ok (.if_icmp .ge 49, 3) := by decide +kernel
theorem dX9_readPeople_13 : decode cX9_readPeople 13 = .ok (.iload_n 2, 1) := by decide +kernel
theorem dX9_readPeople_14 : decode cX9_readPeople 14 = .ok (.ifCond .le 14, 3) := by decide +kernel
theorem dX9_readPeople_17 : decode cX9_readPeople 17 = .ok (.aload_n 0, 1) := by decide +kernel
theorem dX9_readPeople_18 : decode cX9_readPeople 18 = .ok (.bipush 44, 2) := by decide +kernel
theorem dX9_readPeople_20 : decode cX9_readPeople 20 = .ok (.invokevirtual 75, 3) := by decide +kernel
theorem dX9_readPeople_23 : decode cX9_readPeople 23 = .ok (.ifCond .ne 5, 3) := by decide +kernel
theorem dX9_readPeople_26 : decode cX9_readPeople 26 = .ok (.iconst 0, 1) := by decide +kernel
theorem dX9_readPeople_27 : decode cX9_readPeople 27 = .ok (.ireturn, 1) := by decide +kernel
theorem dX9_readPeople_28 : decode cX9_readPeople 28 = .ok (.aload_n 0, 1) := by decide +kernel
theorem dX9_readPeople_29 : decode cX9_readPeople 29 = .ok (.iconst 0, 1) := by decide +kernel
theorem dX9_readPeople_30 : decode cX9_readPeople 30 = .ok (.ldc 139, 2) := by decide +kernel
theorem dX9_readPeople_32 : decode cX9_readPeople 32 = .ok (.invokevirtual 67, 3) := by decide +kernel
theorem dX9_readPeople_35 : decode cX9_readPeople 35 = .ok (.ifCond .ne 5, 3) := by decide +kernel
theorem dX9_readPeople_38 : decode cX9_readPeople 38 = .ok (.iconst 0, 1) := by decide +kernel
theorem dX9_readPeople_39 : decode cX9_readPeople 39 = .ok (.ireturn, 1) := by decide +kernel
theorem dX9_readPeople_40 : decode cX9_readPeople 40 = .ok (.aload_n 0, 1) := by decide +kernel
theorem dX9_readPeople_41 : decode cX9_readPeople 41 = .ok (.getfield 18, 3) := by decide +kernel
theorem dX9_readPeople_44 : decode cX9_readPeople 44 = .ok (.iload_n 1, 1) := by decide +kernel
theorem dX9_readPeople_45 : decode cX9_readPeople 45 = .ok (.iload_n 2, 1) := by decide +kernel
theorem dX9_readPeople_46 : decode cX9_readPeople 46 = .ok (.aload_n 0, 1) := by decide +kernel
theorem dX9_readPeople_47 : decode cX9_readPeople 47 = .ok (.getfield 38, 3) := by decide +kernel
theorem dX9_readPeople_50 : decode cX9_readPeople 50 = .ok (.invokevirtual 140, 3) := by decide +kernel
theorem dX9_readPeople_53 : decode cX9_readPeople 53 = .ok (.iinc 2 1, 3) := by decide +kernel
theorem dX9_readPeople_56 : decode cX9_readPeople 56 = .ok (.goto (-54), 3) := by decide +kernel
theorem dX9_readPeople_59 : decode cX9_readPeople 59 = .ok (.iconst 1, 1) := by decide +kernel
theorem dX9_readPeople_60 : decode cX9_readPeople 60 = .ok (.ireturn, 1) := by decide +kernel
theorem dX9_readToldName_0 : decode cX9_readToldName 0 = .ok (.aload_n 0, 1) := by decide +kernel
theorem dX9_readToldName_1 : decode cX9_readToldName 1 = .ok (.invokevirtual 79, 3) := by decide +kernel
theorem dX9_readToldName_4 : decode cX9_readToldName 4 = .ok (.ifCond .ne 5, 3) := by decide +kernel
theorem dX9_readToldName_7 : decode cX9_readToldName 7 = .ok (.iconst 0, 1) := by decide +kernel
theorem dX9_readToldName_8 : decode cX9_readToldName 8 = .ok (.ireturn, 1) := by decide +kernel
theorem dX9_readToldName_9 : decode cX9_readToldName 9 = .ok (.aload_n 0, 1) := by decide +kernel
theorem dX9_readToldName_10 : decode cX9_readToldName 10 = .ok (.invokevirtual 100, 3) := by decide +kernel
theorem dX9_readToldName_13 : decode cX9_readToldName 13 = .ok (.iconst (-1), 1) := by decide +kernel
theorem dX9_readToldName_14 : decode cX9_readToldName 14 = .ok (.if_icmp .ne 14, 3) := by decide +kernel
theorem dX9_readToldName_17 : decode cX9_readToldName 17 = .ok (.aload_n 0, 1) := by decide +kernel
theorem dX9_readToldName_18 : decode cX9_readToldName 18 = .ok (.aload_n 0, 1) := by decide +kernel
theorem dX9_readToldName_19 : decode cX9_readToldName 19 = .ok (.getfield 29, 3) := by decide +kernel
theorem dX9_readToldName_22 : decode cX9_readToldName 22 = .ok (.invokevirtual 110, 3) := by decide +kernel
theorem dX9_readToldName_25 : decode cX9_readToldName 25 = .ok (.ifCond .eq 7, 3) := by decide +kernel
theorem dX9_readToldName_28 : decode cX9_readToldName 28 = .ok (.iconst 1, 1) := by decide +kernel
theorem dX9_readToldName_29 : decode cX9_readToldName 29 = .ok (.goto 4, 3) := by decide +kernel
theorem dX9_readToldName_32 : decode cX9_readToldName 32 = .ok (.iconst 0, 1) := by decide +kernel
theorem dX9_readToldName_33 : decode cX9_readToldName 33 = .ok (.ireturn, 1) := by decide +kernel
theorem dX9_readRuns_0 : decode cX9_readRuns 0 = .ok (.aload_n 0, 1) := by decide +kernel
theorem dX9_readRuns_1 : decode cX9_readRuns 1 = .ok (.iconst 0, 1) := by decide +kernel
theorem dX9_readRuns_2 : decode cX9_readRuns 2 = .ok (.aload_n 0, 1) := by decide +kernel
theorem dX9_readRuns_3 : decode cX9_readRuns 3 = .ok (.getfield 18, 3) := by decide +kernel
theorem dX9_readRuns_6 : decode cX9_readRuns 6 = .ok (.getfield 144, 3) := by decide +kernel
theorem dX9_readRuns_9 : decode cX9_readRuns 9 = .ok (.iconst 1, 1) := by decide +kernel
theorem dX9_readRuns_10 : decode cX9_readRuns 10 = .ok (.isub, 1) := by decide +kernel
theorem dX9_readRuns_11 : decode cX9_readRuns 11 = .ok (.invokevirtual 67, 3) := by decide +kernel
theorem dX9_readRuns_14 : decode cX9_readRuns 14 = .ok (.ifCond .ne 5, 3) := by decide +kernel
theorem dX9_readRuns_17 : decode cX9_readRuns 17 = .ok (.iconst 0, 1) := by decide +kernel
theorem dX9_readRuns_18 : decode cX9_readRuns 18 = .ok (.ireturn, 1) := by decide +kernel
theorem dX9_readRuns_19 : decode cX9_readRuns 19 = .ok (.aload_n 0, 1) := by decide +kernel
theorem dX9_readRuns_20 : decode cX9_readRuns 20 = .ok (.getfield 38, 3) := by decide +kernel
theorem dX9_readRuns_23 : decode cX9_readRuns 23 = .ok (.istore_n 2, 1) := by decide +kernel
theorem dX9_readRuns_24 : decode cX9_readRuns 24 = .ok (.aload_n 0, 1) := by decide +kernel
theorem dX9_readRuns_25 : decode cX9_readRuns 25 = .ok (.bipush 58, 2) := by decide +kernel
theorem dX9_readRuns_27 : decode cX9_readRuns 27 = .ok (.invokevirtual 75, 3) := by decide +kernel
theorem dX9_readRuns_30 : decode cX9_readRuns 30 = .ok (.ifCond .eq 12, 3) := by decide +kernel
theorem dX9_readRuns_33 : decode cX9_readRuns 33 = .ok (.aload_n 0, 1) := by decide +kernel
theorem dX9_readRuns_34 : decode cX9_readRuns 34 = .ok (.iload_n 1, 1) := by decide +kernel
theorem dX9_readRuns_35 : decode cX9_readRuns 35 = .ok (.iload_n 2, 1) := by decide +kernel
theorem dX9_readRuns_36 : decode cX9_readRuns 36 = .ok (.invokevirtual 147, 3) := by decide +kernel
theorem dX9_readRuns_39 : decode cX9_readRuns 39 = .ok (.ifCond .ne 5, 3) := by decide +kernel
theorem dX9_readRuns_42 : decode cX9_readRuns 42 = .ok (.iconst 0, 1) := by decide +kernel
theorem dX9_readRuns_43 : decode cX9_readRuns 43 = .ok (.ireturn, 1) := by decide +kernel
theorem dX9_readRuns_44 : decode cX9_readRuns 44 = .ok (.iconst 1, 1) := by decide +kernel
theorem dX9_readRuns_45 : decode cX9_readRuns 45 = .ok (.istore_n 3, 1) := by decide +kernel
theorem dX9_readRuns_46 : decode cX9_readRuns 46 = .ok (.iload_n 3, 1) := by decide +kernel
theorem dX9_readRuns_47 : decode cX9_readRuns 47 = .ok (.sipush 400, 3) := by decide +kernel
theorem dX9_readRuns_50 : decode cX9_readRuns 50 = .ok (.if_icmp .ge 39, 3) := by decide +kernel
theorem dX9_readRuns_53 : decode cX9_readRuns 53 = .ok (.aload_n 0, 1) := by decide +kernel
theorem dX9_readRuns_54 : decode cX9_readRuns 54 = .ok (.bipush 44, 2) := by decide +kernel
theorem dX9_readRuns_56 : decode cX9_readRuns 56 = .ok (.invokevirtual 150, 3) := by decide +kernel
theorem dX9_readRuns_59 : decode cX9_readRuns 59 = .ok (.ifCond .eq 30, 3) := by decide +kernel
theorem dX9_readRuns_62 : decode cX9_readRuns 62 = .ok (.aload_n 0, 1) := by decide +kernel
theorem dX9_readRuns_63 : decode cX9_readRuns 63 = .ok (.dup, 1) := by decide +kernel
theorem dX9_readRuns_64 : decode cX9_readRuns 64 = .ok (.getfield 26, 3) := by decide +kernel
theorem dX9_readRuns_67 : decode cX9_readRuns 67 = .ok (.iconst 1, 1) := by decide +kernel
theorem dX9_readRuns_68 : decode cX9_readRuns 68 = .ok (.iadd, 1) := by decide +kernel
theorem dX9_readRuns_69 : decode cX9_readRuns 69 = .ok (.putfield 26, 3) := by decide +kernel
theorem dX9_readRuns_72 : decode cX9_readRuns 72 = .ok (.aload_n 0, 1) := by decide +kernel
theorem dX9_readRuns_73 : decode cX9_readRuns 73 = .ok (.iload_n 1, 1) := by decide +kernel
theorem dX9_readRuns_74 : decode cX9_readRuns 74 = .ok (.iload_n 2, 1) := by decide +kernel
theorem dX9_readRuns_75 : decode cX9_readRuns 75 = .ok (.invokevirtual 147, 3) := by decide +kernel
theorem dX9_readRuns_78 : decode cX9_readRuns 78 = .ok (.ifCond .ne 5, 3) := by decide +kernel
theorem dX9_readRuns_81 : decode cX9_readRuns 81 = .ok (.iconst 0, 1) := by decide +kernel
theorem dX9_readRuns_82 : decode cX9_readRuns 82 = .ok (.ireturn, 1) := by decide +kernel
theorem dX9_readRuns_83 : decode cX9_readRuns 83 = .ok (.iinc 3 1, 3) := by decide +kernel
theorem dX9_readRuns_86 : decode cX9_readRuns 86 = .ok (.goto (-40), 3) := by decide +kernel
theorem dX9_readRuns_89 : decode cX9_readRuns 89 = .ok (.aload_n 0, 1) := by decide +kernel
theorem dX9_readRuns_90 : decode cX9_readRuns 90 = .ok (.bipush 59, 2) := by decide +kernel
theorem dX9_readRuns_92 : decode cX9_readRuns 92 = .ok (.invokevirtual 75, 3) := by decide +kernel
theorem dX9_readRuns_95 : decode cX9_readRuns 95 = .ok (.ireturn, 1) := by decide +kernel
theorem dX9_readRun_0 : decode cX9_readRun 0 = .ok (.aload_n 0, 1) := by decide +kernel
theorem dX9_readRun_1 : decode cX9_readRun 1 = .ok (.iconst 0, 1) := by decide +kernel
theorem dX9_readRun_2 : decode cX9_readRun 2 = .ok (.aload_n 0, 1) := by decide +kernel
theorem dX9_readRun_3 : decode cX9_readRun 3 = .ok (.getfield 18, 3) := by decide +kernel
theorem dX9_readRun_6 : decode cX9_readRun 6 = .ok (.getfield 153, 3) := by decide +kernel
theorem dX9_readRun_9 : decode cX9_readRun 9 = .ok (.iconst 1, 1) := by decide +kernel
theorem dX9_readRun_10 : decode cX9_readRun 10 = .ok (.isub, 1) := by decide +kernel
theorem dX9_readRun_11 : decode cX9_readRun 11 = .ok (.invokevirtual 67, 3) := by decide +kernel
theorem dX9_readRun_14 : decode cX9_readRun 14 = .ok (.ifCond .ne 5, 3) := by decide +kernel
theorem dX9_readRun_17 : decode cX9_readRun 17 = .ok (.iconst 0, 1) := by decide +kernel
theorem dX9_readRun_18 : decode cX9_readRun 18 = .ok (.ireturn, 1) := by decide +kernel
theorem dX9_readRun_19 : decode cX9_readRun 19 = .ok (.aload_n 0, 1) := by decide +kernel
theorem dX9_readRun_20 : decode cX9_readRun 20 = .ok (.getfield 38, 3) := by decide +kernel
theorem dX9_readRun_23 : decode cX9_readRun 23 = .ok (.istore_n 3, 1) := by decide +kernel
theorem dX9_readRun_24 : decode cX9_readRun 24 = .ok (.aload_n 0, 1) := by decide +kernel
theorem dX9_readRun_25 : decode cX9_readRun 25 = .ok (.getfield 35, 3) := by decide +kernel
theorem dX9_readRun_28 : decode cX9_readRun 28 = .ok (.istore 4, 2) := by decide +kernel
theorem dX9_readRun_30 : decode cX9_readRun 30 = .ok (.iload_n 2, 1) := by decide +kernel
theorem dX9_readRun_31 : decode cX9_readRun 31 = .ok (.aload_n 0, 1) := by decide +kernel
theorem dX9_readRun_32 : decode cX9_readRun 32 = .ok (.getfield 18, 3) := by decide +kernel
theorem dX9_readRun_35 : decode cX9_readRun 35 = .ok (.getfield 153, 3) := by decide +kernel
theorem dX9_readRun_38 : decode cX9_readRun 38 = .ok (.imul, 1) := by decide +kernel
theorem dX9_readRun_39 : decode cX9_readRun 39 = .ok (.istore 5, 2) := by decide +kernel
theorem dX9_readRun_41 : decode cX9_readRun 41 = .ok (.aload_n 0, 1) := by decide +kernel
theorem dX9_readRun_42 : decode cX9_readRun 42 = .ok (.iload 5, 2) := by decide +kernel
theorem dX9_readRun_44 : decode cX9_readRun 44 = .ok (.iload_n 3, 1) := by decide +kernel
theorem dX9_readRun_45 : decode cX9_readRun 45 = .ok (.iadd, 1) := by decide +kernel
theorem dX9_readRun_46 : decode cX9_readRun 46 = .ok (.iload_n 1, 1) := by decide +kernel
theorem dX9_readRun_47 : decode cX9_readRun 47 = .ok (.invokevirtual 156, 3) := by decide +kernel
theorem dX9_readRun_50 : decode cX9_readRun 50 = .ok (.ifCond .eq 10, 3) := by decide +kernel
theorem dX9_readRun_53 : decode cX9_readRun 53 = .ok (.aload_n 0, 1) := by decide +kernel
theorem dX9_readRun_54 : decode cX9_readRun 54 = .ok (.iload 4, 2) := by decide +kernel
theorem dX9_readRun_56 : decode cX9_readRun 56 = .ok (.invokevirtual 110, 3) := by decide +kernel
theorem dX9_readRun_59 : decode cX9_readRun 59 = .ok (.ireturn, 1) := by decide +kernel
theorem dX9_readRun_60 : decode cX9_readRun 60 = .ok (.aload_n 0, 1) := by decide +kernel
theorem dX9_readRun_61 : decode cX9_readRun 61 = .ok (.bipush 45, 2) := by decide +kernel
theorem dX9_readRun_63 : decode cX9_readRun 63 = .ok (.invokevirtual 75, 3) := by decide +kernel
theorem dX9_readRun_66 : decode cX9_readRun 66 = .ok (.ifCond .eq 20, 3) := by decide +kernel
theorem dX9_readRun_69 : decode cX9_readRun 69 = .ok (.aload_n 0, 1) := by decide +kernel
theorem dX9_readRun_70 : decode cX9_readRun 70 = .ok (.iload_n 3, 1) := by decide +kernel
theorem dX9_readRun_71 : decode cX9_readRun 71 = .ok (.aload_n 0, 1) := by decide +kernel
theorem dX9_readRun_72 : decode cX9_readRun 72 = .ok (.getfield 18, 3) := by decide +kernel
theorem dX9_readRun_75 : decode cX9_readRun 75 = .ok (.getfield 153, 3) := by decide +kernel
theorem dX9_readRun_78 : decode cX9_readRun 78 = .ok (.iconst 1, 1) := by decide +kernel
theorem dX9_readRun_79 : decode cX9_readRun 79 = .ok (.isub, 1) := by decide +kernel
theorem dX9_readRun_80 : decode cX9_readRun 80 = .ok (.invokevirtual 67, 3) := by decide +kernel
theorem dX9_readRun_83 : decode cX9_readRun 83 = .ok (.ifCond .ne 5, 3) := by decide +kernel
theorem dX9_readRun_86 : decode cX9_readRun 86 = .ok (.iconst 0, 1) := by decide +kernel
theorem dX9_readRun_87 : decode cX9_readRun 87 = .ok (.ireturn, 1) := by decide +kernel
theorem dX9_readRun_88 : decode cX9_readRun 88 = .ok (.aload_n 0, 1) := by decide +kernel
theorem dX9_readRun_89 : decode cX9_readRun 89 = .ok (.getfield 38, 3) := by decide +kernel
theorem dX9_readRun_92 : decode cX9_readRun 92 = .ok (.istore 6, 2) := by decide +kernel
theorem dX9_readRun_94 : decode cX9_readRun 94 = .ok (.iload_n 3, 1) := by decide +kernel
theorem dX9_readRun_95 : decode cX9_readRun 95 = .ok (.istore 7, 2) := by decide +kernel
theorem dX9_readRun_97 : decode cX9_readRun 97 = .ok (.iload 7, 2) := by decide +kernel
theorem dX9_readRun_99 : decode cX9_readRun 99 = .ok (.iload 6, 2) := by decide +kernel
theorem dX9_readRun_101 : decode cX9_readRun 101 = .ok (.if_icmp .gt 29, 3) := by decide +kernel
theorem dX9_readRun_104 : decode cX9_readRun 104 = .ok (.aload_n 0, 1) := by decide +kernel
theorem dX9_readRun_105 : decode cX9_readRun 105 = .ok (.iload 5, 2) := by decide +kernel
theorem dX9_readRun_107 : decode cX9_readRun 107 = .ok (.iload 7, 2) := by decide +kernel
theorem dX9_readRun_109 : decode cX9_readRun 109 = .ok (.iadd, 1) := by decide +kernel
theorem dX9_readRun_110 : decode cX9_readRun 110 = .ok (.iload_n 1, 1) := by decide +kernel
theorem dX9_readRun_111 : decode cX9_readRun 111 = .ok (.invokevirtual 156, 3) := by decide +kernel
theorem dX9_readRun_114 : decode cX9_readRun 114 = .ok (.ifCond .eq 10, 3) := by decide +kernel
theorem dX9_readRun_117 : decode cX9_readRun 117 = .ok (.aload_n 0, 1) := by decide +kernel
theorem dX9_readRun_118 : decode cX9_readRun 118 = .ok (.iload 4, 2) := by decide +kernel
theorem dX9_readRun_120 : decode cX9_readRun 120 = .ok (.invokevirtual 110, 3) := by decide +kernel
theorem dX9_readRun_123 : decode cX9_readRun 123 = .ok (.ireturn, 1) := by decide +kernel
theorem dX9_readRun_124 : decode cX9_readRun 124 = .ok (.iinc 7 1, 3) := by decide +kernel
theorem dX9_readRun_127 : decode cX9_readRun 127 = .ok (.goto (-30), 3) := by decide +kernel
theorem dX9_readRun_130 : decode cX9_readRun 130 = .ok (.aload_n 0, 1) := by decide +kernel
theorem dX9_readRun_131 : decode cX9_readRun 131 = .ok (.iload_n 1, 1) := by decide +kernel
theorem dX9_readRun_132 : decode cX9_readRun 132 = .ok (.iload 5, 2) := by decide +kernel
theorem dX9_readRun_134 : decode cX9_readRun 134 = .ok (.iload_n 3, 1) := by decide +kernel
theorem dX9_readRun_135 : decode cX9_readRun 135 = .ok (.iadd, 1) := by decide +kernel
theorem dX9_readRun_136 : decode cX9_readRun 136 = .ok (.iload 5, 2) := by decide +kernel
theorem dX9_readRun_138 : decode cX9_readRun 138 = .ok (.iload 6, 2) := by decide +kernel
theorem dX9_readRun_140 : decode cX9_readRun 140 = .ok (.iadd, 1) := by decide +kernel
theorem dX9_readRun_141 : decode cX9_readRun 141 = .ok (.invokevirtual 159, 3) := by decide +kernel
theorem dX9_readRun_144 : decode cX9_readRun 144 = .ok (.iconst 1, 1) := by decide +kernel
theorem dX9_readRun_145 : decode cX9_readRun 145 = .ok (.ireturn, 1) := by decide +kernel
theorem dX9_isOfAnother_0 : decode cX9_isOfAnother 0 = .ok (.iload_n 2, 1) := by decide +kernel
theorem dX9_isOfAnother_1 : decode cX9_isOfAnother 1 = .ok (.iconst (-1), 1) := by decide +kernel
theorem dX9_isOfAnother_2 : decode cX9_isOfAnother 2 = .ok (.if_icmp .eq 33, 3) := by decide +kernel
theorem dX9_isOfAnother_5 : decode cX9_isOfAnother 5 = .ok (.aload_n 0, 1) := by decide +kernel
theorem dX9_isOfAnother_6 : decode cX9_isOfAnother 6 = .ok (.getfield 18, 3) := by decide +kernel
theorem dX9_isOfAnother_9 : decode cX9_isOfAnother 9 = .ok (.getfield 162, 3) := by decide +kernel
theorem dX9_isOfAnother_12 : decode cX9_isOfAnother 12 = .ok (.iload_n 1, 1) := by decide +kernel
theorem dX9_isOfAnother_13 : decode cX9_isOfAnother 13 = .ok (.iaload, 1) := by decide +kernel
theorem dX9_isOfAnother_14 : decode cX9_isOfAnother 14 = .ok (.iconst (-1), 1) := by decide +kernel
theorem dX9_isOfAnother_15 : decode cX9_isOfAnother 15 = .ok (.if_icmp .eq 20, 3) := by decide +kernel
theorem dX9_isOfAnother_18 : decode cX9_isOfAnother 18 = .ok (.aload_n 0, 1) := by decide +kernel
theorem dX9_isOfAnother_19 : decode cX9_isOfAnother 19 = .ok (.getfield 18, 3) := by decide +kernel
theorem dX9_isOfAnother_22 : decode cX9_isOfAnother 22 = .ok (.getfield 162, 3) := by decide +kernel
theorem dX9_isOfAnother_25 : decode cX9_isOfAnother 25 = .ok (.iload_n 1, 1) := by decide +kernel
theorem dX9_isOfAnother_26 : decode cX9_isOfAnother 26 = .ok (.iaload, 1) := by decide +kernel
theorem dX9_isOfAnother_27 : decode cX9_isOfAnother 27 = .ok (.iload_n 2, 1) := by decide +kernel
theorem dX9_isOfAnother_28 : decode cX9_isOfAnother 28 = .ok (.if_icmp .eq 7, 3) := by decide +kernel
theorem dX9_isOfAnother_31 : decode cX9_isOfAnother 31 = .ok (.iconst 1, 1) := by decide +kernel
theorem dX9_isOfAnother_32 : decode cX9_isOfAnother 32 = .ok (.goto 4, 3) := by decide +kernel
theorem dX9_isOfAnother_35 : decode cX9_isOfAnother 35 = .ok (.iconst 0, 1) := by decide +kernel
theorem dX9_isOfAnother_36 : decode cX9_isOfAnother 36 = .ok (.ireturn, 1) := by decide +kernel
theorem dX9_mark_0 : decode cX9_mark 0 = .ok (.iload_n 2, 1) := by decide +kernel
theorem dX9_mark_1 : decode cX9_mark 1 = .ok (.istore 4, 2) := by decide +kernel
theorem dX9_mark_3 : decode cX9_mark 3 = .ok (.iload 4, 2) := by decide +kernel
theorem dX9_mark_5 : decode cX9_mark 5 = .ok (.iload_n 3, 1) := by decide +kernel
theorem dX9_mark_6 : decode cX9_mark 6 = .ok (.if_icmp .gt 39, 3) := by decide +kernel
theorem dX9_mark_9 : decode cX9_mark 9 = .ok (.iload_n 1, 1) := by decide +kernel
theorem dX9_mark_10 : decode cX9_mark 10 = .ok (.iconst (-1), 1) := by decide +kernel
theorem dX9_mark_11 : decode cX9_mark 11 = .ok (.if_icmp .ne 17, 3) := by decide +kernel
theorem dX9_mark_14 : decode cX9_mark 14 = .ok (.aload_n 0, 1) := by decide +kernel
theorem dX9_mark_15 : decode cX9_mark 15 = .ok (.getfield 18, 3) := by decide +kernel
theorem dX9_mark_18 : decode cX9_mark 18 = .ok (.getfield 165, 3) := by decide +kernel
theorem dX9_mark_21 : decode cX9_mark 21 = .ok (.iload 4, 2) := by decide +kernel
theorem dX9_mark_23 : decode cX9_mark 23 = .ok (.iconst 1, 1) := by decide +kernel
theorem dX9_mark_24 : decode cX9_mark 24 = .ok (.bastore, 1) := by decide +kernel
theorem dX9_mark_25 : decode cX9_mark 25 = .ok (.goto 14, 3) := by decide +kernel
theorem dX9_mark_28 : decode cX9_mark 28 = .ok (.aload_n 0, 1) := by decide +kernel
theorem dX9_mark_29 : decode cX9_mark 29 = .ok (.getfield 18, 3) := by decide +kernel
theorem dX9_mark_32 : decode cX9_mark 32 = .ok (.getfield 162, 3) := by decide +kernel
theorem dX9_mark_35 : decode cX9_mark 35 = .ok (.iload 4, 2) := by decide +kernel
theorem dX9_mark_37 : decode cX9_mark 37 = .ok (.iload_n 1, 1) := by decide +kernel
theorem dX9_mark_38 : decode cX9_mark 38 = .ok (.iastore, 1) := by decide +kernel
theorem dX9_mark_39 : decode cX9_mark 39 = .ok (.iinc 4 1, 3) := by decide +kernel
theorem dX9_mark_42 : decode cX9_mark 42 = .ok (.goto (-39), 3) := by decide +kernel
theorem dX9_mark_45 : decode cX9_mark 45 = .ok (.return_, 1) := by decide +kernel
theorem dX9_isReserved_0 : decode cX9_isReserved 0 = .ok (.aload_n 0, 1) := by decide +kernel
theorem dX9_isReserved_1 : decode cX9_isReserved 1 = .ok (.ldc 61, 2) := by decide +kernel
theorem dX9_isReserved_3 : decode cX9_isReserved 3 = .ok (.invokevirtual 84, 3) := by decide +kernel
theorem dX9_isReserved_6 : decode cX9_isReserved 6 = .ok (.ifCond .ne 48, 3) := by decide +kernel
theorem dX9_isReserved_9 : decode cX9_isReserved 9 = .ok (.aload_n 0, 1) := by decide +kernel
theorem dX9_isReserved_10 : decode cX9_isReserved 10 = .ok (.ldc 82, 2) := by decide +kernel
theorem dX9_isReserved_12 : decode cX9_isReserved 12 = .ok (.invokevirtual 84, 3) := by decide +kernel
theorem dX9_isReserved_15 : decode cX9_isReserved 15 = .ok (.ifCond .ne 39, 3) := by decide +kernel
theorem dX9_isReserved_18 : decode cX9_isReserved 18 = .ok (.aload_n 0, 1) := by decide +kernel
theorem dX9_isReserved_19 : decode cX9_isReserved 19 = .ok (.ldc 90, 2) := by decide +kernel
theorem dX9_isReserved_21 : decode cX9_isReserved 21 = .ok (.invokevirtual 84, 3) := by decide +kernel
theorem dX9_isReserved_24 : decode cX9_isReserved 24 = .ok (.ifCond .ne 30, 3) := by decide +kernel
theorem dX9_isReserved_27 : decode cX9_isReserved 27 = .ok (.aload_n 0, 1) := by decide +kernel
theorem dX9_isReserved_28 : decode cX9_isReserved 28 = .ok (.ldc 134, 2) := by decide +kernel
theorem dX9_isReserved_30 : decode cX9_isReserved 30 = .ok (.invokevirtual 84, 3) := by decide +kernel
theorem dX9_isReserved_33 : decode cX9_isReserved 33 = .ok (.ifCond .ne 21, 3) := by decide +kernel
theorem dX9_isReserved_36 : decode cX9_isReserved 36 = .ok (.aload_n 0, 1) := by decide +kernel
theorem dX9_isReserved_37 : decode cX9_isReserved 37 = .ok (.ldc 95, 2) := by decide +kernel
theorem dX9_isReserved_39 : decode cX9_isReserved 39 = .ok (.invokevirtual 84, 3) := by decide +kernel
theorem dX9_isReserved_42 : decode cX9_isReserved 42 = .ok (.ifCond .ne 12, 3) := by decide +kernel
theorem dX9_isReserved_45 : decode cX9_isReserved 45 = .ok (.aload_n 0, 1) := by decide +kernel
theorem dX9_isReserved_46 : decode cX9_isReserved 46 = .ok (.ldc 108, 2) := by decide +kernel
theorem dX9_isReserved_48 : decode cX9_isReserved 48 = .ok (.invokevirtual 84, 3) := by decide +kernel
theorem dX9_isReserved_51 : decode cX9_isReserved 51 = .ok (.ifCond .eq 7, 3) := by decide +kernel
theorem dX9_isReserved_54 : decode cX9_isReserved 54 = .ok (.iconst 1, 1) := by decide +kernel
theorem dX9_isReserved_55 : decode cX9_isReserved 55 = .ok (.goto 4, 3) := by decide +kernel
theorem dX9_isReserved_58 : decode cX9_isReserved 58 = .ok (.iconst 0, 1) := by decide +kernel
theorem dX9_isReserved_59 : decode cX9_isReserved 59 = .ok (.ireturn, 1) := by decide +kernel
theorem dX9_zoneNamed_0 : decode cX9_zoneNamed 0 = .ok (.iconst 0, 1) := by decide +kernel
theorem dX9_zoneNamed_1 : decode cX9_zoneNamed 1 = .ok (.istore_n 1, 1) := by decide +kernel
theorem dX9_zoneNamed_2 : decode cX9_zoneNamed 2 = .ok (.iload_n 1, 1) := by decide +kernel
theorem dX9_zoneNamed_3 : decode cX9_zoneNamed 3 = .ok (.aload_n 0, 1) := by decide +kernel
theorem dX9_zoneNamed_4 : decode cX9_zoneNamed 4 = .ok (.getfield 18, 3) := by decide +kernel
theorem dX9_zoneNamed_7 : decode cX9_zoneNamed 7 = .ok (.getfield 113, 3) := by decide +kernel
theorem dX9_zoneNamed_10 : decode cX9_zoneNamed 10 = .ok (.if_icmp .ge 19, 3) := by decide +kernel
theorem dX9_zoneNamed_13 : decode cX9_zoneNamed 13 = .ok (.aload_n 0, 1) := by decide +kernel
theorem dX9_zoneNamed_14 : decode cX9_zoneNamed 14 = .ok (.iload_n 1, 1) := by decide +kernel
theorem dX9_zoneNamed_15 : decode cX9_zoneNamed 15 = .ok (.invokevirtual 168, 3) := by decide +kernel
theorem dX9_zoneNamed_18 : decode cX9_zoneNamed 18 = .ok (.ifCond .eq 5, 3) := by decide +kernel
theorem dX9_zoneNamed_21 : decode cX9_zoneNamed 21 = .ok (.iload_n 1, 1) := by decide +kernel
theorem dX9_zoneNamed_22 : decode cX9_zoneNamed 22 = .ok (.ireturn, 1) := by decide +kernel
theorem dX9_zoneNamed_23 : decode cX9_zoneNamed 23 = .ok (.iinc 1 1, 3) := by decide +kernel
theorem dX9_zoneNamed_26 : decode cX9_zoneNamed 26 = .ok (.goto (-24), 3) := by decide +kernel
theorem dX9_zoneNamed_29 : decode cX9_zoneNamed 29 = .ok (.iconst (-1), 1) := by decide +kernel
theorem dX9_zoneNamed_30 : decode cX9_zoneNamed 30 = .ok (.ireturn, 1) := by decide +kernel
theorem dX9_wordIsNameOf_0 : decode cX9_wordIsNameOf 0 = .ok (.aload_n 0, 1) := by decide +kernel
theorem dX9_wordIsNameOf_1 : decode cX9_wordIsNameOf 1 = .ok (.getfield 18, 3) := by decide +kernel
theorem dX9_wordIsNameOf_4 : decode cX9_wordIsNameOf 4 = .ok (.getfield 130, 3) := by decide +kernel
theorem dX9_wordIsNameOf_7 : decode cX9_wordIsNameOf 7 = .ok (.iload_n 1, 1) := by decide +kernel
theorem dX9_wordIsNameOf_8 : decode cX9_wordIsNameOf 8 = .ok (.iaload, 1) := by decide +kernel
theorem dX9_wordIsNameOf_9 : decode cX9_wordIsNameOf 9 = .ok (.aload_n 0, 1) := by decide +kernel
theorem dX9_wordIsNameOf_10 : decode cX9_wordIsNameOf 10 = .ok (.getfield 32, 3) := by decide +kernel
theorem dX9_wordIsNameOf_13 : decode cX9_wordIsNameOf 13 = .ok (.if_icmp .eq 5, 3) := by decide +kernel
theorem dX9_wordIsNameOf_16 : decode cX9_wordIsNameOf 16 = .ok (.iconst 0, 1) := by decide +kernel
theorem dX9_wordIsNameOf_17 : decode cX9_wordIsNameOf 17 = .ok (.ireturn, 1) := by decide +kernel
theorem dX9_wordIsNameOf_18 : decode cX9_wordIsNameOf 18 = .ok (.iconst 0, 1) := by decide +kernel
theorem dX9_wordIsNameOf_19 : decode cX9_wordIsNameOf 19 = .ok (.istore_n 2, 1) := by decide +kernel
theorem dX9_wordIsNameOf_20 : decode cX9_wordIsNameOf 20 = .ok (.iload_n 2, 1) := by decide +kernel
theorem dX9_wordIsNameOf_21 : decode cX9_wordIsNameOf 21 = .ok (.aload_n 0, 1) := by decide +kernel
theorem dX9_wordIsNameOf_22 : decode cX9_wordIsNameOf 22 = .ok (.getfield 32, 3) := by decide +kernel
theorem dX9_wordIsNameOf_25 : decode cX9_wordIsNameOf 25 = .ok (.if_icmp .ge 39, 3) := by decide +kernel
theorem dX9_wordIsNameOf_28 : decode cX9_wordIsNameOf 28 = .ok (.aload_n 0, 1) := by decide +kernel
theorem dX9_wordIsNameOf_29 : decode cX9_wordIsNameOf 29 = .ok (.getfield 18, 3) := by decide +kernel
theorem dX9_wordIsNameOf_32 : decode cX9_wordIsNameOf 32 = .ok (.getfield 121, 3) := by decide +kernel
theorem dX9_wordIsNameOf_35 : decode cX9_wordIsNameOf 35 = .ok (.iload_n 1, 1) := by decide +kernel
theorem dX9_wordIsNameOf_36 : decode cX9_wordIsNameOf 36 = .ok (.bipush 6, 2) := by decide +kernel
theorem dX9_wordIsNameOf_38 : decode cX9_wordIsNameOf 38 = .ok (.imul, 1) := by decide +kernel
theorem dX9_wordIsNameOf_39 : decode cX9_wordIsNameOf 39 = .ok (.iload_n 2, 1) := by decide +kernel
theorem dX9_wordIsNameOf_40 : decode cX9_wordIsNameOf 40 = .ok (.iadd, 1) := by decide +kernel
theorem dX9_wordIsNameOf_41 : decode cX9_wordIsNameOf 41 = .ok (.baload, 1) := by decide +kernel
theorem dX9_wordIsNameOf_42 : decode cX9_wordIsNameOf 42 = .ok (.aload_n 0, 1) := by decide +kernel
theorem dX9_wordIsNameOf_43 : decode cX9_wordIsNameOf 43 = .ok (.getfield 22, 3) := by decide +kernel
theorem dX9_wordIsNameOf_46 : decode cX9_wordIsNameOf 46 = .ok (.aload_n 0, 1) := by decide +kernel
theorem dX9_wordIsNameOf_47 : decode cX9_wordIsNameOf 47 = .ok (.getfield 29, 3) := by decide +kernel
theorem dX9_wordIsNameOf_50 : decode cX9_wordIsNameOf 50 = .ok (.iload_n 2, 1) := by decide +kernel
theorem dX9_wordIsNameOf_51 : decode cX9_wordIsNameOf 51 = .ok (.iadd, 1) := by decide +kernel
theorem dX9_wordIsNameOf_52 : decode cX9_wordIsNameOf 52 = .ok (.baload, 1) := by decide +kernel
theorem dX9_wordIsNameOf_53 : decode cX9_wordIsNameOf 53 = .ok (.if_icmp .eq 5, 3) := by decide +kernel
theorem dX9_wordIsNameOf_56 : decode cX9_wordIsNameOf 56 = .ok (.iconst 0, 1) := by decide +kernel
theorem dX9_wordIsNameOf_57 : decode cX9_wordIsNameOf 57 = .ok (.ireturn, 1) := by decide +kernel
theorem dX9_wordIsNameOf_58 : decode cX9_wordIsNameOf 58 = .ok (.iinc 2 1, 3) := by decide +kernel
theorem dX9_wordIsNameOf_61 : decode cX9_wordIsNameOf 61 = .ok (.goto (-41), 3) := by decide +kernel
theorem dX9_wordIsNameOf_64 : decode cX9_wordIsNameOf 64 = .ok (.iconst 1, 1) := by decide +kernel
theorem dX9_wordIsNameOf_65 : decode cX9_wordIsNameOf 65 = .ok (.ireturn, 1) := by decide +kernel
theorem dX9_wordIs_0 : decode cX9_wordIs 0 = .ok (.aload_n 1, 1) := by decide +kernel
theorem dX9_wordIs_1 : decode cX9_wordIs 1 = .ok (.invokevirtual 171, 3) := by decide +kernel
theorem dX9_wordIs_4 : decode cX9_wordIs 4 = .ok (.aload_n 0, 1) := by decide +kernel
theorem dX9_wordIs_5 : decode cX9_wordIs 5 = .ok (.getfield 32, 3) := by decide +kernel
theorem dX9_wordIs_8 : decode cX9_wordIs 8 = .ok (.if_icmp .eq 5, 3) := by decide +kernel
theorem dX9_wordIs_11 : decode cX9_wordIs 11 = .ok (.iconst 0, 1) := by decide +kernel
theorem dX9_wordIs_12 : decode cX9_wordIs 12 = .ok (.ireturn, 1) := by decide +kernel
theorem dX9_wordIs_13 : decode cX9_wordIs 13 = .ok (.iconst 0, 1) := by decide +kernel
theorem dX9_wordIs_14 : decode cX9_wordIs 14 = .ok (.istore_n 2, 1) := by decide +kernel
theorem dX9_wordIs_15 : decode cX9_wordIs 15 = .ok (.iload_n 2, 1) := by decide +kernel
theorem dX9_wordIs_16 : decode cX9_wordIs 16 = .ok (.aload_n 0, 1) := by decide +kernel
theorem dX9_wordIs_17 : decode cX9_wordIs 17 = .ok (.getfield 32, 3) := by decide +kernel
theorem dX9_wordIs_20 : decode cX9_wordIs 20 = .ok (.if_icmp .ge 30, 3) := by decide +kernel
theorem dX9_wordIs_23 : decode cX9_wordIs 23 = .ok (.aload_n 1, 1) := by decide +kernel
theorem dX9_wordIs_24 : decode cX9_wordIs 24 = .ok (.iload_n 2, 1) := by decide +kernel
theorem dX9_wordIs_25 : decode cX9_wordIs 25 = .ok (.invokevirtual 175, 3) := by decide +kernel
theorem dX9_wordIs_28 : decode cX9_wordIs 28 = .ok (.aload_n 0, 1) := by decide +kernel
theorem dX9_wordIs_29 : decode cX9_wordIs 29 = .ok (.getfield 22, 3) := by decide +kernel
theorem dX9_wordIs_32 : decode cX9_wordIs 32 = .ok (.aload_n 0, 1) := by decide +kernel
theorem dX9_wordIs_33 : decode cX9_wordIs 33 = .ok (.getfield 29, 3) := by decide +kernel
theorem dX9_wordIs_36 : decode cX9_wordIs 36 = .ok (.iload_n 2, 1) := by decide +kernel
theorem dX9_wordIs_37 : decode cX9_wordIs 37 = .ok (.iadd, 1) := by decide +kernel
theorem dX9_wordIs_38 : decode cX9_wordIs 38 = .ok (.baload, 1) := by decide +kernel
theorem dX9_wordIs_39 : decode cX9_wordIs 39 = .ok (.if_icmp .eq 5, 3) := by decide +kernel
theorem dX9_wordIs_42 : decode cX9_wordIs 42 = .ok (.iconst 0, 1) := by decide +kernel
theorem dX9_wordIs_43 : decode cX9_wordIs 43 = .ok (.ireturn, 1) := by decide +kernel
theorem dX9_wordIs_44 : decode cX9_wordIs 44 = .ok (.iinc 2 1, 3) := by decide +kernel
theorem dX9_wordIs_47 : decode cX9_wordIs 47 = .ok (.goto (-32), 3) := by decide +kernel
theorem dX9_wordIs_50 : decode cX9_wordIs 50 = .ok (.iconst 1, 1) := by decide +kernel
theorem dX9_wordIs_51 : decode cX9_wordIs 51 = .ok (.ireturn, 1) := by decide +kernel
theorem dX9_readKeyword_0 : decode cX9_readKeyword 0 = .ok (.aload_n 0, 1) := by decide +kernel
theorem dX9_readKeyword_1 : decode cX9_readKeyword 1 = .ok (.invokevirtual 79, 3) := by decide +kernel
theorem dX9_readKeyword_4 : decode cX9_readKeyword 4 = .ok (.ifCond .ne 5, 3) := by decide +kernel
theorem dX9_readKeyword_7 : decode cX9_readKeyword 7 = .ok (.iconst 0, 1) := by decide +kernel
theorem dX9_readKeyword_8 : decode cX9_readKeyword 8 = .ok (.ireturn, 1) := by decide +kernel
theorem dX9_readKeyword_9 : decode cX9_readKeyword 9 = .ok (.aload_n 0, 1) := by decide +kernel
theorem dX9_readKeyword_10 : decode cX9_readKeyword 10 = .ok (.aload_n 1, 1) := by decide +kernel
theorem dX9_readKeyword_11 : decode cX9_readKeyword 11 = .ok (.invokevirtual 84, 3) := by decide +kernel
theorem dX9_readKeyword_14 : decode cX9_readKeyword 14 = .ok (.ifCond .ne 14, 3) := by decide +kernel
theorem dX9_readKeyword_17 : decode cX9_readKeyword 17 = .ok (.aload_n 0, 1) := by decide +kernel
theorem dX9_readKeyword_18 : decode cX9_readKeyword 18 = .ok (.aload_n 0, 1) := by decide +kernel
theorem dX9_readKeyword_19 : decode cX9_readKeyword 19 = .ok (.getfield 29, 3) := by decide +kernel
theorem dX9_readKeyword_22 : decode cX9_readKeyword 22 = .ok (.invokevirtual 110, 3) := by decide +kernel
theorem dX9_readKeyword_25 : decode cX9_readKeyword 25 = .ok (.ifCond .eq 7, 3) := by decide +kernel
theorem dX9_readKeyword_28 : decode cX9_readKeyword 28 = .ok (.iconst 1, 1) := by decide +kernel
theorem dX9_readKeyword_29 : decode cX9_readKeyword 29 = .ok (.goto 4, 3) := by decide +kernel
theorem dX9_readKeyword_32 : decode cX9_readKeyword 32 = .ok (.iconst 0, 1) := by decide +kernel
theorem dX9_readKeyword_33 : decode cX9_readKeyword 33 = .ok (.ireturn, 1) := by decide +kernel
theorem dX9_readWord_0 : decode cX9_readWord 0 = .ok (.aload_n 0, 1) := by decide +kernel
theorem dX9_readWord_1 : decode cX9_readWord 1 = .ok (.invokevirtual 55, 3) := by decide +kernel
theorem dX9_readWord_4 : decode cX9_readWord 4 = .ok (.aload_n 0, 1) := by decide +kernel
theorem dX9_readWord_5 : decode cX9_readWord 5 = .ok (.aload_n 0, 1) := by decide +kernel
theorem dX9_readWord_6 : decode cX9_readWord 6 = .ok (.getfield 26, 3) := by decide +kernel
theorem dX9_readWord_9 : decode cX9_readWord 9 = .ok (.putfield 29, 3) := by decide +kernel
theorem dX9_readWord_12 : decode cX9_readWord 12 = .ok (.aload_n 0, 1) := by decide +kernel
theorem dX9_readWord_13 : decode cX9_readWord 13 = .ok (.getfield 26, 3) := by decide +kernel
theorem dX9_readWord_16 : decode cX9_readWord 16 = .ok (.aload_n 0, 1) := by decide +kernel
theorem dX9_readWord_17 : decode cX9_readWord 17 = .ok (.getfield 9, 3) := by decide +kernel
theorem dX9_readWord_20 : decode cX9_readWord 20 = .ok (.if_icmp .ge 44, 3) := by decide +kernel
theorem dX9_readWord_23 : decode cX9_readWord 23 = .ok (.aload_n 0, 1) := by decide +kernel
theorem dX9_readWord_24 : decode cX9_readWord 24 = .ok (.getfield 22, 3) := by decide +kernel
theorem dX9_readWord_27 : decode cX9_readWord 27 = .ok (.aload_n 0, 1) := by decide +kernel
theorem dX9_readWord_28 : decode cX9_readWord 28 = .ok (.getfield 26, 3) := by decide +kernel
theorem dX9_readWord_31 : decode cX9_readWord 31 = .ok (.baload, 1) := by decide +kernel
theorem dX9_readWord_32 : decode cX9_readWord 32 = .ok (.bipush 97, 2) := by decide +kernel
theorem dX9_readWord_34 : decode cX9_readWord 34 = .ok (.if_icmp .lt 30, 3) := by decide +kernel
theorem dX9_readWord_37 : decode cX9_readWord 37 = .ok (.aload_n 0, 1) := by decide +kernel
theorem dX9_readWord_38 : decode cX9_readWord 38 = .ok (.getfield 22, 3) := by decide +kernel
theorem dX9_readWord_41 : decode cX9_readWord 41 = .ok (.aload_n 0, 1) := by decide +kernel
theorem dX9_readWord_42 : decode cX9_readWord 42 = .ok (.getfield 26, 3) := by decide +kernel
theorem dX9_readWord_45 : decode cX9_readWord 45 = .ok (.baload, 1) := by decide +kernel
theorem dX9_readWord_46 : decode cX9_readWord 46 = .ok (.bipush 122, 2) := by decide +kernel
theorem dX9_readWord_48 : decode cX9_readWord 48 = .ok (.if_icmp .gt 16, 3) := by decide +kernel
theorem dX9_readWord_51 : decode cX9_readWord 51 = .ok (.aload_n 0, 1) := by decide +kernel
theorem dX9_readWord_52 : decode cX9_readWord 52 = .ok (.dup, 1) := by decide +kernel
theorem dX9_readWord_53 : decode cX9_readWord 53 = .ok (.getfield 26, 3) := by decide +kernel
theorem dX9_readWord_56 : decode cX9_readWord 56 = .ok (.iconst 1, 1) := by decide +kernel
theorem dX9_readWord_57 : decode cX9_readWord 57 = .ok (.iadd, 1) := by decide +kernel
theorem dX9_readWord_58 : decode cX9_readWord 58 = .ok (.putfield 26, 3) := by decide +kernel
theorem dX9_readWord_61 : decode cX9_readWord 61 = .ok (.goto (-49), 3) := by decide +kernel
theorem dX9_readWord_64 : decode cX9_readWord 64 = .ok (.aload_n 0, 1) := by decide +kernel
theorem dX9_readWord_65 : decode cX9_readWord 65 = .ok (.aload_n 0, 1) := by decide +kernel
theorem dX9_readWord_66 : decode cX9_readWord 66 = .ok (.getfield 26, 3) := by decide +kernel
theorem dX9_readWord_69 : decode cX9_readWord 69 = .ok (.aload_n 0, 1) := by decide +kernel
theorem dX9_readWord_70 : decode cX9_readWord 70 = .ok (.getfield 29, 3) := by decide +kernel
theorem dX9_readWord_73 : decode cX9_readWord 73 = .ok (.isub, 1) := by decide +kernel
theorem dX9_readWord_74 : decode cX9_readWord 74 = .ok (.putfield 32, 3) := by decide +kernel
theorem dX9_readWord_77 : decode cX9_readWord 77 = .ok (.aload_n 0, 1) := by decide +kernel
theorem dX9_readWord_78 : decode cX9_readWord 78 = .ok (.getfield 32, 3) := by decide +kernel
theorem dX9_readWord_81 : decode cX9_readWord 81 = .ok (.ifCond .gt 14, 3) := by decide +kernel
theorem dX9_readWord_84 : decode cX9_readWord 84 = .ok (.aload_n 0, 1) := by decide +kernel
theorem dX9_readWord_85 : decode cX9_readWord 85 = .ok (.aload_n 0, 1) := by decide +kernel
theorem dX9_readWord_86 : decode cX9_readWord 86 = .ok (.getfield 26, 3) := by decide +kernel
theorem dX9_readWord_89 : decode cX9_readWord 89 = .ok (.invokevirtual 110, 3) := by decide +kernel
theorem dX9_readWord_92 : decode cX9_readWord 92 = .ok (.ifCond .eq 7, 3) := by decide +kernel
theorem dX9_readWord_95 : decode cX9_readWord 95 = .ok (.iconst 1, 1) := by decide +kernel
theorem dX9_readWord_96 : decode cX9_readWord 96 = .ok (.goto 4, 3) := by decide +kernel
theorem dX9_readWord_99 : decode cX9_readWord 99 = .ok (.iconst 0, 1) := by decide +kernel
theorem dX9_readWord_100 : decode cX9_readWord 100 = .ok (.ireturn, 1) := by decide +kernel
theorem dX9_readNumber_0 : decode cX9_readNumber 0 = .ok (.aload_n 0, 1) := by decide +kernel
theorem dX9_readNumber_1 : decode cX9_readNumber 1 = .ok (.invokevirtual 55, 3) := by decide +kernel
theorem dX9_readNumber_4 : decode cX9_readNumber 4 = .ok (.aload_n 0, 1) := by decide +kernel
theorem dX9_readNumber_5 : decode cX9_readNumber 5 = .ok (.aload_n 0, 1) := by decide +kernel
theorem dX9_readNumber_6 : decode cX9_readNumber 6 = .ok (.getfield 26, 3) := by decide +kernel
theorem dX9_readNumber_9 : decode cX9_readNumber 9 = .ok (.putfield 35, 3) := by decide +kernel
theorem dX9_readNumber_12 : decode cX9_readNumber 12 = .ok (.aload_n 0, 1) := by decide +kernel
theorem dX9_readNumber_13 : decode cX9_readNumber 13 = .ok (.iconst 0, 1) := by decide +kernel
theorem dX9_readNumber_14 : decode cX9_readNumber 14 = .ok (.putfield 38, 3) := by decide +kernel
theorem dX9_readNumber_17 : decode cX9_readNumber 17 = .ok (.aload_n 0, 1) := by decide +kernel
theorem dX9_readNumber_18 : decode cX9_readNumber 18 = .ok (.getfield 26, 3) := by decide +kernel
theorem dX9_readNumber_21 : decode cX9_readNumber 21 = .ok (.aload_n 0, 1) := by decide +kernel
theorem dX9_readNumber_22 : decode cX9_readNumber 22 = .ok (.getfield 9, 3) := by decide +kernel
theorem dX9_readNumber_25 : decode cX9_readNumber 25 = .ok (.if_icmp .ge 81, 3) := by decide +kernel
theorem dX9_readNumber_28 : decode cX9_readNumber 28 = .ok (.aload_n 0, 1) := by decide +kernel
theorem dX9_readNumber_29 : decode cX9_readNumber 29 = .ok (.getfield 22, 3) := by decide +kernel
theorem dX9_readNumber_32 : decode cX9_readNumber 32 = .ok (.aload_n 0, 1) := by decide +kernel
theorem dX9_readNumber_33 : decode cX9_readNumber 33 = .ok (.getfield 26, 3) := by decide +kernel
theorem dX9_readNumber_36 : decode cX9_readNumber 36 = .ok (.baload, 1) := by decide +kernel
theorem dX9_readNumber_37 : decode cX9_readNumber 37 = .ok (.bipush 48, 2) := by decide +kernel
theorem dX9_readNumber_39 : decode cX9_readNumber 39 = .ok (.if_icmp .lt 67, 3) := by decide +kernel
theorem dX9_readNumber_42 : decode cX9_readNumber 42 = .ok (.aload_n 0, 1) := by decide +kernel
theorem dX9_readNumber_43 : decode cX9_readNumber 43 = .ok (.getfield 22, 3) := by decide +kernel
theorem dX9_readNumber_46 : decode cX9_readNumber 46 = .ok (.aload_n 0, 1) := by decide +kernel
theorem dX9_readNumber_47 : decode cX9_readNumber 47 = .ok (.getfield 26, 3) := by decide +kernel
theorem dX9_readNumber_50 : decode cX9_readNumber 50 = .ok (.baload, 1) := by decide +kernel
theorem dX9_readNumber_51 : decode cX9_readNumber 51 = .ok (.bipush 57, 2) := by decide +kernel
theorem dX9_readNumber_53 : decode cX9_readNumber 53 = .ok (.if_icmp .gt 53, 3) := by decide +kernel
theorem dX9_readNumber_56 : decode cX9_readNumber 56 = .ok (.aload_n 0, 1) := by decide +kernel
theorem dX9_readNumber_57 : decode cX9_readNumber 57 = .ok (.getfield 26, 3) := by decide +kernel
theorem dX9_readNumber_60 : decode cX9_readNumber 60 = .ok (.aload_n 0, 1) := by decide +kernel
theorem dX9_readNumber_61 : decode cX9_readNumber 61 = .ok (.getfield 35, 3) := by decide +kernel
theorem dX9_readNumber_64 : decode cX9_readNumber 64 = .ok (.isub, 1) := by decide +kernel
theorem dX9_readNumber_65 : decode cX9_readNumber 65 = .ok (.iconst 5, 1) := by decide +kernel
theorem dX9_readNumber_66 : decode cX9_readNumber 66 = .ok (.if_icmp .ge 27, 3) := by decide +kernel
theorem dX9_readNumber_69 : decode cX9_readNumber 69 = .ok (.aload_n 0, 1) := by decide +kernel
theorem dX9_readNumber_70 : decode cX9_readNumber 70 = .ok (.aload_n 0, 1) := by decide +kernel
theorem dX9_readNumber_71 : decode cX9_readNumber 71 = .ok (.getfield 38, 3) := by decide +kernel
theorem dX9_readNumber_74 : decode cX9_readNumber 74 = .ok (.bipush 10, 2) := by decide +kernel
theorem dX9_readNumber_76 : decode cX9_readNumber 76 = .ok (.imul, 1) := by decide +kernel
theorem dX9_readNumber_77 : decode cX9_readNumber 77 = .ok (.aload_n 0, 1) := by decide +kernel
theorem dX9_readNumber_78 : decode cX9_readNumber 78 = .ok (.getfield 22, 3) := by decide +kernel
theorem dX9_readNumber_81 : decode cX9_readNumber 81 = .ok (.aload_n 0, 1) := by decide +kernel
theorem dX9_readNumber_82 : decode cX9_readNumber 82 = .ok (.getfield 26, 3) := by decide +kernel
theorem dX9_readNumber_85 : decode cX9_readNumber 85 = .ok (.baload, 1) := by decide +kernel
theorem dX9_readNumber_86 : decode cX9_readNumber 86 = .ok (.iadd, 1) := by decide +kernel
theorem dX9_readNumber_87 : decode cX9_readNumber 87 = .ok (.bipush 48, 2) := by decide +kernel
theorem dX9_readNumber_89 : decode cX9_readNumber 89 = .ok (.isub, 1) := by decide +kernel
theorem dX9_readNumber_90 : decode cX9_readNumber 90 = .ok (.putfield 38, 3) := by decide +kernel
theorem dX9_readNumber_93 : decode cX9_readNumber 93 = .ok (.aload_n 0, 1) := by decide +kernel
theorem dX9_readNumber_94 : decode cX9_readNumber 94 = .ok (.dup, 1) := by decide +kernel
theorem dX9_readNumber_95 : decode cX9_readNumber 95 = .ok (.getfield 26, 3) := by decide +kernel
theorem dX9_readNumber_98 : decode cX9_readNumber 98 = .ok (.iconst 1, 1) := by decide +kernel
theorem dX9_readNumber_99 : decode cX9_readNumber 99 = .ok (.iadd, 1) := by decide +kernel
theorem dX9_readNumber_100 : decode cX9_readNumber 100 = .ok (.putfield 26, 3) := by decide +kernel
theorem dX9_readNumber_103 : decode cX9_readNumber 103 = .ok (.goto (-86), 3) := by decide +kernel
theorem dX9_readNumber_106 : decode cX9_readNumber 106 = .ok (.aload_n 0, 1) := by decide +kernel
theorem dX9_readNumber_107 : decode cX9_readNumber 107 = .ok (.getfield 26, 3) := by decide +kernel
theorem dX9_readNumber_110 : decode cX9_readNumber 110 = .ok (.aload_n 0, 1) := by decide +kernel
theorem dX9_readNumber_111 : decode cX9_readNumber 111 = .ok (.getfield 35, 3) := by decide +kernel
theorem dX9_readNumber_114 : decode cX9_readNumber 114 = .ok (.isub, 1) := by decide +kernel
theorem dX9_readNumber_115 : decode cX9_readNumber 115 = .ok (.istore_n 3, 1) := by decide +kernel
theorem dX9_readNumber_116 : decode cX9_readNumber 116 = .ok (.iload_n 3, 1) := by decide +kernel
theorem dX9_readNumber_117 : decode cX9_readNumber 117 = .ok (.ifCond .le 28, 3) := by decide +kernel
theorem dX9_readNumber_120 : decode cX9_readNumber 120 = .ok (.iload_n 3, 1) := by decide +kernel
theorem dX9_readNumber_121 : decode cX9_readNumber 121 = .ok (.iconst 5, 1) := by decide +kernel
theorem dX9_readNumber_122 : decode cX9_readNumber 122 = .ok (.if_icmp .gt 23, 3) := by decide +kernel
theorem dX9_readNumber_125 : decode cX9_readNumber 125 = .ok (.aload_n 0, 1) := by decide +kernel
theorem dX9_readNumber_126 : decode cX9_readNumber 126 = .ok (.getfield 38, 3) := by decide +kernel
theorem dX9_readNumber_129 : decode cX9_readNumber 129 = .ok (.iload_n 1, 1) := by decide +kernel
theorem dX9_readNumber_130 : decode cX9_readNumber 130 = .ok (.if_icmp .lt 15, 3) := by decide +kernel
theorem dX9_readNumber_133 : decode cX9_readNumber 133 = .ok (.aload_n 0, 1) := by decide +kernel
theorem dX9_readNumber_134 : decode cX9_readNumber 134 = .ok (.getfield 38, 3) := by decide +kernel
theorem dX9_readNumber_137 : decode cX9_readNumber 137 = .ok (.iload_n 2, 1) := by decide +kernel
theorem dX9_readNumber_138 : decode cX9_readNumber 138 = .ok (.if_icmp .gt 7, 3) := by decide +kernel
theorem dX9_readNumber_141 : decode cX9_readNumber 141 = .ok (.iconst 1, 1) := by decide +kernel
theorem dX9_readNumber_142 : decode cX9_readNumber 142 = .ok (.goto 4, 3) := by decide +kernel
theorem dX9_readNumber_145 : decode cX9_readNumber 145 = .ok (.iconst 0, 1) := by decide +kernel
theorem dX9_readNumber_146 : decode cX9_readNumber 146 = .ok (.istore 4, 2) := by decide +kernel
theorem dX9_readNumber_148 : decode cX9_readNumber 148 = .ok (.iload 4, 2) := by decide +kernel
theorem dX9_readNumber_150 : decode cX9_readNumber 150 = .ok (.ifCond .ne 14, 3) := by decide +kernel
theorem dX9_readNumber_153 : decode cX9_readNumber 153 = .ok (.aload_n 0, 1) := by decide +kernel
theorem dX9_readNumber_154 : decode cX9_readNumber 154 = .ok (.aload_n 0, 1) := by decide +kernel
theorem dX9_readNumber_155 : decode cX9_readNumber 155 = .ok (.getfield 35, 3) := by decide +kernel
theorem dX9_readNumber_158 : decode cX9_readNumber 158 = .ok (.invokevirtual 110, 3) := by decide +kernel
theorem dX9_readNumber_161 : decode cX9_readNumber 161 = .ok (.ifCond .eq 7, 3) := by decide +kernel
theorem dX9_readNumber_164 : decode cX9_readNumber 164 = .ok (.iconst 1, 1) := by decide +kernel
theorem dX9_readNumber_165 : decode cX9_readNumber 165 = .ok (.goto 4, 3) := by decide +kernel
theorem dX9_readNumber_168 : decode cX9_readNumber 168 = .ok (.iconst 0, 1) := by decide +kernel
theorem dX9_readNumber_169 : decode cX9_readNumber 169 = .ok (.ireturn, 1) := by decide +kernel
theorem dX9_readSign_0 : decode cX9_readSign 0 = .ok (.aload_n 0, 1) := by decide +kernel
theorem dX9_readSign_1 : decode cX9_readSign 1 = .ok (.iload_n 1, 1) := by decide +kernel
theorem dX9_readSign_2 : decode cX9_readSign 2 = .ok (.invokevirtual 150, 3) := by decide +kernel
theorem dX9_readSign_5 : decode cX9_readSign 5 = .ok (.ifCond .ne 12, 3) := by decide +kernel
theorem dX9_readSign_8 : decode cX9_readSign 8 = .ok (.aload_n 0, 1) := by decide +kernel
theorem dX9_readSign_9 : decode cX9_readSign 9 = .ok (.aload_n 0, 1) := by decide +kernel
theorem dX9_readSign_10 : decode cX9_readSign 10 = .ok (.getfield 26, 3) := by decide +kernel
theorem dX9_readSign_13 : decode cX9_readSign 13 = .ok (.invokevirtual 110, 3) := by decide +kernel
theorem dX9_readSign_16 : decode cX9_readSign 16 = .ok (.ireturn, 1) := by decide +kernel
theorem dX9_readSign_17 : decode cX9_readSign 17 = .ok (.aload_n 0, 1) := by decide +kernel
theorem dX9_readSign_18 : decode cX9_readSign 18 = .ok (.dup, 1) := by decide +kernel
theorem dX9_readSign_19 : decode cX9_readSign 19 = .ok (.getfield 26, 3) := by decide +kernel
theorem dX9_readSign_22 : decode cX9_readSign 22 = .ok (.iconst 1, 1) := by decide +kernel
theorem dX9_readSign_23 : decode cX9_readSign 23 = .ok (.iadd, 1) := by decide +kernel
theorem dX9_readSign_24 : decode cX9_readSign 24 = .ok (.putfield 26, 3) := by decide +kernel
theorem dX9_readSign_27 : decode cX9_readSign 27 = .ok (.iconst 1, 1) := by decide +kernel
theorem dX9_readSign_28 : decode cX9_readSign 28 = .ok (.ireturn, 1) := by decide +kernel
theorem dX9_nextIs_0 : decode cX9_nextIs 0 = .ok (.aload_n 0, 1) := by decide +kernel
theorem dX9_nextIs_1 : decode cX9_nextIs 1 = .ok (.invokevirtual 55, 3) := by decide +kernel
theorem dX9_nextIs_4 : decode cX9_nextIs 4 = .ok (.aload_n 0, 1) := by decide +kernel
theorem dX9_nextIs_5 : decode cX9_nextIs 5 = .ok (.getfield 26, 3) := by decide +kernel
theorem dX9_nextIs_8 : decode cX9_nextIs 8 = .ok (.aload_n 0, 1) := by decide +kernel
theorem dX9_nextIs_9 : decode cX9_nextIs 9 = .ok (.getfield 9, 3) := by decide +kernel
theorem dX9_nextIs_12 : decode cX9_nextIs 12 = .ok (.if_icmp .ge 20, 3) := by decide +kernel
theorem dX9_nextIs_15 : decode cX9_nextIs 15 = .ok (.aload_n 0, 1) := by decide +kernel
theorem dX9_nextIs_16 : decode cX9_nextIs 16 = .ok (.getfield 22, 3) := by decide +kernel
theorem dX9_nextIs_19 : decode cX9_nextIs 19 = .ok (.aload_n 0, 1) := by decide +kernel
theorem dX9_nextIs_20 : decode cX9_nextIs 20 = .ok (.getfield 26, 3) := by decide +kernel
theorem dX9_nextIs_23 : decode cX9_nextIs 23 = .ok (.baload, 1) := by decide +kernel
theorem dX9_nextIs_24 : decode cX9_nextIs 24 = .ok (.iload_n 1, 1) := by decide +kernel
theorem dX9_nextIs_25 : decode cX9_nextIs 25 = .ok (.if_icmp .ne 7, 3) := by decide +kernel
theorem dX9_nextIs_28 : decode cX9_nextIs 28 = .ok (.iconst 1, 1) := by decide +kernel
theorem dX9_nextIs_29 : decode cX9_nextIs 29 = .ok (.goto 4, 3) := by decide +kernel
theorem dX9_nextIs_32 : decode cX9_nextIs 32 = .ok (.iconst 0, 1) := by decide +kernel
theorem dX9_nextIs_33 : decode cX9_nextIs 33 = .ok (.ireturn, 1) := by decide +kernel
theorem dX9_skipBlanks_0 : decode cX9_skipBlanks 0 = .ok (.aload_n 0, 1) := by decide +kernel
theorem dX9_skipBlanks_1 : decode cX9_skipBlanks 1 = .ok (.getfield 26, 3) := by decide +kernel
theorem dX9_skipBlanks_4 : decode cX9_skipBlanks 4 = .ok (.aload_n 0, 1) := by decide +kernel
theorem dX9_skipBlanks_5 : decode cX9_skipBlanks 5 = .ok (.getfield 9, 3) := by decide +kernel
theorem dX9_skipBlanks_8 : decode cX9_skipBlanks 8 = .ok (.if_icmp .ge 58, 3) := by decide +kernel
theorem dX9_skipBlanks_11 : decode cX9_skipBlanks 11 = .ok (.aload_n 0, 1) := by decide +kernel
theorem dX9_skipBlanks_12 : decode cX9_skipBlanks 12 = .ok (.getfield 22, 3) := by decide +kernel
theorem dX9_skipBlanks_15 : decode cX9_skipBlanks 15 = .ok (.aload_n 0, 1) := by decide +kernel
theorem dX9_skipBlanks_16 : decode cX9_skipBlanks 16 = .ok (.getfield 26, 3) := by decide +kernel
theorem dX9_skipBlanks_19 : decode cX9_skipBlanks 19 = .ok (.baload, 1) := by decide +kernel
theorem dX9_skipBlanks_20 : decode cX9_skipBlanks 20 = .ok (.bipush 9, 2) := by decide +kernel
theorem dX9_skipBlanks_22 : decode cX9_skipBlanks 22 = .ok (.if_icmp .eq 31, 3) := by decide +kernel
theorem dX9_skipBlanks_25 : decode cX9_skipBlanks 25 = .ok (.aload_n 0, 1) := by decide +kernel
theorem dX9_skipBlanks_26 : decode cX9_skipBlanks 26 = .ok (.getfield 22, 3) := by decide +kernel
theorem dX9_skipBlanks_29 : decode cX9_skipBlanks 29 = .ok (.aload_n 0, 1) := by decide +kernel
theorem dX9_skipBlanks_30 : decode cX9_skipBlanks 30 = .ok (.getfield 26, 3) := by decide +kernel
theorem dX9_skipBlanks_33 : decode cX9_skipBlanks 33 = .ok (.baload, 1) := by decide +kernel
theorem dX9_skipBlanks_34 : decode cX9_skipBlanks 34 = .ok (.bipush 10, 2) := by decide +kernel
theorem dX9_skipBlanks_36 : decode cX9_skipBlanks 36 = .ok (.if_icmp .eq 17, 3) := by decide +kernel
theorem dX9_skipBlanks_39 : decode cX9_skipBlanks 39 = .ok (.aload_n 0, 1) := by decide +kernel
theorem dX9_skipBlanks_40 : decode cX9_skipBlanks 40 = .ok (.getfield 22, 3) := by decide +kernel
theorem dX9_skipBlanks_43 : decode cX9_skipBlanks 43 = .ok (.aload_n 0, 1) := by decide +kernel
theorem dX9_skipBlanks_44 : decode cX9_skipBlanks 44 = .ok (.getfield 26, 3) := by decide +kernel
theorem dX9_skipBlanks_47 : decode cX9_skipBlanks 47 = .ok (.baload, 1) := by decide +kernel
theorem dX9_skipBlanks_48 : decode cX9_skipBlanks 48 = .ok (.bipush 32, 2) := by decide +kernel
theorem dX9_skipBlanks_50 : decode cX9_skipBlanks 50 = .ok (.if_icmp .ne 16, 3) := by decide +kernel
theorem dX9_skipBlanks_53 : decode cX9_skipBlanks 53 = .ok (.aload_n 0, 1) := by decide +kernel
theorem dX9_skipBlanks_54 : decode cX9_skipBlanks 54 = .ok (.dup, 1) := by decide +kernel
theorem dX9_skipBlanks_55 : decode cX9_skipBlanks 55 = .ok (.getfield 26, 3) := by decide +kernel
theorem dX9_skipBlanks_58 : decode cX9_skipBlanks 58 = .ok (.iconst 1, 1) := by decide +kernel
theorem dX9_skipBlanks_59 : decode cX9_skipBlanks 59 = .ok (.iadd, 1) := by decide +kernel
theorem dX9_skipBlanks_60 : decode cX9_skipBlanks 60 = .ok (.putfield 26, 3) := by decide +kernel
theorem dX9_skipBlanks_63 : decode cX9_skipBlanks 63 = .ok (.goto (-63), 3) := by decide +kernel
theorem dX9_skipBlanks_66 : decode cX9_skipBlanks 66 = .ok (.return_, 1) := by decide +kernel
theorem dX9_failAt_0 : decode cX9_failAt 0 = .ok (.aload_n 0, 1) := by decide +kernel
theorem dX9_failAt_1 : decode cX9_failAt 1 = .ok (.iload_n 1, 1) := by decide +kernel
theorem dX9_failAt_2 : decode cX9_failAt 2 = .ok (.putfield 41, 3) := by decide +kernel
theorem dX9_failAt_5 : decode cX9_failAt 5 = .ok (.iconst 0, 1) := by decide +kernel
theorem dX9_failAt_6 : decode cX9_failAt 6 = .ok (.ireturn, 1) := by decide +kernel
theorem dX10_init_0 : decode cX10_init 0 = .ok (.aload_n 0, 1) := by decide +kernel
theorem dX10_init_1 : decode cX10_init 1 = .ok (.invokespecial 1, 3) := by decide +kernel
theorem dX10_init_4 : decode cX10_init 4 = .ok (.aload_n 0, 1) := by decide +kernel
theorem dX10_init_5 : decode cX10_init 5 = .ok (.new 7, 3) := by decide +kernel
theorem dX10_init_8 : decode cX10_init 8 = .ok (.dup, 1) := by decide +kernel
theorem dX10_init_9 : decode cX10_init 9 = .ok (.invokespecial 9, 3) := by decide +kernel
theorem dX10_init_12 : decode cX10_init 12 = .ok (.putfield 10, 3) := by decide +kernel
theorem dX10_init_15 : decode cX10_init 15 = .ok (.aload_n 0, 1) := by decide +kernel
theorem dX10_init_16 : decode cX10_init 16 = .ok (.new 7, 3) := by decide +kernel
theorem dX10_init_19 : decode cX10_init 19 = .ok (.dup, 1) := by decide +kernel
theorem dX10_init_20 : decode cX10_init 20 = .ok (.invokespecial 9, 3) := by decide +kernel
theorem dX10_init_23 : decode cX10_init 23 = .ok (.putfield 16, 3) := by decide +kernel
theorem dX10_init_26 : decode cX10_init 26 = .ok (.aload_n 0, 1) := by decide +kernel
theorem dX10_init_27 : decode cX10_init 27 = .ok (.new 19, 3) := by decide +kernel
theorem dX10_init_30 : decode cX10_init 30 = .ok (.dup, 1) := by decide +kernel
theorem dX10_init_31 : decode cX10_init 31 = .ok (.invokespecial 21, 3) := by decide +kernel
theorem dX10_init_34 : decode cX10_init 34 = .ok (.putfield 22, 3) := by decide +kernel
theorem dX10_init_37 : decode cX10_init 37 = .ok (.aload_n 0, 1) := by decide +kernel
theorem dX10_init_38 : decode cX10_init 38 = .ok (.iconst (-1), 1) := by decide +kernel
theorem dX10_init_39 : decode cX10_init 39 = .ok (.putfield 26, 3) := by decide +kernel
theorem dX10_init_42 : decode cX10_init 42 = .ok (.aload_n 0, 1) := by decide +kernel
theorem dX10_init_43 : decode cX10_init 43 = .ok (.new 30, 3) := by decide +kernel
theorem dX10_init_46 : decode cX10_init 46 = .ok (.dup, 1) := by decide +kernel
theorem dX10_init_47 : decode cX10_init 47 = .ok (.invokespecial 32, 3) := by decide +kernel
theorem dX10_init_50 : decode cX10_init 50 = .ok (.putfield 33, 3) := by decide +kernel
theorem dX10_init_53 : decode cX10_init 53 = .ok (.aload_n 0, 1) := by decide +kernel
theorem dX10_init_54 : decode cX10_init 54 = .ok (.new 37, 3) := by decide +kernel
theorem dX10_init_57 : decode cX10_init 57 = .ok (.dup, 1) := by decide +kernel
theorem dX10_init_58 : decode cX10_init 58 = .ok (.invokespecial 39, 3) := by decide +kernel
theorem dX10_init_61 : decode cX10_init 61 = .ok (.putfield 40, 3) := by decide +kernel
theorem dX10_init_64 : decode cX10_init 64 = .ok (.aload_n 0, 1) := by decide +kernel
theorem dX10_init_65 : decode cX10_init 65 = .ok (.new 44, 3) := by decide +kernel
theorem dX10_init_68 : decode cX10_init 68 = .ok (.dup, 1) := by decide +kernel
theorem dX10_init_69 : decode cX10_init 69 = .ok (.invokespecial 46, 3) := by decide +kernel
theorem dX10_init_72 : decode cX10_init 72 = .ok (.putfield 47, 3) := by decide +kernel
theorem dX10_init_75 : decode cX10_init 75 = .ok (.return_, 1) := by decide +kernel
theorem dX10_feed_0 : decode cX10_feed 0 = .ok (.aload_n 0, 1) := by decide +kernel
theorem dX10_feed_1 : decode cX10_feed 1 = .ok (.getfield 22, 3) := by decide +kernel
theorem dX10_feed_4 : decode cX10_feed 4 = .ok (.getfield 51, 3) := by decide +kernel
theorem dX10_feed_7 : decode cX10_feed 7 = .ok (.bipush 20, 2) := by decide +kernel
theorem dX10_feed_9 : decode cX10_feed 9 = .ok (.iadd, 1) := by decide +kernel
theorem dX10_feed_10 : decode cX10_feed 10 = .ok (.sipush 400, 3) := by decide +kernel
theorem dX10_feed_13 : decode cX10_feed 13 = .ok (.if_icmp .le 5, 3) := by decide +kernel
theorem dX10_feed_16 : decode cX10_feed 16 = .ok (.iconst (-1), 1) := by decide +kernel
theorem dX10_feed_17 : decode cX10_feed 17 = .ok (.ireturn, 1) := by decide +kernel
theorem dX10_feed_18 : decode cX10_feed 18 = .ok (.aload_n 0, 1) := by decide +kernel
theorem dX10_feed_19 : decode cX10_feed 19 = .ok (.getfield 22, 3) := by decide +kernel
theorem dX10_feed_22 : decode cX10_feed 22 = .ok (.iload_n 1, 1) := by decide +kernel
theorem dX10_feed_23 : decode cX10_feed 23 = .ok (.invokevirtual 54, 3) := by decide +kernel
theorem dX10_feed_26 : decode cX10_feed 26 = .ok (.aload_n 0, 1) := by decide +kernel
theorem dX10_feed_27 : decode cX10_feed 27 = .ok (.getfield 22, 3) := by decide +kernel
theorem dX10_feed_30 : decode cX10_feed 30 = .ok (.iload_n 2, 1) := by decide +kernel
theorem dX10_feed_31 : decode cX10_feed 31 = .ok (.invokevirtual 54, 3) := by decide +kernel
theorem dX10_feed_34 : decode cX10_feed 34 = .ok (.aload_n 0, 1) := by decide +kernel
theorem dX10_feed_35 : decode cX10_feed 35 = .ok (.getfield 22, 3) := by decide +kernel
theorem dX10_feed_38 : decode cX10_feed 38 = .ok (.iload_n 3, 1) := by decide +kernel
theorem dX10_feed_39 : decode cX10_feed 39 = .ok (.invokevirtual 54, 3) := by decide +kernel
theorem dX10_feed_42 : decode cX10_feed 42 = .ok (.aload_n 0, 1) := by decide +kernel
theorem dX10_feed_43 : decode cX10_feed 43 = .ok (.getfield 22, 3) := by decide +kernel
theorem dX10_feed_46 : decode cX10_feed 46 = .ok (.iload 4, 2) := by decide +kernel
theorem dX10_feed_48 : decode cX10_feed 48 = .ok (.invokevirtual 54, 3) := by decide +kernel
theorem dX10_feed_51 : decode cX10_feed 51 = .ok (.aload_n 0, 1) := by decide +kernel
theorem dX10_feed_52 : decode cX10_feed 52 = .ok (.getfield 22, 3) := by decide +kernel
theorem dX10_feed_55 : decode cX10_feed 55 = .ok (.iload 5, 2) := by decide +kernel
theorem dX10_feed_57 : decode cX10_feed 57 = .ok (.invokevirtual 54, 3) := by decide +kernel
theorem dX10_feed_60 : decode cX10_feed 60 = .ok (.aload_n 0, 1) := by decide +kernel
theorem dX10_feed_61 : decode cX10_feed 61 = .ok (.getfield 22, 3) := by decide +kernel
theorem dX10_feed_64 : decode cX10_feed 64 = .ok (.getfield 51, 3) := by decide +kernel
theorem dX10_feed_67 : decode cX10_feed 67 = .ok (.ireturn, 1) := by decide +kernel
theorem dX10_end_0 : decode cX10_end 0 = .ok (.iload_n 1, 1) := by decide +kernel
theorem dX10_end_1 : decode cX10_end 1 = .ok (.ifCond .lt 14, 3) := by decide +kernel
theorem dX10_end_4 : decode cX10_end 4 = .ok (.iload_n 1, 1) := by decide +kernel
theorem dX10_end_5 : decode cX10_end 5 = .ok (.aload_n 0, 1) := by decide +kernel
theorem dX10_end_6 : decode cX10_end 6 = .ok (.getfield 22, 3) := by decide +kernel
theorem dX10_end_9 : decode cX10_end 9 = .ok (.getfield 51, 3) := by decide +kernel
theorem dX10_end_12 : decode cX10_end 12 = .ok (.if_icmp .le 5, 3) := by decide +kernel
theorem dX10_end_15 : decode cX10_end 15 = .ok (.iconst 0, 1) := by decide +kernel
theorem dX10_end_16 : decode cX10_end 16 = .ok (.ireturn, 1) := by decide +kernel
theorem dX10_end_17 : decode cX10_end 17 = .ok (.aload_n 0, 1) := by decide +kernel
theorem dX10_end_18 : decode cX10_end 18 = .ok (.getfield 22, 3) := by decide +kernel
theorem dX10_end_21 : decode cX10_end 21 = .ok (.iload_n 1, 1) := by decide +kernel
theorem dX10_end_22 : decode cX10_end 22 = .ok (.putfield 51, 3) := by decide +kernel
theorem dX10_end_25 : decode cX10_end 25 = .ok (.iconst 1, 1) := by decide +kernel
theorem dX10_end_26 : decode cX10_end 26 = .ok (.ireturn, 1) := by decide +kernel
theorem dX10_read_0 : decode cX10_read 0 = .ok (.aload_n 0, 1) := by decide +kernel
theorem dX10_read_1 : decode cX10_read 1 = .ok (.aload_n 0, 1) := by decide +kernel
theorem dX10_read_2 : decode cX10_read 2 = .ok (.getfield 22, 3) := by decide +kernel
theorem dX10_read_5 : decode cX10_read 5 = .ok (.invokevirtual 58, 3) := by decide +kernel
theorem dX10_read_8 : decode cX10_read 8 = .ok (.putfield 26, 3) := by decide +kernel
theorem dX10_read_11 : decode cX10_read 11 = .ok (.aload_n 0, 1) := by decide +kernel
theorem dX10_read_12 : decode cX10_read 12 = .ok (.getfield 26, 3) := by decide +kernel
theorem dX10_read_15 : decode cX10_read 15 = .ok (.iconst (-1), 1) := by decide +kernel
theorem dX10_read_16 : decode cX10_read 16 = .ok (.if_icmp .eq 13, 3) := by decide +kernel
theorem dX10_read_19 : decode cX10_read 19 = .ok (.new 62, 3) := by decide +kernel
theorem dX10_read_22 : decode cX10_read 22 = .ok (.dup, 1) := by decide +kernel
theorem dX10_read_23 : decode cX10_read 23 = .ok (.ldc 64, 2) := by decide +kernel
theorem dX10_read_25 : decode cX10_read 25 = .ok (.invokespecial 66, 3) := by decide +kernel
theorem dX10_read_28 : decode cX10_read 28 = .ok (.athrow, 1) := by decide +kernel
theorem dX10_read_29 : decode cX10_read 29 = .ok (.aload_n 0, 1) := by decide +kernel
theorem dX10_read_30 : decode cX10_read 30 = .ok (.getfield 10, 3) := by decide +kernel
theorem dX10_read_33 : decode cX10_read 33 = .ok (.getfield 69, 3) := by decide +kernel
theorem dX10_read_36 : decode cX10_read 36 = .ok (.aload_n 0, 1) := by decide +kernel
theorem dX10_read_37 : decode cX10_read 37 = .ok (.getfield 22, 3) := by decide +kernel
theorem dX10_read_40 : decode cX10_read 40 = .ok (.getfield 73, 3) := by decide +kernel
theorem dX10_read_43 : decode cX10_read 43 = .ok (.invokevirtual 76, 3) := by decide +kernel
theorem dX10_read_46 : decode cX10_read 46 = .ok (.aload_n 0, 1) := by decide +kernel
theorem dX10_read_47 : decode cX10_read 47 = .ok (.getfield 10, 3) := by decide +kernel
theorem dX10_read_50 : decode cX10_read 50 = .ok (.invokevirtual 82, 3) := by decide +kernel
theorem dX10_read_53 : decode cX10_read 53 = .ok (.aload_n 0, 1) := by decide +kernel
theorem dX10_read_54 : decode cX10_read 54 = .ok (.getfield 47, 3) := by decide +kernel
theorem dX10_read_57 : decode cX10_read 57 = .ok (.invokevirtual 85, 3) := by decide +kernel
theorem dX10_read_60 : decode cX10_read 60 = .ok (.aload_n 0, 1) := by decide +kernel
theorem dX10_read_61 : decode cX10_read 61 = .ok (.getfield 10, 3) := by decide +kernel
theorem dX10_read_64 : decode cX10_read 64 = .ok (.getfield 69, 3) := by decide +kernel
theorem dX10_read_67 : decode cX10_read 67 = .ok (.getfield 88, 3) := by decide +kernel
theorem dX10_read_70 : decode cX10_read 70 = .ok (.ireturn, 1) := by decide +kernel
theorem dX10_fault_0 : decode cX10_fault 0 = .ok (.aload_n 0, 1) := by decide +kernel
theorem dX10_fault_1 : decode cX10_fault 1 = .ok (.getfield 26, 3) := by decide +kernel
theorem dX10_fault_4 : decode cX10_fault 4 = .ok (.ireturn, 1) := by decide +kernel
theorem dX10_cell_0 : decode cX10_cell 0 = .ok (.aload_n 0, 1) := by decide +kernel
theorem dX10_cell_1 : decode cX10_cell 1 = .ok (.iload_n 1, 1) := by decide +kernel
theorem dX10_cell_2 : decode cX10_cell 2 = .ok (.invokevirtual 91, 3) := by decide +kernel
theorem dX10_cell_5 : decode cX10_cell 5 = .ok (.iload_n 2, 1) := by decide +kernel
theorem dX10_cell_6 : decode cX10_cell 6 = .ok (.lookupswitch 60 #[(0, 26), (1, 39)], 26) := by decide +kernel
theorem dX10_cell_32 : decode cX10_cell 32 = .ok (.aload_n 0, 1) := by decide +kernel
theorem dX10_cell_33 : decode cX10_cell 33 = .ok (.getfield 10, 3) := by decide +kernel
theorem dX10_cell_36 : decode cX10_cell 36 = .ok (.getfield 69, 3) := by decide +kernel
theorem dX10_cell_39 : decode cX10_cell 39 = .ok (.getfield 94, 3) := by decide +kernel
theorem dX10_cell_42 : decode cX10_cell 42 = .ok (.iload_n 1, 1) := by decide +kernel
theorem dX10_cell_43 : decode cX10_cell 43 = .ok (.iaload, 1) := by decide +kernel
theorem dX10_cell_44 : decode cX10_cell 44 = .ok (.ireturn, 1) := by decide +kernel
theorem dX10_cell_45 : decode cX10_cell 45 = .ok (.aload_n 0, 1) := by decide +kernel
theorem dX10_cell_46 : decode cX10_cell 46 = .ok (.getfield 10, 3) := by decide +kernel
theorem dX10_cell_49 : decode cX10_cell 49 = .ok (.getfield 69, 3) := by decide +kernel
theorem dX10_cell_52 : decode cX10_cell 52 = .ok (.getfield 98, 3) := by decide +kernel
theorem dX10_cell_55 : decode cX10_cell 55 = .ok (.iload_n 1, 1) := by decide +kernel
theorem dX10_cell_56 : decode cX10_cell 56 = .ok (.baload, 1) := by decide +kernel
theorem dX10_cell_57 : decode cX10_cell 57 = .ok (.ifCond .eq 7, 3) := by decide +kernel
theorem dX10_cell_60 : decode cX10_cell 60 = .ok (.iconst 1, 1) := by decide +kernel
theorem dX10_cell_61 : decode cX10_cell 61 = .ok (.goto 4, 3) := by decide +kernel
theorem dX10_cell_64 : decode cX10_cell 64 = .ok (.iconst 0, 1) := by decide +kernel
theorem dX10_cell_65 : decode cX10_cell 65 = .ok (.ireturn, 1) := by decide +kernel
theorem dX10_cell_66 : decode cX10_cell 66 = .ok (.new 102, 3) := by decide +kernel
theorem dX10_cell_69 : decode cX10_cell 69 = .ok (.dup, 1) := by decide +kernel
theorem dX10_cell_70 : decode cX10_cell 70 = .ok (.ldc 104, 2) := by decide +kernel
theorem dX10_cell_72 : decode cX10_cell 72 = .ok (.invokespecial 106, 3) := by decide +kernel
theorem dX10_cell_75 : decode cX10_cell 75 = .ok (.athrow, 1) := by decide +kernel
theorem dX10_zone_0 : decode cX10_zone 0 = .ok (.aload_n 0, 1) := by decide +kernel
theorem dX10_zone_1 : decode cX10_zone 1 = .ok (.iload_n 1, 1) := by decide +kernel
theorem dX10_zone_2 : decode cX10_zone 2 = .ok (.invokevirtual 107, 3) := by decide +kernel
theorem dX10_zone_5 : decode cX10_zone 5 = .ok (.iload_n 2, 1) := by decide +kernel
theorem dX10_zone_6 : decode cX10_zone 6 = .ok (.tableswitch 121 0 5 #[38, 50, 62, 85, 97, 109], 38) := by decide +kernel
theorem dX10_zone_44 : decode cX10_zone 44 = .ok (.aload_n 0, 1) := by decide +kernel
theorem dX10_zone_45 : decode cX10_zone 45 = .ok (.getfield 10, 3) := by decide +kernel
theorem dX10_zone_48 : decode cX10_zone 48 = .ok (.getfield 69, 3) := by decide +kernel
theorem dX10_zone_51 : decode cX10_zone 51 = .ok (.iload_n 1, 1) := by decide +kernel
theorem dX10_zone_52 : decode cX10_zone 52 = .ok (.invokevirtual 110, 3) := by decide +kernel
theorem dX10_zone_55 : decode cX10_zone 55 = .ok (.ireturn, 1) := by decide +kernel
theorem dX10_zone_56 : decode cX10_zone 56 = .ok (.aload_n 0, 1) := by decide +kernel
theorem dX10_zone_57 : decode cX10_zone 57 = .ok (.getfield 10, 3) := by decide +kernel
theorem dX10_zone_60 : decode cX10_zone 60 = .ok (.getfield 69, 3) := by decide +kernel
theorem dX10_zone_63 : decode cX10_zone 63 = .ok (.iload_n 1, 1) := by decide +kernel
theorem dX10_zone_64 : decode cX10_zone 64 = .ok (.invokevirtual 114, 3) := by decide +kernel
theorem dX10_zone_67 : decode cX10_zone 67 = .ok (.ireturn, 1) := by decide +kernel
theorem dX10_zone_68 : decode cX10_zone 68 = .ok (.aload_n 0, 1) := by decide +kernel
theorem dX10_zone_69 : decode cX10_zone 69 = .ok (.getfield 40, 3) := by decide +kernel
theorem dX10_zone_72 : decode cX10_zone 72 = .ok (.aload_n 0, 1) := by decide +kernel
theorem dX10_zone_73 : decode cX10_zone 73 = .ok (.getfield 10, 3) := by decide +kernel
theorem dX10_zone_76 : decode cX10_zone 76 = .ok (.getfield 69, 3) := by decide +kernel
theorem dX10_zone_79 : decode cX10_zone 79 = .ok (.iload_n 1, 1) := by decide +kernel
theorem dX10_zone_80 : decode cX10_zone 80 = .ok (.invokevirtual 117, 3) := by decide +kernel
theorem dX10_zone_83 : decode cX10_zone 83 = .ok (.aload_n 0, 1) := by decide +kernel
theorem dX10_zone_84 : decode cX10_zone 84 = .ok (.getfield 40, 3) := by decide +kernel
theorem dX10_zone_87 : decode cX10_zone 87 = .ok (.getfield 121, 3) := by decide +kernel
theorem dX10_zone_90 : decode cX10_zone 90 = .ok (.ireturn, 1) := by decide +kernel
theorem dX10_zone_91 : decode cX10_zone 91 = .ok (.aload_n 0, 1) := by decide +kernel
theorem dX10_zone_92 : decode cX10_zone 92 = .ok (.getfield 10, 3) := by decide +kernel
theorem dX10_zone_95 : decode cX10_zone 95 = .ok (.getfield 69, 3) := by decide +kernel
theorem dX10_zone_98 : decode cX10_zone 98 = .ok (.iload_n 1, 1) := by decide +kernel
theorem dX10_zone_99 : decode cX10_zone 99 = .ok (.invokevirtual 124, 3) := by decide +kernel
theorem dX10_zone_102 : decode cX10_zone 102 = .ok (.ireturn, 1) := by decide +kernel
theorem dX10_zone_103 : decode cX10_zone 103 = .ok (.aload_n 0, 1) := by decide +kernel
theorem dX10_zone_104 : decode cX10_zone 104 = .ok (.getfield 10, 3) := by decide +kernel
theorem dX10_zone_107 : decode cX10_zone 107 = .ok (.getfield 69, 3) := by decide +kernel
theorem dX10_zone_110 : decode cX10_zone 110 = .ok (.iload_n 1, 1) := by decide +kernel
theorem dX10_zone_111 : decode cX10_zone 111 = .ok (.invokevirtual 127, 3) := by decide +kernel
theorem dX10_zone_114 : decode cX10_zone 114 = .ok (.ireturn, 1) := by decide +kernel
theorem dX10_zone_115 : decode cX10_zone 115 = .ok (.aload_n 0, 1) := by decide +kernel
theorem dX10_zone_116 : decode cX10_zone 116 = .ok (.getfield 10, 3) := by decide +kernel
theorem dX10_zone_119 : decode cX10_zone 119 = .ok (.getfield 69, 3) := by decide +kernel
theorem dX10_zone_122 : decode cX10_zone 122 = .ok (.iload_n 1, 1) := by decide +kernel
theorem dX10_zone_123 : decode cX10_zone 123 = .ok (.invokevirtual 130, 3) := by decide +kernel
theorem dX10_zone_126 : decode cX10_zone 126 = .ok (.ireturn, 1) := by decide +kernel
theorem dX10_zone_127 : decode cX10_zone 127 = .ok (.new 102, 3) := by decide +kernel
theorem dX10_zone_130 : decode cX10_zone 130 = .ok (.dup, 1) := by decide +kernel
theorem dX10_zone_131 : decode cX10_zone 131 = .ok (.ldc 133, 2) := by decide +kernel
theorem dX10_zone_133 : decode cX10_zone 133 = .ok (.invokespecial 106, 3) := by decide +kernel
theorem dX10_zone_136 : decode cX10_zone 136 = .ok (.athrow, 1) := by decide +kernel
theorem dX10_name_0 : decode cX10_name 0 = .ok (.aload_n 0, 1) := by decide +kernel
theorem dX10_name_1 : decode cX10_name 1 = .ok (.iload_n 1, 1) := by decide +kernel
theorem dX10_name_2 : decode cX10_name 2 = .ok (.invokevirtual 107, 3) := by decide +kernel
theorem dX10_name_5 : decode cX10_name 5 = .ok (.iload_n 2, 1) := by decide +kernel
theorem dX10_name_6 : decode cX10_name 6 = .ok (.ifCond .lt 39, 3) := by decide +kernel
theorem dX10_name_9 : decode cX10_name 9 = .ok (.iload_n 2, 1) := by decide +kernel
theorem dX10_name_10 : decode cX10_name 10 = .ok (.aload_n 0, 1) := by decide +kernel
theorem dX10_name_11 : decode cX10_name 11 = .ok (.getfield 10, 3) := by decide +kernel
theorem dX10_name_14 : decode cX10_name 14 = .ok (.getfield 69, 3) := by decide +kernel
theorem dX10_name_17 : decode cX10_name 17 = .ok (.getfield 135, 3) := by decide +kernel
theorem dX10_name_20 : decode cX10_name 20 = .ok (.iload_n 1, 1) := by decide +kernel
theorem dX10_name_21 : decode cX10_name 21 = .ok (.iaload, 1) := by decide +kernel
theorem dX10_name_22 : decode cX10_name 22 = .ok (.if_icmp .ge 23, 3) := by decide +kernel
theorem dX10_name_25 : decode cX10_name 25 = .ok (.aload_n 0, 1) := by decide +kernel
theorem dX10_name_26 : decode cX10_name 26 = .ok (.getfield 10, 3) := by decide +kernel
theorem dX10_name_29 : decode cX10_name 29 = .ok (.getfield 69, 3) := by decide +kernel
theorem dX10_name_32 : decode cX10_name 32 = .ok (.getfield 138, 3) := by decide +kernel
theorem dX10_name_35 : decode cX10_name 35 = .ok (.iload_n 1, 1) := by decide +kernel
theorem dX10_name_36 : decode cX10_name 36 = .ok (.bipush 6, 2) := by decide +kernel
theorem dX10_name_38 : decode cX10_name 38 = .ok (.imul, 1) := by decide +kernel
theorem dX10_name_39 : decode cX10_name 39 = .ok (.iload_n 2, 1) := by decide +kernel
theorem dX10_name_40 : decode cX10_name 40 = .ok (.iadd, 1) := by decide +kernel
theorem dX10_name_41 : decode cX10_name 41 = .ok (.baload, 1) := by decide +kernel
theorem dX10_name_42 : decode cX10_name 42 = .ok (.goto 4, 3) := by decide +kernel
theorem dX10_name_45 : decode cX10_name 45 = .ok (.iconst (-1), 1) := by decide +kernel
theorem dX10_name_46 : decode cX10_name 46 = .ok (.ireturn, 1) := by decide +kernel
theorem dX10_people_0 : decode cX10_people 0 = .ok (.aload_n 0, 1) := by decide +kernel
theorem dX10_people_1 : decode cX10_people 1 = .ok (.iload_n 1, 1) := by decide +kernel
theorem dX10_people_2 : decode cX10_people 2 = .ok (.invokevirtual 107, 3) := by decide +kernel
theorem dX10_people_5 : decode cX10_people 5 = .ok (.aload_n 0, 1) := by decide +kernel
theorem dX10_people_6 : decode cX10_people 6 = .ok (.iload_n 2, 1) := by decide +kernel
theorem dX10_people_7 : decode cX10_people 7 = .ok (.invokevirtual 142, 3) := by decide +kernel
theorem dX10_people_10 : decode cX10_people 10 = .ok (.iload_n 3, 1) := by decide +kernel
theorem dX10_people_11 : decode cX10_people 11 = .ok (.ifCond .lt 9, 3) := by decide +kernel
theorem dX10_people_14 : decode cX10_people 14 = .ok (.iload_n 3, 1) := by decide +kernel
theorem dX10_people_15 : decode cX10_people 15 = .ok (.ldc 145, 2) := by decide +kernel
theorem dX10_people_17 : decode cX10_people 17 = .ok (.if_icmp .le 13, 3) := by decide +kernel
theorem dX10_people_20 : decode cX10_people 20 = .ok (.new 62, 3) := by decide +kernel
theorem dX10_people_23 : decode cX10_people 23 = .ok (.dup, 1) := by decide +kernel
theorem dX10_people_24 : decode cX10_people 24 = .ok (.ldc 146, 2) := by decide +kernel
theorem dX10_people_26 : decode cX10_people 26 = .ok (.invokespecial 66, 3) := by decide +kernel
theorem dX10_people_29 : decode cX10_people 29 = .ok (.athrow, 1) := by decide +kernel
theorem dX10_people_30 : decode cX10_people 30 = .ok (.aload_n 0, 1) := by decide +kernel
theorem dX10_people_31 : decode cX10_people 31 = .ok (.getfield 10, 3) := by decide +kernel
theorem dX10_people_34 : decode cX10_people 34 = .ok (.getfield 69, 3) := by decide +kernel
theorem dX10_people_37 : decode cX10_people 37 = .ok (.iload_n 1, 1) := by decide +kernel
theorem dX10_people_38 : decode cX10_people 38 = .ok (.iload_n 2, 1) := by decide +kernel
theorem dX10_people_39 : decode cX10_people 39 = .ok (.invokevirtual 148, 3) := by decide +kernel
theorem dX10_people_42 : decode cX10_people 42 = .ok (.istore 4, 2) := by decide +kernel
theorem dX10_people_44 : decode cX10_people 44 = .ok (.aload_n 0, 1) := by decide +kernel
theorem dX10_people_45 : decode cX10_people 45 = .ok (.getfield 10, 3) := by decide +kernel
theorem dX10_people_48 : decode cX10_people 48 = .ok (.getfield 69, 3) := by decide +kernel
theorem dX10_people_51 : decode cX10_people 51 = .ok (.iload_n 1, 1) := by decide +kernel
theorem dX10_people_52 : decode cX10_people 52 = .ok (.iload_n 2, 1) := by decide +kernel
theorem dX10_people_53 : decode cX10_people 53 = .ok (.iload_n 3, 1) := by decide +kernel
theorem dX10_people_54 : decode cX10_people 54 = .ok (.invokevirtual 152, 3) := by decide +kernel
theorem dX10_people_57 : decode cX10_people 57 = .ok (.aload_n 0, 1) := by decide +kernel
theorem dX10_people_58 : decode cX10_people 58 = .ok (.invokevirtual 156, 3) := by decide +kernel
theorem dX10_people_61 : decode cX10_people 61 = .ok (.iload 4, 2) := by decide +kernel
theorem dX10_people_63 : decode cX10_people 63 = .ok (.ireturn, 1) := by decide +kernel
theorem dX10_lives_0 : decode cX10_lives 0 = .ok (.aload_n 0, 1) := by decide +kernel
theorem dX10_lives_1 : decode cX10_lives 1 = .ok (.iload_n 1, 1) := by decide +kernel
theorem dX10_lives_2 : decode cX10_lives 2 = .ok (.invokevirtual 107, 3) := by decide +kernel
theorem dX10_lives_5 : decode cX10_lives 5 = .ok (.aload_n 0, 1) := by decide +kernel
theorem dX10_lives_6 : decode cX10_lives 6 = .ok (.iload_n 2, 1) := by decide +kernel
theorem dX10_lives_7 : decode cX10_lives 7 = .ok (.invokevirtual 142, 3) := by decide +kernel
theorem dX10_lives_10 : decode cX10_lives 10 = .ok (.aload_n 0, 1) := by decide +kernel
theorem dX10_lives_11 : decode cX10_lives 11 = .ok (.getfield 10, 3) := by decide +kernel
theorem dX10_lives_14 : decode cX10_lives 14 = .ok (.getfield 69, 3) := by decide +kernel
theorem dX10_lives_17 : decode cX10_lives 17 = .ok (.iload_n 1, 1) := by decide +kernel
theorem dX10_lives_18 : decode cX10_lives 18 = .ok (.iload_n 2, 1) := by decide +kernel
theorem dX10_lives_19 : decode cX10_lives 19 = .ok (.invokevirtual 148, 3) := by decide +kernel
theorem dX10_lives_22 : decode cX10_lives 22 = .ok (.ireturn, 1) := by decide +kernel
theorem dX10_flood_0 : decode cX10_flood 0 = .ok (.aload_n 0, 1) := by decide +kernel
theorem dX10_flood_1 : decode cX10_flood 1 = .ok (.iload_n 1, 1) := by decide +kernel
theorem dX10_flood_2 : decode cX10_flood 2 = .ok (.invokevirtual 91, 3) := by decide +kernel
theorem dX10_flood_5 : decode cX10_flood 5 = .ok (.aload_n 0, 1) := by decide +kernel
theorem dX10_flood_6 : decode cX10_flood 6 = .ok (.getfield 10, 3) := by decide +kernel
theorem dX10_flood_9 : decode cX10_flood 9 = .ok (.getfield 69, 3) := by decide +kernel
theorem dX10_flood_12 : decode cX10_flood 12 = .ok (.getfield 98, 3) := by decide +kernel
theorem dX10_flood_15 : decode cX10_flood 15 = .ok (.iload_n 1, 1) := by decide +kernel
theorem dX10_flood_16 : decode cX10_flood 16 = .ok (.baload, 1) := by decide +kernel
theorem dX10_flood_17 : decode cX10_flood 17 = .ok (.iload_n 2, 1) := by decide +kernel
theorem dX10_flood_18 : decode cX10_flood 18 = .ok (.if_icmp .ne 5, 3) := by decide +kernel
theorem dX10_flood_21 : decode cX10_flood 21 = .ok (.iconst 0, 1) := by decide +kernel
theorem dX10_flood_22 : decode cX10_flood 22 = .ok (.ireturn, 1) := by decide +kernel
theorem dX10_flood_23 : decode cX10_flood 23 = .ok (.aload_n 0, 1) := by decide +kernel
theorem dX10_flood_24 : decode cX10_flood 24 = .ok (.getfield 10, 3) := by decide +kernel
theorem dX10_flood_27 : decode cX10_flood 27 = .ok (.getfield 69, 3) := by decide +kernel
theorem dX10_flood_30 : decode cX10_flood 30 = .ok (.getfield 98, 3) := by decide +kernel
theorem dX10_flood_33 : decode cX10_flood 33 = .ok (.iload_n 1, 1) := by decide +kernel
theorem dX10_flood_34 : decode cX10_flood 34 = .ok (.iload_n 2, 1) := by decide +kernel
theorem dX10_flood_35 : decode cX10_flood 35 = .ok (.bastore, 1) := by decide +kernel
theorem dX10_flood_36 : decode cX10_flood 36 = .ok (.aload_n 0, 1) := by decide +kernel
theorem dX10_flood_37 : decode cX10_flood 37 = .ok (.aload_n 0, 1) := by decide +kernel
theorem dX10_flood_38 : decode cX10_flood 38 = .ok (.getfield 10, 3) := by decide +kernel
theorem dX10_flood_41 : decode cX10_flood 41 = .ok (.getfield 69, 3) := by decide +kernel
theorem dX10_flood_44 : decode cX10_flood 44 = .ok (.getfield 94, 3) := by decide +kernel
theorem dX10_flood_47 : decode cX10_flood 47 = .ok (.iload_n 1, 1) := by decide +kernel
theorem dX10_flood_48 : decode cX10_flood 48 = .ok (.iaload, 1) := by decide +kernel
theorem dX10_flood_49 : decode cX10_flood 49 = .ok (.invokevirtual 159, 3) := by decide +kernel
theorem dX10_flood_52 : decode cX10_flood 52 = .ok (.iconst 1, 1) := by decide +kernel
theorem dX10_flood_53 : decode cX10_flood 53 = .ok (.ireturn, 1) := by decide +kernel
theorem dX10_unit_0 : decode cX10_unit 0 = .ok (.iload_n 1, 1) := by decide +kernel
theorem dX10_unit_1 : decode cX10_unit 1 = .ok (.iconst 1, 1) := by decide +kernel
theorem dX10_unit_2 : decode cX10_unit 2 = .ok (.if_icmp .lt 10, 3) := by decide +kernel
theorem dX10_unit_5 : decode cX10_unit 5 = .ok (.iload_n 1, 1) := by decide +kernel
theorem dX10_unit_6 : decode cX10_unit 6 = .ok (.sipush 9999, 3) := by decide +kernel
theorem dX10_unit_9 : decode cX10_unit 9 = .ok (.if_icmp .le 13, 3) := by decide +kernel
theorem dX10_unit_12 : decode cX10_unit 12 = .ok (.new 62, 3) := by decide +kernel
theorem dX10_unit_15 : decode cX10_unit 15 = .ok (.dup, 1) := by decide +kernel
theorem dX10_unit_16 : decode cX10_unit 16 = .ok (.ldc 162, 2) := by decide +kernel
theorem dX10_unit_18 : decode cX10_unit 18 = .ok (.invokespecial 66, 3) := by decide +kernel
theorem dX10_unit_21 : decode cX10_unit 21 = .ok (.athrow, 1) := by decide +kernel
theorem dX10_unit_22 : decode cX10_unit 22 = .ok (.aload_n 0, 1) := by decide +kernel
theorem dX10_unit_23 : decode cX10_unit 23 = .ok (.getfield 10, 3) := by decide +kernel
theorem dX10_unit_26 : decode cX10_unit 26 = .ok (.getfield 164, 3) := by decide +kernel
theorem dX10_unit_29 : decode cX10_unit 29 = .ok (.istore_n 2, 1) := by decide +kernel
theorem dX10_unit_30 : decode cX10_unit 30 = .ok (.aload_n 0, 1) := by decide +kernel
theorem dX10_unit_31 : decode cX10_unit 31 = .ok (.getfield 10, 3) := by decide +kernel
theorem dX10_unit_34 : decode cX10_unit 34 = .ok (.iload_n 1, 1) := by decide +kernel
theorem dX10_unit_35 : decode cX10_unit 35 = .ok (.putfield 164, 3) := by decide +kernel
theorem dX10_unit_38 : decode cX10_unit 38 = .ok (.aload_n 0, 1) := by decide +kernel
theorem dX10_unit_39 : decode cX10_unit 39 = .ok (.invokevirtual 156, 3) := by decide +kernel
theorem dX10_unit_42 : decode cX10_unit 42 = .ok (.iload_n 2, 1) := by decide +kernel
theorem dX10_unit_43 : decode cX10_unit 43 = .ok (.ireturn, 1) := by decide +kernel
theorem dX10_factor_0 : decode cX10_factor 0 = .ok (.iload_n 1, 1) := by decide +kernel
theorem dX10_factor_1 : decode cX10_factor 1 = .ok (.iconst 2, 1) := by decide +kernel
theorem dX10_factor_2 : decode cX10_factor 2 = .ok (.if_icmp .lt 9, 3) := by decide +kernel
theorem dX10_factor_5 : decode cX10_factor 5 = .ok (.iload_n 1, 1) := by decide +kernel
theorem dX10_factor_6 : decode cX10_factor 6 = .ok (.bipush 10, 2) := by decide +kernel
theorem dX10_factor_8 : decode cX10_factor 8 = .ok (.if_icmp .le 13, 3) := by decide +kernel
theorem dX10_factor_11 : decode cX10_factor 11 = .ok (.new 62, 3) := by decide +kernel
theorem dX10_factor_14 : decode cX10_factor 14 = .ok (.dup, 1) := by decide +kernel
theorem dX10_factor_15 : decode cX10_factor 15 = .ok (.ldc 167, 2) := by decide +kernel
theorem dX10_factor_17 : decode cX10_factor 17 = .ok (.invokespecial 66, 3) := by decide +kernel
theorem dX10_factor_20 : decode cX10_factor 20 = .ok (.athrow, 1) := by decide +kernel
theorem dX10_factor_21 : decode cX10_factor 21 = .ok (.aload_n 0, 1) := by decide +kernel
theorem dX10_factor_22 : decode cX10_factor 22 = .ok (.getfield 10, 3) := by decide +kernel
theorem dX10_factor_25 : decode cX10_factor 25 = .ok (.getfield 169, 3) := by decide +kernel
theorem dX10_factor_28 : decode cX10_factor 28 = .ok (.istore_n 2, 1) := by decide +kernel
theorem dX10_factor_29 : decode cX10_factor 29 = .ok (.aload_n 0, 1) := by decide +kernel
theorem dX10_factor_30 : decode cX10_factor 30 = .ok (.getfield 10, 3) := by decide +kernel
theorem dX10_factor_33 : decode cX10_factor 33 = .ok (.iload_n 1, 1) := by decide +kernel
theorem dX10_factor_34 : decode cX10_factor 34 = .ok (.putfield 169, 3) := by decide +kernel
theorem dX10_factor_37 : decode cX10_factor 37 = .ok (.aload_n 0, 1) := by decide +kernel
theorem dX10_factor_38 : decode cX10_factor 38 = .ok (.invokevirtual 156, 3) := by decide +kernel
theorem dX10_factor_41 : decode cX10_factor 41 = .ok (.iload_n 2, 1) := by decide +kernel
theorem dX10_factor_42 : decode cX10_factor 42 = .ok (.ireturn, 1) := by decide +kernel
theorem dX10_order_0 : decode cX10_order 0 = .ok (.aload_n 0, 1) := by decide +kernel
theorem dX10_order_1 : decode cX10_order 1 = .ok (.iload_n 1, 1) := by decide +kernel
theorem dX10_order_2 : decode cX10_order 2 = .ok (.invokevirtual 107, 3) := by decide +kernel
theorem dX10_order_5 : decode cX10_order 5 = .ok (.iload_n 2, 1) := by decide +kernel
theorem dX10_order_6 : decode cX10_order 6 = .ok (.ifCond .lt 34, 3) := by decide +kernel
theorem dX10_order_9 : decode cX10_order 9 = .ok (.iload_n 2, 1) := by decide +kernel
theorem dX10_order_10 : decode cX10_order 10 = .ok (.aload_n 0, 1) := by decide +kernel
theorem dX10_order_11 : decode cX10_order 11 = .ok (.getfield 10, 3) := by decide +kernel
theorem dX10_order_14 : decode cX10_order 14 = .ok (.invokevirtual 172, 3) := by decide +kernel
theorem dX10_order_17 : decode cX10_order 17 = .ok (.getfield 176, 3) := by decide +kernel
theorem dX10_order_20 : decode cX10_order 20 = .ok (.iload_n 1, 1) := by decide +kernel
theorem dX10_order_21 : decode cX10_order 21 = .ok (.iaload, 1) := by decide +kernel
theorem dX10_order_22 : decode cX10_order 22 = .ok (.if_icmp .ge 18, 3) := by decide +kernel
theorem dX10_order_25 : decode cX10_order 25 = .ok (.aload_n 0, 1) := by decide +kernel
theorem dX10_order_26 : decode cX10_order 26 = .ok (.getfield 10, 3) := by decide +kernel
theorem dX10_order_29 : decode cX10_order 29 = .ok (.invokevirtual 181, 3) := by decide +kernel
theorem dX10_order_32 : decode cX10_order 32 = .ok (.iload_n 1, 1) := by decide +kernel
theorem dX10_order_33 : decode cX10_order 33 = .ok (.iload_n 2, 1) := by decide +kernel
theorem dX10_order_34 : decode cX10_order 34 = .ok (.invokevirtual 185, 3) := by decide +kernel
theorem dX10_order_37 : decode cX10_order 37 = .ok (.goto 4, 3) := by decide +kernel
theorem dX10_order_40 : decode cX10_order 40 = .ok (.iconst (-1), 1) := by decide +kernel
theorem dX10_order_41 : decode cX10_order 41 = .ok (.ireturn, 1) := by decide +kernel
theorem dX10_stands_0 : decode cX10_stands 0 = .ok (.aload_n 0, 1) := by decide +kernel
theorem dX10_stands_1 : decode cX10_stands 1 = .ok (.iload_n 1, 1) := by decide +kernel
theorem dX10_stands_2 : decode cX10_stands 2 = .ok (.invokevirtual 91, 3) := by decide +kernel
theorem dX10_stands_5 : decode cX10_stands 5 = .ok (.aload_n 0, 1) := by decide +kernel
theorem dX10_stands_6 : decode cX10_stands 6 = .ok (.getfield 10, 3) := by decide +kernel
theorem dX10_stands_9 : decode cX10_stands 9 = .ok (.invokevirtual 181, 3) := by decide +kernel
theorem dX10_stands_12 : decode cX10_stands 12 = .ok (.getfield 190, 3) := by decide +kernel
theorem dX10_stands_15 : decode cX10_stands 15 = .ok (.iload_n 1, 1) := by decide +kernel
theorem dX10_stands_16 : decode cX10_stands 16 = .ok (.iaload, 1) := by decide +kernel
theorem dX10_stands_17 : decode cX10_stands 17 = .ok (.ireturn, 1) := by decide +kernel
theorem dX10_dots_0 : decode cX10_dots 0 = .ok (.aload_n 0, 1) := by decide +kernel
theorem dX10_dots_1 : decode cX10_dots 1 = .ok (.iload_n 1, 1) := by decide +kernel
theorem dX10_dots_2 : decode cX10_dots 2 = .ok (.invokevirtual 107, 3) := by decide +kernel
theorem dX10_dots_5 : decode cX10_dots 5 = .ok (.aload_n 0, 1) := by decide +kernel
theorem dX10_dots_6 : decode cX10_dots 6 = .ok (.iload_n 2, 1) := by decide +kernel
theorem dX10_dots_7 : decode cX10_dots 7 = .ok (.invokevirtual 142, 3) := by decide +kernel
theorem dX10_dots_10 : decode cX10_dots 10 = .ok (.aload_n 0, 1) := by decide +kernel
theorem dX10_dots_11 : decode cX10_dots 11 = .ok (.iload_n 3, 1) := by decide +kernel
theorem dX10_dots_12 : decode cX10_dots 12 = .ok (.invokevirtual 193, 3) := by decide +kernel
theorem dX10_dots_15 : decode cX10_dots 15 = .ok (.aload_n 0, 1) := by decide +kernel
theorem dX10_dots_16 : decode cX10_dots 16 = .ok (.getfield 10, 3) := by decide +kernel
theorem dX10_dots_19 : decode cX10_dots 19 = .ok (.invokevirtual 172, 3) := by decide +kernel
theorem dX10_dots_22 : decode cX10_dots 22 = .ok (.iload_n 1, 1) := by decide +kernel
theorem dX10_dots_23 : decode cX10_dots 23 = .ok (.iload_n 2, 1) := by decide +kernel
theorem dX10_dots_24 : decode cX10_dots 24 = .ok (.iload_n 3, 1) := by decide +kernel
theorem dX10_dots_25 : decode cX10_dots 25 = .ok (.invokevirtual 196, 3) := by decide +kernel
theorem dX10_dots_28 : decode cX10_dots 28 = .ok (.ireturn, 1) := by decide +kernel
theorem dX10_carried_0 : decode cX10_carried 0 = .ok (.aload_n 0, 1) := by decide +kernel
theorem dX10_carried_1 : decode cX10_carried 1 = .ok (.iload_n 1, 1) := by decide +kernel
theorem dX10_carried_2 : decode cX10_carried 2 = .ok (.invokevirtual 107, 3) := by decide +kernel
theorem dX10_carried_5 : decode cX10_carried 5 = .ok (.aload_n 0, 1) := by decide +kernel
theorem dX10_carried_6 : decode cX10_carried 6 = .ok (.iload_n 2, 1) := by decide +kernel
theorem dX10_carried_7 : decode cX10_carried 7 = .ok (.invokevirtual 142, 3) := by decide +kernel
theorem dX10_carried_10 : decode cX10_carried 10 = .ok (.aload_n 0, 1) := by decide +kernel
theorem dX10_carried_11 : decode cX10_carried 11 = .ok (.iload_n 3, 1) := by decide +kernel
theorem dX10_carried_12 : decode cX10_carried 12 = .ok (.invokevirtual 193, 3) := by decide +kernel
theorem dX10_carried_15 : decode cX10_carried 15 = .ok (.aload_n 0, 1) := by decide +kernel
theorem dX10_carried_16 : decode cX10_carried 16 = .ok (.getfield 10, 3) := by decide +kernel
theorem dX10_carried_19 : decode cX10_carried 19 = .ok (.invokevirtual 172, 3) := by decide +kernel
theorem dX10_carried_22 : decode cX10_carried 22 = .ok (.iload_n 1, 1) := by decide +kernel
theorem dX10_carried_23 : decode cX10_carried 23 = .ok (.iload_n 2, 1) := by decide +kernel
theorem dX10_carried_24 : decode cX10_carried 24 = .ok (.iload_n 3, 1) := by decide +kernel
theorem dX10_carried_25 : decode cX10_carried 25 = .ok (.invokevirtual 200, 3) := by decide +kernel
theorem dX10_carried_28 : decode cX10_carried 28 = .ok (.ireturn, 1) := by decide +kernel
theorem dX10_left_0 : decode cX10_left 0 = .ok (.aload_n 0, 1) := by decide +kernel
theorem dX10_left_1 : decode cX10_left 1 = .ok (.iload_n 1, 1) := by decide +kernel
theorem dX10_left_2 : decode cX10_left 2 = .ok (.invokevirtual 142, 3) := by decide +kernel
theorem dX10_left_5 : decode cX10_left 5 = .ok (.aload_n 0, 1) := by decide +kernel
theorem dX10_left_6 : decode cX10_left 6 = .ok (.iload_n 2, 1) := by decide +kernel
theorem dX10_left_7 : decode cX10_left 7 = .ok (.invokevirtual 193, 3) := by decide +kernel
theorem dX10_left_10 : decode cX10_left 10 = .ok (.aload_n 0, 1) := by decide +kernel
theorem dX10_left_11 : decode cX10_left 11 = .ok (.getfield 10, 3) := by decide +kernel
theorem dX10_left_14 : decode cX10_left 14 = .ok (.invokevirtual 172, 3) := by decide +kernel
theorem dX10_left_17 : decode cX10_left 17 = .ok (.iload_n 1, 1) := by decide +kernel
theorem dX10_left_18 : decode cX10_left 18 = .ok (.iload_n 2, 1) := by decide +kernel
theorem dX10_left_19 : decode cX10_left 19 = .ok (.invokevirtual 203, 3) := by decide +kernel
theorem dX10_left_22 : decode cX10_left 22 = .ok (.ireturn, 1) := by decide +kernel
theorem dX10_all_0 : decode cX10_all 0 = .ok (.aload_n 0, 1) := by decide +kernel
theorem dX10_all_1 : decode cX10_all 1 = .ok (.iload_n 1, 1) := by decide +kernel
theorem dX10_all_2 : decode cX10_all 2 = .ok (.invokevirtual 206, 3) := by decide +kernel
theorem dX10_all_5 : decode cX10_all 5 = .ok (.aload_n 0, 1) := by decide +kernel
theorem dX10_all_6 : decode cX10_all 6 = .ok (.iload_n 2, 1) := by decide +kernel
theorem dX10_all_7 : decode cX10_all 7 = .ok (.invokevirtual 193, 3) := by decide +kernel
theorem dX10_all_10 : decode cX10_all 10 = .ok (.iload_n 1, 1) := by decide +kernel
theorem dX10_all_11 : decode cX10_all 11 = .ok (.iconst (-1), 1) := by decide +kernel
theorem dX10_all_12 : decode cX10_all 12 = .ok (.if_icmp .ne 17, 3) := by decide +kernel
theorem dX10_all_15 : decode cX10_all 15 = .ok (.aload_n 0, 1) := by decide +kernel
theorem dX10_all_16 : decode cX10_all 16 = .ok (.getfield 10, 3) := by decide +kernel
theorem dX10_all_19 : decode cX10_all 19 = .ok (.invokevirtual 172, 3) := by decide +kernel
theorem dX10_all_22 : decode cX10_all 22 = .ok (.iload_n 2, 1) := by decide +kernel
theorem dX10_all_23 : decode cX10_all 23 = .ok (.invokevirtual 209, 3) := by decide +kernel
theorem dX10_all_26 : decode cX10_all 26 = .ok (.goto 15, 3) := by decide +kernel
theorem dX10_all_29 : decode cX10_all 29 = .ok (.aload_n 0, 1) := by decide +kernel
theorem dX10_all_30 : decode cX10_all 30 = .ok (.getfield 10, 3) := by decide +kernel
theorem dX10_all_33 : decode cX10_all 33 = .ok (.invokevirtual 172, 3) := by decide +kernel
theorem dX10_all_36 : decode cX10_all 36 = .ok (.iload_n 1, 1) := by decide +kernel
theorem dX10_all_37 : decode cX10_all 37 = .ok (.iload_n 2, 1) := by decide +kernel
theorem dX10_all_38 : decode cX10_all 38 = .ok (.invokevirtual 212, 3) := by decide +kernel
theorem dX10_all_41 : decode cX10_all 41 = .ok (.ireturn, 1) := by decide +kernel
theorem dX10_dot_0 : decode cX10_dot 0 = .ok (.aload_n 0, 1) := by decide +kernel
theorem dX10_dot_1 : decode cX10_dot 1 = .ok (.iload_n 1, 1) := by decide +kernel
theorem dX10_dot_2 : decode cX10_dot 2 = .ok (.invokevirtual 107, 3) := by decide +kernel
theorem dX10_dot_5 : decode cX10_dot 5 = .ok (.aload_n 0, 1) := by decide +kernel
theorem dX10_dot_6 : decode cX10_dot 6 = .ok (.iload_n 2, 1) := by decide +kernel
theorem dX10_dot_7 : decode cX10_dot 7 = .ok (.invokevirtual 142, 3) := by decide +kernel
theorem dX10_dot_10 : decode cX10_dot 10 = .ok (.aload_n 0, 1) := by decide +kernel
theorem dX10_dot_11 : decode cX10_dot 11 = .ok (.iload_n 3, 1) := by decide +kernel
theorem dX10_dot_12 : decode cX10_dot 12 = .ok (.invokevirtual 193, 3) := by decide +kernel
theorem dX10_dot_15 : decode cX10_dot 15 = .ok (.aload_n 0, 1) := by decide +kernel
theorem dX10_dot_16 : decode cX10_dot 16 = .ok (.getfield 10, 3) := by decide +kernel
theorem dX10_dot_19 : decode cX10_dot 19 = .ok (.invokevirtual 172, 3) := by decide +kernel
theorem dX10_dot_22 : decode cX10_dot 22 = .ok (.getfield 176, 3) := by decide +kernel
theorem dX10_dot_25 : decode cX10_dot 25 = .ok (.iload_n 1, 1) := by decide +kernel
theorem dX10_dot_26 : decode cX10_dot 26 = .ok (.iaload, 1) := by decide +kernel
theorem dX10_dot_27 : decode cX10_dot 27 = .ok (.istore 5, 2) := by decide +kernel
theorem dX10_dot_29 : decode cX10_dot 29 = .ok (.iload 4, 2) := by decide +kernel
theorem dX10_dot_31 : decode cX10_dot 31 = .ok (.ifCond .lt 27, 3) := by decide +kernel
theorem dX10_dot_34 : decode cX10_dot 34 = .ok (.iload 4, 2) := by decide +kernel
theorem dX10_dot_36 : decode cX10_dot 36 = .ok (.aload_n 0, 1) := by decide +kernel
theorem dX10_dot_37 : decode cX10_dot 37 = .ok (.getfield 10, 3) := by decide +kernel
theorem dX10_dot_40 : decode cX10_dot 40 = .ok (.invokevirtual 172, 3) := by decide +kernel
theorem dX10_dot_43 : decode cX10_dot 43 = .ok (.iload_n 1, 1) := by decide +kernel
theorem dX10_dot_44 : decode cX10_dot 44 = .ok (.iload_n 2, 1) := by decide +kernel
theorem dX10_dot_45 : decode cX10_dot 45 = .ok (.iload_n 3, 1) := by decide +kernel
theorem dX10_dot_46 : decode cX10_dot 46 = .ok (.invokevirtual 196, 3) := by decide +kernel
theorem dX10_dot_49 : decode cX10_dot 49 = .ok (.if_icmp .ge 9, 3) := by decide +kernel
theorem dX10_dot_52 : decode cX10_dot 52 = .ok (.iload 5, 2) := by decide +kernel
theorem dX10_dot_54 : decode cX10_dot 54 = .ok (.iconst 1, 1) := by decide +kernel
theorem dX10_dot_55 : decode cX10_dot 55 = .ok (.if_icmp .ge 13, 3) := by decide +kernel
theorem dX10_dot_58 : decode cX10_dot 58 = .ok (.new 102, 3) := by decide +kernel
theorem dX10_dot_61 : decode cX10_dot 61 = .ok (.dup, 1) := by decide +kernel
theorem dX10_dot_62 : decode cX10_dot 62 = .ok (.ldc 215, 2) := by decide +kernel
theorem dX10_dot_64 : decode cX10_dot 64 = .ok (.invokespecial 106, 3) := by decide +kernel
theorem dX10_dot_67 : decode cX10_dot 67 = .ok (.athrow, 1) := by decide +kernel
theorem dX10_dot_68 : decode cX10_dot 68 = .ok (.aload_n 0, 1) := by decide +kernel
theorem dX10_dot_69 : decode cX10_dot 69 = .ok (.getfield 10, 3) := by decide +kernel
theorem dX10_dot_72 : decode cX10_dot 72 = .ok (.invokevirtual 181, 3) := by decide +kernel
theorem dX10_dot_75 : decode cX10_dot 75 = .ok (.iload_n 1, 1) := by decide +kernel
theorem dX10_dot_76 : decode cX10_dot 76 = .ok (.iload 4, 2) := by decide +kernel
theorem dX10_dot_78 : decode cX10_dot 78 = .ok (.aload_n 0, 1) := by decide +kernel
theorem dX10_dot_79 : decode cX10_dot 79 = .ok (.getfield 10, 3) := by decide +kernel
theorem dX10_dot_82 : decode cX10_dot 82 = .ok (.getfield 69, 3) := by decide +kernel
theorem dX10_dot_85 : decode cX10_dot 85 = .ok (.getfield 217, 3) := by decide +kernel
theorem dX10_dot_88 : decode cX10_dot 88 = .ok (.imul, 1) := by decide +kernel
theorem dX10_dot_89 : decode cX10_dot 89 = .ok (.iload_n 2, 1) := by decide +kernel
theorem dX10_dot_90 : decode cX10_dot 90 = .ok (.iadd, 1) := by decide +kernel
theorem dX10_dot_91 : decode cX10_dot 91 = .ok (.iload 5, 2) := by decide +kernel
theorem dX10_dot_93 : decode cX10_dot 93 = .ok (.irem, 1) := by decide +kernel
theorem dX10_dot_94 : decode cX10_dot 94 = .ok (.invokevirtual 185, 3) := by decide +kernel
theorem dX10_dot_97 : decode cX10_dot 97 = .ok (.ireturn, 1) := by decide +kernel
theorem dX10_crowd_0 : decode cX10_crowd 0 = .ok (.aload_n 0, 1) := by decide +kernel
theorem dX10_crowd_1 : decode cX10_crowd 1 = .ok (.iload_n 1, 1) := by decide +kernel
theorem dX10_crowd_2 : decode cX10_crowd 2 = .ok (.invokevirtual 91, 3) := by decide +kernel
theorem dX10_crowd_5 : decode cX10_crowd 5 = .ok (.aload_n 0, 1) := by decide +kernel
theorem dX10_crowd_6 : decode cX10_crowd 6 = .ok (.iload_n 2, 1) := by decide +kernel
theorem dX10_crowd_7 : decode cX10_crowd 7 = .ok (.invokevirtual 206, 3) := by decide +kernel
theorem dX10_crowd_10 : decode cX10_crowd 10 = .ok (.aload_n 0, 1) := by decide +kernel
theorem dX10_crowd_11 : decode cX10_crowd 11 = .ok (.iload_n 3, 1) := by decide +kernel
theorem dX10_crowd_12 : decode cX10_crowd 12 = .ok (.invokevirtual 193, 3) := by decide +kernel
theorem dX10_crowd_15 : decode cX10_crowd 15 = .ok (.aload_n 0, 1) := by decide +kernel
theorem dX10_crowd_16 : decode cX10_crowd 16 = .ok (.getfield 10, 3) := by decide +kernel
theorem dX10_crowd_19 : decode cX10_crowd 19 = .ok (.iload_n 3, 1) := by decide +kernel
theorem dX10_crowd_20 : decode cX10_crowd 20 = .ok (.invokevirtual 220, 3) := by decide +kernel
theorem dX10_crowd_23 : decode cX10_crowd 23 = .ok (.iload_n 1, 1) := by decide +kernel
theorem dX10_crowd_24 : decode cX10_crowd 24 = .ok (.iload_n 2, 1) := by decide +kernel
theorem dX10_crowd_25 : decode cX10_crowd 25 = .ok (.invokevirtual 224, 3) := by decide +kernel
theorem dX10_crowd_28 : decode cX10_crowd 28 = .ok (.ireturn, 1) := by decide +kernel
theorem dX10_apart_0 : decode cX10_apart 0 = .ok (.aload_n 0, 1) := by decide +kernel
theorem dX10_apart_1 : decode cX10_apart 1 = .ok (.iload_n 1, 1) := by decide +kernel
theorem dX10_apart_2 : decode cX10_apart 2 = .ok (.invokevirtual 193, 3) := by decide +kernel
theorem dX10_apart_5 : decode cX10_apart 5 = .ok (.aload_n 0, 1) := by decide +kernel
theorem dX10_apart_6 : decode cX10_apart 6 = .ok (.getfield 10, 3) := by decide +kernel
theorem dX10_apart_9 : decode cX10_apart 9 = .ok (.iload_n 1, 1) := by decide +kernel
theorem dX10_apart_10 : decode cX10_apart 10 = .ok (.invokevirtual 220, 3) := by decide +kernel
theorem dX10_apart_13 : decode cX10_apart 13 = .ok (.aload_n 0, 1) := by decide +kernel
theorem dX10_apart_14 : decode cX10_apart 14 = .ok (.getfield 10, 3) := by decide +kernel
theorem dX10_apart_17 : decode cX10_apart 17 = .ok (.getfield 69, 3) := by decide +kernel
theorem dX10_apart_20 : decode cX10_apart 20 = .ok (.invokevirtual 229, 3) := by decide +kernel
theorem dX10_apart_23 : decode cX10_apart 23 = .ok (.ireturn, 1) := by decide +kernel
theorem dX10_off_0 : decode cX10_off 0 = .ok (.aload_n 0, 1) := by decide +kernel
theorem dX10_off_1 : decode cX10_off 1 = .ok (.iload_n 1, 1) := by decide +kernel
theorem dX10_off_2 : decode cX10_off 2 = .ok (.invokevirtual 107, 3) := by decide +kernel
theorem dX10_off_5 : decode cX10_off 5 = .ok (.aload_n 0, 1) := by decide +kernel
theorem dX10_off_6 : decode cX10_off 6 = .ok (.iload_n 2, 1) := by decide +kernel
theorem dX10_off_7 : decode cX10_off 7 = .ok (.invokevirtual 142, 3) := by decide +kernel
theorem dX10_off_10 : decode cX10_off 10 = .ok (.aload_n 0, 1) := by decide +kernel
theorem dX10_off_11 : decode cX10_off 11 = .ok (.getfield 10, 3) := by decide +kernel
theorem dX10_off_14 : decode cX10_off 14 = .ok (.invokevirtual 172, 3) := by decide +kernel
theorem dX10_off_17 : decode cX10_off 17 = .ok (.iload_n 1, 1) := by decide +kernel
theorem dX10_off_18 : decode cX10_off 18 = .ok (.iload_n 2, 1) := by decide +kernel
theorem dX10_off_19 : decode cX10_off 19 = .ok (.iconst 0, 1) := by decide +kernel
theorem dX10_off_20 : decode cX10_off 20 = .ok (.invokevirtual 196, 3) := by decide +kernel
theorem dX10_off_23 : decode cX10_off 23 = .ok (.aload_n 0, 1) := by decide +kernel
theorem dX10_off_24 : decode cX10_off 24 = .ok (.getfield 10, 3) := by decide +kernel
theorem dX10_off_27 : decode cX10_off 27 = .ok (.getfield 164, 3) := by decide +kernel
theorem dX10_off_30 : decode cX10_off 30 = .ok (.imul, 1) := by decide +kernel
theorem dX10_off_31 : decode cX10_off 31 = .ok (.aload_n 0, 1) := by decide +kernel
theorem dX10_off_32 : decode cX10_off 32 = .ok (.getfield 10, 3) := by decide +kernel
theorem dX10_off_35 : decode cX10_off 35 = .ok (.getfield 69, 3) := by decide +kernel
theorem dX10_off_38 : decode cX10_off 38 = .ok (.iload_n 1, 1) := by decide +kernel
theorem dX10_off_39 : decode cX10_off 39 = .ok (.iload_n 2, 1) := by decide +kernel
theorem dX10_off_40 : decode cX10_off 40 = .ok (.invokevirtual 148, 3) := by decide +kernel
theorem dX10_off_43 : decode cX10_off 43 = .ok (.isub, 1) := by decide +kernel
theorem dX10_off_44 : decode cX10_off 44 = .ok (.ireturn, 1) := by decide +kernel
theorem dX10_move_0 : decode cX10_move 0 = .ok (.aload_n 0, 1) := by decide +kernel
theorem dX10_move_1 : decode cX10_move 1 = .ok (.iload_n 1, 1) := by decide +kernel
theorem dX10_move_2 : decode cX10_move 2 = .ok (.invokevirtual 107, 3) := by decide +kernel
theorem dX10_move_5 : decode cX10_move 5 = .ok (.aload_n 0, 1) := by decide +kernel
theorem dX10_move_6 : decode cX10_move 6 = .ok (.iload_n 2, 1) := by decide +kernel
theorem dX10_move_7 : decode cX10_move 7 = .ok (.invokevirtual 107, 3) := by decide +kernel
theorem dX10_move_10 : decode cX10_move 10 = .ok (.aload_n 0, 1) := by decide +kernel
theorem dX10_move_11 : decode cX10_move 11 = .ok (.iload_n 3, 1) := by decide +kernel
theorem dX10_move_12 : decode cX10_move 12 = .ok (.invokevirtual 233, 3) := by decide +kernel
theorem dX10_move_15 : decode cX10_move 15 = .ok (.aload_n 0, 1) := by decide +kernel
theorem dX10_move_16 : decode cX10_move 16 = .ok (.iload_n 1, 1) := by decide +kernel
theorem dX10_move_17 : decode cX10_move 17 = .ok (.iload_n 2, 1) := by decide +kernel
theorem dX10_move_18 : decode cX10_move 18 = .ok (.iload 4, 2) := by decide +kernel
theorem dX10_move_20 : decode cX10_move 20 = .ok (.iload 5, 2) := by decide +kernel
theorem dX10_move_22 : decode cX10_move 22 = .ok (.invokevirtual 236, 3) := by decide +kernel
theorem dX10_move_25 : decode cX10_move 25 = .ok (.aload_n 0, 1) := by decide +kernel
theorem dX10_move_26 : decode cX10_move 26 = .ok (.getfield 10, 3) := by decide +kernel
theorem dX10_move_29 : decode cX10_move 29 = .ok (.getfield 69, 3) := by decide +kernel
theorem dX10_move_32 : decode cX10_move 32 = .ok (.iload_n 1, 1) := by decide +kernel
theorem dX10_move_33 : decode cX10_move 33 = .ok (.iload_n 2, 1) := by decide +kernel
theorem dX10_move_34 : decode cX10_move 34 = .ok (.iload_n 3, 1) := by decide +kernel
theorem dX10_move_35 : decode cX10_move 35 = .ok (.iload 4, 2) := by decide +kernel
theorem dX10_move_37 : decode cX10_move 37 = .ok (.iload 5, 2) := by decide +kernel
theorem dX10_move_39 : decode cX10_move 39 = .ok (.invokevirtual 240, 3) := by decide +kernel
theorem dX10_move_42 : decode cX10_move 42 = .ok (.istore 6, 2) := by decide +kernel
theorem dX10_move_44 : decode cX10_move 44 = .ok (.aload_n 0, 1) := by decide +kernel
theorem dX10_move_45 : decode cX10_move 45 = .ok (.iload_n 1, 1) := by decide +kernel
theorem dX10_move_46 : decode cX10_move 46 = .ok (.invokevirtual 159, 3) := by decide +kernel
theorem dX10_move_49 : decode cX10_move 49 = .ok (.aload_n 0, 1) := by decide +kernel
theorem dX10_move_50 : decode cX10_move 50 = .ok (.iload_n 2, 1) := by decide +kernel
theorem dX10_move_51 : decode cX10_move 51 = .ok (.invokevirtual 159, 3) := by decide +kernel
theorem dX10_move_54 : decode cX10_move 54 = .ok (.iload 6, 2) := by decide +kernel
theorem dX10_move_56 : decode cX10_move 56 = .ok (.ireturn, 1) := by decide +kernel
theorem dX10_tries_0 : decode cX10_tries 0 = .ok (.aload_n 0, 1) := by decide +kernel
theorem dX10_tries_1 : decode cX10_tries 1 = .ok (.iload_n 1, 1) := by decide +kernel
theorem dX10_tries_2 : decode cX10_tries 2 = .ok (.invokevirtual 107, 3) := by decide +kernel
theorem dX10_tries_5 : decode cX10_tries 5 = .ok (.aload_n 0, 1) := by decide +kernel
theorem dX10_tries_6 : decode cX10_tries 6 = .ok (.iload_n 2, 1) := by decide +kernel
theorem dX10_tries_7 : decode cX10_tries 7 = .ok (.invokevirtual 107, 3) := by decide +kernel
theorem dX10_tries_10 : decode cX10_tries 10 = .ok (.aload_n 0, 1) := by decide +kernel
theorem dX10_tries_11 : decode cX10_tries 11 = .ok (.iload_n 3, 1) := by decide +kernel
theorem dX10_tries_12 : decode cX10_tries 12 = .ok (.invokevirtual 233, 3) := by decide +kernel
theorem dX10_tries_15 : decode cX10_tries 15 = .ok (.aload_n 0, 1) := by decide +kernel
theorem dX10_tries_16 : decode cX10_tries 16 = .ok (.iload 6, 2) := by decide +kernel
theorem dX10_tries_18 : decode cX10_tries 18 = .ok (.invokevirtual 193, 3) := by decide +kernel
theorem dX10_tries_21 : decode cX10_tries 21 = .ok (.aload_n 0, 1) := by decide +kernel
theorem dX10_tries_22 : decode cX10_tries 22 = .ok (.iload_n 1, 1) := by decide +kernel
theorem dX10_tries_23 : decode cX10_tries 23 = .ok (.iload_n 2, 1) := by decide +kernel
theorem dX10_tries_24 : decode cX10_tries 24 = .ok (.iload 4, 2) := by decide +kernel
theorem dX10_tries_26 : decode cX10_tries 26 = .ok (.iload 5, 2) := by decide +kernel
theorem dX10_tries_28 : decode cX10_tries 28 = .ok (.invokevirtual 236, 3) := by decide +kernel
theorem dX10_tries_31 : decode cX10_tries 31 = .ok (.aload_n 0, 1) := by decide +kernel
theorem dX10_tries_32 : decode cX10_tries 32 = .ok (.getfield 10, 3) := by decide +kernel
theorem dX10_tries_35 : decode cX10_tries 35 = .ok (.invokevirtual 181, 3) := by decide +kernel
theorem dX10_tries_38 : decode cX10_tries 38 = .ok (.pop, 1) := by decide +kernel
theorem dX10_tries_39 : decode cX10_tries 39 = .ok (.aload_n 0, 1) := by decide +kernel
theorem dX10_tries_40 : decode cX10_tries 40 = .ok (.getfield 16, 3) := by decide +kernel
theorem dX10_tries_43 : decode cX10_tries 43 = .ok (.aload_n 0, 1) := by decide +kernel
theorem dX10_tries_44 : decode cX10_tries 44 = .ok (.getfield 10, 3) := by decide +kernel
theorem dX10_tries_47 : decode cX10_tries 47 = .ok (.invokevirtual 244, 3) := by decide +kernel
theorem dX10_tries_50 : decode cX10_tries 50 = .ok (.aload_n 0, 1) := by decide +kernel
theorem dX10_tries_51 : decode cX10_tries 51 = .ok (.getfield 16, 3) := by decide +kernel
theorem dX10_tries_54 : decode cX10_tries 54 = .ok (.getfield 69, 3) := by decide +kernel
theorem dX10_tries_57 : decode cX10_tries 57 = .ok (.iload_n 1, 1) := by decide +kernel
theorem dX10_tries_58 : decode cX10_tries 58 = .ok (.iload_n 2, 1) := by decide +kernel
theorem dX10_tries_59 : decode cX10_tries 59 = .ok (.iload_n 3, 1) := by decide +kernel
theorem dX10_tries_60 : decode cX10_tries 60 = .ok (.iload 4, 2) := by decide +kernel
theorem dX10_tries_62 : decode cX10_tries 62 = .ok (.iload 5, 2) := by decide +kernel
theorem dX10_tries_64 : decode cX10_tries 64 = .ok (.invokevirtual 240, 3) := by decide +kernel
theorem dX10_tries_67 : decode cX10_tries 67 = .ok (.pop, 1) := by decide +kernel
theorem dX10_tries_68 : decode cX10_tries 68 = .ok (.aload_n 0, 1) := by decide +kernel
theorem dX10_tries_69 : decode cX10_tries 69 = .ok (.getfield 16, 3) := by decide +kernel
theorem dX10_tries_72 : decode cX10_tries 72 = .ok (.iload_n 1, 1) := by decide +kernel
theorem dX10_tries_73 : decode cX10_tries 73 = .ok (.invokevirtual 247, 3) := by decide +kernel
theorem dX10_tries_76 : decode cX10_tries 76 = .ok (.aload_n 0, 1) := by decide +kernel
theorem dX10_tries_77 : decode cX10_tries 77 = .ok (.getfield 16, 3) := by decide +kernel
theorem dX10_tries_80 : decode cX10_tries 80 = .ok (.iload_n 2, 1) := by decide +kernel
theorem dX10_tries_81 : decode cX10_tries 81 = .ok (.invokevirtual 247, 3) := by decide +kernel
theorem dX10_tries_84 : decode cX10_tries 84 = .ok (.aload_n 0, 1) := by decide +kernel
theorem dX10_tries_85 : decode cX10_tries 85 = .ok (.getfield 16, 3) := by decide +kernel
theorem dX10_tries_88 : decode cX10_tries 88 = .ok (.iload 6, 2) := by decide +kernel
theorem dX10_tries_90 : decode cX10_tries 90 = .ok (.invokevirtual 220, 3) := by decide +kernel
theorem dX10_tries_93 : decode cX10_tries 93 = .ok (.aload_n 0, 1) := by decide +kernel
theorem dX10_tries_94 : decode cX10_tries 94 = .ok (.getfield 10, 3) := by decide +kernel
theorem dX10_tries_97 : decode cX10_tries 97 = .ok (.iload 6, 2) := by decide +kernel
theorem dX10_tries_99 : decode cX10_tries 99 = .ok (.invokevirtual 220, 3) := by decide +kernel
theorem dX10_tries_102 : decode cX10_tries 102 = .ok (.aload_n 0, 1) := by decide +kernel
theorem dX10_tries_103 : decode cX10_tries 103 = .ok (.getfield 10, 3) := by decide +kernel
theorem dX10_tries_106 : decode cX10_tries 106 = .ok (.getfield 69, 3) := by decide +kernel
theorem dX10_tries_109 : decode cX10_tries 109 = .ok (.invokevirtual 248, 3) := by decide +kernel
theorem dX10_tries_112 : decode cX10_tries 112 = .ok (.ireturn, 1) := by decide +kernel
theorem dX10_run_0 : decode cX10_run 0 = .ok (.aload_n 0, 1) := by decide +kernel
theorem dX10_run_1 : decode cX10_run 1 = .ok (.iload_n 1, 1) := by decide +kernel
theorem dX10_run_2 : decode cX10_run 2 = .ok (.invokevirtual 107, 3) := by decide +kernel
theorem dX10_run_5 : decode cX10_run 5 = .ok (.aload_n 0, 1) := by decide +kernel
theorem dX10_run_6 : decode cX10_run 6 = .ok (.iload_n 2, 1) := by decide +kernel
theorem dX10_run_7 : decode cX10_run 7 = .ok (.invokevirtual 233, 3) := by decide +kernel
theorem dX10_run_10 : decode cX10_run 10 = .ok (.iload_n 3, 1) := by decide +kernel
theorem dX10_run_11 : decode cX10_run 11 = .ok (.iconst (-1), 1) := by decide +kernel
theorem dX10_run_12 : decode cX10_run 12 = .ok (.if_icmp .ne 18, 3) := by decide +kernel
theorem dX10_run_15 : decode cX10_run 15 = .ok (.aload_n 0, 1) := by decide +kernel
theorem dX10_run_16 : decode cX10_run 16 = .ok (.getfield 10, 3) := by decide +kernel
theorem dX10_run_19 : decode cX10_run 19 = .ok (.getfield 69, 3) := by decide +kernel
theorem dX10_run_22 : decode cX10_run 22 = .ok (.iload_n 1, 1) := by decide +kernel
theorem dX10_run_23 : decode cX10_run 23 = .ok (.iload_n 2, 1) := by decide +kernel
theorem dX10_run_24 : decode cX10_run 24 = .ok (.invokevirtual 252, 3) := by decide +kernel
theorem dX10_run_27 : decode cX10_run 27 = .ok (.goto 18, 3) := by decide +kernel
theorem dX10_run_30 : decode cX10_run 30 = .ok (.aload_n 0, 1) := by decide +kernel
theorem dX10_run_31 : decode cX10_run 31 = .ok (.getfield 10, 3) := by decide +kernel
theorem dX10_run_34 : decode cX10_run 34 = .ok (.getfield 69, 3) := by decide +kernel
theorem dX10_run_37 : decode cX10_run 37 = .ok (.iload_n 1, 1) := by decide +kernel
theorem dX10_run_38 : decode cX10_run 38 = .ok (.iload_n 2, 1) := by decide +kernel
theorem dX10_run_39 : decode cX10_run 39 = .ok (.iload_n 3, 1) := by decide +kernel
theorem dX10_run_40 : decode cX10_run 40 = .ok (.iload 4, 2) := by decide +kernel
theorem dX10_run_42 : decode cX10_run 42 = .ok (.invokevirtual 255, 3) := by decide +kernel
theorem dX10_run_45 : decode cX10_run 45 = .ok (.ireturn, 1) := by decide +kernel
theorem dX10_part_0 : decode cX10_part 0 = .ok (.aload_n 0, 1) := by decide +kernel
theorem dX10_part_1 : decode cX10_part 1 = .ok (.iload_n 1, 1) := by decide +kernel
theorem dX10_part_2 : decode cX10_part 2 = .ok (.invokevirtual 91, 3) := by decide +kernel
theorem dX10_part_5 : decode cX10_part 5 = .ok (.aload_n 0, 1) := by decide +kernel
theorem dX10_part_6 : decode cX10_part 6 = .ok (.getfield 10, 3) := by decide +kernel
theorem dX10_part_9 : decode cX10_part 9 = .ok (.getfield 69, 3) := by decide +kernel
theorem dX10_part_12 : decode cX10_part 12 = .ok (.iload_n 1, 1) := by decide +kernel
theorem dX10_part_13 : decode cX10_part 13 = .ok (.invokevirtual 259, 3) := by decide +kernel
theorem dX10_part_16 : decode cX10_part 16 = .ok (.ifCond .ne 5, 3) := by decide +kernel
theorem dX10_part_19 : decode cX10_part 19 = .ok (.iconst (-1), 1) := by decide +kernel
theorem dX10_part_20 : decode cX10_part 20 = .ok (.ireturn, 1) := by decide +kernel
theorem dX10_part_21 : decode cX10_part 21 = .ok (.aload_n 0, 1) := by decide +kernel
theorem dX10_part_22 : decode cX10_part 22 = .ok (.getfield 40, 3) := by decide +kernel
theorem dX10_part_25 : decode cX10_part 25 = .ok (.aload_n 0, 1) := by decide +kernel
theorem dX10_part_26 : decode cX10_part 26 = .ok (.getfield 10, 3) := by decide +kernel
theorem dX10_part_29 : decode cX10_part 29 = .ok (.getfield 69, 3) := by decide +kernel
theorem dX10_part_32 : decode cX10_part 32 = .ok (.aload_n 0, 1) := by decide +kernel
theorem dX10_part_33 : decode cX10_part 33 = .ok (.getfield 10, 3) := by decide +kernel
theorem dX10_part_36 : decode cX10_part 36 = .ok (.getfield 69, 3) := by decide +kernel
theorem dX10_part_39 : decode cX10_part 39 = .ok (.getfield 94, 3) := by decide +kernel
theorem dX10_part_42 : decode cX10_part 42 = .ok (.iload_n 1, 1) := by decide +kernel
theorem dX10_part_43 : decode cX10_part 43 = .ok (.iaload, 1) := by decide +kernel
theorem dX10_part_44 : decode cX10_part 44 = .ok (.invokevirtual 117, 3) := by decide +kernel
theorem dX10_part_47 : decode cX10_part 47 = .ok (.aload_n 0, 1) := by decide +kernel
theorem dX10_part_48 : decode cX10_part 48 = .ok (.getfield 40, 3) := by decide +kernel
theorem dX10_part_51 : decode cX10_part 51 = .ok (.getfield 263, 3) := by decide +kernel
theorem dX10_part_54 : decode cX10_part 54 = .ok (.iload_n 1, 1) := by decide +kernel
theorem dX10_part_55 : decode cX10_part 55 = .ok (.iaload, 1) := by decide +kernel
theorem dX10_part_56 : decode cX10_part 56 = .ok (.ireturn, 1) := by decide +kernel
theorem dX10_measure_0 : decode cX10_measure 0 = .ok (.aload_n 0, 1) := by decide +kernel
theorem dX10_measure_1 : decode cX10_measure 1 = .ok (.iload_n 1, 1) := by decide +kernel
theorem dX10_measure_2 : decode cX10_measure 2 = .ok (.invokevirtual 91, 3) := by decide +kernel
theorem dX10_measure_5 : decode cX10_measure 5 = .ok (.aload_n 0, 1) := by decide +kernel
theorem dX10_measure_6 : decode cX10_measure 6 = .ok (.iload_n 3, 1) := by decide +kernel
theorem dX10_measure_7 : decode cX10_measure 7 = .ok (.invokevirtual 193, 3) := by decide +kernel
theorem dX10_measure_10 : decode cX10_measure 10 = .ok (.aload_n 0, 1) := by decide +kernel
theorem dX10_measure_11 : decode cX10_measure 11 = .ok (.iload_n 2, 1) := by decide +kernel
theorem dX10_measure_12 : decode cX10_measure 12 = .ok (.invokevirtual 266, 3) := by decide +kernel
theorem dX10_measure_15 : decode cX10_measure 15 = .ok (.aload_n 0, 1) := by decide +kernel
theorem dX10_measure_16 : decode cX10_measure 16 = .ok (.iload 4, 2) := by decide +kernel
theorem dX10_measure_18 : decode cX10_measure 18 = .ok (.invokevirtual 269, 3) := by decide +kernel
theorem dX10_measure_21 : decode cX10_measure 21 = .ok (.aload_n 0, 1) := by decide +kernel
theorem dX10_measure_22 : decode cX10_measure 22 = .ok (.getfield 10, 3) := by decide +kernel
theorem dX10_measure_25 : decode cX10_measure 25 = .ok (.iload_n 3, 1) := by decide +kernel
theorem dX10_measure_26 : decode cX10_measure 26 = .ok (.invokevirtual 220, 3) := by decide +kernel
theorem dX10_measure_29 : decode cX10_measure 29 = .ok (.aload_n 0, 1) := by decide +kernel
theorem dX10_measure_30 : decode cX10_measure 30 = .ok (.getfield 10, 3) := by decide +kernel
theorem dX10_measure_33 : decode cX10_measure 33 = .ok (.getfield 69, 3) := by decide +kernel
theorem dX10_measure_36 : decode cX10_measure 36 = .ok (.iload_n 1, 1) := by decide +kernel
theorem dX10_measure_37 : decode cX10_measure 37 = .ok (.iload_n 2, 1) := by decide +kernel
theorem dX10_measure_38 : decode cX10_measure 38 = .ok (.iload 4, 2) := by decide +kernel
theorem dX10_measure_40 : decode cX10_measure 40 = .ok (.invokevirtual 272, 3) := by decide +kernel
theorem dX10_measure_43 : decode cX10_measure 43 = .ok (.ireturn, 1) := by decide +kernel
theorem dX10_best_0 : decode cX10_best 0 = .ok (.aload_n 0, 1) := by decide +kernel
theorem dX10_best_1 : decode cX10_best 1 = .ok (.iload_n 2, 1) := by decide +kernel
theorem dX10_best_2 : decode cX10_best 2 = .ok (.invokevirtual 193, 3) := by decide +kernel
theorem dX10_best_5 : decode cX10_best 5 = .ok (.aload_n 0, 1) := by decide +kernel
theorem dX10_best_6 : decode cX10_best 6 = .ok (.iload_n 1, 1) := by decide +kernel
theorem dX10_best_7 : decode cX10_best 7 = .ok (.invokevirtual 266, 3) := by decide +kernel
theorem dX10_best_10 : decode cX10_best 10 = .ok (.aload_n 0, 1) := by decide +kernel
theorem dX10_best_11 : decode cX10_best 11 = .ok (.iload_n 3, 1) := by decide +kernel
theorem dX10_best_12 : decode cX10_best 12 = .ok (.invokevirtual 269, 3) := by decide +kernel
theorem dX10_best_15 : decode cX10_best 15 = .ok (.aload_n 0, 1) := by decide +kernel
theorem dX10_best_16 : decode cX10_best 16 = .ok (.getfield 10, 3) := by decide +kernel
theorem dX10_best_19 : decode cX10_best 19 = .ok (.iload_n 2, 1) := by decide +kernel
theorem dX10_best_20 : decode cX10_best 20 = .ok (.invokevirtual 220, 3) := by decide +kernel
theorem dX10_best_23 : decode cX10_best 23 = .ok (.aload_n 0, 1) := by decide +kernel
theorem dX10_best_24 : decode cX10_best 24 = .ok (.getfield 10, 3) := by decide +kernel
theorem dX10_best_27 : decode cX10_best 27 = .ok (.getfield 69, 3) := by decide +kernel
theorem dX10_best_30 : decode cX10_best 30 = .ok (.iload_n 1, 1) := by decide +kernel
theorem dX10_best_31 : decode cX10_best 31 = .ok (.iload_n 3, 1) := by decide +kernel
theorem dX10_best_32 : decode cX10_best 32 = .ok (.invokevirtual 276, 3) := by decide +kernel
theorem dX10_best_35 : decode cX10_best 35 = .ok (.ireturn, 1) := by decide +kernel
theorem dX10_nearest_0 : decode cX10_nearest 0 = .ok (.aload_n 0, 1) := by decide +kernel
theorem dX10_nearest_1 : decode cX10_nearest 1 = .ok (.iload_n 1, 1) := by decide +kernel
theorem dX10_nearest_2 : decode cX10_nearest 2 = .ok (.invokevirtual 91, 3) := by decide +kernel
theorem dX10_nearest_5 : decode cX10_nearest 5 = .ok (.aload_n 0, 1) := by decide +kernel
theorem dX10_nearest_6 : decode cX10_nearest 6 = .ok (.iload_n 2, 1) := by decide +kernel
theorem dX10_nearest_7 : decode cX10_nearest 7 = .ok (.invokevirtual 193, 3) := by decide +kernel
theorem dX10_nearest_10 : decode cX10_nearest 10 = .ok (.aload_n 0, 1) := by decide +kernel
theorem dX10_nearest_11 : decode cX10_nearest 11 = .ok (.getfield 10, 3) := by decide +kernel
theorem dX10_nearest_14 : decode cX10_nearest 14 = .ok (.iload_n 2, 1) := by decide +kernel
theorem dX10_nearest_15 : decode cX10_nearest 15 = .ok (.invokevirtual 220, 3) := by decide +kernel
theorem dX10_nearest_18 : decode cX10_nearest 18 = .ok (.aload_n 0, 1) := by decide +kernel
theorem dX10_nearest_19 : decode cX10_nearest 19 = .ok (.getfield 10, 3) := by decide +kernel
theorem dX10_nearest_22 : decode cX10_nearest 22 = .ok (.getfield 69, 3) := by decide +kernel
theorem dX10_nearest_25 : decode cX10_nearest 25 = .ok (.iload_n 1, 1) := by decide +kernel
theorem dX10_nearest_26 : decode cX10_nearest 26 = .ok (.invokevirtual 280, 3) := by decide +kernel
theorem dX10_nearest_29 : decode cX10_nearest 29 = .ok (.ireturn, 1) := by decide +kernel
theorem dX10_served_0 : decode cX10_served 0 = .ok (.aload_n 0, 1) := by decide +kernel
theorem dX10_served_1 : decode cX10_served 1 = .ok (.iload_n 1, 1) := by decide +kernel
theorem dX10_served_2 : decode cX10_served 2 = .ok (.invokevirtual 91, 3) := by decide +kernel
theorem dX10_served_5 : decode cX10_served 5 = .ok (.aload_n 0, 1) := by decide +kernel
theorem dX10_served_6 : decode cX10_served 6 = .ok (.iload_n 2, 1) := by decide +kernel
theorem dX10_served_7 : decode cX10_served 7 = .ok (.invokevirtual 193, 3) := by decide +kernel
theorem dX10_served_10 : decode cX10_served 10 = .ok (.aload_n 0, 1) := by decide +kernel
theorem dX10_served_11 : decode cX10_served 11 = .ok (.getfield 10, 3) := by decide +kernel
theorem dX10_served_14 : decode cX10_served 14 = .ok (.iload_n 2, 1) := by decide +kernel
theorem dX10_served_15 : decode cX10_served 15 = .ok (.invokevirtual 220, 3) := by decide +kernel
theorem dX10_served_18 : decode cX10_served 18 = .ok (.aload_n 0, 1) := by decide +kernel
theorem dX10_served_19 : decode cX10_served 19 = .ok (.getfield 10, 3) := by decide +kernel
theorem dX10_served_22 : decode cX10_served 22 = .ok (.getfield 69, 3) := by decide +kernel
theorem dX10_served_25 : decode cX10_served 25 = .ok (.iload_n 1, 1) := by decide +kernel
theorem dX10_served_26 : decode cX10_served 26 = .ok (.invokevirtual 284, 3) := by decide +kernel
theorem dX10_served_29 : decode cX10_served 29 = .ok (.ireturn, 1) := by decide +kernel
theorem dX10_thinned_0 : decode cX10_thinned 0 = .ok (.aload_n 0, 1) := by decide +kernel
theorem dX10_thinned_1 : decode cX10_thinned 1 = .ok (.iload_n 1, 1) := by decide +kernel
theorem dX10_thinned_2 : decode cX10_thinned 2 = .ok (.invokevirtual 193, 3) := by decide +kernel
theorem dX10_thinned_5 : decode cX10_thinned 5 = .ok (.aload_n 0, 1) := by decide +kernel
theorem dX10_thinned_6 : decode cX10_thinned 6 = .ok (.iload_n 2, 1) := by decide +kernel
theorem dX10_thinned_7 : decode cX10_thinned 7 = .ok (.invokevirtual 269, 3) := by decide +kernel
theorem dX10_thinned_10 : decode cX10_thinned 10 = .ok (.aload_n 0, 1) := by decide +kernel
theorem dX10_thinned_11 : decode cX10_thinned 11 = .ok (.iconst 0, 1) := by decide +kernel
theorem dX10_thinned_12 : decode cX10_thinned 12 = .ok (.iload_n 1, 1) := by decide +kernel
theorem dX10_thinned_13 : decode cX10_thinned 13 = .ok (.iload_n 2, 1) := by decide +kernel
theorem dX10_thinned_14 : decode cX10_thinned 14 = .ok (.invokevirtual 287, 3) := by decide +kernel
theorem dX10_thinned_17 : decode cX10_thinned 17 = .ok (.aload_n 0, 1) := by decide +kernel
theorem dX10_thinned_18 : decode cX10_thinned 18 = .ok (.iload_n 3, 1) := by decide +kernel
theorem dX10_thinned_19 : decode cX10_thinned 19 = .ok (.invokevirtual 290, 3) := by decide +kernel
theorem dX10_thinned_22 : decode cX10_thinned 22 = .ok (.ireturn, 1) := by decide +kernel
theorem dX10_tour_0 : decode cX10_tour 0 = .ok (.aload_n 0, 1) := by decide +kernel
theorem dX10_tour_1 : decode cX10_tour 1 = .ok (.iload_n 1, 1) := by decide +kernel
theorem dX10_tour_2 : decode cX10_tour 2 = .ok (.invokevirtual 193, 3) := by decide +kernel
theorem dX10_tour_5 : decode cX10_tour 5 = .ok (.aload_n 0, 1) := by decide +kernel
theorem dX10_tour_6 : decode cX10_tour 6 = .ok (.iconst 1, 1) := by decide +kernel
theorem dX10_tour_7 : decode cX10_tour 7 = .ok (.iload_n 1, 1) := by decide +kernel
theorem dX10_tour_8 : decode cX10_tour 8 = .ok (.iconst 0, 1) := by decide +kernel
theorem dX10_tour_9 : decode cX10_tour 9 = .ok (.invokevirtual 287, 3) := by decide +kernel
theorem dX10_tour_12 : decode cX10_tour 12 = .ok (.aload_n 0, 1) := by decide +kernel
theorem dX10_tour_13 : decode cX10_tour 13 = .ok (.iload_n 2, 1) := by decide +kernel
theorem dX10_tour_14 : decode cX10_tour 14 = .ok (.invokevirtual 290, 3) := by decide +kernel
theorem dX10_tour_17 : decode cX10_tour 17 = .ok (.ireturn, 1) := by decide +kernel
theorem dX10_way_0 : decode cX10_way 0 = .ok (.aload_n 0, 1) := by decide +kernel
theorem dX10_way_1 : decode cX10_way 1 = .ok (.iload_n 1, 1) := by decide +kernel
theorem dX10_way_2 : decode cX10_way 2 = .ok (.invokevirtual 193, 3) := by decide +kernel
theorem dX10_way_5 : decode cX10_way 5 = .ok (.aload_n 0, 1) := by decide +kernel
theorem dX10_way_6 : decode cX10_way 6 = .ok (.iconst 1, 1) := by decide +kernel
theorem dX10_way_7 : decode cX10_way 7 = .ok (.iload_n 1, 1) := by decide +kernel
theorem dX10_way_8 : decode cX10_way 8 = .ok (.iconst 0, 1) := by decide +kernel
theorem dX10_way_9 : decode cX10_way 9 = .ok (.invokevirtual 287, 3) := by decide +kernel
theorem dX10_way_12 : decode cX10_way 12 = .ok (.aload_n 0, 1) := by decide +kernel
theorem dX10_way_13 : decode cX10_way 13 = .ok (.getfield 47, 3) := by decide +kernel
theorem dX10_way_16 : decode cX10_way 16 = .ok (.getfield 293, 3) := by decide +kernel
theorem dX10_way_19 : decode cX10_way 19 = .ok (.ireturn, 1) := by decide +kernel
theorem dX10_hull_0 : decode cX10_hull 0 = .ok (.aload_n 0, 1) := by decide +kernel
theorem dX10_hull_1 : decode cX10_hull 1 = .ok (.iload_n 1, 1) := by decide +kernel
theorem dX10_hull_2 : decode cX10_hull 2 = .ok (.invokevirtual 193, 3) := by decide +kernel
theorem dX10_hull_5 : decode cX10_hull 5 = .ok (.aload_n 0, 1) := by decide +kernel
theorem dX10_hull_6 : decode cX10_hull 6 = .ok (.iconst 2, 1) := by decide +kernel
theorem dX10_hull_7 : decode cX10_hull 7 = .ok (.iload_n 1, 1) := by decide +kernel
theorem dX10_hull_8 : decode cX10_hull 8 = .ok (.iconst 0, 1) := by decide +kernel
theorem dX10_hull_9 : decode cX10_hull 9 = .ok (.invokevirtual 287, 3) := by decide +kernel
theorem dX10_hull_12 : decode cX10_hull 12 = .ok (.aload_n 0, 1) := by decide +kernel
theorem dX10_hull_13 : decode cX10_hull 13 = .ok (.iload_n 2, 1) := by decide +kernel
theorem dX10_hull_14 : decode cX10_hull 14 = .ok (.invokevirtual 290, 3) := by decide +kernel
theorem dX10_hull_17 : decode cX10_hull 17 = .ok (.ireturn, 1) := by decide +kernel
theorem dX10_area_0 : decode cX10_area 0 = .ok (.aload_n 0, 1) := by decide +kernel
theorem dX10_area_1 : decode cX10_area 1 = .ok (.iload_n 1, 1) := by decide +kernel
theorem dX10_area_2 : decode cX10_area 2 = .ok (.invokevirtual 193, 3) := by decide +kernel
theorem dX10_area_5 : decode cX10_area 5 = .ok (.aload_n 0, 1) := by decide +kernel
theorem dX10_area_6 : decode cX10_area 6 = .ok (.iconst 2, 1) := by decide +kernel
theorem dX10_area_7 : decode cX10_area 7 = .ok (.iload_n 1, 1) := by decide +kernel
theorem dX10_area_8 : decode cX10_area 8 = .ok (.iconst 0, 1) := by decide +kernel
theorem dX10_area_9 : decode cX10_area 9 = .ok (.invokevirtual 287, 3) := by decide +kernel
theorem dX10_area_12 : decode cX10_area 12 = .ok (.aload_n 0, 1) := by decide +kernel
theorem dX10_area_13 : decode cX10_area 13 = .ok (.getfield 47, 3) := by decide +kernel
theorem dX10_area_16 : decode cX10_area 16 = .ok (.aload_n 0, 1) := by decide +kernel
theorem dX10_area_17 : decode cX10_area 17 = .ok (.getfield 10, 3) := by decide +kernel
theorem dX10_area_20 : decode cX10_area 20 = .ok (.getfield 69, 3) := by decide +kernel
theorem dX10_area_23 : decode cX10_area 23 = .ok (.invokevirtual 296, 3) := by decide +kernel
theorem dX10_area_26 : decode cX10_area 26 = .ok (.ireturn, 1) := by decide +kernel
theorem dX10_middle_0 : decode cX10_middle 0 = .ok (.aload_n 0, 1) := by decide +kernel
theorem dX10_middle_1 : decode cX10_middle 1 = .ok (.iload_n 1, 1) := by decide +kernel
theorem dX10_middle_2 : decode cX10_middle 2 = .ok (.invokevirtual 206, 3) := by decide +kernel
theorem dX10_middle_5 : decode cX10_middle 5 = .ok (.aload_n 0, 1) := by decide +kernel
theorem dX10_middle_6 : decode cX10_middle 6 = .ok (.iload_n 2, 1) := by decide +kernel
theorem dX10_middle_7 : decode cX10_middle 7 = .ok (.invokevirtual 193, 3) := by decide +kernel
theorem dX10_middle_10 : decode cX10_middle 10 = .ok (.aload_n 0, 1) := by decide +kernel
theorem dX10_middle_11 : decode cX10_middle 11 = .ok (.getfield 10, 3) := by decide +kernel
theorem dX10_middle_14 : decode cX10_middle 14 = .ok (.iload_n 2, 1) := by decide +kernel
theorem dX10_middle_15 : decode cX10_middle 15 = .ok (.invokevirtual 220, 3) := by decide +kernel
theorem dX10_middle_18 : decode cX10_middle 18 = .ok (.aload_n 0, 1) := by decide +kernel
theorem dX10_middle_19 : decode cX10_middle 19 = .ok (.getfield 10, 3) := by decide +kernel
theorem dX10_middle_22 : decode cX10_middle 22 = .ok (.getfield 69, 3) := by decide +kernel
theorem dX10_middle_25 : decode cX10_middle 25 = .ok (.iload_n 1, 1) := by decide +kernel
theorem dX10_middle_26 : decode cX10_middle 26 = .ok (.invokevirtual 299, 3) := by decide +kernel
theorem dX10_middle_29 : decode cX10_middle 29 = .ok (.ireturn, 1) := by decide +kernel
theorem dX10_line_0 : decode cX10_line 0 = .ok (.iload_n 2, 1) := by decide +kernel
theorem dX10_line_1 : decode cX10_line 1 = .ok (.ifCond .lt 34, 3) := by decide +kernel
theorem dX10_line_4 : decode cX10_line 4 = .ok (.iload_n 2, 1) := by decide +kernel
theorem dX10_line_5 : decode cX10_line 5 = .ok (.iload_n 1, 1) := by decide +kernel
theorem dX10_line_6 : decode cX10_line 6 = .ok (.ifCond .eq 16, 3) := by decide +kernel
theorem dX10_line_9 : decode cX10_line 9 = .ok (.aload_n 0, 1) := by decide +kernel
theorem dX10_line_10 : decode cX10_line 10 = .ok (.getfield 10, 3) := by decide +kernel
theorem dX10_line_13 : decode cX10_line 13 = .ok (.getfield 69, 3) := by decide +kernel
theorem dX10_line_16 : decode cX10_line 16 = .ok (.getfield 302, 3) := by decide +kernel
theorem dX10_line_19 : decode cX10_line 19 = .ok (.goto 13, 3) := by decide +kernel
theorem dX10_line_22 : decode cX10_line 22 = .ok (.aload_n 0, 1) := by decide +kernel
theorem dX10_line_23 : decode cX10_line 23 = .ok (.getfield 10, 3) := by decide +kernel
theorem dX10_line_26 : decode cX10_line 26 = .ok (.getfield 69, 3) := by decide +kernel
theorem dX10_line_29 : decode cX10_line 29 = .ok (.getfield 305, 3) := by decide +kernel
theorem dX10_line_32 : decode cX10_line 32 = .ok (.if_icmp .lt 14, 3) := by decide +kernel
theorem dX10_line_35 : decode cX10_line 35 = .ok (.new 308, 3) := by decide +kernel
theorem dX10_line_38 : decode cX10_line 38 = .ok (.dup, 1) := by decide +kernel
theorem dX10_line_39 : decode cX10_line 39 = .ok (.ldc_w 310, 3) := by decide +kernel
theorem dX10_line_42 : decode cX10_line 42 = .ok (.invokespecial 312, 3) := by decide +kernel
theorem dX10_line_45 : decode cX10_line 45 = .ok (.athrow, 1) := by decide +kernel
theorem dX10_line_46 : decode cX10_line 46 = .ok (.aload_n 0, 1) := by decide +kernel
theorem dX10_line_47 : decode cX10_line 47 = .ok (.iload_n 3, 1) := by decide +kernel
theorem dX10_line_48 : decode cX10_line 48 = .ok (.invokevirtual 193, 3) := by decide +kernel
theorem dX10_line_51 : decode cX10_line 51 = .ok (.iload_n 1, 1) := by decide +kernel
theorem dX10_line_52 : decode cX10_line 52 = .ok (.ifCond .eq 25, 3) := by decide +kernel
theorem dX10_line_55 : decode cX10_line 55 = .ok (.aload_n 0, 1) := by decide +kernel
theorem dX10_line_56 : decode cX10_line 56 = .ok (.getfield 10, 3) := by decide +kernel
theorem dX10_line_59 : decode cX10_line 59 = .ok (.iload_n 3, 1) := by decide +kernel
theorem dX10_line_60 : decode cX10_line 60 = .ok (.invokevirtual 220, 3) := by decide +kernel
theorem dX10_line_63 : decode cX10_line 63 = .ok (.aload_n 0, 1) := by decide +kernel
theorem dX10_line_64 : decode cX10_line 64 = .ok (.getfield 10, 3) := by decide +kernel
theorem dX10_line_67 : decode cX10_line 67 = .ok (.getfield 69, 3) := by decide +kernel
theorem dX10_line_70 : decode cX10_line 70 = .ok (.iload_n 2, 1) := by decide +kernel
theorem dX10_line_71 : decode cX10_line 71 = .ok (.invokevirtual 313, 3) := by decide +kernel
theorem dX10_line_74 : decode cX10_line 74 = .ok (.goto 22, 3) := by decide +kernel
theorem dX10_line_77 : decode cX10_line 77 = .ok (.aload_n 0, 1) := by decide +kernel
theorem dX10_line_78 : decode cX10_line 78 = .ok (.getfield 10, 3) := by decide +kernel
theorem dX10_line_81 : decode cX10_line 81 = .ok (.iload_n 3, 1) := by decide +kernel
theorem dX10_line_82 : decode cX10_line 82 = .ok (.invokevirtual 220, 3) := by decide +kernel
theorem dX10_line_85 : decode cX10_line 85 = .ok (.aload_n 0, 1) := by decide +kernel
theorem dX10_line_86 : decode cX10_line 86 = .ok (.getfield 10, 3) := by decide +kernel
theorem dX10_line_89 : decode cX10_line 89 = .ok (.getfield 69, 3) := by decide +kernel
theorem dX10_line_92 : decode cX10_line 92 = .ok (.iload_n 2, 1) := by decide +kernel
theorem dX10_line_93 : decode cX10_line 93 = .ok (.invokevirtual 316, 3) := by decide +kernel
theorem dX10_line_96 : decode cX10_line 96 = .ok (.ireturn, 1) := by decide +kernel
theorem dX10_joined_0 : decode cX10_joined 0 = .ok (.aload_n 0, 1) := by decide +kernel
theorem dX10_joined_1 : decode cX10_joined 1 = .ok (.iload_n 1, 1) := by decide +kernel
theorem dX10_joined_2 : decode cX10_joined 2 = .ok (.invokevirtual 107, 3) := by decide +kernel
theorem dX10_joined_5 : decode cX10_joined 5 = .ok (.aload_n 0, 1) := by decide +kernel
theorem dX10_joined_6 : decode cX10_joined 6 = .ok (.iload_n 2, 1) := by decide +kernel
theorem dX10_joined_7 : decode cX10_joined 7 = .ok (.invokevirtual 107, 3) := by decide +kernel
theorem dX10_joined_10 : decode cX10_joined 10 = .ok (.aload_n 0, 1) := by decide +kernel
theorem dX10_joined_11 : decode cX10_joined 11 = .ok (.iload_n 3, 1) := by decide +kernel
theorem dX10_joined_12 : decode cX10_joined 12 = .ok (.invokevirtual 193, 3) := by decide +kernel
theorem dX10_joined_15 : decode cX10_joined 15 = .ok (.aload_n 0, 1) := by decide +kernel
theorem dX10_joined_16 : decode cX10_joined 16 = .ok (.iload_n 1, 1) := by decide +kernel
theorem dX10_joined_17 : decode cX10_joined 17 = .ok (.iload_n 2, 1) := by decide +kernel
theorem dX10_joined_18 : decode cX10_joined 18 = .ok (.invokevirtual 319, 3) := by decide +kernel
theorem dX10_joined_21 : decode cX10_joined 21 = .ok (.aload_n 0, 1) := by decide +kernel
theorem dX10_joined_22 : decode cX10_joined 22 = .ok (.getfield 16, 3) := by decide +kernel
theorem dX10_joined_25 : decode cX10_joined 25 = .ok (.aload_n 0, 1) := by decide +kernel
theorem dX10_joined_26 : decode cX10_joined 26 = .ok (.getfield 10, 3) := by decide +kernel
theorem dX10_joined_29 : decode cX10_joined 29 = .ok (.invokevirtual 244, 3) := by decide +kernel
theorem dX10_joined_32 : decode cX10_joined 32 = .ok (.aload_n 0, 1) := by decide +kernel
theorem dX10_joined_33 : decode cX10_joined 33 = .ok (.getfield 16, 3) := by decide +kernel
theorem dX10_joined_36 : decode cX10_joined 36 = .ok (.getfield 69, 3) := by decide +kernel
theorem dX10_joined_39 : decode cX10_joined 39 = .ok (.iload_n 1, 1) := by decide +kernel
theorem dX10_joined_40 : decode cX10_joined 40 = .ok (.iload_n 2, 1) := by decide +kernel
theorem dX10_joined_41 : decode cX10_joined 41 = .ok (.invokevirtual 323, 3) := by decide +kernel
theorem dX10_joined_44 : decode cX10_joined 44 = .ok (.aload_n 0, 1) := by decide +kernel
theorem dX10_joined_45 : decode cX10_joined 45 = .ok (.getfield 16, 3) := by decide +kernel
theorem dX10_joined_48 : decode cX10_joined 48 = .ok (.iload_n 1, 1) := by decide +kernel
theorem dX10_joined_49 : decode cX10_joined 49 = .ok (.invokevirtual 247, 3) := by decide +kernel
theorem dX10_joined_52 : decode cX10_joined 52 = .ok (.aload_n 0, 1) := by decide +kernel
theorem dX10_joined_53 : decode cX10_joined 53 = .ok (.getfield 16, 3) := by decide +kernel
theorem dX10_joined_56 : decode cX10_joined 56 = .ok (.iload_n 2, 1) := by decide +kernel
theorem dX10_joined_57 : decode cX10_joined 57 = .ok (.invokevirtual 247, 3) := by decide +kernel
theorem dX10_joined_60 : decode cX10_joined 60 = .ok (.aload_n 0, 1) := by decide +kernel
theorem dX10_joined_61 : decode cX10_joined 61 = .ok (.getfield 16, 3) := by decide +kernel
theorem dX10_joined_64 : decode cX10_joined 64 = .ok (.invokevirtual 172, 3) := by decide +kernel
theorem dX10_joined_67 : decode cX10_joined 67 = .ok (.iload_n 1, 1) := by decide +kernel
theorem dX10_joined_68 : decode cX10_joined 68 = .ok (.iload_n 3, 1) := by decide +kernel
theorem dX10_joined_69 : decode cX10_joined 69 = .ok (.invokevirtual 326, 3) := by decide +kernel
theorem dX10_joined_72 : decode cX10_joined 72 = .ok (.ireturn, 1) := by decide +kernel
theorem dX10_fits_0 : decode cX10_fits 0 = .ok (.aload_n 0, 1) := by decide +kernel
theorem dX10_fits_1 : decode cX10_fits 1 = .ok (.getfield 10, 3) := by decide +kernel
theorem dX10_fits_4 : decode cX10_fits 4 = .ok (.invokevirtual 172, 3) := by decide +kernel
theorem dX10_fits_7 : decode cX10_fits 7 = .ok (.astore_n 2, 1) := by decide +kernel
theorem dX10_fits_8 : decode cX10_fits 8 = .ok (.aload_n 2, 1) := by decide +kernel
theorem dX10_fits_9 : decode cX10_fits 9 = .ok (.aload_n 0, 1) := by decide +kernel
theorem dX10_fits_10 : decode cX10_fits 10 = .ok (.getfield 10, 3) := by decide +kernel
theorem dX10_fits_13 : decode cX10_fits 13 = .ok (.getfield 69, 3) := by decide +kernel
theorem dX10_fits_16 : decode cX10_fits 16 = .ok (.sipush 9999, 3) := by decide +kernel
theorem dX10_fits_19 : decode cX10_fits 19 = .ok (.invokevirtual 329, 3) := by decide +kernel
theorem dX10_fits_22 : decode cX10_fits 22 = .ok (.iload_n 1, 1) := by decide +kernel
theorem dX10_fits_23 : decode cX10_fits 23 = .ok (.if_icmp .le 5, 3) := by decide +kernel
theorem dX10_fits_26 : decode cX10_fits 26 = .ok (.iconst (-1), 1) := by decide +kernel
theorem dX10_fits_27 : decode cX10_fits 27 = .ok (.ireturn, 1) := by decide +kernel
theorem dX10_fits_28 : decode cX10_fits 28 = .ok (.iconst 1, 1) := by decide +kernel
theorem dX10_fits_29 : decode cX10_fits 29 = .ok (.istore_n 3, 1) := by decide +kernel
theorem dX10_fits_30 : decode cX10_fits 30 = .ok (.sipush 9999, 3) := by decide +kernel
theorem dX10_fits_33 : decode cX10_fits 33 = .ok (.istore 4, 2) := by decide +kernel
theorem dX10_fits_35 : decode cX10_fits 35 = .ok (.iconst 0, 1) := by decide +kernel
theorem dX10_fits_36 : decode cX10_fits 36 = .ok (.istore 5, 2) := by decide +kernel
theorem dX10_fits_38 : decode cX10_fits 38 = .ok (.iload_n 3, 1) := by decide +kernel
theorem dX10_fits_39 : decode cX10_fits 39 = .ok (.iload 4, 2) := by decide +kernel
theorem dX10_fits_41 : decode cX10_fits 41 = .ok (.if_icmp .ge 54, 3) := by decide +kernel
theorem dX10_fits_44 : decode cX10_fits 44 = .ok (.iload 5, 2) := by decide +kernel
theorem dX10_fits_46 : decode cX10_fits 46 = .ok (.sipush 9999, 3) := by decide +kernel
theorem dX10_fits_49 : decode cX10_fits 49 = .ok (.if_icmp .ge 46, 3) := by decide +kernel
theorem dX10_fits_52 : decode cX10_fits 52 = .ok (.iload_n 3, 1) := by decide +kernel
theorem dX10_fits_53 : decode cX10_fits 53 = .ok (.iload 4, 2) := by decide +kernel
theorem dX10_fits_55 : decode cX10_fits 55 = .ok (.iadd, 1) := by decide +kernel
theorem dX10_fits_56 : decode cX10_fits 56 = .ok (.iconst 2, 1) := by decide +kernel
theorem dX10_fits_57 : decode cX10_fits 57 = .ok (.idiv, 1) := by decide +kernel
theorem dX10_fits_58 : decode cX10_fits 58 = .ok (.istore 6, 2) := by decide +kernel
theorem dX10_fits_60 : decode cX10_fits 60 = .ok (.aload_n 2, 1) := by decide +kernel
theorem dX10_fits_61 : decode cX10_fits 61 = .ok (.aload_n 0, 1) := by decide +kernel
theorem dX10_fits_62 : decode cX10_fits 62 = .ok (.getfield 10, 3) := by decide +kernel
theorem dX10_fits_65 : decode cX10_fits 65 = .ok (.getfield 69, 3) := by decide +kernel
theorem dX10_fits_68 : decode cX10_fits 68 = .ok (.iload 6, 2) := by decide +kernel
theorem dX10_fits_70 : decode cX10_fits 70 = .ok (.invokevirtual 329, 3) := by decide +kernel
theorem dX10_fits_73 : decode cX10_fits 73 = .ok (.iload_n 1, 1) := by decide +kernel
theorem dX10_fits_74 : decode cX10_fits 74 = .ok (.if_icmp .le 11, 3) := by decide +kernel
theorem dX10_fits_77 : decode cX10_fits 77 = .ok (.iload 6, 2) := by decide +kernel
theorem dX10_fits_79 : decode cX10_fits 79 = .ok (.iconst 1, 1) := by decide +kernel
theorem dX10_fits_80 : decode cX10_fits 80 = .ok (.iadd, 1) := by decide +kernel
theorem dX10_fits_81 : decode cX10_fits 81 = .ok (.istore_n 3, 1) := by decide +kernel
theorem dX10_fits_82 : decode cX10_fits 82 = .ok (.goto 7, 3) := by decide +kernel
theorem dX10_fits_85 : decode cX10_fits 85 = .ok (.iload 6, 2) := by decide +kernel
theorem dX10_fits_87 : decode cX10_fits 87 = .ok (.istore 4, 2) := by decide +kernel
theorem dX10_fits_89 : decode cX10_fits 89 = .ok (.iinc 5 1, 3) := by decide +kernel
theorem dX10_fits_92 : decode cX10_fits 92 = .ok (.goto (-54), 3) := by decide +kernel
theorem dX10_fits_95 : decode cX10_fits 95 = .ok (.iload_n 3, 1) := by decide +kernel
theorem dX10_fits_96 : decode cX10_fits 96 = .ok (.ireturn, 1) := by decide +kernel
theorem dX10_scale_0 : decode cX10_scale 0 = .ok (.iconst 0, 1) := by decide +kernel
theorem dX10_scale_1 : decode cX10_scale 1 = .ok (.istore_n 2, 1) := by decide +kernel
theorem dX10_scale_2 : decode cX10_scale 2 = .ok (.iload_n 2, 1) := by decide +kernel
theorem dX10_scale_3 : decode cX10_scale 3 = .ok (.iconst 5, 1) := by decide +kernel
theorem dX10_scale_4 : decode cX10_scale 4 = .ok (.if_icmp .ge 26, 3) := by decide +kernel
theorem dX10_scale_7 : decode cX10_scale 7 = .ok (.aload_n 0, 1) := by decide +kernel
theorem dX10_scale_8 : decode cX10_scale 8 = .ok (.getfield 10, 3) := by decide +kernel
theorem dX10_scale_11 : decode cX10_scale 11 = .ok (.invokevirtual 172, 3) := by decide +kernel
theorem dX10_scale_14 : decode cX10_scale 14 = .ok (.iload_n 2, 1) := by decide +kernel
theorem dX10_scale_15 : decode cX10_scale 15 = .ok (.invokevirtual 209, 3) := by decide +kernel
theorem dX10_scale_18 : decode cX10_scale 18 = .ok (.iload_n 1, 1) := by decide +kernel
theorem dX10_scale_19 : decode cX10_scale 19 = .ok (.if_icmp .gt 5, 3) := by decide +kernel
theorem dX10_scale_22 : decode cX10_scale 22 = .ok (.iload_n 2, 1) := by decide +kernel
theorem dX10_scale_23 : decode cX10_scale 23 = .ok (.ireturn, 1) := by decide +kernel
theorem dX10_scale_24 : decode cX10_scale 24 = .ok (.iinc 2 1, 3) := by decide +kernel
theorem dX10_scale_27 : decode cX10_scale 27 = .ok (.goto (-25), 3) := by decide +kernel
theorem dX10_scale_30 : decode cX10_scale 30 = .ok (.iconst (-1), 1) := by decide +kernel
theorem dX10_scale_31 : decode cX10_scale 31 = .ok (.ireturn, 1) := by decide +kernel
theorem dX10_write_0 : decode cX10_write 0 = .ok (.aload_n 0, 1) := by decide +kernel
theorem dX10_write_1 : decode cX10_write 1 = .ok (.iload_n 1, 1) := by decide +kernel
theorem dX10_write_2 : decode cX10_write 2 = .ok (.invokevirtual 107, 3) := by decide +kernel
theorem dX10_write_5 : decode cX10_write 5 = .ok (.aload_n 0, 1) := by decide +kernel
theorem dX10_write_6 : decode cX10_write 6 = .ok (.getfield 33, 3) := by decide +kernel
theorem dX10_write_9 : decode cX10_write 9 = .ok (.aload_n 0, 1) := by decide +kernel
theorem dX10_write_10 : decode cX10_write 10 = .ok (.getfield 10, 3) := by decide +kernel
theorem dX10_write_13 : decode cX10_write 13 = .ok (.getfield 69, 3) := by decide +kernel
theorem dX10_write_16 : decode cX10_write 16 = .ok (.iload_n 1, 1) := by decide +kernel
theorem dX10_write_17 : decode cX10_write 17 = .ok (.invokevirtual 332, 3) := by decide +kernel
theorem dX10_write_20 : decode cX10_write 20 = .ok (.aload_n 0, 1) := by decide +kernel
theorem dX10_write_21 : decode cX10_write 21 = .ok (.getfield 33, 3) := by decide +kernel
theorem dX10_write_24 : decode cX10_write 24 = .ok (.getfield 335, 3) := by decide +kernel
theorem dX10_write_27 : decode cX10_write 27 = .ok (.ireturn, 1) := by decide +kernel
theorem dX10_octet_0 : decode cX10_octet 0 = .ok (.iload_n 1, 1) := by decide +kernel
theorem dX10_octet_1 : decode cX10_octet 1 = .ok (.ifCond .lt 26, 3) := by decide +kernel
theorem dX10_octet_4 : decode cX10_octet 4 = .ok (.iload_n 1, 1) := by decide +kernel
theorem dX10_octet_5 : decode cX10_octet 5 = .ok (.aload_n 0, 1) := by decide +kernel
theorem dX10_octet_6 : decode cX10_octet 6 = .ok (.getfield 33, 3) := by decide +kernel
theorem dX10_octet_9 : decode cX10_octet 9 = .ok (.getfield 335, 3) := by decide +kernel
theorem dX10_octet_12 : decode cX10_octet 12 = .ok (.if_icmp .ge 15, 3) := by decide +kernel
theorem dX10_octet_15 : decode cX10_octet 15 = .ok (.aload_n 0, 1) := by decide +kernel
theorem dX10_octet_16 : decode cX10_octet 16 = .ok (.getfield 33, 3) := by decide +kernel
theorem dX10_octet_19 : decode cX10_octet 19 = .ok (.getfield 336, 3) := by decide +kernel
theorem dX10_octet_22 : decode cX10_octet 22 = .ok (.iload_n 1, 1) := by decide +kernel
theorem dX10_octet_23 : decode cX10_octet 23 = .ok (.baload, 1) := by decide +kernel
theorem dX10_octet_24 : decode cX10_octet 24 = .ok (.goto 4, 3) := by decide +kernel
theorem dX10_octet_27 : decode cX10_octet 27 = .ok (.iconst (-1), 1) := by decide +kernel
theorem dX10_octet_28 : decode cX10_octet 28 = .ok (.ireturn, 1) := by decide +kernel
theorem dX10_count_0 : decode cX10_count 0 = .ok (.iload_n 1, 1) := by decide +kernel
theorem dX10_count_1 : decode cX10_count 1 = .ok (.tableswitch 171 0 10 #[59, 70, 81, 92, 103, 114, 125, 136, 144, 152, 160], 59) := by decide +kernel
theorem dX10_count_60 : decode cX10_count 60 = .ok (.aload_n 0, 1) := by decide +kernel
theorem dX10_count_61 : decode cX10_count 61 = .ok (.getfield 10, 3) := by decide +kernel
theorem dX10_count_64 : decode cX10_count 64 = .ok (.getfield 69, 3) := by decide +kernel
theorem dX10_count_67 : decode cX10_count 67 = .ok (.getfield 302, 3) := by decide +kernel
theorem dX10_count_70 : decode cX10_count 70 = .ok (.ireturn, 1) := by decide +kernel
theorem dX10_count_71 : decode cX10_count 71 = .ok (.aload_n 0, 1) := by decide +kernel
theorem dX10_count_72 : decode cX10_count 72 = .ok (.getfield 10, 3) := by decide +kernel
theorem dX10_count_75 : decode cX10_count 75 = .ok (.getfield 69, 3) := by decide +kernel
theorem dX10_count_78 : decode cX10_count 78 = .ok (.getfield 305, 3) := by decide +kernel
theorem dX10_count_81 : decode cX10_count 81 = .ok (.ireturn, 1) := by decide +kernel
theorem dX10_count_82 : decode cX10_count 82 = .ok (.aload_n 0, 1) := by decide +kernel
theorem dX10_count_83 : decode cX10_count 83 = .ok (.getfield 10, 3) := by decide +kernel
theorem dX10_count_86 : decode cX10_count 86 = .ok (.getfield 69, 3) := by decide +kernel
theorem dX10_count_89 : decode cX10_count 89 = .ok (.getfield 88, 3) := by decide +kernel
theorem dX10_count_92 : decode cX10_count 92 = .ok (.ireturn, 1) := by decide +kernel
theorem dX10_count_93 : decode cX10_count 93 = .ok (.aload_n 0, 1) := by decide +kernel
theorem dX10_count_94 : decode cX10_count 94 = .ok (.getfield 10, 3) := by decide +kernel
theorem dX10_count_97 : decode cX10_count 97 = .ok (.getfield 69, 3) := by decide +kernel
theorem dX10_count_100 : decode cX10_count 100 = .ok (.getfield 217, 3) := by decide +kernel
theorem dX10_count_103 : decode cX10_count 103 = .ok (.ireturn, 1) := by decide +kernel
theorem dX10_count_104 : decode cX10_count 104 = .ok (.aload_n 0, 1) := by decide +kernel
theorem dX10_count_105 : decode cX10_count 105 = .ok (.getfield 10, 3) := by decide +kernel
theorem dX10_count_108 : decode cX10_count 108 = .ok (.getfield 69, 3) := by decide +kernel
theorem dX10_count_111 : decode cX10_count 111 = .ok (.invokevirtual 339, 3) := by decide +kernel
theorem dX10_count_114 : decode cX10_count 114 = .ok (.ireturn, 1) := by decide +kernel
theorem dX10_count_115 : decode cX10_count 115 = .ok (.aload_n 0, 1) := by decide +kernel
theorem dX10_count_116 : decode cX10_count 116 = .ok (.getfield 10, 3) := by decide +kernel
theorem dX10_count_119 : decode cX10_count 119 = .ok (.getfield 69, 3) := by decide +kernel
theorem dX10_count_122 : decode cX10_count 122 = .ok (.invokevirtual 342, 3) := by decide +kernel
theorem dX10_count_125 : decode cX10_count 125 = .ok (.ireturn, 1) := by decide +kernel
theorem dX10_count_126 : decode cX10_count 126 = .ok (.aload_n 0, 1) := by decide +kernel
theorem dX10_count_127 : decode cX10_count 127 = .ok (.getfield 10, 3) := by decide +kernel
theorem dX10_count_130 : decode cX10_count 130 = .ok (.getfield 69, 3) := by decide +kernel
theorem dX10_count_133 : decode cX10_count 133 = .ok (.invokevirtual 345, 3) := by decide +kernel
theorem dX10_count_136 : decode cX10_count 136 = .ok (.ireturn, 1) := by decide +kernel
theorem dX10_count_137 : decode cX10_count 137 = .ok (.aload_n 0, 1) := by decide +kernel
theorem dX10_count_138 : decode cX10_count 138 = .ok (.getfield 10, 3) := by decide +kernel
theorem dX10_count_141 : decode cX10_count 141 = .ok (.getfield 164, 3) := by decide +kernel
theorem dX10_count_144 : decode cX10_count 144 = .ok (.ireturn, 1) := by decide +kernel
theorem dX10_count_145 : decode cX10_count 145 = .ok (.aload_n 0, 1) := by decide +kernel
theorem dX10_count_146 : decode cX10_count 146 = .ok (.getfield 10, 3) := by decide +kernel
theorem dX10_count_149 : decode cX10_count 149 = .ok (.getfield 169, 3) := by decide +kernel
theorem dX10_count_152 : decode cX10_count 152 = .ok (.ireturn, 1) := by decide +kernel
theorem dX10_count_153 : decode cX10_count 153 = .ok (.aload_n 0, 1) := by decide +kernel
theorem dX10_count_154 : decode cX10_count 154 = .ok (.getfield 33, 3) := by decide +kernel
theorem dX10_count_157 : decode cX10_count 157 = .ok (.getfield 335, 3) := by decide +kernel
theorem dX10_count_160 : decode cX10_count 160 = .ok (.ireturn, 1) := by decide +kernel
theorem dX10_count_161 : decode cX10_count 161 = .ok (.aload_n 0, 1) := by decide +kernel
theorem dX10_count_162 : decode cX10_count 162 = .ok (.getfield 10, 3) := by decide +kernel
theorem dX10_count_165 : decode cX10_count 165 = .ok (.getfield 69, 3) := by decide +kernel
theorem dX10_count_168 : decode cX10_count 168 = .ok (.invokevirtual 348, 3) := by decide +kernel
theorem dX10_count_171 : decode cX10_count 171 = .ok (.ireturn, 1) := by decide +kernel
theorem dX10_count_172 : decode cX10_count 172 = .ok (.iconst (-1), 1) := by decide +kernel
theorem dX10_count_173 : decode cX10_count 173 = .ok (.ireturn, 1) := by decide +kernel
theorem dX10_needCell_0 : decode cX10_needCell 0 = .ok (.iload_n 1, 1) := by decide +kernel
theorem dX10_needCell_1 : decode cX10_needCell 1 = .ok (.ifCond .lt 17, 3) := by decide +kernel
theorem dX10_needCell_4 : decode cX10_needCell 4 = .ok (.iload_n 1, 1) := by decide +kernel
theorem dX10_needCell_5 : decode cX10_needCell 5 = .ok (.aload_n 0, 1) := by decide +kernel
theorem dX10_needCell_6 : decode cX10_needCell 6 = .ok (.getfield 10, 3) := by decide +kernel
theorem dX10_needCell_9 : decode cX10_needCell 9 = .ok (.getfield 69, 3) := by decide +kernel
theorem dX10_needCell_12 : decode cX10_needCell 12 = .ok (.invokevirtual 351, 3) := by decide +kernel
theorem dX10_needCell_15 : decode cX10_needCell 15 = .ok (.if_icmp .lt 14, 3) := by decide +kernel
theorem dX10_needCell_18 : decode cX10_needCell 18 = .ok (.new 308, 3) := by decide +kernel
theorem dX10_needCell_21 : decode cX10_needCell 21 = .ok (.dup, 1) := by decide +kernel
theorem dX10_needCell_22 : decode cX10_needCell 22 = .ok (.ldc_w 354, 3) := by decide +kernel
theorem dX10_needCell_25 : decode cX10_needCell 25 = .ok (.invokespecial 312, 3) := by decide +kernel
theorem dX10_needCell_28 : decode cX10_needCell 28 = .ok (.athrow, 1) := by decide +kernel
theorem dX10_needCell_29 : decode cX10_needCell 29 = .ok (.return_, 1) := by decide +kernel
theorem dX10_needZone_0 : decode cX10_needZone 0 = .ok (.iload_n 1, 1) := by decide +kernel
theorem dX10_needZone_1 : decode cX10_needZone 1 = .ok (.ifCond .lt 17, 3) := by decide +kernel
theorem dX10_needZone_4 : decode cX10_needZone 4 = .ok (.iload_n 1, 1) := by decide +kernel
theorem dX10_needZone_5 : decode cX10_needZone 5 = .ok (.aload_n 0, 1) := by decide +kernel
theorem dX10_needZone_6 : decode cX10_needZone 6 = .ok (.getfield 10, 3) := by decide +kernel
theorem dX10_needZone_9 : decode cX10_needZone 9 = .ok (.getfield 69, 3) := by decide +kernel
theorem dX10_needZone_12 : decode cX10_needZone 12 = .ok (.getfield 88, 3) := by decide +kernel
theorem dX10_needZone_15 : decode cX10_needZone 15 = .ok (.if_icmp .lt 14, 3) := by decide +kernel
theorem dX10_needZone_18 : decode cX10_needZone 18 = .ok (.new 308, 3) := by decide +kernel
theorem dX10_needZone_21 : decode cX10_needZone 21 = .ok (.dup, 1) := by decide +kernel
theorem dX10_needZone_22 : decode cX10_needZone 22 = .ok (.ldc_w 356, 3) := by decide +kernel
theorem dX10_needZone_25 : decode cX10_needZone 25 = .ok (.invokespecial 312, 3) := by decide +kernel
theorem dX10_needZone_28 : decode cX10_needZone 28 = .ok (.athrow, 1) := by decide +kernel
theorem dX10_needZone_29 : decode cX10_needZone 29 = .ok (.return_, 1) := by decide +kernel
theorem dX10_needGroup_0 : decode cX10_needGroup 0 = .ok (.iload_n 1, 1) := by decide +kernel
theorem dX10_needGroup_1 : decode cX10_needGroup 1 = .ok (.ifCond .lt 17, 3) := by decide +kernel
theorem dX10_needGroup_4 : decode cX10_needGroup 4 = .ok (.iload_n 1, 1) := by decide +kernel
theorem dX10_needGroup_5 : decode cX10_needGroup 5 = .ok (.aload_n 0, 1) := by decide +kernel
theorem dX10_needGroup_6 : decode cX10_needGroup 6 = .ok (.getfield 10, 3) := by decide +kernel
theorem dX10_needGroup_9 : decode cX10_needGroup 9 = .ok (.getfield 69, 3) := by decide +kernel
theorem dX10_needGroup_12 : decode cX10_needGroup 12 = .ok (.getfield 217, 3) := by decide +kernel
theorem dX10_needGroup_15 : decode cX10_needGroup 15 = .ok (.if_icmp .lt 14, 3) := by decide +kernel
theorem dX10_needGroup_18 : decode cX10_needGroup 18 = .ok (.new 308, 3) := by decide +kernel
theorem dX10_needGroup_21 : decode cX10_needGroup 21 = .ok (.dup, 1) := by decide +kernel
theorem dX10_needGroup_22 : decode cX10_needGroup 22 = .ok (.ldc_w 358, 3) := by decide +kernel
theorem dX10_needGroup_25 : decode cX10_needGroup 25 = .ok (.invokespecial 312, 3) := by decide +kernel
theorem dX10_needGroup_28 : decode cX10_needGroup 28 = .ok (.athrow, 1) := by decide +kernel
theorem dX10_needGroup_29 : decode cX10_needGroup 29 = .ok (.return_, 1) := by decide +kernel
theorem dX10_needGroupOrNone_0 : decode cX10_needGroupOrNone 0 = .ok (.iload_n 1, 1) := by decide +kernel
theorem dX10_needGroupOrNone_1 : decode cX10_needGroupOrNone 1 = .ok (.iconst (-1), 1) := by decide +kernel
theorem dX10_needGroupOrNone_2 : decode cX10_needGroupOrNone 2 = .ok (.if_icmp .eq 8, 3) := by decide +kernel
theorem dX10_needGroupOrNone_5 : decode cX10_needGroupOrNone 5 = .ok (.aload_n 0, 1) := by decide +kernel
theorem dX10_needGroupOrNone_6 : decode cX10_needGroupOrNone 6 = .ok (.iload_n 1, 1) := by decide +kernel
theorem dX10_needGroupOrNone_7 : decode cX10_needGroupOrNone 7 = .ok (.invokevirtual 142, 3) := by decide +kernel
theorem dX10_needGroupOrNone_10 : decode cX10_needGroupOrNone 10 = .ok (.return_, 1) := by decide +kernel
theorem dX10_needLevel_0 : decode cX10_needLevel 0 = .ok (.iload_n 1, 1) := by decide +kernel
theorem dX10_needLevel_1 : decode cX10_needLevel 1 = .ok (.ifCond .lt 8, 3) := by decide +kernel
theorem dX10_needLevel_4 : decode cX10_needLevel 4 = .ok (.iload_n 1, 1) := by decide +kernel
theorem dX10_needLevel_5 : decode cX10_needLevel 5 = .ok (.iconst 5, 1) := by decide +kernel
theorem dX10_needLevel_6 : decode cX10_needLevel 6 = .ok (.if_icmp .lt 14, 3) := by decide +kernel
theorem dX10_needLevel_9 : decode cX10_needLevel 9 = .ok (.new 308, 3) := by decide +kernel
theorem dX10_needLevel_12 : decode cX10_needLevel 12 = .ok (.dup, 1) := by decide +kernel
theorem dX10_needLevel_13 : decode cX10_needLevel 13 = .ok (.ldc_w 360, 3) := by decide +kernel
theorem dX10_needLevel_16 : decode cX10_needLevel 16 = .ok (.invokespecial 312, 3) := by decide +kernel
theorem dX10_needLevel_19 : decode cX10_needLevel 19 = .ok (.athrow, 1) := by decide +kernel
theorem dX10_needLevel_20 : decode cX10_needLevel 20 = .ok (.return_, 1) := by decide +kernel
theorem dX10_needRow_0 : decode cX10_needRow 0 = .ok (.iload_n 1, 1) := by decide +kernel
theorem dX10_needRow_1 : decode cX10_needRow 1 = .ok (.ifCond .lt 17, 3) := by decide +kernel
theorem dX10_needRow_4 : decode cX10_needRow 4 = .ok (.iload_n 1, 1) := by decide +kernel
theorem dX10_needRow_5 : decode cX10_needRow 5 = .ok (.aload_n 0, 1) := by decide +kernel
theorem dX10_needRow_6 : decode cX10_needRow 6 = .ok (.getfield 10, 3) := by decide +kernel
theorem dX10_needRow_9 : decode cX10_needRow 9 = .ok (.getfield 69, 3) := by decide +kernel
theorem dX10_needRow_12 : decode cX10_needRow 12 = .ok (.getfield 305, 3) := by decide +kernel
theorem dX10_needRow_15 : decode cX10_needRow 15 = .ok (.if_icmp .lt 14, 3) := by decide +kernel
theorem dX10_needRow_18 : decode cX10_needRow 18 = .ok (.new 308, 3) := by decide +kernel
theorem dX10_needRow_21 : decode cX10_needRow 21 = .ok (.dup, 1) := by decide +kernel
theorem dX10_needRow_22 : decode cX10_needRow 22 = .ok (.ldc_w 362, 3) := by decide +kernel
theorem dX10_needRow_25 : decode cX10_needRow 25 = .ok (.invokespecial 312, 3) := by decide +kernel
theorem dX10_needRow_28 : decode cX10_needRow 28 = .ok (.athrow, 1) := by decide +kernel
theorem dX10_needRow_29 : decode cX10_needRow 29 = .ok (.return_, 1) := by decide +kernel
theorem dX10_needTwo_0 : decode cX10_needTwo 0 = .ok (.iload_n 1, 1) := by decide +kernel
theorem dX10_needTwo_1 : decode cX10_needTwo 1 = .ok (.iload_n 2, 1) := by decide +kernel
theorem dX10_needTwo_2 : decode cX10_needTwo 2 = .ok (.if_icmp .ne 14, 3) := by decide +kernel
theorem dX10_needTwo_5 : decode cX10_needTwo 5 = .ok (.new 62, 3) := by decide +kernel
theorem dX10_needTwo_8 : decode cX10_needTwo 8 = .ok (.dup, 1) := by decide +kernel
theorem dX10_needTwo_9 : decode cX10_needTwo 9 = .ok (.ldc_w 364, 3) := by decide +kernel
theorem dX10_needTwo_12 : decode cX10_needTwo 12 = .ok (.invokespecial 66, 3) := by decide +kernel
theorem dX10_needTwo_15 : decode cX10_needTwo 15 = .ok (.athrow, 1) := by decide +kernel
theorem dX10_needTwo_16 : decode cX10_needTwo 16 = .ok (.return_, 1) := by decide +kernel
theorem dX10_needEdge_0 : decode cX10_needEdge 0 = .ok (.aload_n 0, 1) := by decide +kernel
theorem dX10_needEdge_1 : decode cX10_needEdge 1 = .ok (.iload_n 1, 1) := by decide +kernel
theorem dX10_needEdge_2 : decode cX10_needEdge 2 = .ok (.iload_n 2, 1) := by decide +kernel
theorem dX10_needEdge_3 : decode cX10_needEdge 3 = .ok (.invokevirtual 319, 3) := by decide +kernel
theorem dX10_needEdge_6 : decode cX10_needEdge 6 = .ok (.iload_n 3, 1) := by decide +kernel
theorem dX10_needEdge_7 : decode cX10_needEdge 7 = .ok (.ifCond .lt 24, 3) := by decide +kernel
theorem dX10_needEdge_10 : decode cX10_needEdge 10 = .ok (.iload_n 3, 1) := by decide +kernel
theorem dX10_needEdge_11 : decode cX10_needEdge 11 = .ok (.iload 4, 2) := by decide +kernel
theorem dX10_needEdge_13 : decode cX10_needEdge 13 = .ok (.if_icmp .gt 18, 3) := by decide +kernel
theorem dX10_needEdge_16 : decode cX10_needEdge 16 = .ok (.iload 4, 2) := by decide +kernel
theorem dX10_needEdge_18 : decode cX10_needEdge 18 = .ok (.aload_n 0, 1) := by decide +kernel
theorem dX10_needEdge_19 : decode cX10_needEdge 19 = .ok (.getfield 10, 3) := by decide +kernel
theorem dX10_needEdge_22 : decode cX10_needEdge 22 = .ok (.getfield 69, 3) := by decide +kernel
theorem dX10_needEdge_25 : decode cX10_needEdge 25 = .ok (.getfield 302, 3) := by decide +kernel
theorem dX10_needEdge_28 : decode cX10_needEdge 28 = .ok (.if_icmp .lt 14, 3) := by decide +kernel
theorem dX10_needEdge_31 : decode cX10_needEdge 31 = .ok (.new 62, 3) := by decide +kernel
theorem dX10_needEdge_34 : decode cX10_needEdge 34 = .ok (.dup, 1) := by decide +kernel
theorem dX10_needEdge_35 : decode cX10_needEdge 35 = .ok (.ldc_w 366, 3) := by decide +kernel
theorem dX10_needEdge_38 : decode cX10_needEdge 38 = .ok (.invokespecial 66, 3) := by decide +kernel
theorem dX10_needEdge_41 : decode cX10_needEdge 41 = .ok (.athrow, 1) := by decide +kernel
theorem dX10_needEdge_42 : decode cX10_needEdge 42 = .ok (.return_, 1) := by decide +kernel
theorem dX10_needMeasure_0 : decode cX10_needMeasure 0 = .ok (.iload_n 1, 1) := by decide +kernel
theorem dX10_needMeasure_1 : decode cX10_needMeasure 1 = .ok (.ifCond .lt 8, 3) := by decide +kernel
theorem dX10_needMeasure_4 : decode cX10_needMeasure 4 = .ok (.iload_n 1, 1) := by decide +kernel
theorem dX10_needMeasure_5 : decode cX10_needMeasure 5 = .ok (.iconst 5, 1) := by decide +kernel
theorem dX10_needMeasure_6 : decode cX10_needMeasure 6 = .ok (.if_icmp .lt 14, 3) := by decide +kernel
theorem dX10_needMeasure_9 : decode cX10_needMeasure 9 = .ok (.new 102, 3) := by decide +kernel
theorem dX10_needMeasure_12 : decode cX10_needMeasure 12 = .ok (.dup, 1) := by decide +kernel
theorem dX10_needMeasure_13 : decode cX10_needMeasure 13 = .ok (.ldc_w 368, 3) := by decide +kernel
theorem dX10_needMeasure_16 : decode cX10_needMeasure 16 = .ok (.invokespecial 106, 3) := by decide +kernel
theorem dX10_needMeasure_19 : decode cX10_needMeasure 19 = .ok (.athrow, 1) := by decide +kernel
theorem dX10_needMeasure_20 : decode cX10_needMeasure 20 = .ok (.return_, 1) := by decide +kernel
theorem dX10_needFar_0 : decode cX10_needFar 0 = .ok (.iload_n 1, 1) := by decide +kernel
theorem dX10_needFar_1 : decode cX10_needFar 1 = .ok (.ifCond .lt 10, 3) := by decide +kernel
theorem dX10_needFar_4 : decode cX10_needFar 4 = .ok (.iload_n 1, 1) := by decide +kernel
theorem dX10_needFar_5 : decode cX10_needFar 5 = .ok (.sipush 999, 3) := by decide +kernel
theorem dX10_needFar_8 : decode cX10_needFar 8 = .ok (.if_icmp .le 14, 3) := by decide +kernel
theorem dX10_needFar_11 : decode cX10_needFar 11 = .ok (.new 62, 3) := by decide +kernel
theorem dX10_needFar_14 : decode cX10_needFar 14 = .ok (.dup, 1) := by decide +kernel
theorem dX10_needFar_15 : decode cX10_needFar 15 = .ok (.ldc_w 370, 3) := by decide +kernel
theorem dX10_needFar_18 : decode cX10_needFar 18 = .ok (.invokespecial 66, 3) := by decide +kernel
theorem dX10_needFar_21 : decode cX10_needFar 21 = .ok (.athrow, 1) := by decide +kernel
theorem dX10_needFar_22 : decode cX10_needFar 22 = .ok (.return_, 1) := by decide +kernel
theorem dX10_numbersChanged_0 : decode cX10_numbersChanged 0 = .ok (.aload_n 0, 1) := by decide +kernel
theorem dX10_numbersChanged_1 : decode cX10_numbersChanged 1 = .ok (.getfield 10, 3) := by decide +kernel
theorem dX10_numbersChanged_4 : decode cX10_numbersChanged 4 = .ok (.invokevirtual 372, 3) := by decide +kernel
theorem dX10_numbersChanged_7 : decode cX10_numbersChanged 7 = .ok (.aload_n 0, 1) := by decide +kernel
theorem dX10_numbersChanged_8 : decode cX10_numbersChanged 8 = .ok (.getfield 47, 3) := by decide +kernel
theorem dX10_numbersChanged_11 : decode cX10_numbersChanged 11 = .ok (.invokevirtual 85, 3) := by decide +kernel
theorem dX10_numbersChanged_14 : decode cX10_numbersChanged 14 = .ok (.return_, 1) := by decide +kernel
theorem dX10_landChanged_0 : decode cX10_landChanged 0 = .ok (.aload_n 0, 1) := by decide +kernel
theorem dX10_landChanged_1 : decode cX10_landChanged 1 = .ok (.getfield 10, 3) := by decide +kernel
theorem dX10_landChanged_4 : decode cX10_landChanged 4 = .ok (.iload_n 1, 1) := by decide +kernel
theorem dX10_landChanged_5 : decode cX10_landChanged 5 = .ok (.invokevirtual 247, 3) := by decide +kernel
theorem dX10_landChanged_8 : decode cX10_landChanged 8 = .ok (.aload_n 0, 1) := by decide +kernel
theorem dX10_landChanged_9 : decode cX10_landChanged 9 = .ok (.getfield 47, 3) := by decide +kernel
theorem dX10_landChanged_12 : decode cX10_landChanged 12 = .ok (.invokevirtual 85, 3) := by decide +kernel
theorem dX10_landChanged_15 : decode cX10_landChanged 15 = .ok (.return_, 1) := by decide +kernel
theorem dX10_bringPath_0 : decode cX10_bringPath 0 = .ok (.aload_n 0, 1) := by decide +kernel
theorem dX10_bringPath_1 : decode cX10_bringPath 1 = .ok (.getfield 47, 3) := by decide +kernel
theorem dX10_bringPath_4 : decode cX10_bringPath 4 = .ok (.iload_n 1, 1) := by decide +kernel
theorem dX10_bringPath_5 : decode cX10_bringPath 5 = .ok (.iload_n 2, 1) := by decide +kernel
theorem dX10_bringPath_6 : decode cX10_bringPath 6 = .ok (.iload_n 3, 1) := by decide +kernel
theorem dX10_bringPath_7 : decode cX10_bringPath 7 = .ok (.invokevirtual 373, 3) := by decide +kernel
theorem dX10_bringPath_10 : decode cX10_bringPath 10 = .ok (.ifCond .ne 37, 3) := by decide +kernel
theorem dX10_bringPath_13 : decode cX10_bringPath 13 = .ok (.aload_n 0, 1) := by decide +kernel
theorem dX10_bringPath_14 : decode cX10_bringPath 14 = .ok (.getfield 47, 3) := by decide +kernel
theorem dX10_bringPath_17 : decode cX10_bringPath 17 = .ok (.aload_n 0, 1) := by decide +kernel
theorem dX10_bringPath_18 : decode cX10_bringPath 18 = .ok (.getfield 10, 3) := by decide +kernel
theorem dX10_bringPath_21 : decode cX10_bringPath 21 = .ok (.getfield 69, 3) := by decide +kernel
theorem dX10_bringPath_24 : decode cX10_bringPath 24 = .ok (.aload_n 0, 1) := by decide +kernel
theorem dX10_bringPath_25 : decode cX10_bringPath 25 = .ok (.getfield 10, 3) := by decide +kernel
theorem dX10_bringPath_28 : decode cX10_bringPath 28 = .ok (.iload_n 2, 1) := by decide +kernel
theorem dX10_bringPath_29 : decode cX10_bringPath 29 = .ok (.invokevirtual 220, 3) := by decide +kernel
theorem dX10_bringPath_32 : decode cX10_bringPath 32 = .ok (.iload_n 1, 1) := by decide +kernel
theorem dX10_bringPath_33 : decode cX10_bringPath 33 = .ok (.iload_n 3, 1) := by decide +kernel
theorem dX10_bringPath_34 : decode cX10_bringPath 34 = .ok (.invokevirtual 377, 3) := by decide +kernel
theorem dX10_bringPath_37 : decode cX10_bringPath 37 = .ok (.aload_n 0, 1) := by decide +kernel
theorem dX10_bringPath_38 : decode cX10_bringPath 38 = .ok (.getfield 47, 3) := by decide +kernel
theorem dX10_bringPath_41 : decode cX10_bringPath 41 = .ok (.iload_n 1, 1) := by decide +kernel
theorem dX10_bringPath_42 : decode cX10_bringPath 42 = .ok (.iload_n 2, 1) := by decide +kernel
theorem dX10_bringPath_43 : decode cX10_bringPath 43 = .ok (.iload_n 3, 1) := by decide +kernel
theorem dX10_bringPath_44 : decode cX10_bringPath 44 = .ok (.invokevirtual 381, 3) := by decide +kernel
theorem dX10_bringPath_47 : decode cX10_bringPath 47 = .ok (.return_, 1) := by decide +kernel
theorem dX10_countOrStop_0 : decode cX10_countOrStop 0 = .ok (.iload_n 1, 1) := by decide +kernel
theorem dX10_countOrStop_1 : decode cX10_countOrStop 1 = .ok (.iconst (-1), 1) := by decide +kernel
theorem dX10_countOrStop_2 : decode cX10_countOrStop 2 = .ok (.if_icmp .ne 13, 3) := by decide +kernel
theorem dX10_countOrStop_5 : decode cX10_countOrStop 5 = .ok (.aload_n 0, 1) := by decide +kernel
theorem dX10_countOrStop_6 : decode cX10_countOrStop 6 = .ok (.getfield 47, 3) := by decide +kernel
theorem dX10_countOrStop_9 : decode cX10_countOrStop 9 = .ok (.getfield 384, 3) := by decide +kernel
theorem dX10_countOrStop_12 : decode cX10_countOrStop 12 = .ok (.goto 11, 3) := by decide +kernel
theorem dX10_countOrStop_15 : decode cX10_countOrStop 15 = .ok (.aload_n 0, 1) := by decide +kernel
theorem dX10_countOrStop_16 : decode cX10_countOrStop 16 = .ok (.getfield 47, 3) := by decide +kernel
theorem dX10_countOrStop_19 : decode cX10_countOrStop 19 = .ok (.iload_n 1, 1) := by decide +kernel
theorem dX10_countOrStop_20 : decode cX10_countOrStop 20 = .ok (.invokevirtual 387, 3) := by decide +kernel
theorem dX10_countOrStop_23 : decode cX10_countOrStop 23 = .ok (.ireturn, 1) := by decide +kernel
theorem dX11_init_0 : decode cX11_init 0 = .ok (.aload_n 0, 1) := by decide +kernel
theorem dX11_init_1 : decode cX11_init 1 = .ok (.invokespecial 1, 3) := by decide +kernel
theorem dX11_init_4 : decode cX11_init 4 = .ok (.aload_n 0, 1) := by decide +kernel
theorem dX11_init_5 : decode cX11_init 5 = .ok (.sipush 400, 3) := by decide +kernel
theorem dX11_init_8 : decode cX11_init 8 = .ok (.newarray .byte, 2) := by decide +kernel
theorem dX11_init_10 : decode cX11_init 10 = .ok (.putfield 9, 3) := by decide +kernel
theorem dX11_init_13 : decode cX11_init 13 = .ok (.aload_n 0, 1) := by decide +kernel
theorem dX11_init_14 : decode cX11_init 14 = .ok (.iconst 5, 1) := by decide +kernel
theorem dX11_init_15 : decode cX11_init 15 = .ok (.newarray .int, 2) := by decide +kernel
theorem dX11_init_17 : decode cX11_init 17 = .ok (.putfield 13, 3) := by decide +kernel
theorem dX11_init_20 : decode cX11_init 20 = .ok (.aload_n 0, 1) := by decide +kernel
theorem dX11_init_21 : decode cX11_init 21 = .ok (.iconst 4, 1) := by decide +kernel
theorem dX11_init_22 : decode cX11_init 22 = .ok (.newarray .int, 2) := by decide +kernel
theorem dX11_init_24 : decode cX11_init 24 = .ok (.dup, 1) := by decide +kernel
theorem dX11_init_25 : decode cX11_init 25 = .ok (.iconst 0, 1) := by decide +kernel
theorem dX11_init_26 : decode cX11_init 26 = .ok (.iconst 0, 1) := by decide +kernel
theorem dX11_init_27 : decode cX11_init 27 = .ok (.iastore, 1) := by decide +kernel
theorem dX11_init_28 : decode cX11_init 28 = .ok (.dup, 1) := by decide +kernel
theorem dX11_init_29 : decode cX11_init 29 = .ok (.iconst 1, 1) := by decide +kernel
theorem dX11_init_30 : decode cX11_init 30 = .ok (.iconst 0, 1) := by decide +kernel
theorem dX11_init_31 : decode cX11_init 31 = .ok (.iastore, 1) := by decide +kernel
theorem dX11_init_32 : decode cX11_init 32 = .ok (.dup, 1) := by decide +kernel
theorem dX11_init_33 : decode cX11_init 33 = .ok (.iconst 2, 1) := by decide +kernel
theorem dX11_init_34 : decode cX11_init 34 = .ok (.iconst 0, 1) := by decide +kernel
theorem dX11_init_35 : decode cX11_init 35 = .ok (.iastore, 1) := by decide +kernel
theorem dX11_init_36 : decode cX11_init 36 = .ok (.dup, 1) := by decide +kernel
theorem dX11_init_37 : decode cX11_init 37 = .ok (.iconst 3, 1) := by decide +kernel
theorem dX11_init_38 : decode cX11_init 38 = .ok (.iconst 1, 1) := by decide +kernel
theorem dX11_init_39 : decode cX11_init 39 = .ok (.iastore, 1) := by decide +kernel
theorem dX11_init_40 : decode cX11_init 40 = .ok (.putfield 17, 3) := by decide +kernel
theorem dX11_init_43 : decode cX11_init 43 = .ok (.aload_n 0, 1) := by decide +kernel
theorem dX11_init_44 : decode cX11_init 44 = .ok (.iconst 4, 1) := by decide +kernel
theorem dX11_init_45 : decode cX11_init 45 = .ok (.newarray .int, 2) := by decide +kernel
theorem dX11_init_47 : decode cX11_init 47 = .ok (.putfield 20, 3) := by decide +kernel
theorem dX11_init_50 : decode cX11_init 50 = .ok (.aload_n 0, 1) := by decide +kernel
theorem dX11_init_51 : decode cX11_init 51 = .ok (.sipush 384, 3) := by decide +kernel
theorem dX11_init_54 : decode cX11_init 54 = .ok (.newarray .int, 2) := by decide +kernel
theorem dX11_init_56 : decode cX11_init 56 = .ok (.putfield 23, 3) := by decide +kernel
theorem dX11_init_59 : decode cX11_init 59 = .ok (.aload_n 0, 1) := by decide +kernel
theorem dX11_init_60 : decode cX11_init 60 = .ok (.sipush 384, 3) := by decide +kernel
theorem dX11_init_63 : decode cX11_init 63 = .ok (.newarray .int, 2) := by decide +kernel
theorem dX11_init_65 : decode cX11_init 65 = .ok (.putfield 26, 3) := by decide +kernel
theorem dX11_init_68 : decode cX11_init 68 = .ok (.aload_n 0, 1) := by decide +kernel
theorem dX11_init_69 : decode cX11_init 69 = .ok (.sipush 384, 3) := by decide +kernel
theorem dX11_init_72 : decode cX11_init 72 = .ok (.newarray .boolean, 2) := by decide +kernel
theorem dX11_init_74 : decode cX11_init 74 = .ok (.putfield 29, 3) := by decide +kernel
theorem dX11_init_77 : decode cX11_init 77 = .ok (.aload_n 0, 1) := by decide +kernel
theorem dX11_init_78 : decode cX11_init 78 = .ok (.sipush 384, 3) := by decide +kernel
theorem dX11_init_81 : decode cX11_init 81 = .ok (.newarray .boolean, 2) := by decide +kernel
theorem dX11_init_83 : decode cX11_init 83 = .ok (.putfield 33, 3) := by decide +kernel
theorem dX11_init_86 : decode cX11_init 86 = .ok (.aload_n 0, 1) := by decide +kernel
theorem dX11_init_87 : decode cX11_init 87 = .ok (.bipush 24, 2) := by decide +kernel
theorem dX11_init_89 : decode cX11_init 89 = .ok (.newarray .int, 2) := by decide +kernel
theorem dX11_init_91 : decode cX11_init 91 = .ok (.putfield 36, 3) := by decide +kernel
theorem dX11_init_94 : decode cX11_init 94 = .ok (.aload_n 0, 1) := by decide +kernel
theorem dX11_init_95 : decode cX11_init 95 = .ok (.bipush 24, 2) := by decide +kernel
theorem dX11_init_97 : decode cX11_init 97 = .ok (.newarray .int, 2) := by decide +kernel
theorem dX11_init_99 : decode cX11_init 99 = .ok (.putfield 39, 3) := by decide +kernel
theorem dX11_init_102 : decode cX11_init 102 = .ok (.aload_n 0, 1) := by decide +kernel
theorem dX11_init_103 : decode cX11_init 103 = .ok (.bipush 48, 2) := by decide +kernel
theorem dX11_init_105 : decode cX11_init 105 = .ok (.newarray .byte, 2) := by decide +kernel
theorem dX11_init_107 : decode cX11_init 107 = .ok (.putfield 42, 3) := by decide +kernel
theorem dX11_init_110 : decode cX11_init 110 = .ok (.aload_n 0, 1) := by decide +kernel
theorem dX11_init_111 : decode cX11_init 111 = .ok (.bipush 48, 2) := by decide +kernel
theorem dX11_init_113 : decode cX11_init 113 = .ok (.newarray .byte, 2) := by decide +kernel
theorem dX11_init_115 : decode cX11_init 115 = .ok (.putfield 45, 3) := by decide +kernel
theorem dX11_init_118 : decode cX11_init 118 = .ok (.aload_n 0, 1) := by decide +kernel
theorem dX11_init_119 : decode cX11_init 119 = .ok (.bipush 100, 2) := by decide +kernel
theorem dX11_init_121 : decode cX11_init 121 = .ok (.putfield 48, 3) := by decide +kernel
theorem dX11_init_124 : decode cX11_init 124 = .ok (.aload_n 0, 1) := by decide +kernel
theorem dX11_init_125 : decode cX11_init 125 = .ok (.iconst 5, 1) := by decide +kernel
theorem dX11_init_126 : decode cX11_init 126 = .ok (.putfield 52, 3) := by decide +kernel
theorem dX11_init_129 : decode cX11_init 129 = .ok (.aload_n 0, 1) := by decide +kernel
theorem dX11_init_130 : decode cX11_init 130 = .ok (.iconst (-1), 1) := by decide +kernel
theorem dX11_init_131 : decode cX11_init 131 = .ok (.putfield 55, 3) := by decide +kernel
theorem dX11_init_134 : decode cX11_init 134 = .ok (.aload_n 0, 1) := by decide +kernel
theorem dX11_init_135 : decode cX11_init 135 = .ok (.sipush 384, 3) := by decide +kernel
theorem dX11_init_138 : decode cX11_init 138 = .ok (.newarray .int, 2) := by decide +kernel
theorem dX11_init_140 : decode cX11_init 140 = .ok (.putfield 58, 3) := by decide +kernel
theorem dX11_init_143 : decode cX11_init 143 = .ok (.aload_n 0, 1) := by decide +kernel
theorem dX11_init_144 : decode cX11_init 144 = .ok (.bipush 9, 2) := by decide +kernel
theorem dX11_init_146 : decode cX11_init 146 = .ok (.newarray .int, 2) := by decide +kernel
theorem dX11_init_148 : decode cX11_init 148 = .ok (.putfield 61, 3) := by decide +kernel
theorem dX11_init_151 : decode cX11_init 151 = .ok (.aload_n 0, 1) := by decide +kernel
theorem dX11_init_152 : decode cX11_init 152 = .ok (.sipush 384, 3) := by decide +kernel
theorem dX11_init_155 : decode cX11_init 155 = .ok (.newarray .int, 2) := by decide +kernel
theorem dX11_init_157 : decode cX11_init 157 = .ok (.putfield 64, 3) := by decide +kernel
theorem dX11_init_160 : decode cX11_init 160 = .ok (.aload_n 0, 1) := by decide +kernel
theorem dX11_init_161 : decode cX11_init 161 = .ok (.sipush 384, 3) := by decide +kernel
theorem dX11_init_164 : decode cX11_init 164 = .ok (.newarray .int, 2) := by decide +kernel
theorem dX11_init_166 : decode cX11_init 166 = .ok (.putfield 67, 3) := by decide +kernel
theorem dX11_init_169 : decode cX11_init 169 = .ok (.aload_n 0, 1) := by decide +kernel
theorem dX11_init_170 : decode cX11_init 170 = .ok (.bipush 120, 2) := by decide +kernel
theorem dX11_init_172 : decode cX11_init 172 = .ok (.newarray .int, 2) := by decide +kernel
theorem dX11_init_174 : decode cX11_init 174 = .ok (.putfield 70, 3) := by decide +kernel
theorem dX11_init_177 : decode cX11_init 177 = .ok (.aload_n 0, 1) := by decide +kernel
theorem dX11_init_178 : decode cX11_init 178 = .ok (.bipush 120, 2) := by decide +kernel
theorem dX11_init_180 : decode cX11_init 180 = .ok (.newarray .int, 2) := by decide +kernel
theorem dX11_init_182 : decode cX11_init 182 = .ok (.putfield 73, 3) := by decide +kernel
theorem dX11_init_185 : decode cX11_init 185 = .ok (.aload_n 0, 1) := by decide +kernel
theorem dX11_init_186 : decode cX11_init 186 = .ok (.bipush 15, 2) := by decide +kernel
theorem dX11_init_188 : decode cX11_init 188 = .ok (.newarray .int, 2) := by decide +kernel
theorem dX11_init_190 : decode cX11_init 190 = .ok (.putfield 76, 3) := by decide +kernel
theorem dX11_init_193 : decode cX11_init 193 = .ok (.aload_n 0, 1) := by decide +kernel
theorem dX11_init_194 : decode cX11_init 194 = .ok (.sipush 1152, 3) := by decide +kernel
theorem dX11_init_197 : decode cX11_init 197 = .ok (.newarray .int, 2) := by decide +kernel
theorem dX11_init_199 : decode cX11_init 199 = .ok (.putfield 79, 3) := by decide +kernel
theorem dX11_init_202 : decode cX11_init 202 = .ok (.aload_n 0, 1) := by decide +kernel
theorem dX11_init_203 : decode cX11_init 203 = .ok (.sipush 1152, 3) := by decide +kernel
theorem dX11_init_206 : decode cX11_init 206 = .ok (.newarray .int, 2) := by decide +kernel
theorem dX11_init_208 : decode cX11_init 208 = .ok (.putfield 82, 3) := by decide +kernel
theorem dX11_init_211 : decode cX11_init 211 = .ok (.aload_n 0, 1) := by decide +kernel
theorem dX11_init_212 : decode cX11_init 212 = .ok (.sipush 384, 3) := by decide +kernel
theorem dX11_init_215 : decode cX11_init 215 = .ok (.newarray .int, 2) := by decide +kernel
theorem dX11_init_217 : decode cX11_init 217 = .ok (.putfield 85, 3) := by decide +kernel
theorem dX11_init_220 : decode cX11_init 220 = .ok (.aload_n 0, 1) := by decide +kernel
theorem dX11_init_221 : decode cX11_init 221 = .ok (.sipush 384, 3) := by decide +kernel
theorem dX11_init_224 : decode cX11_init 224 = .ok (.newarray .int, 2) := by decide +kernel
theorem dX11_init_226 : decode cX11_init 226 = .ok (.putfield 88, 3) := by decide +kernel
theorem dX11_init_229 : decode cX11_init 229 = .ok (.aload_n 0, 1) := by decide +kernel
theorem dX11_init_230 : decode cX11_init 230 = .ok (.sipush 384, 3) := by decide +kernel
theorem dX11_init_233 : decode cX11_init 233 = .ok (.newarray .int, 2) := by decide +kernel
theorem dX11_init_235 : decode cX11_init 235 = .ok (.putfield 91, 3) := by decide +kernel
theorem dX11_init_238 : decode cX11_init 238 = .ok (.aload_n 0, 1) := by decide +kernel
theorem dX11_init_239 : decode cX11_init 239 = .ok (.bipush 24, 2) := by decide +kernel
theorem dX11_init_241 : decode cX11_init 241 = .ok (.newarray .int, 2) := by decide +kernel
theorem dX11_init_243 : decode cX11_init 243 = .ok (.putfield 94, 3) := by decide +kernel
theorem dX11_init_246 : decode cX11_init 246 = .ok (.aload_n 0, 1) := by decide +kernel
theorem dX11_init_247 : decode cX11_init 247 = .ok (.sipush 384, 3) := by decide +kernel
theorem dX11_init_250 : decode cX11_init 250 = .ok (.newarray .int, 2) := by decide +kernel
theorem dX11_init_252 : decode cX11_init 252 = .ok (.putfield 97, 3) := by decide +kernel
theorem dX11_init_255 : decode cX11_init 255 = .ok (.aload_n 0, 1) := by decide +kernel
theorem dX11_init_256 : decode cX11_init 256 = .ok (.sipush 384, 3) := by decide +kernel
theorem dX11_init_259 : decode cX11_init 259 = .ok (.newarray .boolean, 2) := by decide +kernel
theorem dX11_init_261 : decode cX11_init 261 = .ok (.putfield 100, 3) := by decide +kernel
theorem dX11_init_264 : decode cX11_init 264 = .ok (.aload_n 0, 1) := by decide +kernel
theorem dX11_init_265 : decode cX11_init 265 = .ok (.sipush 20000, 3) := by decide +kernel
theorem dX11_init_268 : decode cX11_init 268 = .ok (.newarray .byte, 2) := by decide +kernel
theorem dX11_init_270 : decode cX11_init 270 = .ok (.putfield 103, 3) := by decide +kernel
theorem dX11_init_273 : decode cX11_init 273 = .ok (.return_, 1) := by decide +kernel
theorem dX11_thrown_0 : decode cX11_thrown 0 = .ok (.aload_n 0, 1) := by decide +kernel
theorem dX11_thrown_1 : decode cX11_thrown 1 = .ok (.getfield 106, 3) := by decide +kernel
theorem dX11_thrown_4 : decode cX11_thrown 4 = .ok (.ireturn, 1) := by decide +kernel
theorem dX11_throwsIf_0 : decode cX11_throwsIf 0 = .ok (.iload_n 1, 1) := by decide +kernel
theorem dX11_throwsIf_1 : decode cX11_throwsIf 1 = .ok (.ifCond .eq 8, 3) := by decide +kernel
theorem dX11_throwsIf_4 : decode cX11_throwsIf 4 = .ok (.aload_n 0, 1) := by decide +kernel
theorem dX11_throwsIf_5 : decode cX11_throwsIf 5 = .ok (.iload_n 2, 1) := by decide +kernel
theorem dX11_throwsIf_6 : decode cX11_throwsIf 6 = .ok (.putfield 106, 3) := by decide +kernel
theorem dX11_throwsIf_9 : decode cX11_throwsIf 9 = .ok (.iload_n 1, 1) := by decide +kernel
theorem dX11_throwsIf_10 : decode cX11_throwsIf 10 = .ok (.ireturn, 1) := by decide +kernel
theorem dX11_in_0 : decode cX11_in 0 = .ok (.iload_n 0, 1) := by decide +kernel
theorem dX11_in_1 : decode cX11_in 1 = .ok (.iload_n 1, 1) := by decide +kernel
theorem dX11_in_2 : decode cX11_in 2 = .ok (.if_icmp .lt 12, 3) := by decide +kernel
theorem dX11_in_5 : decode cX11_in 5 = .ok (.iload_n 0, 1) := by decide +kernel
theorem dX11_in_6 : decode cX11_in 6 = .ok (.iload_n 2, 1) := by decide +kernel
theorem dX11_in_7 : decode cX11_in 7 = .ok (.if_icmp .gt 7, 3) := by decide +kernel
theorem dX11_in_10 : decode cX11_in 10 = .ok (.iconst 1, 1) := by decide +kernel
theorem dX11_in_11 : decode cX11_in 11 = .ok (.goto 4, 3) := by decide +kernel
theorem dX11_in_14 : decode cX11_in 14 = .ok (.iconst 0, 1) := by decide +kernel
theorem dX11_in_15 : decode cX11_in 15 = .ok (.ireturn, 1) := by decide +kernel
theorem dX11_feed_0 : decode cX11_feed 0 = .ok (.aload_n 0, 1) := by decide +kernel
theorem dX11_feed_1 : decode cX11_feed 1 = .ok (.iconst 0, 1) := by decide +kernel
theorem dX11_feed_2 : decode cX11_feed 2 = .ok (.putfield 106, 3) := by decide +kernel
theorem dX11_feed_5 : decode cX11_feed 5 = .ok (.aload_n 0, 1) := by decide +kernel
theorem dX11_feed_6 : decode cX11_feed 6 = .ok (.getfield 109, 3) := by decide +kernel
theorem dX11_feed_9 : decode cX11_feed 9 = .ok (.bipush 20, 2) := by decide +kernel
theorem dX11_feed_11 : decode cX11_feed 11 = .ok (.iadd, 1) := by decide +kernel
theorem dX11_feed_12 : decode cX11_feed 12 = .ok (.sipush 400, 3) := by decide +kernel
theorem dX11_feed_15 : decode cX11_feed 15 = .ok (.if_icmp .le 5, 3) := by decide +kernel
theorem dX11_feed_18 : decode cX11_feed 18 = .ok (.iconst (-1), 1) := by decide +kernel
theorem dX11_feed_19 : decode cX11_feed 19 = .ok (.ireturn, 1) := by decide +kernel
theorem dX11_feed_20 : decode cX11_feed 20 = .ok (.aload_n 0, 1) := by decide +kernel
theorem dX11_feed_21 : decode cX11_feed 21 = .ok (.getfield 13, 3) := by decide +kernel
theorem dX11_feed_24 : decode cX11_feed 24 = .ok (.iconst 0, 1) := by decide +kernel
theorem dX11_feed_25 : decode cX11_feed 25 = .ok (.iload_n 1, 1) := by decide +kernel
theorem dX11_feed_26 : decode cX11_feed 26 = .ok (.iastore, 1) := by decide +kernel
theorem dX11_feed_27 : decode cX11_feed 27 = .ok (.aload_n 0, 1) := by decide +kernel
theorem dX11_feed_28 : decode cX11_feed 28 = .ok (.getfield 13, 3) := by decide +kernel
theorem dX11_feed_31 : decode cX11_feed 31 = .ok (.iconst 1, 1) := by decide +kernel
theorem dX11_feed_32 : decode cX11_feed 32 = .ok (.iload_n 2, 1) := by decide +kernel
theorem dX11_feed_33 : decode cX11_feed 33 = .ok (.iastore, 1) := by decide +kernel
theorem dX11_feed_34 : decode cX11_feed 34 = .ok (.aload_n 0, 1) := by decide +kernel
theorem dX11_feed_35 : decode cX11_feed 35 = .ok (.getfield 13, 3) := by decide +kernel
theorem dX11_feed_38 : decode cX11_feed 38 = .ok (.iconst 2, 1) := by decide +kernel
theorem dX11_feed_39 : decode cX11_feed 39 = .ok (.iload_n 3, 1) := by decide +kernel
theorem dX11_feed_40 : decode cX11_feed 40 = .ok (.iastore, 1) := by decide +kernel
theorem dX11_feed_41 : decode cX11_feed 41 = .ok (.aload_n 0, 1) := by decide +kernel
theorem dX11_feed_42 : decode cX11_feed 42 = .ok (.getfield 13, 3) := by decide +kernel
theorem dX11_feed_45 : decode cX11_feed 45 = .ok (.iconst 3, 1) := by decide +kernel
theorem dX11_feed_46 : decode cX11_feed 46 = .ok (.iload 4, 2) := by decide +kernel
theorem dX11_feed_48 : decode cX11_feed 48 = .ok (.iastore, 1) := by decide +kernel
theorem dX11_feed_49 : decode cX11_feed 49 = .ok (.aload_n 0, 1) := by decide +kernel
theorem dX11_feed_50 : decode cX11_feed 50 = .ok (.getfield 13, 3) := by decide +kernel
theorem dX11_feed_53 : decode cX11_feed 53 = .ok (.iconst 4, 1) := by decide +kernel
theorem dX11_feed_54 : decode cX11_feed 54 = .ok (.iload 5, 2) := by decide +kernel
theorem dX11_feed_56 : decode cX11_feed 56 = .ok (.iastore, 1) := by decide +kernel
theorem dX11_feed_57 : decode cX11_feed 57 = .ok (.iconst 0, 1) := by decide +kernel
theorem dX11_feed_58 : decode cX11_feed 58 = .ok (.istore 6, 2) := by decide +kernel
theorem dX11_feed_60 : decode cX11_feed 60 = .ok (.iload 6, 2) := by decide +kernel
theorem dX11_feed_62 : decode cX11_feed 62 = .ok (.bipush 20, 2) := by decide +kernel
theorem dX11_feed_64 : decode cX11_feed 64 = .ok (.if_icmp .ge 42, 3) := by decide +kernel
theorem dX11_feed_67 : decode cX11_feed 67 = .ok (.aload_n 0, 1) := by decide +kernel
theorem dX11_feed_68 : decode cX11_feed 68 = .ok (.getfield 9, 3) := by decide +kernel
theorem dX11_feed_71 : decode cX11_feed 71 = .ok (.aload_n 0, 1) := by decide +kernel
theorem dX11_feed_72 : decode cX11_feed 72 = .ok (.getfield 109, 3) := by decide +kernel
theorem dX11_feed_75 : decode cX11_feed 75 = .ok (.iload 6, 2) := by decide +kernel
theorem dX11_feed_77 : decode cX11_feed 77 = .ok (.iadd, 1) := by decide +kernel
theorem dX11_feed_78 : decode cX11_feed 78 = .ok (.aload_n 0, 1) := by decide +kernel
theorem dX11_feed_79 : decode cX11_feed 79 = .ok (.getfield 13, 3) := by decide +kernel
theorem dX11_feed_82 : decode cX11_feed 82 = .ok (.iload 6, 2) := by decide +kernel
theorem dX11_feed_84 : decode cX11_feed 84 = .ok (.iconst 4, 1) := by decide +kernel
theorem dX11_feed_85 : decode cX11_feed 85 = .ok (.idiv, 1) := by decide +kernel
theorem dX11_feed_86 : decode cX11_feed 86 = .ok (.iaload, 1) := by decide +kernel
theorem dX11_feed_87 : decode cX11_feed 87 = .ok (.bipush 24, 2) := by decide +kernel
theorem dX11_feed_89 : decode cX11_feed 89 = .ok (.bipush 8, 2) := by decide +kernel
theorem dX11_feed_91 : decode cX11_feed 91 = .ok (.iload 6, 2) := by decide +kernel
theorem dX11_feed_93 : decode cX11_feed 93 = .ok (.iconst 4, 1) := by decide +kernel
theorem dX11_feed_94 : decode cX11_feed 94 = .ok (.irem, 1) := by decide +kernel
theorem dX11_feed_95 : decode cX11_feed 95 = .ok (.imul, 1) := by decide +kernel
theorem dX11_feed_96 : decode cX11_feed 96 = .ok (.isub, 1) := by decide +kernel
theorem dX11_feed_97 : decode cX11_feed 97 = .ok (.ishr, 1) := by decide +kernel
theorem dX11_feed_98 : decode cX11_feed 98 = .ok (.i2b, 1) := by decide +kernel
theorem dX11_feed_99 : decode cX11_feed 99 = .ok (.bastore, 1) := by decide +kernel
theorem dX11_feed_100 : decode cX11_feed 100 = .ok (.iinc 6 1, 3) := by decide +kernel
theorem dX11_feed_103 : decode cX11_feed 103 = .ok (.goto (-43), 3) := by decide +kernel
theorem dX11_feed_106 : decode cX11_feed 106 = .ok (.aload_n 0, 1) := by decide +kernel
theorem dX11_feed_107 : decode cX11_feed 107 = .ok (.dup, 1) := by decide +kernel
theorem dX11_feed_108 : decode cX11_feed 108 = .ok (.getfield 109, 3) := by decide +kernel
theorem dX11_feed_111 : decode cX11_feed 111 = .ok (.bipush 20, 2) := by decide +kernel
theorem dX11_feed_113 : decode cX11_feed 113 = .ok (.iadd, 1) := by decide +kernel
theorem dX11_feed_114 : decode cX11_feed 114 = .ok (.putfield 109, 3) := by decide +kernel
theorem dX11_feed_117 : decode cX11_feed 117 = .ok (.aload_n 0, 1) := by decide +kernel
theorem dX11_feed_118 : decode cX11_feed 118 = .ok (.getfield 109, 3) := by decide +kernel
theorem dX11_feed_121 : decode cX11_feed 121 = .ok (.ireturn, 1) := by decide +kernel
theorem dX11_end_0 : decode cX11_end 0 = .ok (.aload_n 0, 1) := by decide +kernel
theorem dX11_end_1 : decode cX11_end 1 = .ok (.iconst 0, 1) := by decide +kernel
theorem dX11_end_2 : decode cX11_end 2 = .ok (.putfield 106, 3) := by decide +kernel
theorem dX11_end_5 : decode cX11_end 5 = .ok (.iload_n 1, 1) := by decide +kernel
theorem dX11_end_6 : decode cX11_end 6 = .ok (.ifCond .lt 11, 3) := by decide +kernel
theorem dX11_end_9 : decode cX11_end 9 = .ok (.iload_n 1, 1) := by decide +kernel
theorem dX11_end_10 : decode cX11_end 10 = .ok (.aload_n 0, 1) := by decide +kernel
theorem dX11_end_11 : decode cX11_end 11 = .ok (.getfield 109, 3) := by decide +kernel
theorem dX11_end_14 : decode cX11_end 14 = .ok (.if_icmp .le 5, 3) := by decide +kernel
theorem dX11_end_17 : decode cX11_end 17 = .ok (.iconst 0, 1) := by decide +kernel
theorem dX11_end_18 : decode cX11_end 18 = .ok (.ireturn, 1) := by decide +kernel
theorem dX11_end_19 : decode cX11_end 19 = .ok (.aload_n 0, 1) := by decide +kernel
theorem dX11_end_20 : decode cX11_end 20 = .ok (.iload_n 1, 1) := by decide +kernel
theorem dX11_end_21 : decode cX11_end 21 = .ok (.putfield 109, 3) := by decide +kernel
theorem dX11_end_24 : decode cX11_end 24 = .ok (.iconst 1, 1) := by decide +kernel
theorem dX11_end_25 : decode cX11_end 25 = .ok (.ireturn, 1) := by decide +kernel
theorem dX11_hasFailed_0 : decode cX11_hasFailed 0 = .ok (.aload_n 0, 1) := by decide +kernel
theorem dX11_hasFailed_1 : decode cX11_hasFailed 1 = .ok (.getfield 112, 3) := by decide +kernel
theorem dX11_hasFailed_4 : decode cX11_hasFailed 4 = .ok (.iconst (-1), 1) := by decide +kernel
theorem dX11_hasFailed_5 : decode cX11_hasFailed 5 = .ok (.if_icmp .eq 7, 3) := by decide +kernel
theorem dX11_hasFailed_8 : decode cX11_hasFailed 8 = .ok (.iconst 1, 1) := by decide +kernel
theorem dX11_hasFailed_9 : decode cX11_hasFailed 9 = .ok (.goto 4, 3) := by decide +kernel
theorem dX11_hasFailed_12 : decode cX11_hasFailed 12 = .ok (.iconst 0, 1) := by decide +kernel
theorem dX11_hasFailed_13 : decode cX11_hasFailed 13 = .ok (.ireturn, 1) := by decide +kernel
theorem dX11_isAt_0 : decode cX11_isAt 0 = .ok (.aload_n 0, 1) := by decide +kernel
theorem dX11_isAt_1 : decode cX11_isAt 1 = .ok (.getfield 115, 3) := by decide +kernel
theorem dX11_isAt_4 : decode cX11_isAt 4 = .ok (.aload_n 0, 1) := by decide +kernel
theorem dX11_isAt_5 : decode cX11_isAt 5 = .ok (.getfield 118, 3) := by decide +kernel
theorem dX11_isAt_8 : decode cX11_isAt 8 = .ok (.if_icmp .ge 33, 3) := by decide +kernel
theorem dX11_isAt_11 : decode cX11_isAt 11 = .ok (.aload_n 0, 1) := by decide +kernel
theorem dX11_isAt_12 : decode cX11_isAt 12 = .ok (.getfield 9, 3) := by decide +kernel
theorem dX11_isAt_15 : decode cX11_isAt 15 = .ok (.aload_n 0, 1) := by decide +kernel
theorem dX11_isAt_16 : decode cX11_isAt 16 = .ok (.getfield 115, 3) := by decide +kernel
theorem dX11_isAt_19 : decode cX11_isAt 19 = .ok (.baload, 1) := by decide +kernel
theorem dX11_isAt_20 : decode cX11_isAt 20 = .ok (.iload_n 1, 1) := by decide +kernel
theorem dX11_isAt_21 : decode cX11_isAt 21 = .ok (.if_icmp .lt 20, 3) := by decide +kernel
theorem dX11_isAt_24 : decode cX11_isAt 24 = .ok (.aload_n 0, 1) := by decide +kernel
theorem dX11_isAt_25 : decode cX11_isAt 25 = .ok (.getfield 9, 3) := by decide +kernel
theorem dX11_isAt_28 : decode cX11_isAt 28 = .ok (.aload_n 0, 1) := by decide +kernel
theorem dX11_isAt_29 : decode cX11_isAt 29 = .ok (.getfield 115, 3) := by decide +kernel
theorem dX11_isAt_32 : decode cX11_isAt 32 = .ok (.baload, 1) := by decide +kernel
theorem dX11_isAt_33 : decode cX11_isAt 33 = .ok (.iload_n 2, 1) := by decide +kernel
theorem dX11_isAt_34 : decode cX11_isAt 34 = .ok (.if_icmp .gt 7, 3) := by decide +kernel
theorem dX11_isAt_37 : decode cX11_isAt 37 = .ok (.iconst 1, 1) := by decide +kernel
theorem dX11_isAt_38 : decode cX11_isAt 38 = .ok (.goto 4, 3) := by decide +kernel
theorem dX11_isAt_41 : decode cX11_isAt 41 = .ok (.iconst 0, 1) := by decide +kernel
theorem dX11_isAt_42 : decode cX11_isAt 42 = .ok (.ireturn, 1) := by decide +kernel
theorem dX11_blanks_0 : decode cX11_blanks 0 = .ok (.aload_n 0, 1) := by decide +kernel
theorem dX11_blanks_1 : decode cX11_blanks 1 = .ok (.bipush 9, 2) := by decide +kernel
theorem dX11_blanks_3 : decode cX11_blanks 3 = .ok (.bipush 10, 2) := by decide +kernel
theorem dX11_blanks_5 : decode cX11_blanks 5 = .ok (.invokevirtual 121, 3) := by decide +kernel
theorem dX11_blanks_8 : decode cX11_blanks 8 = .ok (.ifCond .ne 14, 3) := by decide +kernel
theorem dX11_blanks_11 : decode cX11_blanks 11 = .ok (.aload_n 0, 1) := by decide +kernel
theorem dX11_blanks_12 : decode cX11_blanks 12 = .ok (.bipush 32, 2) := by decide +kernel
theorem dX11_blanks_14 : decode cX11_blanks 14 = .ok (.bipush 32, 2) := by decide +kernel
theorem dX11_blanks_16 : decode cX11_blanks 16 = .ok (.invokevirtual 121, 3) := by decide +kernel
theorem dX11_blanks_19 : decode cX11_blanks 19 = .ok (.ifCond .eq 16, 3) := by decide +kernel
theorem dX11_blanks_22 : decode cX11_blanks 22 = .ok (.aload_n 0, 1) := by decide +kernel
theorem dX11_blanks_23 : decode cX11_blanks 23 = .ok (.dup, 1) := by decide +kernel
theorem dX11_blanks_24 : decode cX11_blanks 24 = .ok (.getfield 115, 3) := by decide +kernel
theorem dX11_blanks_27 : decode cX11_blanks 27 = .ok (.iconst 1, 1) := by decide +kernel
theorem dX11_blanks_28 : decode cX11_blanks 28 = .ok (.iadd, 1) := by decide +kernel
theorem dX11_blanks_29 : decode cX11_blanks 29 = .ok (.putfield 115, 3) := by decide +kernel
theorem dX11_blanks_32 : decode cX11_blanks 32 = .ok (.goto (-32), 3) := by decide +kernel
theorem dX11_blanks_35 : decode cX11_blanks 35 = .ok (.aload_n 0, 1) := by decide +kernel
theorem dX11_blanks_36 : decode cX11_blanks 36 = .ok (.aload_n 0, 1) := by decide +kernel
theorem dX11_blanks_37 : decode cX11_blanks 37 = .ok (.getfield 115, 3) := by decide +kernel
theorem dX11_blanks_40 : decode cX11_blanks 40 = .ok (.putfield 125, 3) := by decide +kernel
theorem dX11_blanks_43 : decode cX11_blanks 43 = .ok (.return_, 1) := by decide +kernel
theorem dX11_failsAt_0 : decode cX11_failsAt 0 = .ok (.aload_n 0, 1) := by decide +kernel
theorem dX11_failsAt_1 : decode cX11_failsAt 1 = .ok (.getfield 112, 3) := by decide +kernel
theorem dX11_failsAt_4 : decode cX11_failsAt 4 = .ok (.iconst (-1), 1) := by decide +kernel
theorem dX11_failsAt_5 : decode cX11_failsAt 5 = .ok (.if_icmp .ne 8, 3) := by decide +kernel
theorem dX11_failsAt_8 : decode cX11_failsAt 8 = .ok (.aload_n 0, 1) := by decide +kernel
theorem dX11_failsAt_9 : decode cX11_failsAt 9 = .ok (.iload_n 1, 1) := by decide +kernel
theorem dX11_failsAt_10 : decode cX11_failsAt 10 = .ok (.putfield 112, 3) := by decide +kernel
theorem dX11_failsAt_13 : decode cX11_failsAt 13 = .ok (.return_, 1) := by decide +kernel
theorem dX11_takes_0 : decode cX11_takes 0 = .ok (.aload_n 0, 1) := by decide +kernel
theorem dX11_takes_1 : decode cX11_takes 1 = .ok (.invokevirtual 128, 3) := by decide +kernel
theorem dX11_takes_4 : decode cX11_takes 4 = .ok (.aload_n 0, 1) := by decide +kernel
theorem dX11_takes_5 : decode cX11_takes 5 = .ok (.invokevirtual 131, 3) := by decide +kernel
theorem dX11_takes_8 : decode cX11_takes 8 = .ok (.ifCond .ne 12, 3) := by decide +kernel
theorem dX11_takes_11 : decode cX11_takes 11 = .ok (.aload_n 0, 1) := by decide +kernel
theorem dX11_takes_12 : decode cX11_takes 12 = .ok (.iload_n 1, 1) := by decide +kernel
theorem dX11_takes_13 : decode cX11_takes 13 = .ok (.iload_n 1, 1) := by decide +kernel
theorem dX11_takes_14 : decode cX11_takes 14 = .ok (.invokevirtual 121, 3) := by decide +kernel
theorem dX11_takes_17 : decode cX11_takes 17 = .ok (.ifCond .ne 5, 3) := by decide +kernel
theorem dX11_takes_20 : decode cX11_takes 20 = .ok (.iconst 0, 1) := by decide +kernel
theorem dX11_takes_21 : decode cX11_takes 21 = .ok (.ireturn, 1) := by decide +kernel
theorem dX11_takes_22 : decode cX11_takes 22 = .ok (.aload_n 0, 1) := by decide +kernel
theorem dX11_takes_23 : decode cX11_takes 23 = .ok (.dup, 1) := by decide +kernel
theorem dX11_takes_24 : decode cX11_takes 24 = .ok (.getfield 115, 3) := by decide +kernel
theorem dX11_takes_27 : decode cX11_takes 27 = .ok (.iconst 1, 1) := by decide +kernel
theorem dX11_takes_28 : decode cX11_takes 28 = .ok (.iadd, 1) := by decide +kernel
theorem dX11_takes_29 : decode cX11_takes 29 = .ok (.putfield 115, 3) := by decide +kernel
theorem dX11_takes_32 : decode cX11_takes 32 = .ok (.iconst 1, 1) := by decide +kernel
theorem dX11_takes_33 : decode cX11_takes 33 = .ok (.ireturn, 1) := by decide +kernel
theorem dX11_asks_0 : decode cX11_asks 0 = .ok (.aload_n 0, 1) := by decide +kernel
theorem dX11_asks_1 : decode cX11_asks 1 = .ok (.invokevirtual 131, 3) := by decide +kernel
theorem dX11_asks_4 : decode cX11_asks 4 = .ok (.ifCond .ne 19, 3) := by decide +kernel
theorem dX11_asks_7 : decode cX11_asks 7 = .ok (.aload_n 0, 1) := by decide +kernel
theorem dX11_asks_8 : decode cX11_asks 8 = .ok (.iload_n 1, 1) := by decide +kernel
theorem dX11_asks_9 : decode cX11_asks 9 = .ok (.invokevirtual 135, 3) := by decide +kernel
theorem dX11_asks_12 : decode cX11_asks 12 = .ok (.ifCond .ne 11, 3) := by decide +kernel
theorem dX11_asks_15 : decode cX11_asks 15 = .ok (.aload_n 0, 1) := by decide +kernel
theorem dX11_asks_16 : decode cX11_asks 16 = .ok (.aload_n 0, 1) := by decide +kernel
theorem dX11_asks_17 : decode cX11_asks 17 = .ok (.getfield 125, 3) := by decide +kernel
theorem dX11_asks_20 : decode cX11_asks 20 = .ok (.invokevirtual 139, 3) := by decide +kernel
theorem dX11_asks_23 : decode cX11_asks 23 = .ok (.return_, 1) := by decide +kernel
theorem dX11_wordMany_0 : decode cX11_wordMany 0 = .ok (.aload_n 0, 1) := by decide +kernel
theorem dX11_wordMany_1 : decode cX11_wordMany 1 = .ok (.invokevirtual 128, 3) := by decide +kernel
theorem dX11_wordMany_4 : decode cX11_wordMany 4 = .ok (.aload_n 0, 1) := by decide +kernel
theorem dX11_wordMany_5 : decode cX11_wordMany 5 = .ok (.getfield 115, 3) := by decide +kernel
theorem dX11_wordMany_8 : decode cX11_wordMany 8 = .ok (.istore_n 1, 1) := by decide +kernel
theorem dX11_wordMany_9 : decode cX11_wordMany 9 = .ok (.iload_n 1, 1) := by decide +kernel
theorem dX11_wordMany_10 : decode cX11_wordMany 10 = .ok (.aload_n 0, 1) := by decide +kernel
theorem dX11_wordMany_11 : decode cX11_wordMany 11 = .ok (.getfield 118, 3) := by decide +kernel
theorem dX11_wordMany_14 : decode cX11_wordMany 14 = .ok (.if_icmp .ge 31, 3) := by decide +kernel
theorem dX11_wordMany_17 : decode cX11_wordMany 17 = .ok (.aload_n 0, 1) := by decide +kernel
theorem dX11_wordMany_18 : decode cX11_wordMany 18 = .ok (.getfield 9, 3) := by decide +kernel
theorem dX11_wordMany_21 : decode cX11_wordMany 21 = .ok (.iload_n 1, 1) := by decide +kernel
theorem dX11_wordMany_22 : decode cX11_wordMany 22 = .ok (.baload, 1) := by decide +kernel
theorem dX11_wordMany_23 : decode cX11_wordMany 23 = .ok (.bipush 97, 2) := by decide +kernel
theorem dX11_wordMany_25 : decode cX11_wordMany 25 = .ok (.if_icmp .lt 20, 3) := by decide +kernel
theorem dX11_wordMany_28 : decode cX11_wordMany 28 = .ok (.aload_n 0, 1) := by decide +kernel
theorem dX11_wordMany_29 : decode cX11_wordMany 29 = .ok (.getfield 9, 3) := by decide +kernel
theorem dX11_wordMany_32 : decode cX11_wordMany 32 = .ok (.iload_n 1, 1) := by decide +kernel
theorem dX11_wordMany_33 : decode cX11_wordMany 33 = .ok (.baload, 1) := by decide +kernel
theorem dX11_wordMany_34 : decode cX11_wordMany 34 = .ok (.bipush 122, 2) := by decide +kernel
theorem dX11_wordMany_36 : decode cX11_wordMany 36 = .ok (.if_icmp .gt 9, 3) := by decide +kernel
theorem dX11_wordMany_39 : decode cX11_wordMany 39 = .ok (.iinc 1 1, 3) := by decide +kernel
theorem dX11_wordMany_42 : decode cX11_wordMany 42 = .ok (.goto (-33), 3) := by decide +kernel
theorem dX11_wordMany_45 : decode cX11_wordMany 45 = .ok (.iload_n 1, 1) := by decide +kernel
theorem dX11_wordMany_46 : decode cX11_wordMany 46 = .ok (.aload_n 0, 1) := by decide +kernel
theorem dX11_wordMany_47 : decode cX11_wordMany 47 = .ok (.getfield 115, 3) := by decide +kernel
theorem dX11_wordMany_50 : decode cX11_wordMany 50 = .ok (.isub, 1) := by decide +kernel
theorem dX11_wordMany_51 : decode cX11_wordMany 51 = .ok (.ireturn, 1) := by decide +kernel
theorem dX11_isWord_0 : decode cX11_isWord 0 = .ok (.aload_n 0, 1) := by decide +kernel
theorem dX11_isWord_1 : decode cX11_isWord 1 = .ok (.invokevirtual 131, 3) := by decide +kernel
theorem dX11_isWord_4 : decode cX11_isWord 4 = .ok (.ifCond .ne 18, 3) := by decide +kernel
theorem dX11_isWord_7 : decode cX11_isWord 7 = .ok (.aload_n 0, 1) := by decide +kernel
theorem dX11_isWord_8 : decode cX11_isWord 8 = .ok (.invokevirtual 143, 3) := by decide +kernel
theorem dX11_isWord_11 : decode cX11_isWord 11 = .ok (.aload_n 1, 1) := by decide +kernel
theorem dX11_isWord_12 : decode cX11_isWord 12 = .ok (.invokevirtual 147, 3) := by decide +kernel
theorem dX11_isWord_15 : decode cX11_isWord 15 = .ok (.if_icmp .ne 7, 3) := by decide +kernel
theorem dX11_isWord_18 : decode cX11_isWord 18 = .ok (.iconst 1, 1) := by decide +kernel
theorem dX11_isWord_19 : decode cX11_isWord 19 = .ok (.goto 4, 3) := by decide +kernel
theorem dX11_isWord_22 : decode cX11_isWord 22 = .ok (.iconst 0, 1) := by decide +kernel
theorem dX11_isWord_23 : decode cX11_isWord 23 = .ok (.istore_n 2, 1) := by decide +kernel
theorem dX11_isWord_24 : decode cX11_isWord 24 = .ok (.iconst 0, 1) := by decide +kernel
theorem dX11_isWord_25 : decode cX11_isWord 25 = .ok (.istore_n 3, 1) := by decide +kernel
theorem dX11_isWord_26 : decode cX11_isWord 26 = .ok (.iload_n 2, 1) := by decide +kernel
theorem dX11_isWord_27 : decode cX11_isWord 27 = .ok (.ifCond .eq 42, 3) := by decide +kernel
theorem dX11_isWord_30 : decode cX11_isWord 30 = .ok (.iload_n 3, 1) := by decide +kernel
theorem dX11_isWord_31 : decode cX11_isWord 31 = .ok (.aload_n 1, 1) := by decide +kernel
theorem dX11_isWord_32 : decode cX11_isWord 32 = .ok (.invokevirtual 147, 3) := by decide +kernel
theorem dX11_isWord_35 : decode cX11_isWord 35 = .ok (.if_icmp .ge 34, 3) := by decide +kernel
theorem dX11_isWord_38 : decode cX11_isWord 38 = .ok (.aload_n 0, 1) := by decide +kernel
theorem dX11_isWord_39 : decode cX11_isWord 39 = .ok (.getfield 9, 3) := by decide +kernel
theorem dX11_isWord_42 : decode cX11_isWord 42 = .ok (.aload_n 0, 1) := by decide +kernel
theorem dX11_isWord_43 : decode cX11_isWord 43 = .ok (.getfield 115, 3) := by decide +kernel
theorem dX11_isWord_46 : decode cX11_isWord 46 = .ok (.iload_n 3, 1) := by decide +kernel
theorem dX11_isWord_47 : decode cX11_isWord 47 = .ok (.iadd, 1) := by decide +kernel
theorem dX11_isWord_48 : decode cX11_isWord 48 = .ok (.baload, 1) := by decide +kernel
theorem dX11_isWord_49 : decode cX11_isWord 49 = .ok (.aload_n 1, 1) := by decide +kernel
theorem dX11_isWord_50 : decode cX11_isWord 50 = .ok (.iload_n 3, 1) := by decide +kernel
theorem dX11_isWord_51 : decode cX11_isWord 51 = .ok (.invokevirtual 152, 3) := by decide +kernel
theorem dX11_isWord_54 : decode cX11_isWord 54 = .ok (.if_icmp .ne 7, 3) := by decide +kernel
theorem dX11_isWord_57 : decode cX11_isWord 57 = .ok (.iconst 1, 1) := by decide +kernel
theorem dX11_isWord_58 : decode cX11_isWord 58 = .ok (.goto 4, 3) := by decide +kernel
theorem dX11_isWord_61 : decode cX11_isWord 61 = .ok (.iconst 0, 1) := by decide +kernel
theorem dX11_isWord_62 : decode cX11_isWord 62 = .ok (.istore_n 2, 1) := by decide +kernel
theorem dX11_isWord_63 : decode cX11_isWord 63 = .ok (.iinc 3 1, 3) := by decide +kernel
theorem dX11_isWord_66 : decode cX11_isWord 66 = .ok (.goto (-40), 3) := by decide +kernel
theorem dX11_isWord_69 : decode cX11_isWord 69 = .ok (.iload_n 2, 1) := by decide +kernel
theorem dX11_isWord_70 : decode cX11_isWord 70 = .ok (.ireturn, 1) := by decide +kernel
theorem dX11_asksWord_0 : decode cX11_asksWord 0 = .ok (.aload_n 0, 1) := by decide +kernel
theorem dX11_asksWord_1 : decode cX11_asksWord 1 = .ok (.invokevirtual 131, 3) := by decide +kernel
theorem dX11_asksWord_4 : decode cX11_asksWord 4 = .ok (.ifCond .eq 4, 3) := by decide +kernel
theorem dX11_asksWord_7 : decode cX11_asksWord 7 = .ok (.return_, 1) := by decide +kernel
theorem dX11_asksWord_8 : decode cX11_asksWord 8 = .ok (.aload_n 0, 1) := by decide +kernel
theorem dX11_asksWord_9 : decode cX11_asksWord 9 = .ok (.aload_n 1, 1) := by decide +kernel
theorem dX11_asksWord_10 : decode cX11_asksWord 10 = .ok (.invokevirtual 156, 3) := by decide +kernel
theorem dX11_asksWord_13 : decode cX11_asksWord 13 = .ok (.ifCond .eq 19, 3) := by decide +kernel
theorem dX11_asksWord_16 : decode cX11_asksWord 16 = .ok (.aload_n 0, 1) := by decide +kernel
theorem dX11_asksWord_17 : decode cX11_asksWord 17 = .ok (.dup, 1) := by decide +kernel
theorem dX11_asksWord_18 : decode cX11_asksWord 18 = .ok (.getfield 115, 3) := by decide +kernel
theorem dX11_asksWord_21 : decode cX11_asksWord 21 = .ok (.aload_n 1, 1) := by decide +kernel
theorem dX11_asksWord_22 : decode cX11_asksWord 22 = .ok (.invokevirtual 147, 3) := by decide +kernel
theorem dX11_asksWord_25 : decode cX11_asksWord 25 = .ok (.iadd, 1) := by decide +kernel
theorem dX11_asksWord_26 : decode cX11_asksWord 26 = .ok (.putfield 115, 3) := by decide +kernel
theorem dX11_asksWord_29 : decode cX11_asksWord 29 = .ok (.goto 11, 3) := by decide +kernel
theorem dX11_asksWord_32 : decode cX11_asksWord 32 = .ok (.aload_n 0, 1) := by decide +kernel
theorem dX11_asksWord_33 : decode cX11_asksWord 33 = .ok (.aload_n 0, 1) := by decide +kernel
theorem dX11_asksWord_34 : decode cX11_asksWord 34 = .ok (.getfield 125, 3) := by decide +kernel
theorem dX11_asksWord_37 : decode cX11_asksWord 37 = .ok (.invokevirtual 139, 3) := by decide +kernel
theorem dX11_asksWord_40 : decode cX11_asksWord 40 = .ok (.return_, 1) := by decide +kernel
theorem dX11_isName_0 : decode cX11_isName 0 = .ok (.aload_n 0, 1) := by decide +kernel
theorem dX11_isName_1 : decode cX11_isName 1 = .ok (.invokevirtual 143, 3) := by decide +kernel
theorem dX11_isName_4 : decode cX11_isName 4 = .ok (.istore_n 1, 1) := by decide +kernel
theorem dX11_isName_5 : decode cX11_isName 5 = .ok (.aload_n 0, 1) := by decide +kernel
theorem dX11_isName_6 : decode cX11_isName 6 = .ok (.invokevirtual 131, 3) := by decide +kernel
theorem dX11_isName_9 : decode cX11_isName 9 = .ok (.ifCond .ne 71, 3) := by decide +kernel
theorem dX11_isName_12 : decode cX11_isName 12 = .ok (.iload_n 1, 1) := by decide +kernel
theorem dX11_isName_13 : decode cX11_isName 13 = .ok (.ifCond .le 67, 3) := by decide +kernel
theorem dX11_isName_16 : decode cX11_isName 16 = .ok (.iload_n 1, 1) := by decide +kernel
theorem dX11_isName_17 : decode cX11_isName 17 = .ok (.bipush 6, 2) := by decide +kernel
theorem dX11_isName_19 : decode cX11_isName 19 = .ok (.if_icmp .gt 61, 3) := by decide +kernel
theorem dX11_isName_22 : decode cX11_isName 22 = .ok (.aload_n 0, 1) := by decide +kernel
theorem dX11_isName_23 : decode cX11_isName 23 = .ok (.ldc 160, 2) := by decide +kernel
theorem dX11_isName_25 : decode cX11_isName 25 = .ok (.invokevirtual 156, 3) := by decide +kernel
theorem dX11_isName_28 : decode cX11_isName 28 = .ok (.ifCond .ne 52, 3) := by decide +kernel
theorem dX11_isName_31 : decode cX11_isName 31 = .ok (.aload_n 0, 1) := by decide +kernel
theorem dX11_isName_32 : decode cX11_isName 32 = .ok (.ldc 161, 2) := by decide +kernel
theorem dX11_isName_34 : decode cX11_isName 34 = .ok (.invokevirtual 156, 3) := by decide +kernel
theorem dX11_isName_37 : decode cX11_isName 37 = .ok (.ifCond .ne 43, 3) := by decide +kernel
theorem dX11_isName_40 : decode cX11_isName 40 = .ok (.aload_n 0, 1) := by decide +kernel
theorem dX11_isName_41 : decode cX11_isName 41 = .ok (.ldc 163, 2) := by decide +kernel
theorem dX11_isName_43 : decode cX11_isName 43 = .ok (.invokevirtual 156, 3) := by decide +kernel
theorem dX11_isName_46 : decode cX11_isName 46 = .ok (.ifCond .ne 34, 3) := by decide +kernel
theorem dX11_isName_49 : decode cX11_isName 49 = .ok (.aload_n 0, 1) := by decide +kernel
theorem dX11_isName_50 : decode cX11_isName 50 = .ok (.ldc 165, 2) := by decide +kernel
theorem dX11_isName_52 : decode cX11_isName 52 = .ok (.invokevirtual 156, 3) := by decide +kernel
theorem dX11_isName_55 : decode cX11_isName 55 = .ok (.ifCond .ne 25, 3) := by decide +kernel
theorem dX11_isName_58 : decode cX11_isName 58 = .ok (.aload_n 0, 1) := by decide +kernel
theorem dX11_isName_59 : decode cX11_isName 59 = .ok (.ldc 166, 2) := by decide +kernel
theorem dX11_isName_61 : decode cX11_isName 61 = .ok (.invokevirtual 156, 3) := by decide +kernel
theorem dX11_isName_64 : decode cX11_isName 64 = .ok (.ifCond .ne 16, 3) := by decide +kernel
theorem dX11_isName_67 : decode cX11_isName 67 = .ok (.aload_n 0, 1) := by decide +kernel
theorem dX11_isName_68 : decode cX11_isName 68 = .ok (.ldc 168, 2) := by decide +kernel
theorem dX11_isName_70 : decode cX11_isName 70 = .ok (.invokevirtual 156, 3) := by decide +kernel
theorem dX11_isName_73 : decode cX11_isName 73 = .ok (.ifCond .ne 7, 3) := by decide +kernel
theorem dX11_isName_76 : decode cX11_isName 76 = .ok (.iconst 1, 1) := by decide +kernel
theorem dX11_isName_77 : decode cX11_isName 77 = .ok (.goto 4, 3) := by decide +kernel
theorem dX11_isName_80 : decode cX11_isName 80 = .ok (.iconst 0, 1) := by decide +kernel
theorem dX11_isName_81 : decode cX11_isName 81 = .ok (.ireturn, 1) := by decide +kernel
theorem dX11_told_0 : decode cX11_told 0 = .ok (.aload_n 0, 1) := by decide +kernel
theorem dX11_told_1 : decode cX11_told 1 = .ok (.invokevirtual 143, 3) := by decide +kernel
theorem dX11_told_4 : decode cX11_told 4 = .ok (.istore_n 1, 1) := by decide +kernel
theorem dX11_told_5 : decode cX11_told 5 = .ok (.iconst 0, 1) := by decide +kernel
theorem dX11_told_6 : decode cX11_told 6 = .ok (.istore_n 2, 1) := by decide +kernel
theorem dX11_told_7 : decode cX11_told 7 = .ok (.iload_n 2, 1) := by decide +kernel
theorem dX11_told_8 : decode cX11_told 8 = .ok (.aload_n 0, 1) := by decide +kernel
theorem dX11_told_9 : decode cX11_told 9 = .ok (.getfield 20, 3) := by decide +kernel
theorem dX11_told_12 : decode cX11_told 12 = .ok (.iconst 2, 1) := by decide +kernel
theorem dX11_told_13 : decode cX11_told 13 = .ok (.iaload, 1) := by decide +kernel
theorem dX11_told_14 : decode cX11_told 14 = .ok (.if_icmp .ge 80, 3) := by decide +kernel
theorem dX11_told_17 : decode cX11_told 17 = .ok (.iconst 1, 1) := by decide +kernel
theorem dX11_told_18 : decode cX11_told 18 = .ok (.istore_n 3, 1) := by decide +kernel
theorem dX11_told_19 : decode cX11_told 19 = .ok (.iconst 0, 1) := by decide +kernel
theorem dX11_told_20 : decode cX11_told 20 = .ok (.istore 4, 2) := by decide +kernel
theorem dX11_told_22 : decode cX11_told 22 = .ok (.iload 4, 2) := by decide +kernel
theorem dX11_told_24 : decode cX11_told 24 = .ok (.bipush 6, 2) := by decide +kernel
theorem dX11_told_26 : decode cX11_told 26 = .ok (.if_icmp .ge 56, 3) := by decide +kernel
theorem dX11_told_29 : decode cX11_told 29 = .ok (.iload_n 3, 1) := by decide +kernel
theorem dX11_told_30 : decode cX11_told 30 = .ok (.ifCond .eq 52, 3) := by decide +kernel
theorem dX11_told_33 : decode cX11_told 33 = .ok (.aload_n 0, 1) := by decide +kernel
theorem dX11_told_34 : decode cX11_told 34 = .ok (.getfield 45, 3) := by decide +kernel
theorem dX11_told_37 : decode cX11_told 37 = .ok (.bipush 6, 2) := by decide +kernel
theorem dX11_told_39 : decode cX11_told 39 = .ok (.iload_n 2, 1) := by decide +kernel
theorem dX11_told_40 : decode cX11_told 40 = .ok (.imul, 1) := by decide +kernel
theorem dX11_told_41 : decode cX11_told 41 = .ok (.iload 4, 2) := by decide +kernel
theorem dX11_told_43 : decode cX11_told 43 = .ok (.iadd, 1) := by decide +kernel
theorem dX11_told_44 : decode cX11_told 44 = .ok (.baload, 1) := by decide +kernel
theorem dX11_told_45 : decode cX11_told 45 = .ok (.iload 4, 2) := by decide +kernel
theorem dX11_told_47 : decode cX11_told 47 = .ok (.iload_n 1, 1) := by decide +kernel
theorem dX11_told_48 : decode cX11_told 48 = .ok (.if_icmp .ge 18, 3) := by decide +kernel
theorem dX11_told_51 : decode cX11_told 51 = .ok (.aload_n 0, 1) := by decide +kernel
theorem dX11_told_52 : decode cX11_told 52 = .ok (.getfield 9, 3) := by decide +kernel
theorem dX11_told_55 : decode cX11_told 55 = .ok (.aload_n 0, 1) := by decide +kernel
theorem dX11_told_56 : decode cX11_told 56 = .ok (.getfield 115, 3) := by decide +kernel
theorem dX11_told_59 : decode cX11_told 59 = .ok (.iload 4, 2) := by decide +kernel
theorem dX11_told_61 : decode cX11_told 61 = .ok (.iadd, 1) := by decide +kernel
theorem dX11_told_62 : decode cX11_told 62 = .ok (.baload, 1) := by decide +kernel
theorem dX11_told_63 : decode cX11_told 63 = .ok (.goto 4, 3) := by decide +kernel
theorem dX11_told_66 : decode cX11_told 66 = .ok (.iconst 0, 1) := by decide +kernel
theorem dX11_told_67 : decode cX11_told 67 = .ok (.if_icmp .ne 7, 3) := by decide +kernel
theorem dX11_told_70 : decode cX11_told 70 = .ok (.iconst 1, 1) := by decide +kernel
theorem dX11_told_71 : decode cX11_told 71 = .ok (.goto 4, 3) := by decide +kernel
theorem dX11_told_74 : decode cX11_told 74 = .ok (.iconst 0, 1) := by decide +kernel
theorem dX11_told_75 : decode cX11_told 75 = .ok (.istore_n 3, 1) := by decide +kernel
theorem dX11_told_76 : decode cX11_told 76 = .ok (.iinc 4 1, 3) := by decide +kernel
theorem dX11_told_79 : decode cX11_told 79 = .ok (.goto (-57), 3) := by decide +kernel
theorem dX11_told_82 : decode cX11_told 82 = .ok (.iload_n 3, 1) := by decide +kernel
theorem dX11_told_83 : decode cX11_told 83 = .ok (.ifCond .eq 5, 3) := by decide +kernel
theorem dX11_told_86 : decode cX11_told 86 = .ok (.iload_n 2, 1) := by decide +kernel
theorem dX11_told_87 : decode cX11_told 87 = .ok (.ireturn, 1) := by decide +kernel
theorem dX11_told_88 : decode cX11_told 88 = .ok (.iinc 2 1, 3) := by decide +kernel
theorem dX11_told_91 : decode cX11_told 91 = .ok (.goto (-84), 3) := by decide +kernel
theorem dX11_told_94 : decode cX11_told 94 = .ok (.iconst (-1), 1) := by decide +kernel
theorem dX11_told_95 : decode cX11_told 95 = .ok (.ireturn, 1) := by decide +kernel
theorem dX11_number_0 : decode cX11_number 0 = .ok (.aload_n 0, 1) := by decide +kernel
theorem dX11_number_1 : decode cX11_number 1 = .ok (.invokevirtual 131, 3) := by decide +kernel
theorem dX11_number_4 : decode cX11_number 4 = .ok (.ifCond .eq 5, 3) := by decide +kernel
theorem dX11_number_7 : decode cX11_number 7 = .ok (.iconst 0, 1) := by decide +kernel
theorem dX11_number_8 : decode cX11_number 8 = .ok (.ireturn, 1) := by decide +kernel
theorem dX11_number_9 : decode cX11_number 9 = .ok (.aload_n 0, 1) := by decide +kernel
theorem dX11_number_10 : decode cX11_number 10 = .ok (.invokevirtual 128, 3) := by decide +kernel
theorem dX11_number_13 : decode cX11_number 13 = .ok (.iconst 0, 1) := by decide +kernel
theorem dX11_number_14 : decode cX11_number 14 = .ok (.istore_n 3, 1) := by decide +kernel
theorem dX11_number_15 : decode cX11_number 15 = .ok (.aload_n 0, 1) := by decide +kernel
theorem dX11_number_16 : decode cX11_number 16 = .ok (.bipush 48, 2) := by decide +kernel
theorem dX11_number_18 : decode cX11_number 18 = .ok (.bipush 57, 2) := by decide +kernel
theorem dX11_number_20 : decode cX11_number 20 = .ok (.invokevirtual 121, 3) := by decide +kernel
theorem dX11_number_23 : decode cX11_number 23 = .ok (.ifCond .eq 47, 3) := by decide +kernel
theorem dX11_number_26 : decode cX11_number 26 = .ok (.aload_n 0, 1) := by decide +kernel
theorem dX11_number_27 : decode cX11_number 27 = .ok (.getfield 115, 3) := by decide +kernel
theorem dX11_number_30 : decode cX11_number 30 = .ok (.aload_n 0, 1) := by decide +kernel
theorem dX11_number_31 : decode cX11_number 31 = .ok (.getfield 125, 3) := by decide +kernel
theorem dX11_number_34 : decode cX11_number 34 = .ok (.isub, 1) := by decide +kernel
theorem dX11_number_35 : decode cX11_number 35 = .ok (.iconst 5, 1) := by decide +kernel
theorem dX11_number_36 : decode cX11_number 36 = .ok (.if_icmp .ge 21, 3) := by decide +kernel
theorem dX11_number_39 : decode cX11_number 39 = .ok (.bipush 10, 2) := by decide +kernel
theorem dX11_number_41 : decode cX11_number 41 = .ok (.iload_n 3, 1) := by decide +kernel
theorem dX11_number_42 : decode cX11_number 42 = .ok (.imul, 1) := by decide +kernel
theorem dX11_number_43 : decode cX11_number 43 = .ok (.aload_n 0, 1) := by decide +kernel
theorem dX11_number_44 : decode cX11_number 44 = .ok (.getfield 9, 3) := by decide +kernel
theorem dX11_number_47 : decode cX11_number 47 = .ok (.aload_n 0, 1) := by decide +kernel
theorem dX11_number_48 : decode cX11_number 48 = .ok (.getfield 115, 3) := by decide +kernel
theorem dX11_number_51 : decode cX11_number 51 = .ok (.baload, 1) := by decide +kernel
theorem dX11_number_52 : decode cX11_number 52 = .ok (.iadd, 1) := by decide +kernel
theorem dX11_number_53 : decode cX11_number 53 = .ok (.bipush 48, 2) := by decide +kernel
theorem dX11_number_55 : decode cX11_number 55 = .ok (.isub, 1) := by decide +kernel
theorem dX11_number_56 : decode cX11_number 56 = .ok (.istore_n 3, 1) := by decide +kernel
theorem dX11_number_57 : decode cX11_number 57 = .ok (.aload_n 0, 1) := by decide +kernel
theorem dX11_number_58 : decode cX11_number 58 = .ok (.dup, 1) := by decide +kernel
theorem dX11_number_59 : decode cX11_number 59 = .ok (.getfield 115, 3) := by decide +kernel
theorem dX11_number_62 : decode cX11_number 62 = .ok (.iconst 1, 1) := by decide +kernel
theorem dX11_number_63 : decode cX11_number 63 = .ok (.iadd, 1) := by decide +kernel
theorem dX11_number_64 : decode cX11_number 64 = .ok (.putfield 115, 3) := by decide +kernel
theorem dX11_number_67 : decode cX11_number 67 = .ok (.goto (-52), 3) := by decide +kernel
theorem dX11_number_70 : decode cX11_number 70 = .ok (.aload_n 0, 1) := by decide +kernel
theorem dX11_number_71 : decode cX11_number 71 = .ok (.getfield 115, 3) := by decide +kernel
theorem dX11_number_74 : decode cX11_number 74 = .ok (.aload_n 0, 1) := by decide +kernel
theorem dX11_number_75 : decode cX11_number 75 = .ok (.getfield 125, 3) := by decide +kernel
theorem dX11_number_78 : decode cX11_number 78 = .ok (.isub, 1) := by decide +kernel
theorem dX11_number_79 : decode cX11_number 79 = .ok (.istore 4, 2) := by decide +kernel
theorem dX11_number_81 : decode cX11_number 81 = .ok (.iload 4, 2) := by decide +kernel
theorem dX11_number_83 : decode cX11_number 83 = .ok (.ifCond .eq 18, 3) := by decide +kernel
theorem dX11_number_86 : decode cX11_number 86 = .ok (.iload 4, 2) := by decide +kernel
theorem dX11_number_88 : decode cX11_number 88 = .ok (.iconst 5, 1) := by decide +kernel
theorem dX11_number_89 : decode cX11_number 89 = .ok (.if_icmp .gt 12, 3) := by decide +kernel
theorem dX11_number_92 : decode cX11_number 92 = .ok (.iload_n 3, 1) := by decide +kernel
theorem dX11_number_93 : decode cX11_number 93 = .ok (.iload_n 1, 1) := by decide +kernel
theorem dX11_number_94 : decode cX11_number 94 = .ok (.iload_n 2, 1) := by decide +kernel
theorem dX11_number_95 : decode cX11_number 95 = .ok (.invokestatic 169, 3) := by decide +kernel
theorem dX11_number_98 : decode cX11_number 98 = .ok (.ifCond .ne 11, 3) := by decide +kernel
theorem dX11_number_101 : decode cX11_number 101 = .ok (.aload_n 0, 1) := by decide +kernel
theorem dX11_number_102 : decode cX11_number 102 = .ok (.aload_n 0, 1) := by decide +kernel
theorem dX11_number_103 : decode cX11_number 103 = .ok (.getfield 125, 3) := by decide +kernel
theorem dX11_number_106 : decode cX11_number 106 = .ok (.invokevirtual 139, 3) := by decide +kernel
theorem dX11_number_109 : decode cX11_number 109 = .ok (.iload_n 3, 1) := by decide +kernel
theorem dX11_number_110 : decode cX11_number 110 = .ok (.ireturn, 1) := by decide +kernel
theorem dX11_sizeLine_0 : decode cX11_sizeLine 0 = .ok (.aload_n 0, 1) := by decide +kernel
theorem dX11_sizeLine_1 : decode cX11_sizeLine 1 = .ok (.ldc 160, 2) := by decide +kernel
theorem dX11_sizeLine_3 : decode cX11_sizeLine 3 = .ok (.invokevirtual 173, 3) := by decide +kernel
theorem dX11_sizeLine_6 : decode cX11_sizeLine 6 = .ok (.aload_n 0, 1) := by decide +kernel
theorem dX11_sizeLine_7 : decode cX11_sizeLine 7 = .ok (.getfield 20, 3) := by decide +kernel
theorem dX11_sizeLine_10 : decode cX11_sizeLine 10 = .ok (.iconst 0, 1) := by decide +kernel
theorem dX11_sizeLine_11 : decode cX11_sizeLine 11 = .ok (.aload_n 0, 1) := by decide +kernel
theorem dX11_sizeLine_12 : decode cX11_sizeLine 12 = .ok (.iconst 2, 1) := by decide +kernel
theorem dX11_sizeLine_13 : decode cX11_sizeLine 13 = .ok (.bipush 24, 2) := by decide +kernel
theorem dX11_sizeLine_15 : decode cX11_sizeLine 15 = .ok (.invokevirtual 177, 3) := by decide +kernel
theorem dX11_sizeLine_18 : decode cX11_sizeLine 18 = .ok (.iastore, 1) := by decide +kernel
theorem dX11_sizeLine_19 : decode cX11_sizeLine 19 = .ok (.aload_n 0, 1) := by decide +kernel
theorem dX11_sizeLine_20 : decode cX11_sizeLine 20 = .ok (.getfield 20, 3) := by decide +kernel
theorem dX11_sizeLine_23 : decode cX11_sizeLine 23 = .ok (.iconst 1, 1) := by decide +kernel
theorem dX11_sizeLine_24 : decode cX11_sizeLine 24 = .ok (.aload_n 0, 1) := by decide +kernel
theorem dX11_sizeLine_25 : decode cX11_sizeLine 25 = .ok (.iconst 2, 1) := by decide +kernel
theorem dX11_sizeLine_26 : decode cX11_sizeLine 26 = .ok (.bipush 16, 2) := by decide +kernel
theorem dX11_sizeLine_28 : decode cX11_sizeLine 28 = .ok (.invokevirtual 177, 3) := by decide +kernel
theorem dX11_sizeLine_31 : decode cX11_sizeLine 31 = .ok (.iastore, 1) := by decide +kernel
theorem dX11_sizeLine_32 : decode cX11_sizeLine 32 = .ok (.aload_n 0, 1) := by decide +kernel
theorem dX11_sizeLine_33 : decode cX11_sizeLine 33 = .ok (.bipush 59, 2) := by decide +kernel
theorem dX11_sizeLine_35 : decode cX11_sizeLine 35 = .ok (.invokevirtual 181, 3) := by decide +kernel
theorem dX11_sizeLine_38 : decode cX11_sizeLine 38 = .ok (.return_, 1) := by decide +kernel
theorem dX11_groupsLine_0 : decode cX11_groupsLine 0 = .ok (.aload_n 0, 1) := by decide +kernel
theorem dX11_groupsLine_1 : decode cX11_groupsLine 1 = .ok (.getfield 184, 3) := by decide +kernel
theorem dX11_groupsLine_4 : decode cX11_groupsLine 4 = .ok (.ifCond .ne 12, 3) := by decide +kernel
theorem dX11_groupsLine_7 : decode cX11_groupsLine 7 = .ok (.aload_n 0, 1) := by decide +kernel
theorem dX11_groupsLine_8 : decode cX11_groupsLine 8 = .ok (.getfield 20, 3) := by decide +kernel
theorem dX11_groupsLine_11 : decode cX11_groupsLine 11 = .ok (.iconst 2, 1) := by decide +kernel
theorem dX11_groupsLine_12 : decode cX11_groupsLine 12 = .ok (.iaload, 1) := by decide +kernel
theorem dX11_groupsLine_13 : decode cX11_groupsLine 13 = .ok (.ifCond .le 12, 3) := by decide +kernel
theorem dX11_groupsLine_16 : decode cX11_groupsLine 16 = .ok (.aload_n 0, 1) := by decide +kernel
theorem dX11_groupsLine_17 : decode cX11_groupsLine 17 = .ok (.aload_n 0, 1) := by decide +kernel
theorem dX11_groupsLine_18 : decode cX11_groupsLine 18 = .ok (.getfield 125, 3) := by decide +kernel
theorem dX11_groupsLine_21 : decode cX11_groupsLine 21 = .ok (.invokevirtual 139, 3) := by decide +kernel
theorem dX11_groupsLine_24 : decode cX11_groupsLine 24 = .ok (.return_, 1) := by decide +kernel
theorem dX11_groupsLine_25 : decode cX11_groupsLine 25 = .ok (.aload_n 0, 1) := by decide +kernel
theorem dX11_groupsLine_26 : decode cX11_groupsLine 26 = .ok (.iconst 1, 1) := by decide +kernel
theorem dX11_groupsLine_27 : decode cX11_groupsLine 27 = .ok (.putfield 184, 3) := by decide +kernel
theorem dX11_groupsLine_30 : decode cX11_groupsLine 30 = .ok (.aload_n 0, 1) := by decide +kernel
theorem dX11_groupsLine_31 : decode cX11_groupsLine 31 = .ok (.ldc 161, 2) := by decide +kernel
theorem dX11_groupsLine_33 : decode cX11_groupsLine 33 = .ok (.invokevirtual 173, 3) := by decide +kernel
theorem dX11_groupsLine_36 : decode cX11_groupsLine 36 = .ok (.aload_n 0, 1) := by decide +kernel
theorem dX11_groupsLine_37 : decode cX11_groupsLine 37 = .ok (.getfield 20, 3) := by decide +kernel
theorem dX11_groupsLine_40 : decode cX11_groupsLine 40 = .ok (.iconst 3, 1) := by decide +kernel
theorem dX11_groupsLine_41 : decode cX11_groupsLine 41 = .ok (.aload_n 0, 1) := by decide +kernel
theorem dX11_groupsLine_42 : decode cX11_groupsLine 42 = .ok (.iconst 1, 1) := by decide +kernel
theorem dX11_groupsLine_43 : decode cX11_groupsLine 43 = .ok (.iconst 3, 1) := by decide +kernel
theorem dX11_groupsLine_44 : decode cX11_groupsLine 44 = .ok (.invokevirtual 177, 3) := by decide +kernel
theorem dX11_groupsLine_47 : decode cX11_groupsLine 47 = .ok (.iastore, 1) := by decide +kernel
theorem dX11_groupsLine_48 : decode cX11_groupsLine 48 = .ok (.return_, 1) := by decide +kernel
theorem dX11_zoneLine_0 : decode cX11_zoneLine 0 = .ok (.aload_n 0, 1) := by decide +kernel
theorem dX11_zoneLine_1 : decode cX11_zoneLine 1 = .ok (.getfield 20, 3) := by decide +kernel
theorem dX11_zoneLine_4 : decode cX11_zoneLine 4 = .ok (.iconst 2, 1) := by decide +kernel
theorem dX11_zoneLine_5 : decode cX11_zoneLine 5 = .ok (.iaload, 1) := by decide +kernel
theorem dX11_zoneLine_6 : decode cX11_zoneLine 6 = .ok (.istore_n 1, 1) := by decide +kernel
theorem dX11_zoneLine_7 : decode cX11_zoneLine 7 = .ok (.iload_n 1, 1) := by decide +kernel
theorem dX11_zoneLine_8 : decode cX11_zoneLine 8 = .ok (.bipush 8, 2) := by decide +kernel
theorem dX11_zoneLine_10 : decode cX11_zoneLine 10 = .ok (.if_icmp .ne 12, 3) := by decide +kernel
theorem dX11_zoneLine_13 : decode cX11_zoneLine 13 = .ok (.aload_n 0, 1) := by decide +kernel
theorem dX11_zoneLine_14 : decode cX11_zoneLine 14 = .ok (.aload_n 0, 1) := by decide +kernel
theorem dX11_zoneLine_15 : decode cX11_zoneLine 15 = .ok (.getfield 125, 3) := by decide +kernel
theorem dX11_zoneLine_18 : decode cX11_zoneLine 18 = .ok (.invokevirtual 139, 3) := by decide +kernel
theorem dX11_zoneLine_21 : decode cX11_zoneLine 21 = .ok (.return_, 1) := by decide +kernel
theorem dX11_zoneLine_22 : decode cX11_zoneLine 22 = .ok (.aload_n 0, 1) := by decide +kernel
theorem dX11_zoneLine_23 : decode cX11_zoneLine 23 = .ok (.ldc 163, 2) := by decide +kernel
theorem dX11_zoneLine_25 : decode cX11_zoneLine 25 = .ok (.invokevirtual 173, 3) := by decide +kernel
theorem dX11_zoneLine_28 : decode cX11_zoneLine 28 = .ok (.aload_n 0, 1) := by decide +kernel
theorem dX11_zoneLine_29 : decode cX11_zoneLine 29 = .ok (.invokevirtual 188, 3) := by decide +kernel
theorem dX11_zoneLine_32 : decode cX11_zoneLine 32 = .ok (.ifCond .eq 11, 3) := by decide +kernel
theorem dX11_zoneLine_35 : decode cX11_zoneLine 35 = .ok (.aload_n 0, 1) := by decide +kernel
theorem dX11_zoneLine_36 : decode cX11_zoneLine 36 = .ok (.invokevirtual 191, 3) := by decide +kernel
theorem dX11_zoneLine_39 : decode cX11_zoneLine 39 = .ok (.iconst (-1), 1) := by decide +kernel
theorem dX11_zoneLine_40 : decode cX11_zoneLine 40 = .ok (.if_icmp .eq 12, 3) := by decide +kernel
theorem dX11_zoneLine_43 : decode cX11_zoneLine 43 = .ok (.aload_n 0, 1) := by decide +kernel
theorem dX11_zoneLine_44 : decode cX11_zoneLine 44 = .ok (.aload_n 0, 1) := by decide +kernel
theorem dX11_zoneLine_45 : decode cX11_zoneLine 45 = .ok (.getfield 125, 3) := by decide +kernel
theorem dX11_zoneLine_48 : decode cX11_zoneLine 48 = .ok (.invokevirtual 139, 3) := by decide +kernel
theorem dX11_zoneLine_51 : decode cX11_zoneLine 51 = .ok (.return_, 1) := by decide +kernel
theorem dX11_zoneLine_52 : decode cX11_zoneLine 52 = .ok (.aload_n 0, 1) := by decide +kernel
theorem dX11_zoneLine_53 : decode cX11_zoneLine 53 = .ok (.invokevirtual 143, 3) := by decide +kernel
theorem dX11_zoneLine_56 : decode cX11_zoneLine 56 = .ok (.istore_n 2, 1) := by decide +kernel
theorem dX11_zoneLine_57 : decode cX11_zoneLine 57 = .ok (.iconst 0, 1) := by decide +kernel
theorem dX11_zoneLine_58 : decode cX11_zoneLine 58 = .ok (.istore_n 3, 1) := by decide +kernel
theorem dX11_zoneLine_59 : decode cX11_zoneLine 59 = .ok (.iload_n 3, 1) := by decide +kernel
theorem dX11_zoneLine_60 : decode cX11_zoneLine 60 = .ok (.bipush 6, 2) := by decide +kernel
theorem dX11_zoneLine_62 : decode cX11_zoneLine 62 = .ok (.if_icmp .ge 40, 3) := by decide +kernel
theorem dX11_zoneLine_65 : decode cX11_zoneLine 65 = .ok (.aload_n 0, 1) := by decide +kernel
theorem dX11_zoneLine_66 : decode cX11_zoneLine 66 = .ok (.getfield 45, 3) := by decide +kernel
theorem dX11_zoneLine_69 : decode cX11_zoneLine 69 = .ok (.bipush 6, 2) := by decide +kernel
theorem dX11_zoneLine_71 : decode cX11_zoneLine 71 = .ok (.iload_n 1, 1) := by decide +kernel
theorem dX11_zoneLine_72 : decode cX11_zoneLine 72 = .ok (.imul, 1) := by decide +kernel
theorem dX11_zoneLine_73 : decode cX11_zoneLine 73 = .ok (.iload_n 3, 1) := by decide +kernel
theorem dX11_zoneLine_74 : decode cX11_zoneLine 74 = .ok (.iadd, 1) := by decide +kernel
theorem dX11_zoneLine_75 : decode cX11_zoneLine 75 = .ok (.iload_n 3, 1) := by decide +kernel
theorem dX11_zoneLine_76 : decode cX11_zoneLine 76 = .ok (.iload_n 2, 1) := by decide +kernel
theorem dX11_zoneLine_77 : decode cX11_zoneLine 77 = .ok (.if_icmp .ge 17, 3) := by decide +kernel
theorem dX11_zoneLine_80 : decode cX11_zoneLine 80 = .ok (.aload_n 0, 1) := by decide +kernel
theorem dX11_zoneLine_81 : decode cX11_zoneLine 81 = .ok (.getfield 9, 3) := by decide +kernel
theorem dX11_zoneLine_84 : decode cX11_zoneLine 84 = .ok (.aload_n 0, 1) := by decide +kernel
theorem dX11_zoneLine_85 : decode cX11_zoneLine 85 = .ok (.getfield 115, 3) := by decide +kernel
theorem dX11_zoneLine_88 : decode cX11_zoneLine 88 = .ok (.iload_n 3, 1) := by decide +kernel
theorem dX11_zoneLine_89 : decode cX11_zoneLine 89 = .ok (.iadd, 1) := by decide +kernel
theorem dX11_zoneLine_90 : decode cX11_zoneLine 90 = .ok (.baload, 1) := by decide +kernel
theorem dX11_zoneLine_91 : decode cX11_zoneLine 91 = .ok (.goto 4, 3) := by decide +kernel
theorem dX11_zoneLine_94 : decode cX11_zoneLine 94 = .ok (.iconst 0, 1) := by decide +kernel
theorem dX11_zoneLine_95 : decode cX11_zoneLine 95 = .ok (.bastore, 1) := by decide +kernel
theorem dX11_zoneLine_96 : decode cX11_zoneLine 96 = .ok (.iinc 3 1, 3) := by decide +kernel
theorem dX11_zoneLine_99 : decode cX11_zoneLine 99 = .ok (.goto (-40), 3) := by decide +kernel
theorem dX11_zoneLine_102 : decode cX11_zoneLine 102 = .ok (.aload_n 0, 1) := by decide +kernel
theorem dX11_zoneLine_103 : decode cX11_zoneLine 103 = .ok (.dup, 1) := by decide +kernel
theorem dX11_zoneLine_104 : decode cX11_zoneLine 104 = .ok (.getfield 115, 3) := by decide +kernel
theorem dX11_zoneLine_107 : decode cX11_zoneLine 107 = .ok (.iload_n 2, 1) := by decide +kernel
theorem dX11_zoneLine_108 : decode cX11_zoneLine 108 = .ok (.iadd, 1) := by decide +kernel
theorem dX11_zoneLine_109 : decode cX11_zoneLine 109 = .ok (.putfield 115, 3) := by decide +kernel
theorem dX11_zoneLine_112 : decode cX11_zoneLine 112 = .ok (.aload_n 0, 1) := by decide +kernel
theorem dX11_zoneLine_113 : decode cX11_zoneLine 113 = .ok (.ldc 165, 2) := by decide +kernel
theorem dX11_zoneLine_115 : decode cX11_zoneLine 115 = .ok (.invokevirtual 173, 3) := by decide +kernel
theorem dX11_zoneLine_118 : decode cX11_zoneLine 118 = .ok (.iconst 0, 1) := by decide +kernel
theorem dX11_zoneLine_119 : decode cX11_zoneLine 119 = .ok (.istore_n 3, 1) := by decide +kernel
theorem dX11_zoneLine_120 : decode cX11_zoneLine 120 = .ok (.iload_n 3, 1) := by decide +kernel
theorem dX11_zoneLine_121 : decode cX11_zoneLine 121 = .ok (.aload_n 0, 1) := by decide +kernel
theorem dX11_zoneLine_122 : decode cX11_zoneLine 122 = .ok (.getfield 20, 3) := by decide +kernel
theorem dX11_zoneLine_125 : decode cX11_zoneLine 125 = .ok (.iconst 3, 1) := by decide +kernel
theorem dX11_zoneLine_126 : decode cX11_zoneLine 126 = .ok (.iaload, 1) := by decide +kernel
theorem dX11_zoneLine_127 : decode cX11_zoneLine 127 = .ok (.if_icmp .ge 36, 3) := by decide +kernel
theorem dX11_zoneLine_130 : decode cX11_zoneLine 130 = .ok (.iload_n 3, 1) := by decide +kernel
theorem dX11_zoneLine_131 : decode cX11_zoneLine 131 = .ok (.ifCond .le 9, 3) := by decide +kernel
theorem dX11_zoneLine_134 : decode cX11_zoneLine 134 = .ok (.aload_n 0, 1) := by decide +kernel
theorem dX11_zoneLine_135 : decode cX11_zoneLine 135 = .ok (.bipush 44, 2) := by decide +kernel
theorem dX11_zoneLine_137 : decode cX11_zoneLine 137 = .ok (.invokevirtual 181, 3) := by decide +kernel
theorem dX11_zoneLine_140 : decode cX11_zoneLine 140 = .ok (.aload_n 0, 1) := by decide +kernel
theorem dX11_zoneLine_141 : decode cX11_zoneLine 141 = .ok (.getfield 39, 3) := by decide +kernel
theorem dX11_zoneLine_144 : decode cX11_zoneLine 144 = .ok (.iconst 3, 1) := by decide +kernel
theorem dX11_zoneLine_145 : decode cX11_zoneLine 145 = .ok (.iload_n 1, 1) := by decide +kernel
theorem dX11_zoneLine_146 : decode cX11_zoneLine 146 = .ok (.imul, 1) := by decide +kernel
theorem dX11_zoneLine_147 : decode cX11_zoneLine 147 = .ok (.iload_n 3, 1) := by decide +kernel
theorem dX11_zoneLine_148 : decode cX11_zoneLine 148 = .ok (.iadd, 1) := by decide +kernel
theorem dX11_zoneLine_149 : decode cX11_zoneLine 149 = .ok (.aload_n 0, 1) := by decide +kernel
theorem dX11_zoneLine_150 : decode cX11_zoneLine 150 = .ok (.iconst 0, 1) := by decide +kernel
theorem dX11_zoneLine_151 : decode cX11_zoneLine 151 = .ok (.ldc 194, 2) := by decide +kernel
theorem dX11_zoneLine_153 : decode cX11_zoneLine 153 = .ok (.invokevirtual 177, 3) := by decide +kernel
theorem dX11_zoneLine_156 : decode cX11_zoneLine 156 = .ok (.iastore, 1) := by decide +kernel
theorem dX11_zoneLine_157 : decode cX11_zoneLine 157 = .ok (.iinc 3 1, 3) := by decide +kernel
theorem dX11_zoneLine_160 : decode cX11_zoneLine 160 = .ok (.goto (-40), 3) := by decide +kernel
theorem dX11_zoneLine_163 : decode cX11_zoneLine 163 = .ok (.aload_n 0, 1) := by decide +kernel
theorem dX11_zoneLine_164 : decode cX11_zoneLine 164 = .ok (.getfield 20, 3) := by decide +kernel
theorem dX11_zoneLine_167 : decode cX11_zoneLine 167 = .ok (.iconst 2, 1) := by decide +kernel
theorem dX11_zoneLine_168 : decode cX11_zoneLine 168 = .ok (.dup2, 1) := by decide +kernel
theorem dX11_zoneLine_169 : decode cX11_zoneLine 169 = .ok (.iaload, 1) := by decide +kernel
theorem dX11_zoneLine_170 : decode cX11_zoneLine 170 = .ok (.iconst 1, 1) := by decide +kernel
theorem dX11_zoneLine_171 : decode cX11_zoneLine 171 = .ok (.iadd, 1) := by decide +kernel
theorem dX11_zoneLine_172 : decode cX11_zoneLine 172 = .ok (.iastore, 1) := by decide +kernel
theorem dX11_zoneLine_173 : decode cX11_zoneLine 173 = .ok (.return_, 1) := by decide +kernel
theorem dX11_isOther_0 : decode cX11_isOther 0 = .ok (.iload_n 2, 1) := by decide +kernel
theorem dX11_isOther_1 : decode cX11_isOther 1 = .ok (.iconst (-1), 1) := by decide +kernel
theorem dX11_isOther_2 : decode cX11_isOther 2 = .ok (.if_icmp .eq 27, 3) := by decide +kernel
theorem dX11_isOther_5 : decode cX11_isOther 5 = .ok (.aload_n 0, 1) := by decide +kernel
theorem dX11_isOther_6 : decode cX11_isOther 6 = .ok (.getfield 26, 3) := by decide +kernel
theorem dX11_isOther_9 : decode cX11_isOther 9 = .ok (.iload_n 1, 1) := by decide +kernel
theorem dX11_isOther_10 : decode cX11_isOther 10 = .ok (.iaload, 1) := by decide +kernel
theorem dX11_isOther_11 : decode cX11_isOther 11 = .ok (.iconst (-1), 1) := by decide +kernel
theorem dX11_isOther_12 : decode cX11_isOther 12 = .ok (.if_icmp .eq 17, 3) := by decide +kernel
theorem dX11_isOther_15 : decode cX11_isOther 15 = .ok (.aload_n 0, 1) := by decide +kernel
theorem dX11_isOther_16 : decode cX11_isOther 16 = .ok (.getfield 26, 3) := by decide +kernel
theorem dX11_isOther_19 : decode cX11_isOther 19 = .ok (.iload_n 1, 1) := by decide +kernel
theorem dX11_isOther_20 : decode cX11_isOther 20 = .ok (.iaload, 1) := by decide +kernel
theorem dX11_isOther_21 : decode cX11_isOther 21 = .ok (.iload_n 2, 1) := by decide +kernel
theorem dX11_isOther_22 : decode cX11_isOther 22 = .ok (.if_icmp .eq 7, 3) := by decide +kernel
theorem dX11_isOther_25 : decode cX11_isOther 25 = .ok (.iconst 1, 1) := by decide +kernel
theorem dX11_isOther_26 : decode cX11_isOther 26 = .ok (.goto 4, 3) := by decide +kernel
theorem dX11_isOther_29 : decode cX11_isOther 29 = .ok (.iconst 0, 1) := by decide +kernel
theorem dX11_isOther_30 : decode cX11_isOther 30 = .ok (.ireturn, 1) := by decide +kernel
theorem dX11_runs_0 : decode cX11_runs 0 = .ok (.aload_n 0, 1) := by decide +kernel
theorem dX11_runs_1 : decode cX11_runs 1 = .ok (.iconst 0, 1) := by decide +kernel
theorem dX11_runs_2 : decode cX11_runs 2 = .ok (.aload_n 0, 1) := by decide +kernel
theorem dX11_runs_3 : decode cX11_runs 3 = .ok (.getfield 20, 3) := by decide +kernel
theorem dX11_runs_6 : decode cX11_runs 6 = .ok (.iconst 1, 1) := by decide +kernel
theorem dX11_runs_7 : decode cX11_runs 7 = .ok (.iaload, 1) := by decide +kernel
theorem dX11_runs_8 : decode cX11_runs 8 = .ok (.iconst 1, 1) := by decide +kernel
theorem dX11_runs_9 : decode cX11_runs 9 = .ok (.isub, 1) := by decide +kernel
theorem dX11_runs_10 : decode cX11_runs 10 = .ok (.invokevirtual 177, 3) := by decide +kernel
theorem dX11_runs_13 : decode cX11_runs 13 = .ok (.aload_n 0, 1) := by decide +kernel
theorem dX11_runs_14 : decode cX11_runs 14 = .ok (.getfield 20, 3) := by decide +kernel
theorem dX11_runs_17 : decode cX11_runs 17 = .ok (.iconst 0, 1) := by decide +kernel
theorem dX11_runs_18 : decode cX11_runs 18 = .ok (.iaload, 1) := by decide +kernel
theorem dX11_runs_19 : decode cX11_runs 19 = .ok (.imul, 1) := by decide +kernel
theorem dX11_runs_20 : decode cX11_runs 20 = .ok (.istore_n 2, 1) := by decide +kernel
theorem dX11_runs_21 : decode cX11_runs 21 = .ok (.aload_n 0, 1) := by decide +kernel
theorem dX11_runs_22 : decode cX11_runs 22 = .ok (.bipush 58, 2) := by decide +kernel
theorem dX11_runs_24 : decode cX11_runs 24 = .ok (.invokevirtual 181, 3) := by decide +kernel
theorem dX11_runs_27 : decode cX11_runs 27 = .ok (.aload_n 0, 1) := by decide +kernel
theorem dX11_runs_28 : decode cX11_runs 28 = .ok (.invokevirtual 128, 3) := by decide +kernel
theorem dX11_runs_31 : decode cX11_runs 31 = .ok (.aload_n 0, 1) := by decide +kernel
theorem dX11_runs_32 : decode cX11_runs 32 = .ok (.getfield 125, 3) := by decide +kernel
theorem dX11_runs_35 : decode cX11_runs 35 = .ok (.istore_n 3, 1) := by decide +kernel
theorem dX11_runs_36 : decode cX11_runs 36 = .ok (.aload_n 0, 1) := by decide +kernel
theorem dX11_runs_37 : decode cX11_runs 37 = .ok (.iconst 0, 1) := by decide +kernel
theorem dX11_runs_38 : decode cX11_runs 38 = .ok (.aload_n 0, 1) := by decide +kernel
theorem dX11_runs_39 : decode cX11_runs 39 = .ok (.getfield 20, 3) := by decide +kernel
theorem dX11_runs_42 : decode cX11_runs 42 = .ok (.iconst 0, 1) := by decide +kernel
theorem dX11_runs_43 : decode cX11_runs 43 = .ok (.iaload, 1) := by decide +kernel
theorem dX11_runs_44 : decode cX11_runs 44 = .ok (.iconst 1, 1) := by decide +kernel
theorem dX11_runs_45 : decode cX11_runs 45 = .ok (.isub, 1) := by decide +kernel
theorem dX11_runs_46 : decode cX11_runs 46 = .ok (.invokevirtual 177, 3) := by decide +kernel
theorem dX11_runs_49 : decode cX11_runs 49 = .ok (.istore 4, 2) := by decide +kernel
theorem dX11_runs_51 : decode cX11_runs 51 = .ok (.aload_n 0, 1) := by decide +kernel
theorem dX11_runs_52 : decode cX11_runs 52 = .ok (.invokevirtual 131, 3) := by decide +kernel
theorem dX11_runs_55 : decode cX11_runs 55 = .ok (.ifCond .ne 20, 3) := by decide +kernel
theorem dX11_runs_58 : decode cX11_runs 58 = .ok (.aload_n 0, 1) := by decide +kernel
theorem dX11_runs_59 : decode cX11_runs 59 = .ok (.iload_n 2, 1) := by decide +kernel
theorem dX11_runs_60 : decode cX11_runs 60 = .ok (.iload 4, 2) := by decide +kernel
theorem dX11_runs_62 : decode cX11_runs 62 = .ok (.iadd, 1) := by decide +kernel
theorem dX11_runs_63 : decode cX11_runs 63 = .ok (.iload_n 1, 1) := by decide +kernel
theorem dX11_runs_64 : decode cX11_runs 64 = .ok (.invokevirtual 195, 3) := by decide +kernel
theorem dX11_runs_67 : decode cX11_runs 67 = .ok (.ifCond .eq 8, 3) := by decide +kernel
theorem dX11_runs_70 : decode cX11_runs 70 = .ok (.aload_n 0, 1) := by decide +kernel
theorem dX11_runs_71 : decode cX11_runs 71 = .ok (.iload_n 3, 1) := by decide +kernel
theorem dX11_runs_72 : decode cX11_runs 72 = .ok (.invokevirtual 139, 3) := by decide +kernel
theorem dX11_runs_75 : decode cX11_runs 75 = .ok (.aload_n 0, 1) := by decide +kernel
theorem dX11_runs_76 : decode cX11_runs 76 = .ok (.bipush 45, 2) := by decide +kernel
theorem dX11_runs_78 : decode cX11_runs 78 = .ok (.invokevirtual 181, 3) := by decide +kernel
theorem dX11_runs_81 : decode cX11_runs 81 = .ok (.aload_n 0, 1) := by decide +kernel
theorem dX11_runs_82 : decode cX11_runs 82 = .ok (.iload 4, 2) := by decide +kernel
theorem dX11_runs_84 : decode cX11_runs 84 = .ok (.aload_n 0, 1) := by decide +kernel
theorem dX11_runs_85 : decode cX11_runs 85 = .ok (.getfield 20, 3) := by decide +kernel
theorem dX11_runs_88 : decode cX11_runs 88 = .ok (.iconst 0, 1) := by decide +kernel
theorem dX11_runs_89 : decode cX11_runs 89 = .ok (.iaload, 1) := by decide +kernel
theorem dX11_runs_90 : decode cX11_runs 90 = .ok (.iconst 1, 1) := by decide +kernel
theorem dX11_runs_91 : decode cX11_runs 91 = .ok (.isub, 1) := by decide +kernel
theorem dX11_runs_92 : decode cX11_runs 92 = .ok (.invokevirtual 177, 3) := by decide +kernel
theorem dX11_runs_95 : decode cX11_runs 95 = .ok (.istore 5, 2) := by decide +kernel
theorem dX11_runs_97 : decode cX11_runs 97 = .ok (.iload 4, 2) := by decide +kernel
theorem dX11_runs_99 : decode cX11_runs 99 = .ok (.istore 6, 2) := by decide +kernel
theorem dX11_runs_101 : decode cX11_runs 101 = .ok (.iload 6, 2) := by decide +kernel
theorem dX11_runs_103 : decode cX11_runs 103 = .ok (.iload 5, 2) := by decide +kernel
theorem dX11_runs_105 : decode cX11_runs 105 = .ok (.if_icmp .gt 33, 3) := by decide +kernel
theorem dX11_runs_108 : decode cX11_runs 108 = .ok (.aload_n 0, 1) := by decide +kernel
theorem dX11_runs_109 : decode cX11_runs 109 = .ok (.invokevirtual 131, 3) := by decide +kernel
theorem dX11_runs_112 : decode cX11_runs 112 = .ok (.ifCond .ne 26, 3) := by decide +kernel
theorem dX11_runs_115 : decode cX11_runs 115 = .ok (.aload_n 0, 1) := by decide +kernel
theorem dX11_runs_116 : decode cX11_runs 116 = .ok (.iload_n 2, 1) := by decide +kernel
theorem dX11_runs_117 : decode cX11_runs 117 = .ok (.iload 6, 2) := by decide +kernel
theorem dX11_runs_119 : decode cX11_runs 119 = .ok (.iadd, 1) := by decide +kernel
theorem dX11_runs_120 : decode cX11_runs 120 = .ok (.iload_n 1, 1) := by decide +kernel
theorem dX11_runs_121 : decode cX11_runs 121 = .ok (.invokevirtual 195, 3) := by decide +kernel
theorem dX11_runs_124 : decode cX11_runs 124 = .ok (.ifCond .eq 8, 3) := by decide +kernel
theorem dX11_runs_127 : decode cX11_runs 127 = .ok (.aload_n 0, 1) := by decide +kernel
theorem dX11_runs_128 : decode cX11_runs 128 = .ok (.iload_n 3, 1) := by decide +kernel
theorem dX11_runs_129 : decode cX11_runs 129 = .ok (.invokevirtual 139, 3) := by decide +kernel
theorem dX11_runs_132 : decode cX11_runs 132 = .ok (.iinc 6 1, 3) := by decide +kernel
theorem dX11_runs_135 : decode cX11_runs 135 = .ok (.goto (-34), 3) := by decide +kernel
theorem dX11_runs_138 : decode cX11_runs 138 = .ok (.iload 4, 2) := by decide +kernel
theorem dX11_runs_140 : decode cX11_runs 140 = .ok (.istore 6, 2) := by decide +kernel
theorem dX11_runs_142 : decode cX11_runs 142 = .ok (.iload 6, 2) := by decide +kernel
theorem dX11_runs_144 : decode cX11_runs 144 = .ok (.iload 5, 2) := by decide +kernel
theorem dX11_runs_146 : decode cX11_runs 146 = .ok (.if_icmp .gt 44, 3) := by decide +kernel
theorem dX11_runs_149 : decode cX11_runs 149 = .ok (.aload_n 0, 1) := by decide +kernel
theorem dX11_runs_150 : decode cX11_runs 150 = .ok (.invokevirtual 131, 3) := by decide +kernel
theorem dX11_runs_153 : decode cX11_runs 153 = .ok (.ifCond .ne 37, 3) := by decide +kernel
theorem dX11_runs_156 : decode cX11_runs 156 = .ok (.iload_n 1, 1) := by decide +kernel
theorem dX11_runs_157 : decode cX11_runs 157 = .ok (.iconst (-1), 1) := by decide +kernel
theorem dX11_runs_158 : decode cX11_runs 158 = .ok (.if_icmp .ne 16, 3) := by decide +kernel
theorem dX11_runs_161 : decode cX11_runs 161 = .ok (.aload_n 0, 1) := by decide +kernel
theorem dX11_runs_162 : decode cX11_runs 162 = .ok (.getfield 33, 3) := by decide +kernel
theorem dX11_runs_165 : decode cX11_runs 165 = .ok (.iload_n 2, 1) := by decide +kernel
theorem dX11_runs_166 : decode cX11_runs 166 = .ok (.iload 6, 2) := by decide +kernel
theorem dX11_runs_168 : decode cX11_runs 168 = .ok (.iadd, 1) := by decide +kernel
theorem dX11_runs_169 : decode cX11_runs 169 = .ok (.iconst 1, 1) := by decide +kernel
theorem dX11_runs_170 : decode cX11_runs 170 = .ok (.bastore, 1) := by decide +kernel
theorem dX11_runs_171 : decode cX11_runs 171 = .ok (.goto 13, 3) := by decide +kernel
theorem dX11_runs_174 : decode cX11_runs 174 = .ok (.aload_n 0, 1) := by decide +kernel
theorem dX11_runs_175 : decode cX11_runs 175 = .ok (.getfield 26, 3) := by decide +kernel
theorem dX11_runs_178 : decode cX11_runs 178 = .ok (.iload_n 2, 1) := by decide +kernel
theorem dX11_runs_179 : decode cX11_runs 179 = .ok (.iload 6, 2) := by decide +kernel
theorem dX11_runs_181 : decode cX11_runs 181 = .ok (.iadd, 1) := by decide +kernel
theorem dX11_runs_182 : decode cX11_runs 182 = .ok (.iload_n 1, 1) := by decide +kernel
theorem dX11_runs_183 : decode cX11_runs 183 = .ok (.iastore, 1) := by decide +kernel
theorem dX11_runs_184 : decode cX11_runs 184 = .ok (.iinc 6 1, 3) := by decide +kernel
theorem dX11_runs_187 : decode cX11_runs 187 = .ok (.goto (-45), 3) := by decide +kernel
theorem dX11_runs_190 : decode cX11_runs 190 = .ok (.aload_n 0, 1) := by decide +kernel
theorem dX11_runs_191 : decode cX11_runs 191 = .ok (.bipush 44, 2) := by decide +kernel
theorem dX11_runs_193 : decode cX11_runs 193 = .ok (.invokevirtual 135, 3) := by decide +kernel
theorem dX11_runs_196 : decode cX11_runs 196 = .ok (.ifCond .ne (-169), 3) := by decide +kernel
theorem dX11_runs_199 : decode cX11_runs 199 = .ok (.return_, 1) := by decide +kernel
theorem dX11_rowLine_0 : decode cX11_rowLine 0 = .ok (.aload_n 0, 1) := by decide +kernel
theorem dX11_rowLine_1 : decode cX11_rowLine 1 = .ok (.ldc 166, 2) := by decide +kernel
theorem dX11_rowLine_3 : decode cX11_rowLine 3 = .ok (.invokevirtual 173, 3) := by decide +kernel
theorem dX11_rowLine_6 : decode cX11_rowLine 6 = .ok (.aload_n 0, 1) := by decide +kernel
theorem dX11_rowLine_7 : decode cX11_rowLine 7 = .ok (.invokevirtual 188, 3) := by decide +kernel
theorem dX11_rowLine_10 : decode cX11_rowLine 10 = .ok (.ifCond .eq 10, 3) := by decide +kernel
theorem dX11_rowLine_13 : decode cX11_rowLine 13 = .ok (.aload_n 0, 1) := by decide +kernel
theorem dX11_rowLine_14 : decode cX11_rowLine 14 = .ok (.invokevirtual 191, 3) := by decide +kernel
theorem dX11_rowLine_17 : decode cX11_rowLine 17 = .ok (.goto 4, 3) := by decide +kernel
theorem dX11_rowLine_20 : decode cX11_rowLine 20 = .ok (.iconst (-1), 1) := by decide +kernel
theorem dX11_rowLine_21 : decode cX11_rowLine 21 = .ok (.istore_n 1, 1) := by decide +kernel
theorem dX11_rowLine_22 : decode cX11_rowLine 22 = .ok (.iload_n 1, 1) := by decide +kernel
theorem dX11_rowLine_23 : decode cX11_rowLine 23 = .ok (.iconst (-1), 1) := by decide +kernel
theorem dX11_rowLine_24 : decode cX11_rowLine 24 = .ok (.if_icmp .ne 12, 3) := by decide +kernel
theorem dX11_rowLine_27 : decode cX11_rowLine 27 = .ok (.aload_n 0, 1) := by decide +kernel
theorem dX11_rowLine_28 : decode cX11_rowLine 28 = .ok (.aload_n 0, 1) := by decide +kernel
theorem dX11_rowLine_29 : decode cX11_rowLine 29 = .ok (.getfield 125, 3) := by decide +kernel
theorem dX11_rowLine_32 : decode cX11_rowLine 32 = .ok (.invokevirtual 139, 3) := by decide +kernel
theorem dX11_rowLine_35 : decode cX11_rowLine 35 = .ok (.return_, 1) := by decide +kernel
theorem dX11_rowLine_36 : decode cX11_rowLine 36 = .ok (.aload_n 0, 1) := by decide +kernel
theorem dX11_rowLine_37 : decode cX11_rowLine 37 = .ok (.dup, 1) := by decide +kernel
theorem dX11_rowLine_38 : decode cX11_rowLine 38 = .ok (.getfield 115, 3) := by decide +kernel
theorem dX11_rowLine_41 : decode cX11_rowLine 41 = .ok (.aload_n 0, 1) := by decide +kernel
theorem dX11_rowLine_42 : decode cX11_rowLine 42 = .ok (.invokevirtual 143, 3) := by decide +kernel
theorem dX11_rowLine_45 : decode cX11_rowLine 45 = .ok (.iadd, 1) := by decide +kernel
theorem dX11_rowLine_46 : decode cX11_rowLine 46 = .ok (.putfield 115, 3) := by decide +kernel
theorem dX11_rowLine_49 : decode cX11_rowLine 49 = .ok (.aload_n 0, 1) := by decide +kernel
theorem dX11_rowLine_50 : decode cX11_rowLine 50 = .ok (.iload_n 1, 1) := by decide +kernel
theorem dX11_rowLine_51 : decode cX11_rowLine 51 = .ok (.invokevirtual 198, 3) := by decide +kernel
theorem dX11_rowLine_54 : decode cX11_rowLine 54 = .ok (.return_, 1) := by decide +kernel
theorem dX11_line_0 : decode cX11_line 0 = .ok (.aload_n 0, 1) := by decide +kernel
theorem dX11_line_1 : decode cX11_line 1 = .ok (.invokevirtual 128, 3) := by decide +kernel
theorem dX11_line_4 : decode cX11_line 4 = .ok (.aload_n 0, 1) := by decide +kernel
theorem dX11_line_5 : decode cX11_line 5 = .ok (.ldc 161, 2) := by decide +kernel
theorem dX11_line_7 : decode cX11_line 7 = .ok (.invokevirtual 156, 3) := by decide +kernel
theorem dX11_line_10 : decode cX11_line 10 = .ok (.ifCond .eq 10, 3) := by decide +kernel
theorem dX11_line_13 : decode cX11_line 13 = .ok (.aload_n 0, 1) := by decide +kernel
theorem dX11_line_14 : decode cX11_line 14 = .ok (.invokevirtual 201, 3) := by decide +kernel
theorem dX11_line_17 : decode cX11_line 17 = .ok (.goto 66, 3) := by decide +kernel
theorem dX11_line_20 : decode cX11_line 20 = .ok (.aload_n 0, 1) := by decide +kernel
theorem dX11_line_21 : decode cX11_line 21 = .ok (.ldc 163, 2) := by decide +kernel
theorem dX11_line_23 : decode cX11_line 23 = .ok (.invokevirtual 156, 3) := by decide +kernel
theorem dX11_line_26 : decode cX11_line 26 = .ok (.ifCond .eq 10, 3) := by decide +kernel
theorem dX11_line_29 : decode cX11_line 29 = .ok (.aload_n 0, 1) := by decide +kernel
theorem dX11_line_30 : decode cX11_line 30 = .ok (.invokevirtual 204, 3) := by decide +kernel
theorem dX11_line_33 : decode cX11_line 33 = .ok (.goto 50, 3) := by decide +kernel
theorem dX11_line_36 : decode cX11_line 36 = .ok (.aload_n 0, 1) := by decide +kernel
theorem dX11_line_37 : decode cX11_line 37 = .ok (.ldc 166, 2) := by decide +kernel
theorem dX11_line_39 : decode cX11_line 39 = .ok (.invokevirtual 156, 3) := by decide +kernel
theorem dX11_line_42 : decode cX11_line 42 = .ok (.ifCond .eq 10, 3) := by decide +kernel
theorem dX11_line_45 : decode cX11_line 45 = .ok (.aload_n 0, 1) := by decide +kernel
theorem dX11_line_46 : decode cX11_line 46 = .ok (.invokevirtual 207, 3) := by decide +kernel
theorem dX11_line_49 : decode cX11_line 49 = .ok (.goto 34, 3) := by decide +kernel
theorem dX11_line_52 : decode cX11_line 52 = .ok (.aload_n 0, 1) := by decide +kernel
theorem dX11_line_53 : decode cX11_line 53 = .ok (.ldc 168, 2) := by decide +kernel
theorem dX11_line_55 : decode cX11_line 55 = .ok (.invokevirtual 156, 3) := by decide +kernel
theorem dX11_line_58 : decode cX11_line 58 = .ok (.ifCond .eq 17, 3) := by decide +kernel
theorem dX11_line_61 : decode cX11_line 61 = .ok (.aload_n 0, 1) := by decide +kernel
theorem dX11_line_62 : decode cX11_line 62 = .ok (.ldc 168, 2) := by decide +kernel
theorem dX11_line_64 : decode cX11_line 64 = .ok (.invokevirtual 173, 3) := by decide +kernel
theorem dX11_line_67 : decode cX11_line 67 = .ok (.aload_n 0, 1) := by decide +kernel
theorem dX11_line_68 : decode cX11_line 68 = .ok (.iconst (-1), 1) := by decide +kernel
theorem dX11_line_69 : decode cX11_line 69 = .ok (.invokevirtual 198, 3) := by decide +kernel
theorem dX11_line_72 : decode cX11_line 72 = .ok (.goto 11, 3) := by decide +kernel
theorem dX11_line_75 : decode cX11_line 75 = .ok (.aload_n 0, 1) := by decide +kernel
theorem dX11_line_76 : decode cX11_line 76 = .ok (.aload_n 0, 1) := by decide +kernel
theorem dX11_line_77 : decode cX11_line 77 = .ok (.getfield 125, 3) := by decide +kernel
theorem dX11_line_80 : decode cX11_line 80 = .ok (.invokevirtual 139, 3) := by decide +kernel
theorem dX11_line_83 : decode cX11_line 83 = .ok (.aload_n 0, 1) := by decide +kernel
theorem dX11_line_84 : decode cX11_line 84 = .ok (.bipush 59, 2) := by decide +kernel
theorem dX11_line_86 : decode cX11_line 86 = .ok (.invokevirtual 181, 3) := by decide +kernel
theorem dX11_line_89 : decode cX11_line 89 = .ok (.return_, 1) := by decide +kernel
theorem dX11_read_0 : decode cX11_read 0 = .ok (.aload_n 0, 1) := by decide +kernel
theorem dX11_read_1 : decode cX11_read 1 = .ok (.iconst 0, 1) := by decide +kernel
theorem dX11_read_2 : decode cX11_read 2 = .ok (.putfield 106, 3) := by decide +kernel
theorem dX11_read_5 : decode cX11_read 5 = .ok (.aload_n 0, 1) := by decide +kernel
theorem dX11_read_6 : decode cX11_read 6 = .ok (.aload_n 0, 1) := by decide +kernel
theorem dX11_read_7 : decode cX11_read 7 = .ok (.getfield 109, 3) := by decide +kernel
theorem dX11_read_10 : decode cX11_read 10 = .ok (.putfield 118, 3) := by decide +kernel
theorem dX11_read_13 : decode cX11_read 13 = .ok (.aload_n 0, 1) := by decide +kernel
theorem dX11_read_14 : decode cX11_read 14 = .ok (.iconst 0, 1) := by decide +kernel
theorem dX11_read_15 : decode cX11_read 15 = .ok (.putfield 109, 3) := by decide +kernel
theorem dX11_read_18 : decode cX11_read 18 = .ok (.aload_n 0, 1) := by decide +kernel
theorem dX11_read_19 : decode cX11_read 19 = .ok (.iconst 0, 1) := by decide +kernel
theorem dX11_read_20 : decode cX11_read 20 = .ok (.putfield 115, 3) := by decide +kernel
theorem dX11_read_23 : decode cX11_read 23 = .ok (.aload_n 0, 1) := by decide +kernel
theorem dX11_read_24 : decode cX11_read 24 = .ok (.iconst (-1), 1) := by decide +kernel
theorem dX11_read_25 : decode cX11_read 25 = .ok (.putfield 112, 3) := by decide +kernel
theorem dX11_read_28 : decode cX11_read 28 = .ok (.aload_n 0, 1) := by decide +kernel
theorem dX11_read_29 : decode cX11_read 29 = .ok (.iconst 0, 1) := by decide +kernel
theorem dX11_read_30 : decode cX11_read 30 = .ok (.putfield 184, 3) := by decide +kernel
theorem dX11_read_33 : decode cX11_read 33 = .ok (.aload_n 0, 1) := by decide +kernel
theorem dX11_read_34 : decode cX11_read 34 = .ok (.getfield 20, 3) := by decide +kernel
theorem dX11_read_37 : decode cX11_read 37 = .ok (.iconst 2, 1) := by decide +kernel
theorem dX11_read_38 : decode cX11_read 38 = .ok (.iconst 0, 1) := by decide +kernel
theorem dX11_read_39 : decode cX11_read 39 = .ok (.iastore, 1) := by decide +kernel
theorem dX11_read_40 : decode cX11_read 40 = .ok (.aload_n 0, 1) := by decide +kernel
theorem dX11_read_41 : decode cX11_read 41 = .ok (.getfield 20, 3) := by decide +kernel
theorem dX11_read_44 : decode cX11_read 44 = .ok (.iconst 3, 1) := by decide +kernel
theorem dX11_read_45 : decode cX11_read 45 = .ok (.iconst 1, 1) := by decide +kernel
theorem dX11_read_46 : decode cX11_read 46 = .ok (.iastore, 1) := by decide +kernel
theorem dX11_read_47 : decode cX11_read 47 = .ok (.iconst 0, 1) := by decide +kernel
theorem dX11_read_48 : decode cX11_read 48 = .ok (.istore_n 1, 1) := by decide +kernel
theorem dX11_read_49 : decode cX11_read 49 = .ok (.iload_n 1, 1) := by decide +kernel
theorem dX11_read_50 : decode cX11_read 50 = .ok (.sipush 384, 3) := by decide +kernel
theorem dX11_read_53 : decode cX11_read 53 = .ok (.if_icmp .ge 23, 3) := by decide +kernel
theorem dX11_read_56 : decode cX11_read 56 = .ok (.aload_n 0, 1) := by decide +kernel
theorem dX11_read_57 : decode cX11_read 57 = .ok (.getfield 26, 3) := by decide +kernel
theorem dX11_read_60 : decode cX11_read 60 = .ok (.iload_n 1, 1) := by decide +kernel
theorem dX11_read_61 : decode cX11_read 61 = .ok (.iconst (-1), 1) := by decide +kernel
theorem dX11_read_62 : decode cX11_read 62 = .ok (.iastore, 1) := by decide +kernel
theorem dX11_read_63 : decode cX11_read 63 = .ok (.aload_n 0, 1) := by decide +kernel
theorem dX11_read_64 : decode cX11_read 64 = .ok (.getfield 33, 3) := by decide +kernel
theorem dX11_read_67 : decode cX11_read 67 = .ok (.iload_n 1, 1) := by decide +kernel
theorem dX11_read_68 : decode cX11_read 68 = .ok (.iconst 0, 1) := by decide +kernel
theorem dX11_read_69 : decode cX11_read 69 = .ok (.bastore, 1) := by decide +kernel
theorem dX11_read_70 : decode cX11_read 70 = .ok (.iinc 1 1, 3) := by decide +kernel
theorem dX11_read_73 : decode cX11_read 73 = .ok (.goto (-24), 3) := by decide +kernel
theorem dX11_read_76 : decode cX11_read 76 = .ok (.iconst 0, 1) := by decide +kernel
theorem dX11_read_77 : decode cX11_read 77 = .ok (.istore_n 1, 1) := by decide +kernel
theorem dX11_read_78 : decode cX11_read 78 = .ok (.iload_n 1, 1) := by decide +kernel
theorem dX11_read_79 : decode cX11_read 79 = .ok (.bipush 24, 2) := by decide +kernel
theorem dX11_read_81 : decode cX11_read 81 = .ok (.if_icmp .ge 16, 3) := by decide +kernel
theorem dX11_read_84 : decode cX11_read 84 = .ok (.aload_n 0, 1) := by decide +kernel
theorem dX11_read_85 : decode cX11_read 85 = .ok (.getfield 39, 3) := by decide +kernel
theorem dX11_read_88 : decode cX11_read 88 = .ok (.iload_n 1, 1) := by decide +kernel
theorem dX11_read_89 : decode cX11_read 89 = .ok (.iconst 0, 1) := by decide +kernel
theorem dX11_read_90 : decode cX11_read 90 = .ok (.iastore, 1) := by decide +kernel
theorem dX11_read_91 : decode cX11_read 91 = .ok (.iinc 1 1, 3) := by decide +kernel
theorem dX11_read_94 : decode cX11_read 94 = .ok (.goto (-16), 3) := by decide +kernel
theorem dX11_read_97 : decode cX11_read 97 = .ok (.aload_n 0, 1) := by decide +kernel
theorem dX11_read_98 : decode cX11_read 98 = .ok (.invokevirtual 210, 3) := by decide +kernel
theorem dX11_read_101 : decode cX11_read 101 = .ok (.aload_n 0, 1) := by decide +kernel
theorem dX11_read_102 : decode cX11_read 102 = .ok (.invokevirtual 128, 3) := by decide +kernel
theorem dX11_read_105 : decode cX11_read 105 = .ok (.aload_n 0, 1) := by decide +kernel
theorem dX11_read_106 : decode cX11_read 106 = .ok (.invokevirtual 131, 3) := by decide +kernel
theorem dX11_read_109 : decode cX11_read 109 = .ok (.ifCond .ne 25, 3) := by decide +kernel
theorem dX11_read_112 : decode cX11_read 112 = .ok (.aload_n 0, 1) := by decide +kernel
theorem dX11_read_113 : decode cX11_read 113 = .ok (.getfield 115, 3) := by decide +kernel
theorem dX11_read_116 : decode cX11_read 116 = .ok (.aload_n 0, 1) := by decide +kernel
theorem dX11_read_117 : decode cX11_read 117 = .ok (.getfield 118, 3) := by decide +kernel
theorem dX11_read_120 : decode cX11_read 120 = .ok (.if_icmp .ge 14, 3) := by decide +kernel
theorem dX11_read_123 : decode cX11_read 123 = .ok (.aload_n 0, 1) := by decide +kernel
theorem dX11_read_124 : decode cX11_read 124 = .ok (.invokevirtual 213, 3) := by decide +kernel
theorem dX11_read_127 : decode cX11_read 127 = .ok (.aload_n 0, 1) := by decide +kernel
theorem dX11_read_128 : decode cX11_read 128 = .ok (.invokevirtual 128, 3) := by decide +kernel
theorem dX11_read_131 : decode cX11_read 131 = .ok (.goto (-26), 3) := by decide +kernel
theorem dX11_read_134 : decode cX11_read 134 = .ok (.aload_n 0, 1) := by decide +kernel
theorem dX11_read_135 : decode cX11_read 135 = .ok (.aload_n 0, 1) := by decide +kernel
theorem dX11_read_136 : decode cX11_read 136 = .ok (.getfield 112, 3) := by decide +kernel
theorem dX11_read_139 : decode cX11_read 139 = .ok (.putfield 55, 3) := by decide +kernel
theorem dX11_read_142 : decode cX11_read 142 = .ok (.aload_n 0, 1) := by decide +kernel
theorem dX11_read_143 : decode cX11_read 143 = .ok (.aload_n 0, 1) := by decide +kernel
theorem dX11_read_144 : decode cX11_read 144 = .ok (.invokevirtual 131, 3) := by decide +kernel
theorem dX11_read_147 : decode cX11_read 147 = .ok (.iconst 1, 1) := by decide +kernel
theorem dX11_read_148 : decode cX11_read 148 = .ok (.invokevirtual 215, 3) := by decide +kernel
theorem dX11_read_151 : decode cX11_read 151 = .ok (.ifCond .eq 5, 3) := by decide +kernel
theorem dX11_read_154 : decode cX11_read 154 = .ok (.iconst 0, 1) := by decide +kernel
theorem dX11_read_155 : decode cX11_read 155 = .ok (.ireturn, 1) := by decide +kernel
theorem dX11_read_156 : decode cX11_read 156 = .ok (.iconst 0, 1) := by decide +kernel
theorem dX11_read_157 : decode cX11_read 157 = .ok (.istore_n 1, 1) := by decide +kernel
theorem dX11_read_158 : decode cX11_read 158 = .ok (.iload_n 1, 1) := by decide +kernel
theorem dX11_read_159 : decode cX11_read 159 = .ok (.iconst 4, 1) := by decide +kernel
theorem dX11_read_160 : decode cX11_read 160 = .ok (.if_icmp .ge 21, 3) := by decide +kernel
theorem dX11_read_163 : decode cX11_read 163 = .ok (.aload_n 0, 1) := by decide +kernel
theorem dX11_read_164 : decode cX11_read 164 = .ok (.getfield 17, 3) := by decide +kernel
theorem dX11_read_167 : decode cX11_read 167 = .ok (.iload_n 1, 1) := by decide +kernel
theorem dX11_read_168 : decode cX11_read 168 = .ok (.aload_n 0, 1) := by decide +kernel
theorem dX11_read_169 : decode cX11_read 169 = .ok (.getfield 20, 3) := by decide +kernel
theorem dX11_read_172 : decode cX11_read 172 = .ok (.iload_n 1, 1) := by decide +kernel
theorem dX11_read_173 : decode cX11_read 173 = .ok (.iaload, 1) := by decide +kernel
theorem dX11_read_174 : decode cX11_read 174 = .ok (.iastore, 1) := by decide +kernel
theorem dX11_read_175 : decode cX11_read 175 = .ok (.iinc 1 1, 3) := by decide +kernel
theorem dX11_read_178 : decode cX11_read 178 = .ok (.goto (-20), 3) := by decide +kernel
theorem dX11_read_181 : decode cX11_read 181 = .ok (.iconst 0, 1) := by decide +kernel
theorem dX11_read_182 : decode cX11_read 182 = .ok (.istore_n 1, 1) := by decide +kernel
theorem dX11_read_183 : decode cX11_read 183 = .ok (.iload_n 1, 1) := by decide +kernel
theorem dX11_read_184 : decode cX11_read 184 = .ok (.sipush 384, 3) := by decide +kernel
theorem dX11_read_187 : decode cX11_read 187 = .ok (.if_icmp .ge 33, 3) := by decide +kernel
theorem dX11_read_190 : decode cX11_read 190 = .ok (.aload_n 0, 1) := by decide +kernel
theorem dX11_read_191 : decode cX11_read 191 = .ok (.getfield 23, 3) := by decide +kernel
theorem dX11_read_194 : decode cX11_read 194 = .ok (.iload_n 1, 1) := by decide +kernel
theorem dX11_read_195 : decode cX11_read 195 = .ok (.aload_n 0, 1) := by decide +kernel
theorem dX11_read_196 : decode cX11_read 196 = .ok (.getfield 26, 3) := by decide +kernel
theorem dX11_read_199 : decode cX11_read 199 = .ok (.iload_n 1, 1) := by decide +kernel
theorem dX11_read_200 : decode cX11_read 200 = .ok (.iaload, 1) := by decide +kernel
theorem dX11_read_201 : decode cX11_read 201 = .ok (.iastore, 1) := by decide +kernel
theorem dX11_read_202 : decode cX11_read 202 = .ok (.aload_n 0, 1) := by decide +kernel
theorem dX11_read_203 : decode cX11_read 203 = .ok (.getfield 29, 3) := by decide +kernel
theorem dX11_read_206 : decode cX11_read 206 = .ok (.iload_n 1, 1) := by decide +kernel
theorem dX11_read_207 : decode cX11_read 207 = .ok (.aload_n 0, 1) := by decide +kernel
theorem dX11_read_208 : decode cX11_read 208 = .ok (.getfield 33, 3) := by decide +kernel
theorem dX11_read_211 : decode cX11_read 211 = .ok (.iload_n 1, 1) := by decide +kernel
theorem dX11_read_212 : decode cX11_read 212 = .ok (.baload, 1) := by decide +kernel
theorem dX11_read_213 : decode cX11_read 213 = .ok (.bastore, 1) := by decide +kernel
theorem dX11_read_214 : decode cX11_read 214 = .ok (.iinc 1 1, 3) := by decide +kernel
theorem dX11_read_217 : decode cX11_read 217 = .ok (.goto (-34), 3) := by decide +kernel
theorem dX11_read_220 : decode cX11_read 220 = .ok (.iconst 0, 1) := by decide +kernel
theorem dX11_read_221 : decode cX11_read 221 = .ok (.istore_n 1, 1) := by decide +kernel
theorem dX11_read_222 : decode cX11_read 222 = .ok (.iload_n 1, 1) := by decide +kernel
theorem dX11_read_223 : decode cX11_read 223 = .ok (.bipush 24, 2) := by decide +kernel
theorem dX11_read_225 : decode cX11_read 225 = .ok (.if_icmp .ge 21, 3) := by decide +kernel
theorem dX11_read_228 : decode cX11_read 228 = .ok (.aload_n 0, 1) := by decide +kernel
theorem dX11_read_229 : decode cX11_read 229 = .ok (.getfield 36, 3) := by decide +kernel
theorem dX11_read_232 : decode cX11_read 232 = .ok (.iload_n 1, 1) := by decide +kernel
theorem dX11_read_233 : decode cX11_read 233 = .ok (.aload_n 0, 1) := by decide +kernel
theorem dX11_read_234 : decode cX11_read 234 = .ok (.getfield 39, 3) := by decide +kernel
theorem dX11_read_237 : decode cX11_read 237 = .ok (.iload_n 1, 1) := by decide +kernel
theorem dX11_read_238 : decode cX11_read 238 = .ok (.iaload, 1) := by decide +kernel
theorem dX11_read_239 : decode cX11_read 239 = .ok (.iastore, 1) := by decide +kernel
theorem dX11_read_240 : decode cX11_read 240 = .ok (.iinc 1 1, 3) := by decide +kernel
theorem dX11_read_243 : decode cX11_read 243 = .ok (.goto (-21), 3) := by decide +kernel
theorem dX11_read_246 : decode cX11_read 246 = .ok (.iconst 0, 1) := by decide +kernel
theorem dX11_read_247 : decode cX11_read 247 = .ok (.istore_n 1, 1) := by decide +kernel
theorem dX11_read_248 : decode cX11_read 248 = .ok (.iload_n 1, 1) := by decide +kernel
theorem dX11_read_249 : decode cX11_read 249 = .ok (.bipush 48, 2) := by decide +kernel
theorem dX11_read_251 : decode cX11_read 251 = .ok (.if_icmp .ge 21, 3) := by decide +kernel
theorem dX11_read_254 : decode cX11_read 254 = .ok (.aload_n 0, 1) := by decide +kernel
theorem dX11_read_255 : decode cX11_read 255 = .ok (.getfield 42, 3) := by decide +kernel
theorem dX11_read_258 : decode cX11_read 258 = .ok (.iload_n 1, 1) := by decide +kernel
theorem dX11_read_259 : decode cX11_read 259 = .ok (.aload_n 0, 1) := by decide +kernel
theorem dX11_read_260 : decode cX11_read 260 = .ok (.getfield 45, 3) := by decide +kernel
theorem dX11_read_263 : decode cX11_read 263 = .ok (.iload_n 1, 1) := by decide +kernel
theorem dX11_read_264 : decode cX11_read 264 = .ok (.baload, 1) := by decide +kernel
theorem dX11_read_265 : decode cX11_read 265 = .ok (.bastore, 1) := by decide +kernel
theorem dX11_read_266 : decode cX11_read 266 = .ok (.iinc 1 1, 3) := by decide +kernel
theorem dX11_read_269 : decode cX11_read 269 = .ok (.goto (-21), 3) := by decide +kernel
theorem dX11_read_272 : decode cX11_read 272 = .ok (.aload_n 0, 1) := by decide +kernel
theorem dX11_read_273 : decode cX11_read 273 = .ok (.invokevirtual 219, 3) := by decide +kernel
theorem dX11_read_276 : decode cX11_read 276 = .ok (.aload_n 0, 1) := by decide +kernel
theorem dX11_read_277 : decode cX11_read 277 = .ok (.getfield 17, 3) := by decide +kernel
theorem dX11_read_280 : decode cX11_read 280 = .ok (.iconst 2, 1) := by decide +kernel
theorem dX11_read_281 : decode cX11_read 281 = .ok (.iaload, 1) := by decide +kernel
theorem dX11_read_282 : decode cX11_read 282 = .ok (.ireturn, 1) := by decide +kernel
theorem dX11_fault_0 : decode cX11_fault 0 = .ok (.aload_n 0, 1) := by decide +kernel
theorem dX11_fault_1 : decode cX11_fault 1 = .ok (.iconst 0, 1) := by decide +kernel
theorem dX11_fault_2 : decode cX11_fault 2 = .ok (.putfield 106, 3) := by decide +kernel
theorem dX11_fault_5 : decode cX11_fault 5 = .ok (.aload_n 0, 1) := by decide +kernel
theorem dX11_fault_6 : decode cX11_fault 6 = .ok (.getfield 55, 3) := by decide +kernel
theorem dX11_fault_9 : decode cX11_fault 9 = .ok (.ireturn, 1) := by decide +kernel
theorem dX11_cells_0 : decode cX11_cells 0 = .ok (.aload_n 0, 1) := by decide +kernel
theorem dX11_cells_1 : decode cX11_cells 1 = .ok (.getfield 17, 3) := by decide +kernel
theorem dX11_cells_4 : decode cX11_cells 4 = .ok (.iconst 0, 1) := by decide +kernel
theorem dX11_cells_5 : decode cX11_cells 5 = .ok (.iaload, 1) := by decide +kernel
theorem dX11_cells_6 : decode cX11_cells 6 = .ok (.aload_n 0, 1) := by decide +kernel
theorem dX11_cells_7 : decode cX11_cells 7 = .ok (.getfield 17, 3) := by decide +kernel
theorem dX11_cells_10 : decode cX11_cells 10 = .ok (.iconst 1, 1) := by decide +kernel
theorem dX11_cells_11 : decode cX11_cells 11 = .ok (.iaload, 1) := by decide +kernel
theorem dX11_cells_12 : decode cX11_cells 12 = .ok (.imul, 1) := by decide +kernel
theorem dX11_cells_13 : decode cX11_cells 13 = .ok (.ireturn, 1) := by decide +kernel
theorem dX11_zones_0 : decode cX11_zones 0 = .ok (.aload_n 0, 1) := by decide +kernel
theorem dX11_zones_1 : decode cX11_zones 1 = .ok (.getfield 17, 3) := by decide +kernel
theorem dX11_zones_4 : decode cX11_zones 4 = .ok (.iconst 2, 1) := by decide +kernel
theorem dX11_zones_5 : decode cX11_zones 5 = .ok (.iaload, 1) := by decide +kernel
theorem dX11_zones_6 : decode cX11_zones 6 = .ok (.ireturn, 1) := by decide +kernel
theorem dX11_isLandOf_0 : decode cX11_isLandOf 0 = .ok (.aload_n 0, 1) := by decide +kernel
theorem dX11_isLandOf_1 : decode cX11_isLandOf 1 = .ok (.getfield 23, 3) := by decide +kernel
theorem dX11_isLandOf_4 : decode cX11_isLandOf 4 = .ok (.iload_n 1, 1) := by decide +kernel
theorem dX11_isLandOf_5 : decode cX11_isLandOf 5 = .ok (.iaload, 1) := by decide +kernel
theorem dX11_isLandOf_6 : decode cX11_isLandOf 6 = .ok (.iload_n 2, 1) := by decide +kernel
theorem dX11_isLandOf_7 : decode cX11_isLandOf 7 = .ok (.if_icmp .ne 16, 3) := by decide +kernel
theorem dX11_isLandOf_10 : decode cX11_isLandOf 10 = .ok (.aload_n 0, 1) := by decide +kernel
theorem dX11_isLandOf_11 : decode cX11_isLandOf 11 = .ok (.getfield 29, 3) := by decide +kernel
theorem dX11_isLandOf_14 : decode cX11_isLandOf 14 = .ok (.iload_n 1, 1) := by decide +kernel
theorem dX11_isLandOf_15 : decode cX11_isLandOf 15 = .ok (.baload, 1) := by decide +kernel
theorem dX11_isLandOf_16 : decode cX11_isLandOf 16 = .ok (.ifCond .ne 7, 3) := by decide +kernel
theorem dX11_isLandOf_19 : decode cX11_isLandOf 19 = .ok (.iconst 1, 1) := by decide +kernel
theorem dX11_isLandOf_20 : decode cX11_isLandOf 20 = .ok (.goto 4, 3) := by decide +kernel
theorem dX11_isLandOf_23 : decode cX11_isLandOf 23 = .ok (.iconst 0, 1) := by decide +kernel
theorem dX11_isLandOf_24 : decode cX11_isLandOf 24 = .ok (.ireturn, 1) := by decide +kernel
theorem dX11_isLand_0 : decode cX11_isLand 0 = .ok (.aload_n 0, 1) := by decide +kernel
theorem dX11_isLand_1 : decode cX11_isLand 1 = .ok (.getfield 23, 3) := by decide +kernel
theorem dX11_isLand_4 : decode cX11_isLand 4 = .ok (.iload_n 1, 1) := by decide +kernel
theorem dX11_isLand_5 : decode cX11_isLand 5 = .ok (.iaload, 1) := by decide +kernel
theorem dX11_isLand_6 : decode cX11_isLand 6 = .ok (.iconst (-1), 1) := by decide +kernel
theorem dX11_isLand_7 : decode cX11_isLand 7 = .ok (.if_icmp .eq 16, 3) := by decide +kernel
theorem dX11_isLand_10 : decode cX11_isLand 10 = .ok (.aload_n 0, 1) := by decide +kernel
theorem dX11_isLand_11 : decode cX11_isLand 11 = .ok (.getfield 29, 3) := by decide +kernel
theorem dX11_isLand_14 : decode cX11_isLand 14 = .ok (.iload_n 1, 1) := by decide +kernel
theorem dX11_isLand_15 : decode cX11_isLand 15 = .ok (.baload, 1) := by decide +kernel
theorem dX11_isLand_16 : decode cX11_isLand 16 = .ok (.ifCond .ne 7, 3) := by decide +kernel
theorem dX11_isLand_19 : decode cX11_isLand 19 = .ok (.iconst 1, 1) := by decide +kernel
theorem dX11_isLand_20 : decode cX11_isLand 20 = .ok (.goto 4, 3) := by decide +kernel
theorem dX11_isLand_23 : decode cX11_isLand 23 = .ok (.iconst 0, 1) := by decide +kernel
theorem dX11_isLand_24 : decode cX11_isLand 24 = .ok (.ireturn, 1) := by decide +kernel
theorem dX11_far_0 : decode cX11_far 0 = .ok (.iload_n 1, 1) := by decide +kernel
theorem dX11_far_1 : decode cX11_far 1 = .ok (.aload_n 0, 1) := by decide +kernel
theorem dX11_far_2 : decode cX11_far 2 = .ok (.getfield 17, 3) := by decide +kernel
theorem dX11_far_5 : decode cX11_far 5 = .ok (.iconst 0, 1) := by decide +kernel
theorem dX11_far_6 : decode cX11_far 6 = .ok (.iaload, 1) := by decide +kernel
theorem dX11_far_7 : decode cX11_far 7 = .ok (.irem, 1) := by decide +kernel
theorem dX11_far_8 : decode cX11_far 8 = .ok (.iload_n 2, 1) := by decide +kernel
theorem dX11_far_9 : decode cX11_far 9 = .ok (.aload_n 0, 1) := by decide +kernel
theorem dX11_far_10 : decode cX11_far 10 = .ok (.getfield 17, 3) := by decide +kernel
theorem dX11_far_13 : decode cX11_far 13 = .ok (.iconst 0, 1) := by decide +kernel
theorem dX11_far_14 : decode cX11_far 14 = .ok (.iaload, 1) := by decide +kernel
theorem dX11_far_15 : decode cX11_far 15 = .ok (.irem, 1) := by decide +kernel
theorem dX11_far_16 : decode cX11_far 16 = .ok (.isub, 1) := by decide +kernel
theorem dX11_far_17 : decode cX11_far 17 = .ok (.istore_n 3, 1) := by decide +kernel
theorem dX11_far_18 : decode cX11_far 18 = .ok (.iload_n 1, 1) := by decide +kernel
theorem dX11_far_19 : decode cX11_far 19 = .ok (.aload_n 0, 1) := by decide +kernel
theorem dX11_far_20 : decode cX11_far 20 = .ok (.getfield 17, 3) := by decide +kernel
theorem dX11_far_23 : decode cX11_far 23 = .ok (.iconst 0, 1) := by decide +kernel
theorem dX11_far_24 : decode cX11_far 24 = .ok (.iaload, 1) := by decide +kernel
theorem dX11_far_25 : decode cX11_far 25 = .ok (.idiv, 1) := by decide +kernel
theorem dX11_far_26 : decode cX11_far 26 = .ok (.iload_n 2, 1) := by decide +kernel
theorem dX11_far_27 : decode cX11_far 27 = .ok (.aload_n 0, 1) := by decide +kernel
theorem dX11_far_28 : decode cX11_far 28 = .ok (.getfield 17, 3) := by decide +kernel
theorem dX11_far_31 : decode cX11_far 31 = .ok (.iconst 0, 1) := by decide +kernel
theorem dX11_far_32 : decode cX11_far 32 = .ok (.iaload, 1) := by decide +kernel
theorem dX11_far_33 : decode cX11_far 33 = .ok (.idiv, 1) := by decide +kernel
theorem dX11_far_34 : decode cX11_far 34 = .ok (.isub, 1) := by decide +kernel
theorem dX11_far_35 : decode cX11_far 35 = .ok (.istore 4, 2) := by decide +kernel
theorem dX11_far_37 : decode cX11_far 37 = .ok (.iload_n 3, 1) := by decide +kernel
theorem dX11_far_38 : decode cX11_far 38 = .ok (.iload_n 3, 1) := by decide +kernel
theorem dX11_far_39 : decode cX11_far 39 = .ok (.imul, 1) := by decide +kernel
theorem dX11_far_40 : decode cX11_far 40 = .ok (.iload 4, 2) := by decide +kernel
theorem dX11_far_42 : decode cX11_far 42 = .ok (.iload 4, 2) := by decide +kernel
theorem dX11_far_44 : decode cX11_far 44 = .ok (.imul, 1) := by decide +kernel
theorem dX11_far_45 : decode cX11_far 45 = .ok (.iadd, 1) := by decide +kernel
theorem dX11_far_46 : decode cX11_far 46 = .ok (.ireturn, 1) := by decide +kernel
theorem dX11_land_0 : decode cX11_land 0 = .ok (.aload_n 0, 1) := by decide +kernel
theorem dX11_land_1 : decode cX11_land 1 = .ok (.getfield 61, 3) := by decide +kernel
theorem dX11_land_4 : decode cX11_land 4 = .ok (.iload_n 1, 1) := by decide +kernel
theorem dX11_land_5 : decode cX11_land 5 = .ok (.iconst 1, 1) := by decide +kernel
theorem dX11_land_6 : decode cX11_land 6 = .ok (.iadd, 1) := by decide +kernel
theorem dX11_land_7 : decode cX11_land 7 = .ok (.iaload, 1) := by decide +kernel
theorem dX11_land_8 : decode cX11_land 8 = .ok (.aload_n 0, 1) := by decide +kernel
theorem dX11_land_9 : decode cX11_land 9 = .ok (.getfield 61, 3) := by decide +kernel
theorem dX11_land_12 : decode cX11_land 12 = .ok (.iload_n 1, 1) := by decide +kernel
theorem dX11_land_13 : decode cX11_land 13 = .ok (.iaload, 1) := by decide +kernel
theorem dX11_land_14 : decode cX11_land 14 = .ok (.isub, 1) := by decide +kernel
theorem dX11_land_15 : decode cX11_land 15 = .ok (.ireturn, 1) := by decide +kernel
theorem dX11_laysOrders_0 : decode cX11_laysOrders 0 = .ok (.iconst 0, 1) := by decide +kernel
theorem dX11_laysOrders_1 : decode cX11_laysOrders 1 = .ok (.istore_n 1, 1) := by decide +kernel
theorem dX11_laysOrders_2 : decode cX11_laysOrders 2 = .ok (.iload_n 1, 1) := by decide +kernel
theorem dX11_laysOrders_3 : decode cX11_laysOrders 3 = .ok (.sipush 384, 3) := by decide +kernel
theorem dX11_laysOrders_6 : decode cX11_laysOrders 6 = .ok (.if_icmp .ge 16, 3) := by decide +kernel
theorem dX11_laysOrders_9 : decode cX11_laysOrders 9 = .ok (.aload_n 0, 1) := by decide +kernel
theorem dX11_laysOrders_10 : decode cX11_laysOrders 10 = .ok (.getfield 64, 3) := by decide +kernel
theorem dX11_laysOrders_13 : decode cX11_laysOrders 13 = .ok (.iload_n 1, 1) := by decide +kernel
theorem dX11_laysOrders_14 : decode cX11_laysOrders 14 = .ok (.iconst (-1), 1) := by decide +kernel
theorem dX11_laysOrders_15 : decode cX11_laysOrders 15 = .ok (.iastore, 1) := by decide +kernel
theorem dX11_laysOrders_16 : decode cX11_laysOrders 16 = .ok (.iinc 1 1, 3) := by decide +kernel
theorem dX11_laysOrders_19 : decode cX11_laysOrders 19 = .ok (.goto (-17), 3) := by decide +kernel
theorem dX11_laysOrders_22 : decode cX11_laysOrders 22 = .ok (.aload_n 0, 1) := by decide +kernel
theorem dX11_laysOrders_23 : decode cX11_laysOrders 23 = .ok (.getfield 61, 3) := by decide +kernel
theorem dX11_laysOrders_26 : decode cX11_laysOrders 26 = .ok (.iconst 0, 1) := by decide +kernel
theorem dX11_laysOrders_27 : decode cX11_laysOrders 27 = .ok (.iconst 0, 1) := by decide +kernel
theorem dX11_laysOrders_28 : decode cX11_laysOrders 28 = .ok (.iastore, 1) := by decide +kernel
theorem dX11_laysOrders_29 : decode cX11_laysOrders 29 = .ok (.iconst 0, 1) := by decide +kernel
theorem dX11_laysOrders_30 : decode cX11_laysOrders 30 = .ok (.istore_n 1, 1) := by decide +kernel
theorem dX11_laysOrders_31 : decode cX11_laysOrders 31 = .ok (.iload_n 1, 1) := by decide +kernel
theorem dX11_laysOrders_32 : decode cX11_laysOrders 32 = .ok (.aload_n 0, 1) := by decide +kernel
theorem dX11_laysOrders_33 : decode cX11_laysOrders 33 = .ok (.invokevirtual 222, 3) := by decide +kernel
theorem dX11_laysOrders_36 : decode cX11_laysOrders 36 = .ok (.if_icmp .ge 197, 3) := by decide +kernel
theorem dX11_laysOrders_39 : decode cX11_laysOrders 39 = .ok (.iconst 0, 1) := by decide +kernel
theorem dX11_laysOrders_40 : decode cX11_laysOrders 40 = .ok (.istore_n 2, 1) := by decide +kernel
theorem dX11_laysOrders_41 : decode cX11_laysOrders 41 = .ok (.aload_n 0, 1) := by decide +kernel
theorem dX11_laysOrders_42 : decode cX11_laysOrders 42 = .ok (.iload_n 1, 1) := by decide +kernel
theorem dX11_laysOrders_43 : decode cX11_laysOrders 43 = .ok (.invokevirtual 225, 3) := by decide +kernel
theorem dX11_laysOrders_46 : decode cX11_laysOrders 46 = .ok (.istore_n 3, 1) := by decide +kernel
theorem dX11_laysOrders_47 : decode cX11_laysOrders 47 = .ok (.iconst 0, 1) := by decide +kernel
theorem dX11_laysOrders_48 : decode cX11_laysOrders 48 = .ok (.istore 4, 2) := by decide +kernel
theorem dX11_laysOrders_50 : decode cX11_laysOrders 50 = .ok (.iload 4, 2) := by decide +kernel
theorem dX11_laysOrders_52 : decode cX11_laysOrders 52 = .ok (.aload_n 0, 1) := by decide +kernel
theorem dX11_laysOrders_53 : decode cX11_laysOrders 53 = .ok (.invokevirtual 229, 3) := by decide +kernel
theorem dX11_laysOrders_56 : decode cX11_laysOrders 56 = .ok (.if_icmp .ge 18, 3) := by decide +kernel
theorem dX11_laysOrders_59 : decode cX11_laysOrders 59 = .ok (.aload_n 0, 1) := by decide +kernel
theorem dX11_laysOrders_60 : decode cX11_laysOrders 60 = .ok (.getfield 67, 3) := by decide +kernel
theorem dX11_laysOrders_63 : decode cX11_laysOrders 63 = .ok (.iload 4, 2) := by decide +kernel
theorem dX11_laysOrders_65 : decode cX11_laysOrders 65 = .ok (.ldc 232, 2) := by decide +kernel
theorem dX11_laysOrders_67 : decode cX11_laysOrders 67 = .ok (.iastore, 1) := by decide +kernel
theorem dX11_laysOrders_68 : decode cX11_laysOrders 68 = .ok (.iinc 4 1, 3) := by decide +kernel
theorem dX11_laysOrders_71 : decode cX11_laysOrders 71 = .ok (.goto (-21), 3) := by decide +kernel
theorem dX11_laysOrders_74 : decode cX11_laysOrders 74 = .ok (.iload_n 3, 1) := by decide +kernel
theorem dX11_laysOrders_75 : decode cX11_laysOrders 75 = .ok (.iconst (-1), 1) := by decide +kernel
theorem dX11_laysOrders_76 : decode cX11_laysOrders 76 = .ok (.if_icmp .eq 135, 3) := by decide +kernel
theorem dX11_laysOrders_79 : decode cX11_laysOrders 79 = .ok (.aload_n 0, 1) := by decide +kernel
theorem dX11_laysOrders_80 : decode cX11_laysOrders 80 = .ok (.getfield 58, 3) := by decide +kernel
theorem dX11_laysOrders_83 : decode cX11_laysOrders 83 = .ok (.aload_n 0, 1) := by decide +kernel
theorem dX11_laysOrders_84 : decode cX11_laysOrders 84 = .ok (.getfield 61, 3) := by decide +kernel
theorem dX11_laysOrders_87 : decode cX11_laysOrders 87 = .ok (.iload_n 1, 1) := by decide +kernel
theorem dX11_laysOrders_88 : decode cX11_laysOrders 88 = .ok (.iaload, 1) := by decide +kernel
theorem dX11_laysOrders_89 : decode cX11_laysOrders 89 = .ok (.iload_n 2, 1) := by decide +kernel
theorem dX11_laysOrders_90 : decode cX11_laysOrders 90 = .ok (.iadd, 1) := by decide +kernel
theorem dX11_laysOrders_91 : decode cX11_laysOrders 91 = .ok (.iload_n 3, 1) := by decide +kernel
theorem dX11_laysOrders_92 : decode cX11_laysOrders 92 = .ok (.iastore, 1) := by decide +kernel
theorem dX11_laysOrders_93 : decode cX11_laysOrders 93 = .ok (.aload_n 0, 1) := by decide +kernel
theorem dX11_laysOrders_94 : decode cX11_laysOrders 94 = .ok (.getfield 64, 3) := by decide +kernel
theorem dX11_laysOrders_97 : decode cX11_laysOrders 97 = .ok (.iload_n 3, 1) := by decide +kernel
theorem dX11_laysOrders_98 : decode cX11_laysOrders 98 = .ok (.iload_n 2, 1) := by decide +kernel
theorem dX11_laysOrders_99 : decode cX11_laysOrders 99 = .ok (.iastore, 1) := by decide +kernel
theorem dX11_laysOrders_100 : decode cX11_laysOrders 100 = .ok (.iinc 2 1, 3) := by decide +kernel
theorem dX11_laysOrders_103 : decode cX11_laysOrders 103 = .ok (.iconst (-1), 1) := by decide +kernel
theorem dX11_laysOrders_104 : decode cX11_laysOrders 104 = .ok (.istore 4, 2) := by decide +kernel
theorem dX11_laysOrders_106 : decode cX11_laysOrders 106 = .ok (.iconst 0, 1) := by decide +kernel
theorem dX11_laysOrders_107 : decode cX11_laysOrders 107 = .ok (.istore 5, 2) := by decide +kernel
theorem dX11_laysOrders_109 : decode cX11_laysOrders 109 = .ok (.iload 5, 2) := by decide +kernel
theorem dX11_laysOrders_111 : decode cX11_laysOrders 111 = .ok (.aload_n 0, 1) := by decide +kernel
theorem dX11_laysOrders_112 : decode cX11_laysOrders 112 = .ok (.invokevirtual 229, 3) := by decide +kernel
theorem dX11_laysOrders_115 : decode cX11_laysOrders 115 = .ok (.if_icmp .ge 90, 3) := by decide +kernel
theorem dX11_laysOrders_118 : decode cX11_laysOrders 118 = .ok (.aload_n 0, 1) := by decide +kernel
theorem dX11_laysOrders_119 : decode cX11_laysOrders 119 = .ok (.iload 5, 2) := by decide +kernel
theorem dX11_laysOrders_121 : decode cX11_laysOrders 121 = .ok (.iload_n 1, 1) := by decide +kernel
theorem dX11_laysOrders_122 : decode cX11_laysOrders 122 = .ok (.invokevirtual 233, 3) := by decide +kernel
theorem dX11_laysOrders_125 : decode cX11_laysOrders 125 = .ok (.ifCond .eq 74, 3) := by decide +kernel
theorem dX11_laysOrders_128 : decode cX11_laysOrders 128 = .ok (.aload_n 0, 1) := by decide +kernel
theorem dX11_laysOrders_129 : decode cX11_laysOrders 129 = .ok (.getfield 64, 3) := by decide +kernel
theorem dX11_laysOrders_132 : decode cX11_laysOrders 132 = .ok (.iload 5, 2) := by decide +kernel
theorem dX11_laysOrders_134 : decode cX11_laysOrders 134 = .ok (.iaload, 1) := by decide +kernel
theorem dX11_laysOrders_135 : decode cX11_laysOrders 135 = .ok (.iconst (-1), 1) := by decide +kernel
theorem dX11_laysOrders_136 : decode cX11_laysOrders 136 = .ok (.if_icmp .eq 6, 3) := by decide +kernel
theorem dX11_laysOrders_139 : decode cX11_laysOrders 139 = .ok (.goto 60, 3) := by decide +kernel
theorem dX11_laysOrders_142 : decode cX11_laysOrders 142 = .ok (.aload_n 0, 1) := by decide +kernel
theorem dX11_laysOrders_143 : decode cX11_laysOrders 143 = .ok (.iload 5, 2) := by decide +kernel
theorem dX11_laysOrders_145 : decode cX11_laysOrders 145 = .ok (.iload_n 3, 1) := by decide +kernel
theorem dX11_laysOrders_146 : decode cX11_laysOrders 146 = .ok (.invokevirtual 236, 3) := by decide +kernel
theorem dX11_laysOrders_149 : decode cX11_laysOrders 149 = .ok (.istore 6, 2) := by decide +kernel
theorem dX11_laysOrders_151 : decode cX11_laysOrders 151 = .ok (.iload 6, 2) := by decide +kernel
theorem dX11_laysOrders_153 : decode cX11_laysOrders 153 = .ok (.aload_n 0, 1) := by decide +kernel
theorem dX11_laysOrders_154 : decode cX11_laysOrders 154 = .ok (.getfield 67, 3) := by decide +kernel
theorem dX11_laysOrders_157 : decode cX11_laysOrders 157 = .ok (.iload 5, 2) := by decide +kernel
theorem dX11_laysOrders_159 : decode cX11_laysOrders 159 = .ok (.iaload, 1) := by decide +kernel
theorem dX11_laysOrders_160 : decode cX11_laysOrders 160 = .ok (.if_icmp .ge 12, 3) := by decide +kernel
theorem dX11_laysOrders_163 : decode cX11_laysOrders 163 = .ok (.aload_n 0, 1) := by decide +kernel
theorem dX11_laysOrders_164 : decode cX11_laysOrders 164 = .ok (.getfield 67, 3) := by decide +kernel
theorem dX11_laysOrders_167 : decode cX11_laysOrders 167 = .ok (.iload 5, 2) := by decide +kernel
theorem dX11_laysOrders_169 : decode cX11_laysOrders 169 = .ok (.iload 6, 2) := by decide +kernel
theorem dX11_laysOrders_171 : decode cX11_laysOrders 171 = .ok (.iastore, 1) := by decide +kernel
theorem dX11_laysOrders_172 : decode cX11_laysOrders 172 = .ok (.iload 4, 2) := by decide +kernel
theorem dX11_laysOrders_174 : decode cX11_laysOrders 174 = .ok (.iconst (-1), 1) := by decide +kernel
theorem dX11_laysOrders_175 : decode cX11_laysOrders 175 = .ok (.if_icmp .eq 20, 3) := by decide +kernel
theorem dX11_laysOrders_178 : decode cX11_laysOrders 178 = .ok (.aload_n 0, 1) := by decide +kernel
theorem dX11_laysOrders_179 : decode cX11_laysOrders 179 = .ok (.getfield 67, 3) := by decide +kernel
theorem dX11_laysOrders_182 : decode cX11_laysOrders 182 = .ok (.iload 5, 2) := by decide +kernel
theorem dX11_laysOrders_184 : decode cX11_laysOrders 184 = .ok (.iaload, 1) := by decide +kernel
theorem dX11_laysOrders_185 : decode cX11_laysOrders 185 = .ok (.aload_n 0, 1) := by decide +kernel
theorem dX11_laysOrders_186 : decode cX11_laysOrders 186 = .ok (.getfield 67, 3) := by decide +kernel
theorem dX11_laysOrders_189 : decode cX11_laysOrders 189 = .ok (.iload 4, 2) := by decide +kernel
theorem dX11_laysOrders_191 : decode cX11_laysOrders 191 = .ok (.iaload, 1) := by decide +kernel
theorem dX11_laysOrders_192 : decode cX11_laysOrders 192 = .ok (.if_icmp .le 7, 3) := by decide +kernel
theorem dX11_laysOrders_195 : decode cX11_laysOrders 195 = .ok (.iload 5, 2) := by decide +kernel
theorem dX11_laysOrders_197 : decode cX11_laysOrders 197 = .ok (.istore 4, 2) := by decide +kernel
theorem dX11_laysOrders_199 : decode cX11_laysOrders 199 = .ok (.iinc 5 1, 3) := by decide +kernel
theorem dX11_laysOrders_202 : decode cX11_laysOrders 202 = .ok (.goto (-93), 3) := by decide +kernel
theorem dX11_laysOrders_205 : decode cX11_laysOrders 205 = .ok (.iload 4, 2) := by decide +kernel
theorem dX11_laysOrders_207 : decode cX11_laysOrders 207 = .ok (.istore_n 3, 1) := by decide +kernel
theorem dX11_laysOrders_208 : decode cX11_laysOrders 208 = .ok (.goto (-134), 3) := by decide +kernel
theorem dX11_laysOrders_211 : decode cX11_laysOrders 211 = .ok (.aload_n 0, 1) := by decide +kernel
theorem dX11_laysOrders_212 : decode cX11_laysOrders 212 = .ok (.getfield 61, 3) := by decide +kernel
theorem dX11_laysOrders_215 : decode cX11_laysOrders 215 = .ok (.iload_n 1, 1) := by decide +kernel
theorem dX11_laysOrders_216 : decode cX11_laysOrders 216 = .ok (.iconst 1, 1) := by decide +kernel
theorem dX11_laysOrders_217 : decode cX11_laysOrders 217 = .ok (.iadd, 1) := by decide +kernel
theorem dX11_laysOrders_218 : decode cX11_laysOrders 218 = .ok (.aload_n 0, 1) := by decide +kernel
theorem dX11_laysOrders_219 : decode cX11_laysOrders 219 = .ok (.getfield 61, 3) := by decide +kernel
