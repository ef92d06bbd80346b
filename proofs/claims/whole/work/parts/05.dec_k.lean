theorem d_K_init_0 : decode b_K_init 0 = .ok (.aload_n 0, 1) := by decide +kernel
theorem d_K_init_1 : decode b_K_init 1 = .ok (.invokespecial 3, 3) := by decide +kernel
theorem d_K_init_4 : decode b_K_init 4 = .ok (.aload_n 0, 1) := by decide +kernel
theorem d_K_init_5 : decode b_K_init 5 = .ok (.new 9, 3) := by decide +kernel
theorem d_K_init_8 : decode b_K_init 8 = .ok (.dup, 1) := by decide +kernel
theorem d_K_init_9 : decode b_K_init 9 = .ok (.invokespecial 11, 3) := by decide +kernel
theorem d_K_init_12 : decode b_K_init 12 = .ok (.putfield 12, 3) := by decide +kernel
theorem d_K_init_15 : decode b_K_init 15 = .ok (.aload_n 0, 1) := by decide +kernel
theorem d_K_init_16 : decode b_K_init 16 = .ok (.new 9, 3) := by decide +kernel
theorem d_K_init_19 : decode b_K_init 19 = .ok (.dup, 1) := by decide +kernel
theorem d_K_init_20 : decode b_K_init 20 = .ok (.invokespecial 11, 3) := by decide +kernel
theorem d_K_init_23 : decode b_K_init 23 = .ok (.putfield 18, 3) := by decide +kernel
theorem d_K_init_26 : decode b_K_init 26 = .ok (.aload_n 0, 1) := by decide +kernel
theorem d_K_init_27 : decode b_K_init 27 = .ok (.new 9, 3) := by decide +kernel
theorem d_K_init_30 : decode b_K_init 30 = .ok (.dup, 1) := by decide +kernel
theorem d_K_init_31 : decode b_K_init 31 = .ok (.invokespecial 11, 3) := by decide +kernel
theorem d_K_init_34 : decode b_K_init 34 = .ok (.putfield 21, 3) := by decide +kernel
theorem d_K_init_37 : decode b_K_init 37 = .ok (.aload_n 0, 1) := by decide +kernel
theorem d_K_init_38 : decode b_K_init 38 = .ok (.new 9, 3) := by decide +kernel
theorem d_K_init_41 : decode b_K_init 41 = .ok (.dup, 1) := by decide +kernel
theorem d_K_init_42 : decode b_K_init 42 = .ok (.invokespecial 11, 3) := by decide +kernel
theorem d_K_init_45 : decode b_K_init 45 = .ok (.putfield 24, 3) := by decide +kernel
theorem d_K_init_48 : decode b_K_init 48 = .ok (.aload_n 0, 1) := by decide +kernel
theorem d_K_init_49 : decode b_K_init 49 = .ok (.new 9, 3) := by decide +kernel
theorem d_K_init_52 : decode b_K_init 52 = .ok (.dup, 1) := by decide +kernel
theorem d_K_init_53 : decode b_K_init 53 = .ok (.invokespecial 11, 3) := by decide +kernel
theorem d_K_init_56 : decode b_K_init 56 = .ok (.putfield 27, 3) := by decide +kernel
theorem d_K_init_59 : decode b_K_init 59 = .ok (.return_, 1) := by decide +kernel
theorem d_K_floorTimes_0 : decode b_K_floorTimes 0 = .ok (.aload_n 0, 1) := by decide +kernel
theorem d_K_floorTimes_1 : decode b_K_floorTimes 1 = .ok (.getfield 12, 3) := by decide +kernel
theorem d_K_floorTimes_4 : decode b_K_floorTimes 4 = .ok (.lload_n 1, 1) := by decide +kernel
theorem d_K_floorTimes_5 : decode b_K_floorTimes 5 = .ok (.invokevirtual 30, 3) := by decide +kernel
theorem d_K_floorTimes_8 : decode b_K_floorTimes 8 = .ok (.aload_n 0, 1) := by decide +kernel
theorem d_K_floorTimes_9 : decode b_K_floorTimes 9 = .ok (.getfield 12, 3) := by decide +kernel
theorem d_K_floorTimes_12 : decode b_K_floorTimes 12 = .ok (.invokevirtual 34, 3) := by decide +kernel
theorem d_K_floorTimes_15 : decode b_K_floorTimes 15 = .ok (.lreturn, 1) := by decide +kernel
theorem d_K_raiseE_0 : decode b_K_raiseE 0 = .ok (.lload_n 1, 1) := by decide +kernel
theorem d_K_raiseE_1 : decode b_K_raiseE 1 = .ok (.invokestatic 38, 3) := by decide +kernel
theorem d_K_raiseE_4 : decode b_K_raiseE 4 = .ok (.lstore 5, 2) := by decide +kernel
theorem d_K_raiseE_6 : decode b_K_raiseE 6 = .ok (.lload_n 3, 1) := by decide +kernel
theorem d_K_raiseE_7 : decode b_K_raiseE 7 = .ok (.iconst 5, 1) := by decide +kernel
theorem d_K_raiseE_8 : decode b_K_raiseE 8 = .ok (.lshl, 1) := by decide +kernel
theorem d_K_raiseE_9 : decode b_K_raiseE 9 = .ok (.lstore 7, 2) := by decide +kernel
theorem d_K_raiseE_11 : decode b_K_raiseE 11 = .ok (.aload_n 0, 1) := by decide +kernel
theorem d_K_raiseE_12 : decode b_K_raiseE 12 = .ok (.getfield 12, 3) := by decide +kernel
theorem d_K_raiseE_15 : decode b_K_raiseE 15 = .ok (.lconst 1, 1) := by decide +kernel
theorem d_K_raiseE_16 : decode b_K_raiseE 16 = .ok (.invokevirtual 44, 3) := by decide +kernel
theorem d_K_raiseE_19 : decode b_K_raiseE 19 = .ok (.aload_n 0, 1) := by decide +kernel
theorem d_K_raiseE_20 : decode b_K_raiseE 20 = .ok (.getfield 18, 3) := by decide +kernel
theorem d_K_raiseE_23 : decode b_K_raiseE 23 = .ok (.lconst 1, 1) := by decide +kernel
theorem d_K_raiseE_24 : decode b_K_raiseE 24 = .ok (.invokevirtual 44, 3) := by decide +kernel
theorem d_K_raiseE_27 : decode b_K_raiseE 27 = .ok (.iconst 1, 1) := by decide +kernel
theorem d_K_raiseE_28 : decode b_K_raiseE 28 = .ok (.istore 9, 2) := by decide +kernel
theorem d_K_raiseE_30 : decode b_K_raiseE 30 = .ok (.iload 9, 2) := by decide +kernel
theorem d_K_raiseE_32 : decode b_K_raiseE 32 = .ok (.sipush 400, 3) := by decide +kernel
theorem d_K_raiseE_35 : decode b_K_raiseE 35 = .ok (.if_icmp .ge 71, 3) := by decide +kernel
theorem d_K_raiseE_38 : decode b_K_raiseE 38 = .ok (.aload_n 0, 1) := by decide +kernel
theorem d_K_raiseE_39 : decode b_K_raiseE 39 = .ok (.getfield 18, 3) := by decide +kernel
theorem d_K_raiseE_42 : decode b_K_raiseE 42 = .ok (.invokevirtual 47, 3) := by decide +kernel
theorem d_K_raiseE_45 : decode b_K_raiseE 45 = .ok (.ifCond .ne 61, 3) := by decide +kernel
theorem d_K_raiseE_48 : decode b_K_raiseE 48 = .ok (.aload_n 0, 1) := by decide +kernel
theorem d_K_raiseE_49 : decode b_K_raiseE 49 = .ok (.getfield 18, 3) := by decide +kernel
theorem d_K_raiseE_52 : decode b_K_raiseE 52 = .ok (.lload 5, 2) := by decide +kernel
theorem d_K_raiseE_54 : decode b_K_raiseE 54 = .ok (.invokevirtual 30, 3) := by decide +kernel
theorem d_K_raiseE_57 : decode b_K_raiseE 57 = .ok (.aload_n 0, 1) := by decide +kernel
theorem d_K_raiseE_58 : decode b_K_raiseE 58 = .ok (.getfield 18, 3) := by decide +kernel
theorem d_K_raiseE_61 : decode b_K_raiseE 61 = .ok (.lload 7, 2) := by decide +kernel
theorem d_K_raiseE_63 : decode b_K_raiseE 63 = .ok (.iload 9, 2) := by decide +kernel
theorem d_K_raiseE_65 : decode b_K_raiseE 65 = .ok (.i2l, 1) := by decide +kernel
theorem d_K_raiseE_66 : decode b_K_raiseE 66 = .ok (.lmul, 1) := by decide +kernel
theorem d_K_raiseE_67 : decode b_K_raiseE 67 = .ok (.invokevirtual 51, 3) := by decide +kernel
theorem d_K_raiseE_70 : decode b_K_raiseE 70 = .ok (.aload_n 0, 1) := by decide +kernel
theorem d_K_raiseE_71 : decode b_K_raiseE 71 = .ok (.getfield 12, 3) := by decide +kernel
theorem d_K_raiseE_74 : decode b_K_raiseE 74 = .ok (.aload_n 0, 1) := by decide +kernel
theorem d_K_raiseE_75 : decode b_K_raiseE 75 = .ok (.getfield 18, 3) := by decide +kernel
theorem d_K_raiseE_78 : decode b_K_raiseE 78 = .ok (.lload_n 1, 1) := by decide +kernel
theorem d_K_raiseE_79 : decode b_K_raiseE 79 = .ok (.lconst 0, 1) := by decide +kernel
theorem d_K_raiseE_80 : decode b_K_raiseE 80 = .ok (.lcmp, 1) := by decide +kernel
theorem d_K_raiseE_81 : decode b_K_raiseE 81 = .ok (.ifCond .ge 15, 3) := by decide +kernel
theorem d_K_raiseE_84 : decode b_K_raiseE 84 = .ok (.iload 9, 2) := by decide +kernel
theorem d_K_raiseE_86 : decode b_K_raiseE 86 = .ok (.iconst 1, 1) := by decide +kernel
theorem d_K_raiseE_87 : decode b_K_raiseE 87 = .ok (.iand, 1) := by decide +kernel
theorem d_K_raiseE_88 : decode b_K_raiseE 88 = .ok (.iconst 1, 1) := by decide +kernel
theorem d_K_raiseE_89 : decode b_K_raiseE 89 = .ok (.if_icmp .ne 7, 3) := by decide +kernel
theorem d_K_raiseE_92 : decode b_K_raiseE 92 = .ok (.iconst 1, 1) := by decide +kernel
theorem d_K_raiseE_93 : decode b_K_raiseE 93 = .ok (.goto 4, 3) := by decide +kernel
theorem d_K_raiseE_96 : decode b_K_raiseE 96 = .ok (.iconst 0, 1) := by decide +kernel
theorem d_K_raiseE_97 : decode b_K_raiseE 97 = .ok (.invokevirtual 54, 3) := by decide +kernel
theorem d_K_raiseE_100 : decode b_K_raiseE 100 = .ok (.iinc 9 1, 3) := by decide +kernel
theorem d_K_raiseE_103 : decode b_K_raiseE 103 = .ok (.goto (-73), 3) := by decide +kernel
theorem d_K_raiseE_106 : decode b_K_raiseE 106 = .ok (.iconst 0, 1) := by decide +kernel
theorem d_K_raiseE_107 : decode b_K_raiseE 107 = .ok (.istore 9, 2) := by decide +kernel
theorem d_K_raiseE_109 : decode b_K_raiseE 109 = .ok (.iload 9, 2) := by decide +kernel
theorem d_K_raiseE_111 : decode b_K_raiseE 111 = .ok (.iconst 5, 1) := by decide +kernel
theorem d_K_raiseE_112 : decode b_K_raiseE 112 = .ok (.if_icmp .ge 20, 3) := by decide +kernel
theorem d_K_raiseE_115 : decode b_K_raiseE 115 = .ok (.aload_n 0, 1) := by decide +kernel
theorem d_K_raiseE_116 : decode b_K_raiseE 116 = .ok (.getfield 12, 3) := by decide +kernel
theorem d_K_raiseE_119 : decode b_K_raiseE 119 = .ok (.aload_n 0, 1) := by decide +kernel
theorem d_K_raiseE_120 : decode b_K_raiseE 120 = .ok (.getfield 12, 3) := by decide +kernel
theorem d_K_raiseE_123 : decode b_K_raiseE 123 = .ok (.invokevirtual 58, 3) := by decide +kernel
theorem d_K_raiseE_126 : decode b_K_raiseE 126 = .ok (.iinc 9 1, 3) := by decide +kernel
theorem d_K_raiseE_129 : decode b_K_raiseE 129 = .ok (.goto (-20), 3) := by decide +kernel
theorem d_K_raiseE_132 : decode b_K_raiseE 132 = .ok (.return_, 1) := by decide +kernel
theorem d_K_takeLog_0 : decode b_K_takeLog 0 = .ok (.lload_n 1, 1) := by decide +kernel
theorem d_K_takeLog_1 : decode b_K_takeLog 1 = .ok (.lstore 5, 2) := by decide +kernel
theorem d_K_takeLog_3 : decode b_K_takeLog 3 = .ok (.lload_n 3, 1) := by decide +kernel
theorem d_K_takeLog_4 : decode b_K_takeLog 4 = .ok (.lstore 7, 2) := by decide +kernel
theorem d_K_takeLog_6 : decode b_K_takeLog 6 = .ok (.iconst 0, 1) := by decide +kernel
theorem d_K_takeLog_7 : decode b_K_takeLog 7 = .ok (.istore 9, 2) := by decide +kernel
theorem d_K_takeLog_9 : decode b_K_takeLog 9 = .ok (.iconst 0, 1) := by decide +kernel
theorem d_K_takeLog_10 : decode b_K_takeLog 10 = .ok (.istore 10, 2) := by decide +kernel
theorem d_K_takeLog_12 : decode b_K_takeLog 12 = .ok (.iload 10, 2) := by decide +kernel
theorem d_K_takeLog_14 : decode b_K_takeLog 14 = .ok (.bipush 64, 2) := by decide +kernel
theorem d_K_takeLog_16 : decode b_K_takeLog 16 = .ok (.if_icmp .ge 36, 3) := by decide +kernel
theorem d_K_takeLog_19 : decode b_K_takeLog 19 = .ok (.ldc2_w 62, 3) := by decide +kernel
theorem d_K_takeLog_22 : decode b_K_takeLog 22 = .ok (.lload 5, 2) := by decide +kernel
theorem d_K_takeLog_24 : decode b_K_takeLog 24 = .ok (.lmul, 1) := by decide +kernel
theorem d_K_takeLog_25 : decode b_K_takeLog 25 = .ok (.ldc2_w 64, 3) := by decide +kernel
theorem d_K_takeLog_28 : decode b_K_takeLog 28 = .ok (.lload 7, 2) := by decide +kernel
theorem d_K_takeLog_30 : decode b_K_takeLog 30 = .ok (.lmul, 1) := by decide +kernel
theorem d_K_takeLog_31 : decode b_K_takeLog 31 = .ok (.lcmp, 1) := by decide +kernel
theorem d_K_takeLog_32 : decode b_K_takeLog 32 = .ok (.ifCond .le 20, 3) := by decide +kernel
theorem d_K_takeLog_35 : decode b_K_takeLog 35 = .ok (.lload 7, 2) := by decide +kernel
theorem d_K_takeLog_37 : decode b_K_takeLog 37 = .ok (.ldc2_w 66, 3) := by decide +kernel
theorem d_K_takeLog_40 : decode b_K_takeLog 40 = .ok (.lmul, 1) := by decide +kernel
theorem d_K_takeLog_41 : decode b_K_takeLog 41 = .ok (.lstore 7, 2) := by decide +kernel
theorem d_K_takeLog_43 : decode b_K_takeLog 43 = .ok (.iinc 9 1, 3) := by decide +kernel
theorem d_K_takeLog_46 : decode b_K_takeLog 46 = .ok (.iinc 10 1, 3) := by decide +kernel
theorem d_K_takeLog_49 : decode b_K_takeLog 49 = .ok (.goto (-37), 3) := by decide +kernel
theorem d_K_takeLog_52 : decode b_K_takeLog 52 = .ok (.iconst 0, 1) := by decide +kernel
theorem d_K_takeLog_53 : decode b_K_takeLog 53 = .ok (.istore 10, 2) := by decide +kernel
theorem d_K_takeLog_55 : decode b_K_takeLog 55 = .ok (.iload 10, 2) := by decide +kernel
theorem d_K_takeLog_57 : decode b_K_takeLog 57 = .ok (.bipush 64, 2) := by decide +kernel
theorem d_K_takeLog_59 : decode b_K_takeLog 59 = .ok (.if_icmp .ge 36, 3) := by decide +kernel
theorem d_K_takeLog_62 : decode b_K_takeLog 62 = .ok (.ldc2_w 68, 3) := by decide +kernel
theorem d_K_takeLog_65 : decode b_K_takeLog 65 = .ok (.lload 5, 2) := by decide +kernel
theorem d_K_takeLog_67 : decode b_K_takeLog 67 = .ok (.lmul, 1) := by decide +kernel
theorem d_K_takeLog_68 : decode b_K_takeLog 68 = .ok (.ldc2_w 64, 3) := by decide +kernel
theorem d_K_takeLog_71 : decode b_K_takeLog 71 = .ok (.lload 7, 2) := by decide +kernel
theorem d_K_takeLog_73 : decode b_K_takeLog 73 = .ok (.lmul, 1) := by decide +kernel
theorem d_K_takeLog_74 : decode b_K_takeLog 74 = .ok (.lcmp, 1) := by decide +kernel
theorem d_K_takeLog_75 : decode b_K_takeLog 75 = .ok (.ifCond .gt 20, 3) := by decide +kernel
theorem d_K_takeLog_78 : decode b_K_takeLog 78 = .ok (.lload 5, 2) := by decide +kernel
theorem d_K_takeLog_80 : decode b_K_takeLog 80 = .ok (.ldc2_w 66, 3) := by decide +kernel
theorem d_K_takeLog_83 : decode b_K_takeLog 83 = .ok (.lmul, 1) := by decide +kernel
theorem d_K_takeLog_84 : decode b_K_takeLog 84 = .ok (.lstore 5, 2) := by decide +kernel
theorem d_K_takeLog_86 : decode b_K_takeLog 86 = .ok (.iinc 9 (-1), 3) := by decide +kernel
theorem d_K_takeLog_89 : decode b_K_takeLog 89 = .ok (.iinc 10 1, 3) := by decide +kernel
theorem d_K_takeLog_92 : decode b_K_takeLog 92 = .ok (.goto (-37), 3) := by decide +kernel
theorem d_K_takeLog_95 : decode b_K_takeLog 95 = .ok (.aload_n 0, 1) := by decide +kernel
theorem d_K_takeLog_96 : decode b_K_takeLog 96 = .ok (.getfield 12, 3) := by decide +kernel
theorem d_K_takeLog_99 : decode b_K_takeLog 99 = .ok (.lload 5, 2) := by decide +kernel
theorem d_K_takeLog_101 : decode b_K_takeLog 101 = .ok (.lload 7, 2) := by decide +kernel
theorem d_K_takeLog_103 : decode b_K_takeLog 103 = .ok (.lsub, 1) := by decide +kernel
theorem d_K_takeLog_104 : decode b_K_takeLog 104 = .ok (.invokestatic 38, 3) := by decide +kernel
theorem d_K_takeLog_107 : decode b_K_takeLog 107 = .ok (.lload 5, 2) := by decide +kernel
theorem d_K_takeLog_109 : decode b_K_takeLog 109 = .ok (.lload 7, 2) := by decide +kernel
theorem d_K_takeLog_111 : decode b_K_takeLog 111 = .ok (.ladd, 1) := by decide +kernel
theorem d_K_takeLog_112 : decode b_K_takeLog 112 = .ok (.invokevirtual 70, 3) := by decide +kernel
theorem d_K_takeLog_115 : decode b_K_takeLog 115 = .ok (.aload_n 0, 1) := by decide +kernel
theorem d_K_takeLog_116 : decode b_K_takeLog 116 = .ok (.iconst 0, 1) := by decide +kernel
theorem d_K_takeLog_117 : decode b_K_takeLog 117 = .ok (.invokevirtual 74, 3) := by decide +kernel
theorem d_K_takeLog_120 : decode b_K_takeLog 120 = .ok (.aload_n 0, 1) := by decide +kernel
theorem d_K_takeLog_121 : decode b_K_takeLog 121 = .ok (.getfield 12, 3) := by decide +kernel
theorem d_K_takeLog_124 : decode b_K_takeLog 124 = .ok (.ldc2_w 66, 3) := by decide +kernel
theorem d_K_takeLog_127 : decode b_K_takeLog 127 = .ok (.invokevirtual 30, 3) := by decide +kernel
theorem d_K_takeLog_130 : decode b_K_takeLog 130 = .ok (.lload 5, 2) := by decide +kernel
theorem d_K_takeLog_132 : decode b_K_takeLog 132 = .ok (.lload 7, 2) := by decide +kernel
theorem d_K_takeLog_134 : decode b_K_takeLog 134 = .ok (.lcmp, 1) := by decide +kernel
theorem d_K_takeLog_135 : decode b_K_takeLog 135 = .ok (.ifCond .ge 10, 3) := by decide +kernel
theorem d_K_takeLog_138 : decode b_K_takeLog 138 = .ok (.aload_n 0, 1) := by decide +kernel
theorem d_K_takeLog_139 : decode b_K_takeLog 139 = .ok (.getfield 12, 3) := by decide +kernel
theorem d_K_takeLog_142 : decode b_K_takeLog 142 = .ok (.invokevirtual 78, 3) := by decide +kernel
theorem d_K_takeLog_145 : decode b_K_takeLog 145 = .ok (.aload_n 0, 1) := by decide +kernel
theorem d_K_takeLog_146 : decode b_K_takeLog 146 = .ok (.getfield 24, 3) := by decide +kernel
theorem d_K_takeLog_149 : decode b_K_takeLog 149 = .ok (.getstatic 81, 3) := by decide +kernel
theorem d_K_takeLog_152 : decode b_K_takeLog 152 = .ok (.iconst 0, 1) := by decide +kernel
theorem d_K_takeLog_153 : decode b_K_takeLog 153 = .ok (.invokevirtual 85, 3) := by decide +kernel
theorem d_K_takeLog_156 : decode b_K_takeLog 156 = .ok (.aload_n 0, 1) := by decide +kernel
theorem d_K_takeLog_157 : decode b_K_takeLog 157 = .ok (.getfield 24, 3) := by decide +kernel
theorem d_K_takeLog_160 : decode b_K_takeLog 160 = .ok (.iload 9, 2) := by decide +kernel
theorem d_K_takeLog_162 : decode b_K_takeLog 162 = .ok (.invokestatic 89, 3) := by decide +kernel
theorem d_K_takeLog_165 : decode b_K_takeLog 165 = .ok (.i2l, 1) := by decide +kernel
theorem d_K_takeLog_166 : decode b_K_takeLog 166 = .ok (.invokevirtual 30, 3) := by decide +kernel
theorem d_K_takeLog_169 : decode b_K_takeLog 169 = .ok (.aload_n 0, 1) := by decide +kernel
theorem d_K_takeLog_170 : decode b_K_takeLog 170 = .ok (.getfield 12, 3) := by decide +kernel
theorem d_K_takeLog_173 : decode b_K_takeLog 173 = .ok (.aload_n 0, 1) := by decide +kernel
theorem d_K_takeLog_174 : decode b_K_takeLog 174 = .ok (.getfield 24, 3) := by decide +kernel
theorem d_K_takeLog_177 : decode b_K_takeLog 177 = .ok (.iload 9, 2) := by decide +kernel
theorem d_K_takeLog_179 : decode b_K_takeLog 179 = .ok (.ifCond .ge 7, 3) := by decide +kernel
theorem d_K_takeLog_182 : decode b_K_takeLog 182 = .ok (.iconst 1, 1) := by decide +kernel
theorem d_K_takeLog_183 : decode b_K_takeLog 183 = .ok (.goto 4, 3) := by decide +kernel
theorem d_K_takeLog_186 : decode b_K_takeLog 186 = .ok (.iconst 0, 1) := by decide +kernel
theorem d_K_takeLog_187 : decode b_K_takeLog 187 = .ok (.invokevirtual 54, 3) := by decide +kernel
theorem d_K_takeLog_190 : decode b_K_takeLog 190 = .ok (.return_, 1) := by decide +kernel
theorem d_K_swing_0 : decode b_K_swing 0 = .ok (.lload_n 1, 1) := by decide +kernel
theorem d_K_swing_1 : decode b_K_swing 1 = .ok (.ldc2_w 92, 3) := by decide +kernel
theorem d_K_swing_4 : decode b_K_swing 4 = .ok (.lmul, 1) := by decide +kernel
theorem d_K_swing_5 : decode b_K_swing 5 = .ok (.ldc2_w 94, 3) := by decide +kernel
theorem d_K_swing_8 : decode b_K_swing 8 = .ok (.ldiv, 1) := by decide +kernel
theorem d_K_swing_9 : decode b_K_swing 9 = .ok (.lstore 4, 2) := by decide +kernel
theorem d_K_swing_11 : decode b_K_swing 11 = .ok (.aload_n 0, 1) := by decide +kernel
theorem d_K_swing_12 : decode b_K_swing 12 = .ok (.getfield 12, 3) := by decide +kernel
theorem d_K_swing_15 : decode b_K_swing 15 = .ok (.lload_n 1, 1) := by decide +kernel
theorem d_K_swing_16 : decode b_K_swing 16 = .ok (.ldc2_w 96, 3) := by decide +kernel
theorem d_K_swing_19 : decode b_K_swing 19 = .ok (.invokevirtual 70, 3) := by decide +kernel
theorem d_K_swing_22 : decode b_K_swing 22 = .ok (.aload_n 0, 1) := by decide +kernel
theorem d_K_swing_23 : decode b_K_swing 23 = .ok (.getfield 24, 3) := by decide +kernel
theorem d_K_swing_26 : decode b_K_swing 26 = .ok (.getstatic 98, 3) := by decide +kernel
theorem d_K_swing_29 : decode b_K_swing 29 = .ok (.iconst 0, 1) := by decide +kernel
theorem d_K_swing_30 : decode b_K_swing 30 = .ok (.invokevirtual 85, 3) := by decide +kernel
theorem d_K_swing_33 : decode b_K_swing 33 = .ok (.aload_n 0, 1) := by decide +kernel
theorem d_K_swing_34 : decode b_K_swing 34 = .ok (.getfield 24, 3) := by decide +kernel
theorem d_K_swing_37 : decode b_K_swing 37 = .ok (.lload 4, 2) := by decide +kernel
theorem d_K_swing_39 : decode b_K_swing 39 = .ok (.invokevirtual 30, 3) := by decide +kernel
theorem d_K_swing_42 : decode b_K_swing 42 = .ok (.aload_n 0, 1) := by decide +kernel
theorem d_K_swing_43 : decode b_K_swing 43 = .ok (.getfield 12, 3) := by decide +kernel
theorem d_K_swing_46 : decode b_K_swing 46 = .ok (.aload_n 0, 1) := by decide +kernel
theorem d_K_swing_47 : decode b_K_swing 47 = .ok (.getfield 24, 3) := by decide +kernel
theorem d_K_swing_50 : decode b_K_swing 50 = .ok (.invokevirtual 101, 3) := by decide +kernel
theorem d_K_swing_53 : decode b_K_swing 53 = .ok (.aload_n 0, 1) := by decide +kernel
theorem d_K_swing_54 : decode b_K_swing 54 = .ok (.getfield 21, 3) := by decide +kernel
theorem d_K_swing_57 : decode b_K_swing 57 = .ok (.aload_n 0, 1) := by decide +kernel
theorem d_K_swing_58 : decode b_K_swing 58 = .ok (.getfield 12, 3) := by decide +kernel
theorem d_K_swing_61 : decode b_K_swing 61 = .ok (.invokevirtual 104, 3) := by decide +kernel
theorem d_K_swing_64 : decode b_K_swing 64 = .ok (.aload_n 0, 1) := by decide +kernel
theorem d_K_swing_65 : decode b_K_swing 65 = .ok (.getfield 21, 3) := by decide +kernel
theorem d_K_swing_68 : decode b_K_swing 68 = .ok (.aload_n 0, 1) := by decide +kernel
theorem d_K_swing_69 : decode b_K_swing 69 = .ok (.getfield 12, 3) := by decide +kernel
theorem d_K_swing_72 : decode b_K_swing 72 = .ok (.invokevirtual 58, 3) := by decide +kernel
theorem d_K_swing_75 : decode b_K_swing 75 = .ok (.lload 4, 2) := by decide +kernel
theorem d_K_swing_77 : decode b_K_swing 77 = .ok (.iload_n 3, 1) := by decide +kernel
theorem d_K_swing_78 : decode b_K_swing 78 = .ok (.i2l, 1) := by decide +kernel
theorem d_K_swing_79 : decode b_K_swing 79 = .ok (.ladd, 1) := by decide +kernel
theorem d_K_swing_80 : decode b_K_swing 80 = .ok (.ldc2_w 107, 3) := by decide +kernel
theorem d_K_swing_83 : decode b_K_swing 83 = .ok (.land, 1) := by decide +kernel
theorem d_K_swing_84 : decode b_K_swing 84 = .ok (.l2i, 1) := by decide +kernel
theorem d_K_swing_85 : decode b_K_swing 85 = .ok (.istore 6, 2) := by decide +kernel
theorem d_K_swing_87 : decode b_K_swing 87 = .ok (.iload 6, 2) := by decide +kernel
theorem d_K_swing_89 : decode b_K_swing 89 = .ok (.iconst 1, 1) := by decide +kernel
theorem d_K_swing_90 : decode b_K_swing 90 = .ok (.iand, 1) := by decide +kernel
theorem d_K_swing_91 : decode b_K_swing 91 = .ok (.iconst 1, 1) := by decide +kernel
theorem d_K_swing_92 : decode b_K_swing 92 = .ok (.if_icmp .ne 7, 3) := by decide +kernel
theorem d_K_swing_95 : decode b_K_swing 95 = .ok (.iconst 1, 1) := by decide +kernel
theorem d_K_swing_96 : decode b_K_swing 96 = .ok (.goto 4, 3) := by decide +kernel
theorem d_K_swing_99 : decode b_K_swing 99 = .ok (.iconst 0, 1) := by decide +kernel
theorem d_K_swing_100 : decode b_K_swing 100 = .ok (.istore 7, 2) := by decide +kernel
theorem d_K_swing_102 : decode b_K_swing 102 = .ok (.iload 7, 2) := by decide +kernel
theorem d_K_swing_104 : decode b_K_swing 104 = .ok (.ifCond .eq 11, 3) := by decide +kernel
theorem d_K_swing_107 : decode b_K_swing 107 = .ok (.aload_n 0, 1) := by decide +kernel
theorem d_K_swing_108 : decode b_K_swing 108 = .ok (.getfield 12, 3) := by decide +kernel
theorem d_K_swing_111 : decode b_K_swing 111 = .ok (.lconst 1, 1) := by decide +kernel
theorem d_K_swing_112 : decode b_K_swing 112 = .ok (.invokevirtual 44, 3) := by decide +kernel
theorem d_K_swing_115 : decode b_K_swing 115 = .ok (.aload_n 0, 1) := by decide +kernel
theorem d_K_swing_116 : decode b_K_swing 116 = .ok (.iload 7, 2) := by decide +kernel
theorem d_K_swing_118 : decode b_K_swing 118 = .ok (.ifCond .eq 7, 3) := by decide +kernel
theorem d_K_swing_121 : decode b_K_swing 121 = .ok (.iconst 1, 1) := by decide +kernel
theorem d_K_swing_122 : decode b_K_swing 122 = .ok (.goto 4, 3) := by decide +kernel
theorem d_K_swing_125 : decode b_K_swing 125 = .ok (.iconst 2, 1) := by decide +kernel
theorem d_K_swing_126 : decode b_K_swing 126 = .ok (.invokevirtual 109, 3) := by decide +kernel
theorem d_K_swing_129 : decode b_K_swing 129 = .ok (.iload 6, 2) := by decide +kernel
theorem d_K_swing_131 : decode b_K_swing 131 = .ok (.iconst 2, 1) := by decide +kernel
theorem d_K_swing_132 : decode b_K_swing 132 = .ok (.if_icmp .lt 10, 3) := by decide +kernel
theorem d_K_swing_135 : decode b_K_swing 135 = .ok (.aload_n 0, 1) := by decide +kernel
theorem d_K_swing_136 : decode b_K_swing 136 = .ok (.getfield 12, 3) := by decide +kernel
theorem d_K_swing_139 : decode b_K_swing 139 = .ok (.invokevirtual 78, 3) := by decide +kernel
theorem d_K_swing_142 : decode b_K_swing 142 = .ok (.return_, 1) := by decide +kernel
theorem d_K_pointTo_0 : decode b_K_pointTo 0 = .ok (.iload_n 1, 1) := by decide +kernel
theorem d_K_pointTo_1 : decode b_K_pointTo 1 = .ok (.i2l, 1) := by decide +kernel
theorem d_K_pointTo_2 : decode b_K_pointTo 2 = .ok (.invokestatic 38, 3) := by decide +kernel
theorem d_K_pointTo_5 : decode b_K_pointTo 5 = .ok (.lstore_n 3, 1) := by decide +kernel
theorem d_K_pointTo_6 : decode b_K_pointTo 6 = .ok (.iload_n 2, 1) := by decide +kernel
theorem d_K_pointTo_7 : decode b_K_pointTo 7 = .ok (.i2l, 1) := by decide +kernel
theorem d_K_pointTo_8 : decode b_K_pointTo 8 = .ok (.invokestatic 38, 3) := by decide +kernel
theorem d_K_pointTo_11 : decode b_K_pointTo 11 = .ok (.lstore 5, 2) := by decide +kernel
theorem d_K_pointTo_13 : decode b_K_pointTo 13 = .ok (.aload_n 0, 1) := by decide +kernel
theorem d_K_pointTo_14 : decode b_K_pointTo 14 = .ok (.lload_n 3, 1) := by decide +kernel
theorem d_K_pointTo_15 : decode b_K_pointTo 15 = .ok (.lload 5, 2) := by decide +kernel
theorem d_K_pointTo_17 : decode b_K_pointTo 17 = .ok (.invokestatic 113, 3) := by decide +kernel
theorem d_K_pointTo_20 : decode b_K_pointTo 20 = .ok (.lload_n 3, 1) := by decide +kernel
theorem d_K_pointTo_21 : decode b_K_pointTo 21 = .ok (.lload 5, 2) := by decide +kernel
theorem d_K_pointTo_23 : decode b_K_pointTo 23 = .ok (.invokestatic 117, 3) := by decide +kernel
theorem d_K_pointTo_26 : decode b_K_pointTo 26 = .ok (.invokevirtual 120, 3) := by decide +kernel
theorem d_K_pointTo_29 : decode b_K_pointTo 29 = .ok (.lload_n 3, 1) := by decide +kernel
theorem d_K_pointTo_30 : decode b_K_pointTo 30 = .ok (.lload 5, 2) := by decide +kernel
theorem d_K_pointTo_32 : decode b_K_pointTo 32 = .ok (.lcmp, 1) := by decide +kernel
theorem d_K_pointTo_33 : decode b_K_pointTo 33 = .ok (.ifCond .le 32, 3) := by decide +kernel
theorem d_K_pointTo_36 : decode b_K_pointTo 36 = .ok (.aload_n 0, 1) := by decide +kernel
theorem d_K_pointTo_37 : decode b_K_pointTo 37 = .ok (.getfield 12, 3) := by decide +kernel
theorem d_K_pointTo_40 : decode b_K_pointTo 40 = .ok (.invokevirtual 78, 3) := by decide +kernel
theorem d_K_pointTo_43 : decode b_K_pointTo 43 = .ok (.aload_n 0, 1) := by decide +kernel
theorem d_K_pointTo_44 : decode b_K_pointTo 44 = .ok (.getfield 24, 3) := by decide +kernel
theorem d_K_pointTo_47 : decode b_K_pointTo 47 = .ok (.getstatic 98, 3) := by decide +kernel
theorem d_K_pointTo_50 : decode b_K_pointTo 50 = .ok (.iconst 0, 1) := by decide +kernel
theorem d_K_pointTo_51 : decode b_K_pointTo 51 = .ok (.invokevirtual 85, 3) := by decide +kernel
theorem d_K_pointTo_54 : decode b_K_pointTo 54 = .ok (.aload_n 0, 1) := by decide +kernel
theorem d_K_pointTo_55 : decode b_K_pointTo 55 = .ok (.getfield 12, 3) := by decide +kernel
theorem d_K_pointTo_58 : decode b_K_pointTo 58 = .ok (.aload_n 0, 1) := by decide +kernel
theorem d_K_pointTo_59 : decode b_K_pointTo 59 = .ok (.getfield 24, 3) := by decide +kernel
theorem d_K_pointTo_62 : decode b_K_pointTo 62 = .ok (.invokevirtual 123, 3) := by decide +kernel
theorem d_K_pointTo_65 : decode b_K_pointTo 65 = .ok (.iload_n 2, 1) := by decide +kernel
theorem d_K_pointTo_66 : decode b_K_pointTo 66 = .ok (.ifCond .ge 42, 3) := by decide +kernel
theorem d_K_pointTo_69 : decode b_K_pointTo 69 = .ok (.aload_n 0, 1) := by decide +kernel
theorem d_K_pointTo_70 : decode b_K_pointTo 70 = .ok (.getfield 12, 3) := by decide +kernel
theorem d_K_pointTo_73 : decode b_K_pointTo 73 = .ok (.invokevirtual 78, 3) := by decide +kernel
theorem d_K_pointTo_76 : decode b_K_pointTo 76 = .ok (.aload_n 0, 1) := by decide +kernel
theorem d_K_pointTo_77 : decode b_K_pointTo 77 = .ok (.getfield 24, 3) := by decide +kernel
theorem d_K_pointTo_80 : decode b_K_pointTo 80 = .ok (.getstatic 98, 3) := by decide +kernel
theorem d_K_pointTo_83 : decode b_K_pointTo 83 = .ok (.iconst 0, 1) := by decide +kernel
theorem d_K_pointTo_84 : decode b_K_pointTo 84 = .ok (.invokevirtual 85, 3) := by decide +kernel
theorem d_K_pointTo_87 : decode b_K_pointTo 87 = .ok (.aload_n 0, 1) := by decide +kernel
theorem d_K_pointTo_88 : decode b_K_pointTo 88 = .ok (.getfield 24, 3) := by decide +kernel
theorem d_K_pointTo_91 : decode b_K_pointTo 91 = .ok (.ldc2_w 66, 3) := by decide +kernel
theorem d_K_pointTo_94 : decode b_K_pointTo 94 = .ok (.invokevirtual 30, 3) := by decide +kernel
theorem d_K_pointTo_97 : decode b_K_pointTo 97 = .ok (.aload_n 0, 1) := by decide +kernel
theorem d_K_pointTo_98 : decode b_K_pointTo 98 = .ok (.getfield 12, 3) := by decide +kernel
theorem d_K_pointTo_101 : decode b_K_pointTo 101 = .ok (.aload_n 0, 1) := by decide +kernel
theorem d_K_pointTo_102 : decode b_K_pointTo 102 = .ok (.getfield 24, 3) := by decide +kernel
theorem d_K_pointTo_105 : decode b_K_pointTo 105 = .ok (.invokevirtual 123, 3) := by decide +kernel
theorem d_K_pointTo_108 : decode b_K_pointTo 108 = .ok (.iload_n 1, 1) := by decide +kernel
theorem d_K_pointTo_109 : decode b_K_pointTo 109 = .ok (.ifCond .ge 10, 3) := by decide +kernel
theorem d_K_pointTo_112 : decode b_K_pointTo 112 = .ok (.aload_n 0, 1) := by decide +kernel
theorem d_K_pointTo_113 : decode b_K_pointTo 113 = .ok (.getfield 12, 3) := by decide +kernel
theorem d_K_pointTo_116 : decode b_K_pointTo 116 = .ok (.invokevirtual 78, 3) := by decide +kernel
theorem d_K_pointTo_119 : decode b_K_pointTo 119 = .ok (.return_, 1) := by decide +kernel
theorem d_K_floorOfRoot_0 : decode b_K_floorOfRoot 0 = .ok (.aload_n 0, 1) := by decide +kernel
theorem d_K_floorOfRoot_1 : decode b_K_floorOfRoot 1 = .ok (.getfield 27, 3) := by decide +kernel
theorem d_K_floorOfRoot_4 : decode b_K_floorOfRoot 4 = .ok (.lload_n 1, 1) := by decide +kernel
theorem d_K_floorOfRoot_5 : decode b_K_floorOfRoot 5 = .ok (.invokevirtual 126, 3) := by decide +kernel
theorem d_K_floorOfRoot_8 : decode b_K_floorOfRoot 8 = .ok (.iconst 1, 1) := by decide +kernel
theorem d_K_floorOfRoot_9 : decode b_K_floorOfRoot 9 = .ok (.istore 4, 2) := by decide +kernel
theorem d_K_floorOfRoot_11 : decode b_K_floorOfRoot 11 = .ok (.iload 4, 2) := by decide +kernel
theorem d_K_floorOfRoot_13 : decode b_K_floorOfRoot 13 = .ok (.iload_n 3, 1) := by decide +kernel
theorem d_K_floorOfRoot_14 : decode b_K_floorOfRoot 14 = .ok (.if_icmp .ge 19, 3) := by decide +kernel
theorem d_K_floorOfRoot_17 : decode b_K_floorOfRoot 17 = .ok (.aload_n 0, 1) := by decide +kernel
theorem d_K_floorOfRoot_18 : decode b_K_floorOfRoot 18 = .ok (.getfield 27, 3) := by decide +kernel
theorem d_K_floorOfRoot_21 : decode b_K_floorOfRoot 21 = .ok (.ldc2_w 129, 3) := by decide +kernel
theorem d_K_floorOfRoot_24 : decode b_K_floorOfRoot 24 = .ok (.invokevirtual 30, 3) := by decide +kernel
theorem d_K_floorOfRoot_27 : decode b_K_floorOfRoot 27 = .ok (.iinc 4 1, 3) := by decide +kernel
theorem d_K_floorOfRoot_30 : decode b_K_floorOfRoot 30 = .ok (.goto (-19), 3) := by decide +kernel
theorem d_K_floorOfRoot_33 : decode b_K_floorOfRoot 33 = .ok (.aload_n 0, 1) := by decide +kernel
theorem d_K_floorOfRoot_34 : decode b_K_floorOfRoot 34 = .ok (.getfield 27, 3) := by decide +kernel
theorem d_K_floorOfRoot_37 : decode b_K_floorOfRoot 37 = .ok (.ldc2_w 131, 3) := by decide +kernel
theorem d_K_floorOfRoot_40 : decode b_K_floorOfRoot 40 = .ok (.invokevirtual 30, 3) := by decide +kernel
theorem d_K_floorOfRoot_43 : decode b_K_floorOfRoot 43 = .ok (.lconst 0, 1) := by decide +kernel
theorem d_K_floorOfRoot_44 : decode b_K_floorOfRoot 44 = .ok (.lstore 4, 2) := by decide +kernel
theorem d_K_floorOfRoot_46 : decode b_K_floorOfRoot 46 = .ok (.bipush 39, 2) := by decide +kernel
theorem d_K_floorOfRoot_48 : decode b_K_floorOfRoot 48 = .ok (.istore 6, 2) := by decide +kernel
theorem d_K_floorOfRoot_50 : decode b_K_floorOfRoot 50 = .ok (.iload 6, 2) := by decide +kernel
theorem d_K_floorOfRoot_52 : decode b_K_floorOfRoot 52 = .ok (.ifCond .lt 32, 3) := by decide +kernel
theorem d_K_floorOfRoot_55 : decode b_K_floorOfRoot 55 = .ok (.lload 4, 2) := by decide +kernel
theorem d_K_floorOfRoot_57 : decode b_K_floorOfRoot 57 = .ok (.lconst 1, 1) := by decide +kernel
theorem d_K_floorOfRoot_58 : decode b_K_floorOfRoot 58 = .ok (.iload 6, 2) := by decide +kernel
theorem d_K_floorOfRoot_60 : decode b_K_floorOfRoot 60 = .ok (.lshl, 1) := by decide +kernel
theorem d_K_floorOfRoot_61 : decode b_K_floorOfRoot 61 = .ok (.lor, 1) := by decide +kernel
theorem d_K_floorOfRoot_62 : decode b_K_floorOfRoot 62 = .ok (.lstore 7, 2) := by decide +kernel
theorem d_K_floorOfRoot_64 : decode b_K_floorOfRoot 64 = .ok (.aload_n 0, 1) := by decide +kernel
theorem d_K_floorOfRoot_65 : decode b_K_floorOfRoot 65 = .ok (.lload 7, 2) := by decide +kernel
theorem d_K_floorOfRoot_67 : decode b_K_floorOfRoot 67 = .ok (.iload_n 3, 1) := by decide +kernel
theorem d_K_floorOfRoot_68 : decode b_K_floorOfRoot 68 = .ok (.invokevirtual 133, 3) := by decide +kernel
theorem d_K_floorOfRoot_71 : decode b_K_floorOfRoot 71 = .ok (.ifCond .eq 7, 3) := by decide +kernel
theorem d_K_floorOfRoot_74 : decode b_K_floorOfRoot 74 = .ok (.lload 7, 2) := by decide +kernel
theorem d_K_floorOfRoot_76 : decode b_K_floorOfRoot 76 = .ok (.lstore 4, 2) := by decide +kernel
theorem d_K_floorOfRoot_78 : decode b_K_floorOfRoot 78 = .ok (.iinc 6 (-1), 3) := by decide +kernel
theorem d_K_floorOfRoot_81 : decode b_K_floorOfRoot 81 = .ok (.goto (-31), 3) := by decide +kernel
theorem d_K_floorOfRoot_84 : decode b_K_floorOfRoot 84 = .ok (.lload 4, 2) := by decide +kernel
theorem d_K_floorOfRoot_86 : decode b_K_floorOfRoot 86 = .ok (.lreturn, 1) := by decide +kernel
theorem d_K_keepLog_0 : decode b_K_keepLog 0 = .ok (.aload_n 0, 1) := by decide +kernel
theorem d_K_keepLog_1 : decode b_K_keepLog 1 = .ok (.getfield 27, 3) := by decide +kernel
theorem d_K_keepLog_4 : decode b_K_keepLog 4 = .ok (.aload_n 0, 1) := by decide +kernel
theorem d_K_keepLog_5 : decode b_K_keepLog 5 = .ok (.getfield 12, 3) := by decide +kernel
theorem d_K_keepLog_8 : decode b_K_keepLog 8 = .ok (.invokevirtual 104, 3) := by decide +kernel
theorem d_K_keepLog_11 : decode b_K_keepLog 11 = .ok (.return_, 1) := by decide +kernel
theorem d_K_isRatioBelowKept_0 : decode b_K_isRatioBelowKept 0 = .ok (.aload_n 0, 1) := by decide +kernel
theorem d_K_isRatioBelowKept_1 : decode b_K_isRatioBelowKept 1 = .ok (.getfield 18, 3) := by decide +kernel
theorem d_K_isRatioBelowKept_4 : decode b_K_isRatioBelowKept 4 = .ok (.aload_n 0, 1) := by decide +kernel
theorem d_K_isRatioBelowKept_5 : decode b_K_isRatioBelowKept 5 = .ok (.getfield 27, 3) := by decide +kernel
theorem d_K_isRatioBelowKept_8 : decode b_K_isRatioBelowKept 8 = .ok (.invokevirtual 104, 3) := by decide +kernel
theorem d_K_isRatioBelowKept_11 : decode b_K_isRatioBelowKept 11 = .ok (.aload_n 0, 1) := by decide +kernel
theorem d_K_isRatioBelowKept_12 : decode b_K_isRatioBelowKept 12 = .ok (.getfield 18, 3) := by decide +kernel
theorem d_K_isRatioBelowKept_15 : decode b_K_isRatioBelowKept 15 = .ok (.lload_n 3, 1) := by decide +kernel
theorem d_K_isRatioBelowKept_16 : decode b_K_isRatioBelowKept 16 = .ok (.invokevirtual 30, 3) := by decide +kernel
theorem d_K_isRatioBelowKept_19 : decode b_K_isRatioBelowKept 19 = .ok (.aload_n 0, 1) := by decide +kernel
theorem d_K_isRatioBelowKept_20 : decode b_K_isRatioBelowKept 20 = .ok (.getfield 24, 3) := by decide +kernel
theorem d_K_isRatioBelowKept_23 : decode b_K_isRatioBelowKept 23 = .ok (.lload_n 1, 1) := by decide +kernel
theorem d_K_isRatioBelowKept_24 : decode b_K_isRatioBelowKept 24 = .ok (.invokevirtual 44, 3) := by decide +kernel
theorem d_K_isRatioBelowKept_27 : decode b_K_isRatioBelowKept 27 = .ok (.aload_n 0, 1) := by decide +kernel
theorem d_K_isRatioBelowKept_28 : decode b_K_isRatioBelowKept 28 = .ok (.getfield 18, 3) := by decide +kernel
theorem d_K_isRatioBelowKept_31 : decode b_K_isRatioBelowKept 31 = .ok (.aload_n 0, 1) := by decide +kernel
theorem d_K_isRatioBelowKept_32 : decode b_K_isRatioBelowKept 32 = .ok (.getfield 24, 3) := by decide +kernel
theorem d_K_isRatioBelowKept_35 : decode b_K_isRatioBelowKept 35 = .ok (.invokevirtual 101, 3) := by decide +kernel
theorem d_K_isRatioBelowKept_38 : decode b_K_isRatioBelowKept 38 = .ok (.aload_n 0, 1) := by decide +kernel
theorem d_K_isRatioBelowKept_39 : decode b_K_isRatioBelowKept 39 = .ok (.getfield 18, 3) := by decide +kernel
theorem d_K_isRatioBelowKept_42 : decode b_K_isRatioBelowKept 42 = .ok (.invokevirtual 137, 3) := by decide +kernel
theorem d_K_isRatioBelowKept_45 : decode b_K_isRatioBelowKept 45 = .ok (.ifCond .ne 17, 3) := by decide +kernel
theorem d_K_isRatioBelowKept_48 : decode b_K_isRatioBelowKept 48 = .ok (.aload_n 0, 1) := by decide +kernel
theorem d_K_isRatioBelowKept_49 : decode b_K_isRatioBelowKept 49 = .ok (.getfield 18, 3) := by decide +kernel
theorem d_K_isRatioBelowKept_52 : decode b_K_isRatioBelowKept 52 = .ok (.invokevirtual 47, 3) := by decide +kernel
theorem d_K_isRatioBelowKept_55 : decode b_K_isRatioBelowKept 55 = .ok (.ifCond .ne 7, 3) := by decide +kernel
theorem d_K_isRatioBelowKept_58 : decode b_K_isRatioBelowKept 58 = .ok (.iconst 1, 1) := by decide +kernel
theorem d_K_isRatioBelowKept_59 : decode b_K_isRatioBelowKept 59 = .ok (.goto 4, 3) := by decide +kernel
theorem d_K_isRatioBelowKept_62 : decode b_K_isRatioBelowKept 62 = .ok (.iconst 0, 1) := by decide +kernel
theorem d_K_isRatioBelowKept_63 : decode b_K_isRatioBelowKept 63 = .ok (.ireturn, 1) := by decide +kernel
theorem d_K_isPowerWithinKept_0 : decode b_K_isPowerWithinKept 0 = .ok (.aload_n 0, 1) := by decide +kernel
theorem d_K_isPowerWithinKept_1 : decode b_K_isPowerWithinKept 1 = .ok (.getfield 21, 3) := by decide +kernel
theorem d_K_isPowerWithinKept_4 : decode b_K_isPowerWithinKept 4 = .ok (.lload_n 1, 1) := by decide +kernel
theorem d_K_isPowerWithinKept_5 : decode b_K_isPowerWithinKept 5 = .ok (.invokevirtual 126, 3) := by decide +kernel
theorem d_K_isPowerWithinKept_8 : decode b_K_isPowerWithinKept 8 = .ok (.aload_n 0, 1) := by decide +kernel
theorem d_K_isPowerWithinKept_9 : decode b_K_isPowerWithinKept 9 = .ok (.getfield 12, 3) := by decide +kernel
theorem d_K_isPowerWithinKept_12 : decode b_K_isPowerWithinKept 12 = .ok (.lload_n 1, 1) := by decide +kernel
theorem d_K_isPowerWithinKept_13 : decode b_K_isPowerWithinKept 13 = .ok (.invokevirtual 126, 3) := by decide +kernel
theorem d_K_isPowerWithinKept_16 : decode b_K_isPowerWithinKept 16 = .ok (.iconst 1, 1) := by decide +kernel
theorem d_K_isPowerWithinKept_17 : decode b_K_isPowerWithinKept 17 = .ok (.istore 4, 2) := by decide +kernel
theorem d_K_isPowerWithinKept_19 : decode b_K_isPowerWithinKept 19 = .ok (.iload 4, 2) := by decide +kernel
theorem d_K_isPowerWithinKept_21 : decode b_K_isPowerWithinKept 21 = .ok (.iload_n 3, 1) := by decide +kernel
theorem d_K_isPowerWithinKept_22 : decode b_K_isPowerWithinKept 22 = .ok (.if_icmp .ge 20, 3) := by decide +kernel
theorem d_K_isPowerWithinKept_25 : decode b_K_isPowerWithinKept 25 = .ok (.aload_n 0, 1) := by decide +kernel
theorem d_K_isPowerWithinKept_26 : decode b_K_isPowerWithinKept 26 = .ok (.getfield 12, 3) := by decide +kernel
theorem d_K_isPowerWithinKept_29 : decode b_K_isPowerWithinKept 29 = .ok (.aload_n 0, 1) := by decide +kernel
theorem d_K_isPowerWithinKept_30 : decode b_K_isPowerWithinKept 30 = .ok (.getfield 21, 3) := by decide +kernel
theorem d_K_isPowerWithinKept_33 : decode b_K_isPowerWithinKept 33 = .ok (.invokevirtual 140, 3) := by decide +kernel
theorem d_K_isPowerWithinKept_36 : decode b_K_isPowerWithinKept 36 = .ok (.iinc 4 1, 3) := by decide +kernel
theorem d_K_isPowerWithinKept_39 : decode b_K_isPowerWithinKept 39 = .ok (.goto (-20), 3) := by decide +kernel
theorem d_K_isPowerWithinKept_42 : decode b_K_isPowerWithinKept 42 = .ok (.aload_n 0, 1) := by decide +kernel
theorem d_K_isPowerWithinKept_43 : decode b_K_isPowerWithinKept 43 = .ok (.getfield 12, 3) := by decide +kernel
theorem d_K_isPowerWithinKept_46 : decode b_K_isPowerWithinKept 46 = .ok (.aload_n 0, 1) := by decide +kernel
theorem d_K_isPowerWithinKept_47 : decode b_K_isPowerWithinKept 47 = .ok (.getfield 27, 3) := by decide +kernel
theorem d_K_isPowerWithinKept_50 : decode b_K_isPowerWithinKept 50 = .ok (.invokevirtual 143, 3) := by decide +kernel
theorem d_K_isPowerWithinKept_53 : decode b_K_isPowerWithinKept 53 = .ok (.ifCond .ne 7, 3) := by decide +kernel
theorem d_K_isPowerWithinKept_56 : decode b_K_isPowerWithinKept 56 = .ok (.iconst 1, 1) := by decide +kernel
theorem d_K_isPowerWithinKept_57 : decode b_K_isPowerWithinKept 57 = .ok (.goto 4, 3) := by decide +kernel
theorem d_K_isPowerWithinKept_60 : decode b_K_isPowerWithinKept 60 = .ok (.iconst 0, 1) := by decide +kernel
theorem d_K_isPowerWithinKept_61 : decode b_K_isPowerWithinKept 61 = .ok (.ireturn, 1) := by decide +kernel
theorem d_K_setFlatAngle_0 : decode b_K_setFlatAngle 0 = .ok (.lload_n 3, 1) := by decide +kernel
theorem d_K_setFlatAngle_1 : decode b_K_setFlatAngle 1 = .ok (.lconst 0, 1) := by decide +kernel
theorem d_K_setFlatAngle_2 : decode b_K_setFlatAngle 2 = .ok (.lcmp, 1) := by decide +kernel
theorem d_K_setFlatAngle_3 : decode b_K_setFlatAngle 3 = .ok (.ifCond .gt 12, 3) := by decide +kernel
theorem d_K_setFlatAngle_6 : decode b_K_setFlatAngle 6 = .ok (.aload_n 0, 1) := by decide +kernel
theorem d_K_setFlatAngle_7 : decode b_K_setFlatAngle 7 = .ok (.getfield 12, 3) := by decide +kernel
theorem d_K_setFlatAngle_10 : decode b_K_setFlatAngle 10 = .ok (.lconst 0, 1) := by decide +kernel
theorem d_K_setFlatAngle_11 : decode b_K_setFlatAngle 11 = .ok (.invokevirtual 44, 3) := by decide +kernel
theorem d_K_setFlatAngle_14 : decode b_K_setFlatAngle 14 = .ok (.return_, 1) := by decide +kernel
theorem d_K_setFlatAngle_15 : decode b_K_setFlatAngle 15 = .ok (.ldc2_w 147, 3) := by decide +kernel
theorem d_K_setFlatAngle_18 : decode b_K_setFlatAngle 18 = .ok (.lload_n 1, 1) := by decide +kernel
theorem d_K_setFlatAngle_19 : decode b_K_setFlatAngle 19 = .ok (.lmul, 1) := by decide +kernel
theorem d_K_setFlatAngle_20 : decode b_K_setFlatAngle 20 = .ok (.lload_n 3, 1) := by decide +kernel
theorem d_K_setFlatAngle_21 : decode b_K_setFlatAngle 21 = .ok (.ladd, 1) := by decide +kernel
theorem d_K_setFlatAngle_22 : decode b_K_setFlatAngle 22 = .ok (.ldc2_w 66, 3) := by decide +kernel
theorem d_K_setFlatAngle_25 : decode b_K_setFlatAngle 25 = .ok (.lload_n 3, 1) := by decide +kernel
theorem d_K_setFlatAngle_26 : decode b_K_setFlatAngle 26 = .ok (.lmul, 1) := by decide +kernel
theorem d_K_setFlatAngle_27 : decode b_K_setFlatAngle 27 = .ok (.ldiv, 1) := by decide +kernel
theorem d_K_setFlatAngle_28 : decode b_K_setFlatAngle 28 = .ok (.lstore 5, 2) := by decide +kernel
theorem d_K_setFlatAngle_30 : decode b_K_setFlatAngle 30 = .ok (.ldc2_w 149, 3) := by decide +kernel
theorem d_K_setFlatAngle_33 : decode b_K_setFlatAngle 33 = .ok (.lload_n 1, 1) := by decide +kernel
theorem d_K_setFlatAngle_34 : decode b_K_setFlatAngle 34 = .ok (.lmul, 1) := by decide +kernel
theorem d_K_setFlatAngle_35 : decode b_K_setFlatAngle 35 = .ok (.lload 5, 2) := by decide +kernel
theorem d_K_setFlatAngle_37 : decode b_K_setFlatAngle 37 = .ok (.lload_n 3, 1) := by decide +kernel
theorem d_K_setFlatAngle_38 : decode b_K_setFlatAngle 38 = .ok (.lmul, 1) := by decide +kernel
theorem d_K_setFlatAngle_39 : decode b_K_setFlatAngle 39 = .ok (.lsub, 1) := by decide +kernel
theorem d_K_setFlatAngle_40 : decode b_K_setFlatAngle 40 = .ok (.lstore 7, 2) := by decide +kernel
theorem d_K_setFlatAngle_42 : decode b_K_setFlatAngle 42 = .ok (.ldc2_w 149, 3) := by decide +kernel
theorem d_K_setFlatAngle_45 : decode b_K_setFlatAngle 45 = .ok (.lload_n 3, 1) := by decide +kernel
theorem d_K_setFlatAngle_46 : decode b_K_setFlatAngle 46 = .ok (.lmul, 1) := by decide +kernel
theorem d_K_setFlatAngle_47 : decode b_K_setFlatAngle 47 = .ok (.lload 5, 2) := by decide +kernel
theorem d_K_setFlatAngle_49 : decode b_K_setFlatAngle 49 = .ok (.lload_n 1, 1) := by decide +kernel
theorem d_K_setFlatAngle_50 : decode b_K_setFlatAngle 50 = .ok (.lmul, 1) := by decide +kernel
theorem d_K_setFlatAngle_51 : decode b_K_setFlatAngle 51 = .ok (.ladd, 1) := by decide +kernel
theorem d_K_setFlatAngle_52 : decode b_K_setFlatAngle 52 = .ok (.lstore 9, 2) := by decide +kernel
theorem d_K_setFlatAngle_54 : decode b_K_setFlatAngle 54 = .ok (.aload_n 0, 1) := by decide +kernel
theorem d_K_setFlatAngle_55 : decode b_K_setFlatAngle 55 = .ok (.getfield 12, 3) := by decide +kernel
theorem d_K_setFlatAngle_58 : decode b_K_setFlatAngle 58 = .ok (.lload 7, 2) := by decide +kernel
theorem d_K_setFlatAngle_60 : decode b_K_setFlatAngle 60 = .ok (.invokestatic 38, 3) := by decide +kernel
theorem d_K_setFlatAngle_63 : decode b_K_setFlatAngle 63 = .ok (.lload 9, 2) := by decide +kernel
theorem d_K_setFlatAngle_65 : decode b_K_setFlatAngle 65 = .ok (.invokevirtual 70, 3) := by decide +kernel
theorem d_K_setFlatAngle_68 : decode b_K_setFlatAngle 68 = .ok (.aload_n 0, 1) := by decide +kernel
theorem d_K_setFlatAngle_69 : decode b_K_setFlatAngle 69 = .ok (.iconst 1, 1) := by decide +kernel
theorem d_K_setFlatAngle_70 : decode b_K_setFlatAngle 70 = .ok (.invokevirtual 74, 3) := by decide +kernel
theorem d_K_setFlatAngle_73 : decode b_K_setFlatAngle 73 = .ok (.lload 7, 2) := by decide +kernel
theorem d_K_setFlatAngle_75 : decode b_K_setFlatAngle 75 = .ok (.lconst 0, 1) := by decide +kernel
theorem d_K_setFlatAngle_76 : decode b_K_setFlatAngle 76 = .ok (.lcmp, 1) := by decide +kernel
theorem d_K_setFlatAngle_77 : decode b_K_setFlatAngle 77 = .ok (.ifCond .ge 10, 3) := by decide +kernel
theorem d_K_setFlatAngle_80 : decode b_K_setFlatAngle 80 = .ok (.aload_n 0, 1) := by decide +kernel
theorem d_K_setFlatAngle_81 : decode b_K_setFlatAngle 81 = .ok (.getfield 12, 3) := by decide +kernel
theorem d_K_setFlatAngle_84 : decode b_K_setFlatAngle 84 = .ok (.invokevirtual 78, 3) := by decide +kernel
theorem d_K_setFlatAngle_87 : decode b_K_setFlatAngle 87 = .ok (.aload_n 0, 1) := by decide +kernel
theorem d_K_setFlatAngle_88 : decode b_K_setFlatAngle 88 = .ok (.getfield 24, 3) := by decide +kernel
theorem d_K_setFlatAngle_91 : decode b_K_setFlatAngle 91 = .ok (.getstatic 151, 3) := by decide +kernel
theorem d_K_setFlatAngle_94 : decode b_K_setFlatAngle 94 = .ok (.lload 5, 2) := by decide +kernel
theorem d_K_setFlatAngle_96 : decode b_K_setFlatAngle 96 = .ok (.l2i, 1) := by decide +kernel
theorem d_K_setFlatAngle_97 : decode b_K_setFlatAngle 97 = .ok (.bipush 7, 2) := by decide +kernel
theorem d_K_setFlatAngle_99 : decode b_K_setFlatAngle 99 = .ok (.imul, 1) := by decide +kernel
theorem d_K_setFlatAngle_100 : decode b_K_setFlatAngle 100 = .ok (.invokevirtual 85, 3) := by decide +kernel
theorem d_K_setFlatAngle_103 : decode b_K_setFlatAngle 103 = .ok (.aload_n 0, 1) := by decide +kernel
theorem d_K_setFlatAngle_104 : decode b_K_setFlatAngle 104 = .ok (.getfield 12, 3) := by decide +kernel
theorem d_K_setFlatAngle_107 : decode b_K_setFlatAngle 107 = .ok (.aload_n 0, 1) := by decide +kernel
theorem d_K_setFlatAngle_108 : decode b_K_setFlatAngle 108 = .ok (.getfield 24, 3) := by decide +kernel
theorem d_K_setFlatAngle_111 : decode b_K_setFlatAngle 111 = .ok (.invokevirtual 123, 3) := by decide +kernel
theorem d_K_setFlatAngle_114 : decode b_K_setFlatAngle 114 = .ok (.return_, 1) := by decide +kernel
theorem d_K_sumOddPowers_0 : decode b_K_sumOddPowers 0 = .ok (.aload_n 0, 1) := by decide +kernel
theorem d_K_sumOddPowers_1 : decode b_K_sumOddPowers 1 = .ok (.getfield 18, 3) := by decide +kernel
theorem d_K_sumOddPowers_4 : decode b_K_sumOddPowers 4 = .ok (.aload_n 0, 1) := by decide +kernel
theorem d_K_sumOddPowers_5 : decode b_K_sumOddPowers 5 = .ok (.getfield 12, 3) := by decide +kernel
theorem d_K_sumOddPowers_8 : decode b_K_sumOddPowers 8 = .ok (.invokevirtual 104, 3) := by decide +kernel
theorem d_K_sumOddPowers_11 : decode b_K_sumOddPowers 11 = .ok (.aload_n 0, 1) := by decide +kernel
theorem d_K_sumOddPowers_12 : decode b_K_sumOddPowers 12 = .ok (.getfield 21, 3) := by decide +kernel
theorem d_K_sumOddPowers_15 : decode b_K_sumOddPowers 15 = .ok (.aload_n 0, 1) := by decide +kernel
theorem d_K_sumOddPowers_16 : decode b_K_sumOddPowers 16 = .ok (.getfield 12, 3) := by decide +kernel
theorem d_K_sumOddPowers_19 : decode b_K_sumOddPowers 19 = .ok (.invokevirtual 104, 3) := by decide +kernel
theorem d_K_sumOddPowers_22 : decode b_K_sumOddPowers 22 = .ok (.aload_n 0, 1) := by decide +kernel
theorem d_K_sumOddPowers_23 : decode b_K_sumOddPowers 23 = .ok (.getfield 21, 3) := by decide +kernel
theorem d_K_sumOddPowers_26 : decode b_K_sumOddPowers 26 = .ok (.aload_n 0, 1) := by decide +kernel
theorem d_K_sumOddPowers_27 : decode b_K_sumOddPowers 27 = .ok (.getfield 12, 3) := by decide +kernel
theorem d_K_sumOddPowers_30 : decode b_K_sumOddPowers 30 = .ok (.invokevirtual 58, 3) := by decide +kernel
theorem d_K_sumOddPowers_33 : decode b_K_sumOddPowers 33 = .ok (.iconst 3, 1) := by decide +kernel
theorem d_K_sumOddPowers_34 : decode b_K_sumOddPowers 34 = .ok (.istore_n 2, 1) := by decide +kernel
theorem d_K_sumOddPowers_35 : decode b_K_sumOddPowers 35 = .ok (.iload_n 2, 1) := by decide +kernel
theorem d_K_sumOddPowers_36 : decode b_K_sumOddPowers 36 = .ok (.sipush 400, 3) := by decide +kernel
theorem d_K_sumOddPowers_39 : decode b_K_sumOddPowers 39 = .ok (.if_icmp .ge 76, 3) := by decide +kernel
theorem d_K_sumOddPowers_42 : decode b_K_sumOddPowers 42 = .ok (.aload_n 0, 1) := by decide +kernel
theorem d_K_sumOddPowers_43 : decode b_K_sumOddPowers 43 = .ok (.getfield 18, 3) := by decide +kernel
theorem d_K_sumOddPowers_46 : decode b_K_sumOddPowers 46 = .ok (.invokevirtual 47, 3) := by decide +kernel
theorem d_K_sumOddPowers_49 : decode b_K_sumOddPowers 49 = .ok (.ifCond .ne 66, 3) := by decide +kernel
theorem d_K_sumOddPowers_52 : decode b_K_sumOddPowers 52 = .ok (.aload_n 0, 1) := by decide +kernel
theorem d_K_sumOddPowers_53 : decode b_K_sumOddPowers 53 = .ok (.getfield 18, 3) := by decide +kernel
theorem d_K_sumOddPowers_56 : decode b_K_sumOddPowers 56 = .ok (.aload_n 0, 1) := by decide +kernel
theorem d_K_sumOddPowers_57 : decode b_K_sumOddPowers 57 = .ok (.getfield 21, 3) := by decide +kernel
theorem d_K_sumOddPowers_60 : decode b_K_sumOddPowers 60 = .ok (.invokevirtual 58, 3) := by decide +kernel
theorem d_K_sumOddPowers_63 : decode b_K_sumOddPowers 63 = .ok (.aload_n 0, 1) := by decide +kernel
theorem d_K_sumOddPowers_64 : decode b_K_sumOddPowers 64 = .ok (.getfield 24, 3) := by decide +kernel
theorem d_K_sumOddPowers_67 : decode b_K_sumOddPowers 67 = .ok (.aload_n 0, 1) := by decide +kernel
theorem d_K_sumOddPowers_68 : decode b_K_sumOddPowers 68 = .ok (.getfield 18, 3) := by decide +kernel
theorem d_K_sumOddPowers_71 : decode b_K_sumOddPowers 71 = .ok (.invokevirtual 104, 3) := by decide +kernel
theorem d_K_sumOddPowers_74 : decode b_K_sumOddPowers 74 = .ok (.aload_n 0, 1) := by decide +kernel
theorem d_K_sumOddPowers_75 : decode b_K_sumOddPowers 75 = .ok (.getfield 24, 3) := by decide +kernel
theorem d_K_sumOddPowers_78 : decode b_K_sumOddPowers 78 = .ok (.iload_n 2, 1) := by decide +kernel
theorem d_K_sumOddPowers_79 : decode b_K_sumOddPowers 79 = .ok (.i2l, 1) := by decide +kernel
theorem d_K_sumOddPowers_80 : decode b_K_sumOddPowers 80 = .ok (.invokevirtual 51, 3) := by decide +kernel
theorem d_K_sumOddPowers_83 : decode b_K_sumOddPowers 83 = .ok (.aload_n 0, 1) := by decide +kernel
theorem d_K_sumOddPowers_84 : decode b_K_sumOddPowers 84 = .ok (.getfield 12, 3) := by decide +kernel
theorem d_K_sumOddPowers_87 : decode b_K_sumOddPowers 87 = .ok (.aload_n 0, 1) := by decide +kernel
theorem d_K_sumOddPowers_88 : decode b_K_sumOddPowers 88 = .ok (.getfield 24, 3) := by decide +kernel
theorem d_K_sumOddPowers_91 : decode b_K_sumOddPowers 91 = .ok (.iload_n 1, 1) := by decide +kernel
theorem d_K_sumOddPowers_92 : decode b_K_sumOddPowers 92 = .ok (.ifCond .eq 13, 3) := by decide +kernel
theorem d_K_sumOddPowers_95 : decode b_K_sumOddPowers 95 = .ok (.iload_n 2, 1) := by decide +kernel
theorem d_K_sumOddPowers_96 : decode b_K_sumOddPowers 96 = .ok (.iconst 2, 1) := by decide +kernel
theorem d_K_sumOddPowers_97 : decode b_K_sumOddPowers 97 = .ok (.iand, 1) := by decide +kernel
theorem d_K_sumOddPowers_98 : decode b_K_sumOddPowers 98 = .ok (.ifCond .eq 7, 3) := by decide +kernel
theorem d_K_sumOddPowers_101 : decode b_K_sumOddPowers 101 = .ok (.iconst 1, 1) := by decide +kernel
theorem d_K_sumOddPowers_102 : decode b_K_sumOddPowers 102 = .ok (.goto 4, 3) := by decide +kernel
theorem d_K_sumOddPowers_105 : decode b_K_sumOddPowers 105 = .ok (.iconst 0, 1) := by decide +kernel
theorem d_K_sumOddPowers_106 : decode b_K_sumOddPowers 106 = .ok (.invokevirtual 54, 3) := by decide +kernel
theorem d_K_sumOddPowers_109 : decode b_K_sumOddPowers 109 = .ok (.iinc 2 2, 3) := by decide +kernel
theorem d_K_sumOddPowers_112 : decode b_K_sumOddPowers 112 = .ok (.goto (-77), 3) := by decide +kernel
theorem d_K_sumOddPowers_115 : decode b_K_sumOddPowers 115 = .ok (.return_, 1) := by decide +kernel
theorem d_K_sumFactorials_0 : decode b_K_sumFactorials 0 = .ok (.aload_n 0, 1) := by decide +kernel
theorem d_K_sumFactorials_1 : decode b_K_sumFactorials 1 = .ok (.getfield 18, 3) := by decide +kernel
theorem d_K_sumFactorials_4 : decode b_K_sumFactorials 4 = .ok (.aload_n 0, 1) := by decide +kernel
theorem d_K_sumFactorials_5 : decode b_K_sumFactorials 5 = .ok (.getfield 12, 3) := by decide +kernel
theorem d_K_sumFactorials_8 : decode b_K_sumFactorials 8 = .ok (.invokevirtual 104, 3) := by decide +kernel
theorem d_K_sumFactorials_11 : decode b_K_sumFactorials 11 = .ok (.iconst 1, 1) := by decide +kernel
theorem d_K_sumFactorials_12 : decode b_K_sumFactorials 12 = .ok (.istore_n 2, 1) := by decide +kernel
theorem d_K_sumFactorials_13 : decode b_K_sumFactorials 13 = .ok (.iload_n 1, 1) := by decide +kernel
theorem d_K_sumFactorials_14 : decode b_K_sumFactorials 14 = .ok (.istore_n 3, 1) := by decide +kernel
theorem d_K_sumFactorials_15 : decode b_K_sumFactorials 15 = .ok (.iload_n 3, 1) := by decide +kernel
theorem d_K_sumFactorials_16 : decode b_K_sumFactorials 16 = .ok (.sipush 400, 3) := by decide +kernel
theorem d_K_sumFactorials_19 : decode b_K_sumFactorials 19 = .ok (.if_icmp .ge 66, 3) := by decide +kernel
theorem d_K_sumFactorials_22 : decode b_K_sumFactorials 22 = .ok (.aload_n 0, 1) := by decide +kernel
theorem d_K_sumFactorials_23 : decode b_K_sumFactorials 23 = .ok (.getfield 18, 3) := by decide +kernel
theorem d_K_sumFactorials_26 : decode b_K_sumFactorials 26 = .ok (.invokevirtual 47, 3) := by decide +kernel
theorem d_K_sumFactorials_29 : decode b_K_sumFactorials 29 = .ok (.ifCond .ne 56, 3) := by decide +kernel
theorem d_K_sumFactorials_32 : decode b_K_sumFactorials 32 = .ok (.aload_n 0, 1) := by decide +kernel
theorem d_K_sumFactorials_33 : decode b_K_sumFactorials 33 = .ok (.getfield 18, 3) := by decide +kernel
theorem d_K_sumFactorials_36 : decode b_K_sumFactorials 36 = .ok (.aload_n 0, 1) := by decide +kernel
theorem d_K_sumFactorials_37 : decode b_K_sumFactorials 37 = .ok (.getfield 21, 3) := by decide +kernel
theorem d_K_sumFactorials_40 : decode b_K_sumFactorials 40 = .ok (.invokevirtual 58, 3) := by decide +kernel
theorem d_K_sumFactorials_43 : decode b_K_sumFactorials 43 = .ok (.aload_n 0, 1) := by decide +kernel
theorem d_K_sumFactorials_44 : decode b_K_sumFactorials 44 = .ok (.getfield 18, 3) := by decide +kernel
theorem d_K_sumFactorials_47 : decode b_K_sumFactorials 47 = .ok (.iload_n 3, 1) := by decide +kernel
theorem d_K_sumFactorials_48 : decode b_K_sumFactorials 48 = .ok (.i2l, 1) := by decide +kernel
theorem d_K_sumFactorials_49 : decode b_K_sumFactorials 49 = .ok (.iload_n 3, 1) := by decide +kernel
theorem d_K_sumFactorials_50 : decode b_K_sumFactorials 50 = .ok (.iconst 1, 1) := by decide +kernel
theorem d_K_sumFactorials_51 : decode b_K_sumFactorials 51 = .ok (.iadd, 1) := by decide +kernel
theorem d_K_sumFactorials_52 : decode b_K_sumFactorials 52 = .ok (.i2l, 1) := by decide +kernel
theorem d_K_sumFactorials_53 : decode b_K_sumFactorials 53 = .ok (.lmul, 1) := by decide +kernel
theorem d_K_sumFactorials_54 : decode b_K_sumFactorials 54 = .ok (.invokevirtual 51, 3) := by decide +kernel
theorem d_K_sumFactorials_57 : decode b_K_sumFactorials 57 = .ok (.aload_n 0, 1) := by decide +kernel
theorem d_K_sumFactorials_58 : decode b_K_sumFactorials 58 = .ok (.getfield 12, 3) := by decide +kernel
theorem d_K_sumFactorials_61 : decode b_K_sumFactorials 61 = .ok (.aload_n 0, 1) := by decide +kernel
theorem d_K_sumFactorials_62 : decode b_K_sumFactorials 62 = .ok (.getfield 18, 3) := by decide +kernel
theorem d_K_sumFactorials_65 : decode b_K_sumFactorials 65 = .ok (.iload_n 2, 1) := by decide +kernel
theorem d_K_sumFactorials_66 : decode b_K_sumFactorials 66 = .ok (.invokevirtual 54, 3) := by decide +kernel
theorem d_K_sumFactorials_69 : decode b_K_sumFactorials 69 = .ok (.iload_n 2, 1) := by decide +kernel
theorem d_K_sumFactorials_70 : decode b_K_sumFactorials 70 = .ok (.ifCond .ne 7, 3) := by decide +kernel
theorem d_K_sumFactorials_73 : decode b_K_sumFactorials 73 = .ok (.iconst 1, 1) := by decide +kernel
theorem d_K_sumFactorials_74 : decode b_K_sumFactorials 74 = .ok (.goto 4, 3) := by decide +kernel
theorem d_K_sumFactorials_77 : decode b_K_sumFactorials 77 = .ok (.iconst 0, 1) := by decide +kernel
theorem d_K_sumFactorials_78 : decode b_K_sumFactorials 78 = .ok (.istore_n 2, 1) := by decide +kernel
theorem d_K_sumFactorials_79 : decode b_K_sumFactorials 79 = .ok (.iinc 3 2, 3) := by decide +kernel
theorem d_K_sumFactorials_82 : decode b_K_sumFactorials 82 = .ok (.goto (-67), 3) := by decide +kernel
theorem d_K_sumFactorials_85 : decode b_K_sumFactorials 85 = .ok (.return_, 1) := by decide +kernel
