theorem d_M_init_0 : decode b_M_init 0 = .ok (.aload_n 0, 1) := by decide +kernel
theorem d_M_init_1 : decode b_M_init 1 = .ok (.invokespecial 1, 3) := by decide +kernel
theorem d_M_init_4 : decode b_M_init 4 = .ok (.aload_n 0, 1) := by decide +kernel
theorem d_M_init_5 : decode b_M_init 5 = .ok (.bipush 6, 2) := by decide +kernel
theorem d_M_init_7 : decode b_M_init 7 = .ok (.newarray .int, 2) := by decide +kernel
theorem d_M_init_9 : decode b_M_init 9 = .ok (.putfield 7, 3) := by decide +kernel
theorem d_M_init_12 : decode b_M_init 12 = .ok (.aload_n 0, 1) := by decide +kernel
theorem d_M_init_13 : decode b_M_init 13 = .ok (.bipush 120, 2) := by decide +kernel
theorem d_M_init_15 : decode b_M_init 15 = .ok (.newarray .int, 2) := by decide +kernel
theorem d_M_init_17 : decode b_M_init 17 = .ok (.putfield 13, 3) := by decide +kernel
theorem d_M_init_20 : decode b_M_init 20 = .ok (.aload_n 0, 1) := by decide +kernel
theorem d_M_init_21 : decode b_M_init 21 = .ok (.bipush 120, 2) := by decide +kernel
theorem d_M_init_23 : decode b_M_init 23 = .ok (.newarray .int, 2) := by decide +kernel
theorem d_M_init_25 : decode b_M_init 25 = .ok (.putfield 16, 3) := by decide +kernel
theorem d_M_init_28 : decode b_M_init 28 = .ok (.aload_n 0, 1) := by decide +kernel
theorem d_M_init_29 : decode b_M_init 29 = .ok (.bipush 11, 2) := by decide +kernel
theorem d_M_init_31 : decode b_M_init 31 = .ok (.putfield 19, 3) := by decide +kernel
theorem d_M_init_34 : decode b_M_init 34 = .ok (.aload_n 0, 1) := by decide +kernel
theorem d_M_init_35 : decode b_M_init 35 = .ok (.sipush 240, 3) := by decide +kernel
theorem d_M_init_38 : decode b_M_init 38 = .ok (.newarray .long, 2) := by decide +kernel
theorem d_M_init_40 : decode b_M_init 40 = .ok (.putfield 23, 3) := by decide +kernel
theorem d_M_init_43 : decode b_M_init 43 = .ok (.aload_n 0, 1) := by decide +kernel
theorem d_M_init_44 : decode b_M_init 44 = .ok (.bipush 48, 2) := by decide +kernel
theorem d_M_init_46 : decode b_M_init 46 = .ok (.newarray .long, 2) := by decide +kernel
theorem d_M_init_48 : decode b_M_init 48 = .ok (.putfield 27, 3) := by decide +kernel
theorem d_M_init_51 : decode b_M_init 51 = .ok (.aload_n 0, 1) := by decide +kernel
theorem d_M_init_52 : decode b_M_init 52 = .ok (.lload_n 1, 1) := by decide +kernel
theorem d_M_init_53 : decode b_M_init 53 = .ok (.putfield 30, 3) := by decide +kernel
theorem d_M_init_56 : decode b_M_init 56 = .ok (.return_, 1) := by decide +kernel
theorem d_M_thrown_0 : decode b_M_thrown 0 = .ok (.aload_n 0, 1) := by decide +kernel
theorem d_M_thrown_1 : decode b_M_thrown 1 = .ok (.getfield 34, 3) := by decide +kernel
theorem d_M_thrown_4 : decode b_M_thrown 4 = .ok (.ireturn, 1) := by decide +kernel
theorem d_M_whole_0 : decode b_M_whole 0 = .ok (.lload_n 2, 1) := by decide +kernel
theorem d_M_whole_1 : decode b_M_whole 1 = .ok (.lstore 4, 2) := by decide +kernel
theorem d_M_whole_3 : decode b_M_whole 3 = .ok (.iconst 0, 1) := by decide +kernel
theorem d_M_whole_4 : decode b_M_whole 4 = .ok (.istore 6, 2) := by decide +kernel
theorem d_M_whole_6 : decode b_M_whole 6 = .ok (.iload 6, 2) := by decide +kernel
theorem d_M_whole_8 : decode b_M_whole 8 = .ok (.bipush 24, 2) := by decide +kernel
theorem d_M_whole_10 : decode b_M_whole 10 = .ok (.if_icmp .ge 62, 3) := by decide +kernel
theorem d_M_whole_13 : decode b_M_whole 13 = .ok (.aload_n 0, 1) := by decide +kernel
theorem d_M_whole_14 : decode b_M_whole 14 = .ok (.getfield 23, 3) := by decide +kernel
theorem d_M_whole_17 : decode b_M_whole 17 = .ok (.bipush 24, 2) := by decide +kernel
theorem d_M_whole_19 : decode b_M_whole 19 = .ok (.iload_n 1, 1) := by decide +kernel
theorem d_M_whole_20 : decode b_M_whole 20 = .ok (.imul, 1) := by decide +kernel
theorem d_M_whole_21 : decode b_M_whole 21 = .ok (.iload 6, 2) := by decide +kernel
theorem d_M_whole_23 : decode b_M_whole 23 = .ok (.iadd, 1) := by decide +kernel
theorem d_M_whole_24 : decode b_M_whole 24 = .ok (.iload 6, 2) := by decide +kernel
theorem d_M_whole_26 : decode b_M_whole 26 = .ok (.aload_n 0, 1) := by decide +kernel
theorem d_M_whole_27 : decode b_M_whole 27 = .ok (.getfield 19, 3) := by decide +kernel
theorem d_M_whole_30 : decode b_M_whole 30 = .ok (.if_icmp .ge 7, 3) := by decide +kernel
theorem d_M_whole_33 : decode b_M_whole 33 = .ok (.lconst 0, 1) := by decide +kernel
theorem d_M_whole_34 : decode b_M_whole 34 = .ok (.goto 9, 3) := by decide +kernel
theorem d_M_whole_37 : decode b_M_whole 37 = .ok (.lload 4, 2) := by decide +kernel
theorem d_M_whole_39 : decode b_M_whole 39 = .ok (.ldc2_w 37, 3) := by decide +kernel
theorem d_M_whole_42 : decode b_M_whole 42 = .ok (.lrem, 1) := by decide +kernel
theorem d_M_whole_43 : decode b_M_whole 43 = .ok (.lastore, 1) := by decide +kernel
theorem d_M_whole_44 : decode b_M_whole 44 = .ok (.iload 6, 2) := by decide +kernel
theorem d_M_whole_46 : decode b_M_whole 46 = .ok (.aload_n 0, 1) := by decide +kernel
theorem d_M_whole_47 : decode b_M_whole 47 = .ok (.getfield 19, 3) := by decide +kernel
theorem d_M_whole_50 : decode b_M_whole 50 = .ok (.if_icmp .ge 8, 3) := by decide +kernel
theorem d_M_whole_53 : decode b_M_whole 53 = .ok (.lload 4, 2) := by decide +kernel
theorem d_M_whole_55 : decode b_M_whole 55 = .ok (.goto 9, 3) := by decide +kernel
theorem d_M_whole_58 : decode b_M_whole 58 = .ok (.lload 4, 2) := by decide +kernel
theorem d_M_whole_60 : decode b_M_whole 60 = .ok (.ldc2_w 37, 3) := by decide +kernel
theorem d_M_whole_63 : decode b_M_whole 63 = .ok (.ldiv, 1) := by decide +kernel
theorem d_M_whole_64 : decode b_M_whole 64 = .ok (.lstore 4, 2) := by decide +kernel
theorem d_M_whole_66 : decode b_M_whole 66 = .ok (.iinc 6 1, 3) := by decide +kernel
theorem d_M_whole_69 : decode b_M_whole 69 = .ok (.goto (-63), 3) := by decide +kernel
theorem d_M_whole_72 : decode b_M_whole 72 = .ok (.return_, 1) := by decide +kernel
theorem d_M_copy_0 : decode b_M_copy 0 = .ok (.iconst 0, 1) := by decide +kernel
theorem d_M_copy_1 : decode b_M_copy 1 = .ok (.istore_n 3, 1) := by decide +kernel
theorem d_M_copy_2 : decode b_M_copy 2 = .ok (.iload_n 3, 1) := by decide +kernel
theorem d_M_copy_3 : decode b_M_copy 3 = .ok (.bipush 24, 2) := by decide +kernel
theorem d_M_copy_5 : decode b_M_copy 5 = .ok (.if_icmp .ge 31, 3) := by decide +kernel
theorem d_M_copy_8 : decode b_M_copy 8 = .ok (.aload_n 0, 1) := by decide +kernel
theorem d_M_copy_9 : decode b_M_copy 9 = .ok (.getfield 23, 3) := by decide +kernel
theorem d_M_copy_12 : decode b_M_copy 12 = .ok (.bipush 24, 2) := by decide +kernel
theorem d_M_copy_14 : decode b_M_copy 14 = .ok (.iload_n 1, 1) := by decide +kernel
theorem d_M_copy_15 : decode b_M_copy 15 = .ok (.imul, 1) := by decide +kernel
theorem d_M_copy_16 : decode b_M_copy 16 = .ok (.iload_n 3, 1) := by decide +kernel
theorem d_M_copy_17 : decode b_M_copy 17 = .ok (.iadd, 1) := by decide +kernel
theorem d_M_copy_18 : decode b_M_copy 18 = .ok (.aload_n 0, 1) := by decide +kernel
theorem d_M_copy_19 : decode b_M_copy 19 = .ok (.getfield 23, 3) := by decide +kernel
theorem d_M_copy_22 : decode b_M_copy 22 = .ok (.bipush 24, 2) := by decide +kernel
theorem d_M_copy_24 : decode b_M_copy 24 = .ok (.iload_n 2, 1) := by decide +kernel
theorem d_M_copy_25 : decode b_M_copy 25 = .ok (.imul, 1) := by decide +kernel
theorem d_M_copy_26 : decode b_M_copy 26 = .ok (.iload_n 3, 1) := by decide +kernel
theorem d_M_copy_27 : decode b_M_copy 27 = .ok (.iadd, 1) := by decide +kernel
theorem d_M_copy_28 : decode b_M_copy 28 = .ok (.laload, 1) := by decide +kernel
theorem d_M_copy_29 : decode b_M_copy 29 = .ok (.lastore, 1) := by decide +kernel
theorem d_M_copy_30 : decode b_M_copy 30 = .ok (.iinc 3 1, 3) := by decide +kernel
theorem d_M_copy_33 : decode b_M_copy 33 = .ok (.goto (-31), 3) := by decide +kernel
theorem d_M_copy_36 : decode b_M_copy 36 = .ok (.return_, 1) := by decide +kernel
theorem d_M_isNothing_0 : decode b_M_isNothing 0 = .ok (.iconst 1, 1) := by decide +kernel
theorem d_M_isNothing_1 : decode b_M_isNothing 1 = .ok (.istore_n 2, 1) := by decide +kernel
theorem d_M_isNothing_2 : decode b_M_isNothing 2 = .ok (.iconst 0, 1) := by decide +kernel
theorem d_M_isNothing_3 : decode b_M_isNothing 3 = .ok (.istore_n 3, 1) := by decide +kernel
theorem d_M_isNothing_4 : decode b_M_isNothing 4 = .ok (.iload_n 3, 1) := by decide +kernel
theorem d_M_isNothing_5 : decode b_M_isNothing 5 = .ok (.bipush 24, 2) := by decide +kernel
theorem d_M_isNothing_7 : decode b_M_isNothing 7 = .ok (.if_icmp .ge 35, 3) := by decide +kernel
theorem d_M_isNothing_10 : decode b_M_isNothing 10 = .ok (.iload_n 2, 1) := by decide +kernel
theorem d_M_isNothing_11 : decode b_M_isNothing 11 = .ok (.ifCond .eq 23, 3) := by decide +kernel
theorem d_M_isNothing_14 : decode b_M_isNothing 14 = .ok (.aload_n 0, 1) := by decide +kernel
theorem d_M_isNothing_15 : decode b_M_isNothing 15 = .ok (.getfield 23, 3) := by decide +kernel
theorem d_M_isNothing_18 : decode b_M_isNothing 18 = .ok (.bipush 24, 2) := by decide +kernel
theorem d_M_isNothing_20 : decode b_M_isNothing 20 = .ok (.iload_n 1, 1) := by decide +kernel
theorem d_M_isNothing_21 : decode b_M_isNothing 21 = .ok (.imul, 1) := by decide +kernel
theorem d_M_isNothing_22 : decode b_M_isNothing 22 = .ok (.iload_n 3, 1) := by decide +kernel
theorem d_M_isNothing_23 : decode b_M_isNothing 23 = .ok (.iadd, 1) := by decide +kernel
theorem d_M_isNothing_24 : decode b_M_isNothing 24 = .ok (.laload, 1) := by decide +kernel
theorem d_M_isNothing_25 : decode b_M_isNothing 25 = .ok (.lconst 0, 1) := by decide +kernel
theorem d_M_isNothing_26 : decode b_M_isNothing 26 = .ok (.lcmp, 1) := by decide +kernel
theorem d_M_isNothing_27 : decode b_M_isNothing 27 = .ok (.ifCond .ne 7, 3) := by decide +kernel
theorem d_M_isNothing_30 : decode b_M_isNothing 30 = .ok (.iconst 1, 1) := by decide +kernel
theorem d_M_isNothing_31 : decode b_M_isNothing 31 = .ok (.goto 4, 3) := by decide +kernel
theorem d_M_isNothing_34 : decode b_M_isNothing 34 = .ok (.iconst 0, 1) := by decide +kernel
theorem d_M_isNothing_35 : decode b_M_isNothing 35 = .ok (.istore_n 2, 1) := by decide +kernel
theorem d_M_isNothing_36 : decode b_M_isNothing 36 = .ok (.iinc 3 1, 3) := by decide +kernel
theorem d_M_isNothing_39 : decode b_M_isNothing 39 = .ok (.goto (-35), 3) := by decide +kernel
theorem d_M_isNothing_42 : decode b_M_isNothing 42 = .ok (.iload_n 2, 1) := by decide +kernel
theorem d_M_isNothing_43 : decode b_M_isNothing 43 = .ok (.ireturn, 1) := by decide +kernel
theorem d_M_add_0 : decode b_M_add 0 = .ok (.lconst 0, 1) := by decide +kernel
theorem d_M_add_1 : decode b_M_add 1 = .ok (.lstore_n 3, 1) := by decide +kernel
theorem d_M_add_2 : decode b_M_add 2 = .ok (.iconst 0, 1) := by decide +kernel
theorem d_M_add_3 : decode b_M_add 3 = .ok (.istore 5, 2) := by decide +kernel
theorem d_M_add_5 : decode b_M_add 5 = .ok (.iload 5, 2) := by decide +kernel
theorem d_M_add_7 : decode b_M_add 7 = .ok (.bipush 24, 2) := by decide +kernel
theorem d_M_add_9 : decode b_M_add 9 = .ok (.if_icmp .ge 73, 3) := by decide +kernel
theorem d_M_add_12 : decode b_M_add 12 = .ok (.aload_n 0, 1) := by decide +kernel
theorem d_M_add_13 : decode b_M_add 13 = .ok (.getfield 23, 3) := by decide +kernel
theorem d_M_add_16 : decode b_M_add 16 = .ok (.bipush 24, 2) := by decide +kernel
theorem d_M_add_18 : decode b_M_add 18 = .ok (.iload_n 1, 1) := by decide +kernel
theorem d_M_add_19 : decode b_M_add 19 = .ok (.imul, 1) := by decide +kernel
theorem d_M_add_20 : decode b_M_add 20 = .ok (.iload 5, 2) := by decide +kernel
theorem d_M_add_22 : decode b_M_add 22 = .ok (.iadd, 1) := by decide +kernel
theorem d_M_add_23 : decode b_M_add 23 = .ok (.laload, 1) := by decide +kernel
theorem d_M_add_24 : decode b_M_add 24 = .ok (.aload_n 0, 1) := by decide +kernel
theorem d_M_add_25 : decode b_M_add 25 = .ok (.getfield 23, 3) := by decide +kernel
theorem d_M_add_28 : decode b_M_add 28 = .ok (.bipush 24, 2) := by decide +kernel
theorem d_M_add_30 : decode b_M_add 30 = .ok (.iload_n 2, 1) := by decide +kernel
theorem d_M_add_31 : decode b_M_add 31 = .ok (.imul, 1) := by decide +kernel
theorem d_M_add_32 : decode b_M_add 32 = .ok (.iload 5, 2) := by decide +kernel
theorem d_M_add_34 : decode b_M_add 34 = .ok (.iadd, 1) := by decide +kernel
theorem d_M_add_35 : decode b_M_add 35 = .ok (.laload, 1) := by decide +kernel
theorem d_M_add_36 : decode b_M_add 36 = .ok (.ladd, 1) := by decide +kernel
theorem d_M_add_37 : decode b_M_add 37 = .ok (.lload_n 3, 1) := by decide +kernel
theorem d_M_add_38 : decode b_M_add 38 = .ok (.ladd, 1) := by decide +kernel
theorem d_M_add_39 : decode b_M_add 39 = .ok (.lstore 6, 2) := by decide +kernel
theorem d_M_add_41 : decode b_M_add 41 = .ok (.lload 6, 2) := by decide +kernel
theorem d_M_add_43 : decode b_M_add 43 = .ok (.ldc2_w 37, 3) := by decide +kernel
theorem d_M_add_46 : decode b_M_add 46 = .ok (.lcmp, 1) := by decide +kernel
theorem d_M_add_47 : decode b_M_add 47 = .ok (.ifCond .lt 7, 3) := by decide +kernel
theorem d_M_add_50 : decode b_M_add 50 = .ok (.lconst 1, 1) := by decide +kernel
theorem d_M_add_51 : decode b_M_add 51 = .ok (.goto 4, 3) := by decide +kernel
theorem d_M_add_54 : decode b_M_add 54 = .ok (.lconst 0, 1) := by decide +kernel
theorem d_M_add_55 : decode b_M_add 55 = .ok (.lstore_n 3, 1) := by decide +kernel
theorem d_M_add_56 : decode b_M_add 56 = .ok (.aload_n 0, 1) := by decide +kernel
theorem d_M_add_57 : decode b_M_add 57 = .ok (.getfield 23, 3) := by decide +kernel
theorem d_M_add_60 : decode b_M_add 60 = .ok (.bipush 24, 2) := by decide +kernel
theorem d_M_add_62 : decode b_M_add 62 = .ok (.iload_n 1, 1) := by decide +kernel
theorem d_M_add_63 : decode b_M_add 63 = .ok (.imul, 1) := by decide +kernel
theorem d_M_add_64 : decode b_M_add 64 = .ok (.iload 5, 2) := by decide +kernel
theorem d_M_add_66 : decode b_M_add 66 = .ok (.iadd, 1) := by decide +kernel
theorem d_M_add_67 : decode b_M_add 67 = .ok (.lload 6, 2) := by decide +kernel
theorem d_M_add_69 : decode b_M_add 69 = .ok (.lload_n 3, 1) := by decide +kernel
theorem d_M_add_70 : decode b_M_add 70 = .ok (.ldc2_w 37, 3) := by decide +kernel
theorem d_M_add_73 : decode b_M_add 73 = .ok (.lmul, 1) := by decide +kernel
theorem d_M_add_74 : decode b_M_add 74 = .ok (.lsub, 1) := by decide +kernel
theorem d_M_add_75 : decode b_M_add 75 = .ok (.lastore, 1) := by decide +kernel
theorem d_M_add_76 : decode b_M_add 76 = .ok (.iinc 5 1, 3) := by decide +kernel
theorem d_M_add_79 : decode b_M_add 79 = .ok (.goto (-74), 3) := by decide +kernel
theorem d_M_add_82 : decode b_M_add 82 = .ok (.return_, 1) := by decide +kernel
theorem d_M_less_0 : decode b_M_less 0 = .ok (.lconst 0, 1) := by decide +kernel
theorem d_M_less_1 : decode b_M_less 1 = .ok (.lstore_n 3, 1) := by decide +kernel
theorem d_M_less_2 : decode b_M_less 2 = .ok (.iconst 0, 1) := by decide +kernel
theorem d_M_less_3 : decode b_M_less 3 = .ok (.istore 5, 2) := by decide +kernel
theorem d_M_less_5 : decode b_M_less 5 = .ok (.iload 5, 2) := by decide +kernel
theorem d_M_less_7 : decode b_M_less 7 = .ok (.bipush 24, 2) := by decide +kernel
theorem d_M_less_9 : decode b_M_less 9 = .ok (.if_icmp .ge 71, 3) := by decide +kernel
theorem d_M_less_12 : decode b_M_less 12 = .ok (.aload_n 0, 1) := by decide +kernel
theorem d_M_less_13 : decode b_M_less 13 = .ok (.getfield 23, 3) := by decide +kernel
theorem d_M_less_16 : decode b_M_less 16 = .ok (.bipush 24, 2) := by decide +kernel
theorem d_M_less_18 : decode b_M_less 18 = .ok (.iload_n 1, 1) := by decide +kernel
theorem d_M_less_19 : decode b_M_less 19 = .ok (.imul, 1) := by decide +kernel
theorem d_M_less_20 : decode b_M_less 20 = .ok (.iload 5, 2) := by decide +kernel
theorem d_M_less_22 : decode b_M_less 22 = .ok (.iadd, 1) := by decide +kernel
theorem d_M_less_23 : decode b_M_less 23 = .ok (.laload, 1) := by decide +kernel
theorem d_M_less_24 : decode b_M_less 24 = .ok (.aload_n 0, 1) := by decide +kernel
theorem d_M_less_25 : decode b_M_less 25 = .ok (.getfield 23, 3) := by decide +kernel
theorem d_M_less_28 : decode b_M_less 28 = .ok (.bipush 24, 2) := by decide +kernel
theorem d_M_less_30 : decode b_M_less 30 = .ok (.iload_n 2, 1) := by decide +kernel
theorem d_M_less_31 : decode b_M_less 31 = .ok (.imul, 1) := by decide +kernel
theorem d_M_less_32 : decode b_M_less 32 = .ok (.iload 5, 2) := by decide +kernel
theorem d_M_less_34 : decode b_M_less 34 = .ok (.iadd, 1) := by decide +kernel
theorem d_M_less_35 : decode b_M_less 35 = .ok (.laload, 1) := by decide +kernel
theorem d_M_less_36 : decode b_M_less 36 = .ok (.lsub, 1) := by decide +kernel
theorem d_M_less_37 : decode b_M_less 37 = .ok (.lload_n 3, 1) := by decide +kernel
theorem d_M_less_38 : decode b_M_less 38 = .ok (.lsub, 1) := by decide +kernel
theorem d_M_less_39 : decode b_M_less 39 = .ok (.lstore 6, 2) := by decide +kernel
theorem d_M_less_41 : decode b_M_less 41 = .ok (.lload 6, 2) := by decide +kernel
theorem d_M_less_43 : decode b_M_less 43 = .ok (.lconst 0, 1) := by decide +kernel
theorem d_M_less_44 : decode b_M_less 44 = .ok (.lcmp, 1) := by decide +kernel
theorem d_M_less_45 : decode b_M_less 45 = .ok (.ifCond .ge 7, 3) := by decide +kernel
theorem d_M_less_48 : decode b_M_less 48 = .ok (.lconst 1, 1) := by decide +kernel
theorem d_M_less_49 : decode b_M_less 49 = .ok (.goto 4, 3) := by decide +kernel
theorem d_M_less_52 : decode b_M_less 52 = .ok (.lconst 0, 1) := by decide +kernel
theorem d_M_less_53 : decode b_M_less 53 = .ok (.lstore_n 3, 1) := by decide +kernel
theorem d_M_less_54 : decode b_M_less 54 = .ok (.aload_n 0, 1) := by decide +kernel
theorem d_M_less_55 : decode b_M_less 55 = .ok (.getfield 23, 3) := by decide +kernel
theorem d_M_less_58 : decode b_M_less 58 = .ok (.bipush 24, 2) := by decide +kernel
theorem d_M_less_60 : decode b_M_less 60 = .ok (.iload_n 1, 1) := by decide +kernel
theorem d_M_less_61 : decode b_M_less 61 = .ok (.imul, 1) := by decide +kernel
theorem d_M_less_62 : decode b_M_less 62 = .ok (.iload 5, 2) := by decide +kernel
theorem d_M_less_64 : decode b_M_less 64 = .ok (.iadd, 1) := by decide +kernel
theorem d_M_less_65 : decode b_M_less 65 = .ok (.lload 6, 2) := by decide +kernel
theorem d_M_less_67 : decode b_M_less 67 = .ok (.lload_n 3, 1) := by decide +kernel
theorem d_M_less_68 : decode b_M_less 68 = .ok (.ldc2_w 37, 3) := by decide +kernel
theorem d_M_less_71 : decode b_M_less 71 = .ok (.lmul, 1) := by decide +kernel
theorem d_M_less_72 : decode b_M_less 72 = .ok (.ladd, 1) := by decide +kernel
theorem d_M_less_73 : decode b_M_less 73 = .ok (.lastore, 1) := by decide +kernel
theorem d_M_less_74 : decode b_M_less 74 = .ok (.iinc 5 1, 3) := by decide +kernel
theorem d_M_less_77 : decode b_M_less 77 = .ok (.goto (-72), 3) := by decide +kernel
theorem d_M_less_80 : decode b_M_less 80 = .ok (.return_, 1) := by decide +kernel
theorem d_M_against_0 : decode b_M_against 0 = .ok (.bipush 23, 2) := by decide +kernel
theorem d_M_against_2 : decode b_M_against 2 = .ok (.istore_n 3, 1) := by decide +kernel
theorem d_M_against_3 : decode b_M_against 3 = .ok (.iload_n 3, 1) := by decide +kernel
theorem d_M_against_4 : decode b_M_against 4 = .ok (.ifCond .lt 57, 3) := by decide +kernel
theorem d_M_against_7 : decode b_M_against 7 = .ok (.aload_n 0, 1) := by decide +kernel
theorem d_M_against_8 : decode b_M_against 8 = .ok (.getfield 23, 3) := by decide +kernel
theorem d_M_against_11 : decode b_M_against 11 = .ok (.bipush 24, 2) := by decide +kernel
theorem d_M_against_13 : decode b_M_against 13 = .ok (.iload_n 1, 1) := by decide +kernel
theorem d_M_against_14 : decode b_M_against 14 = .ok (.imul, 1) := by decide +kernel
theorem d_M_against_15 : decode b_M_against 15 = .ok (.iload_n 3, 1) := by decide +kernel
theorem d_M_against_16 : decode b_M_against 16 = .ok (.iadd, 1) := by decide +kernel
theorem d_M_against_17 : decode b_M_against 17 = .ok (.laload, 1) := by decide +kernel
theorem d_M_against_18 : decode b_M_against 18 = .ok (.lstore 4, 2) := by decide +kernel
theorem d_M_against_20 : decode b_M_against 20 = .ok (.aload_n 0, 1) := by decide +kernel
theorem d_M_against_21 : decode b_M_against 21 = .ok (.getfield 23, 3) := by decide +kernel
theorem d_M_against_24 : decode b_M_against 24 = .ok (.bipush 24, 2) := by decide +kernel
theorem d_M_against_26 : decode b_M_against 26 = .ok (.iload_n 2, 1) := by decide +kernel
theorem d_M_against_27 : decode b_M_against 27 = .ok (.imul, 1) := by decide +kernel
theorem d_M_against_28 : decode b_M_against 28 = .ok (.iload_n 3, 1) := by decide +kernel
theorem d_M_against_29 : decode b_M_against 29 = .ok (.iadd, 1) := by decide +kernel
theorem d_M_against_30 : decode b_M_against 30 = .ok (.laload, 1) := by decide +kernel
theorem d_M_against_31 : decode b_M_against 31 = .ok (.lstore 6, 2) := by decide +kernel
theorem d_M_against_33 : decode b_M_against 33 = .ok (.lload 4, 2) := by decide +kernel
theorem d_M_against_35 : decode b_M_against 35 = .ok (.lload 6, 2) := by decide +kernel
theorem d_M_against_37 : decode b_M_against 37 = .ok (.lcmp, 1) := by decide +kernel
theorem d_M_against_38 : decode b_M_against 38 = .ok (.ifCond .eq 17, 3) := by decide +kernel
theorem d_M_against_41 : decode b_M_against 41 = .ok (.lload 4, 2) := by decide +kernel
theorem d_M_against_43 : decode b_M_against 43 = .ok (.lload 6, 2) := by decide +kernel
theorem d_M_against_45 : decode b_M_against 45 = .ok (.lcmp, 1) := by decide +kernel
theorem d_M_against_46 : decode b_M_against 46 = .ok (.ifCond .le 7, 3) := by decide +kernel
theorem d_M_against_49 : decode b_M_against 49 = .ok (.iconst 1, 1) := by decide +kernel
theorem d_M_against_50 : decode b_M_against 50 = .ok (.goto 4, 3) := by decide +kernel
theorem d_M_against_53 : decode b_M_against 53 = .ok (.iconst (-1), 1) := by decide +kernel
theorem d_M_against_54 : decode b_M_against 54 = .ok (.ireturn, 1) := by decide +kernel
theorem d_M_against_55 : decode b_M_against 55 = .ok (.iinc 3 (-1), 3) := by decide +kernel
theorem d_M_against_58 : decode b_M_against 58 = .ok (.goto (-55), 3) := by decide +kernel
theorem d_M_against_61 : decode b_M_against 61 = .ok (.iconst 0, 1) := by decide +kernel
theorem d_M_against_62 : decode b_M_against 62 = .ok (.ireturn, 1) := by decide +kernel
theorem d_M_times_0 : decode b_M_times 0 = .ok (.lconst 0, 1) := by decide +kernel
theorem d_M_times_1 : decode b_M_times 1 = .ok (.lstore 4, 2) := by decide +kernel
theorem d_M_times_3 : decode b_M_times 3 = .ok (.iconst 0, 1) := by decide +kernel
theorem d_M_times_4 : decode b_M_times 4 = .ok (.istore 6, 2) := by decide +kernel
theorem d_M_times_6 : decode b_M_times 6 = .ok (.iload 6, 2) := by decide +kernel
theorem d_M_times_8 : decode b_M_times 8 = .ok (.bipush 24, 2) := by decide +kernel
theorem d_M_times_10 : decode b_M_times 10 = .ok (.if_icmp .ge 54, 3) := by decide +kernel
theorem d_M_times_13 : decode b_M_times 13 = .ok (.aload_n 0, 1) := by decide +kernel
theorem d_M_times_14 : decode b_M_times 14 = .ok (.getfield 23, 3) := by decide +kernel
theorem d_M_times_17 : decode b_M_times 17 = .ok (.bipush 24, 2) := by decide +kernel
theorem d_M_times_19 : decode b_M_times 19 = .ok (.iload_n 1, 1) := by decide +kernel
theorem d_M_times_20 : decode b_M_times 20 = .ok (.imul, 1) := by decide +kernel
theorem d_M_times_21 : decode b_M_times 21 = .ok (.iload 6, 2) := by decide +kernel
theorem d_M_times_23 : decode b_M_times 23 = .ok (.iadd, 1) := by decide +kernel
theorem d_M_times_24 : decode b_M_times 24 = .ok (.laload, 1) := by decide +kernel
theorem d_M_times_25 : decode b_M_times 25 = .ok (.lload_n 2, 1) := by decide +kernel
theorem d_M_times_26 : decode b_M_times 26 = .ok (.lmul, 1) := by decide +kernel
theorem d_M_times_27 : decode b_M_times 27 = .ok (.lload 4, 2) := by decide +kernel
theorem d_M_times_29 : decode b_M_times 29 = .ok (.ladd, 1) := by decide +kernel
theorem d_M_times_30 : decode b_M_times 30 = .ok (.lstore 7, 2) := by decide +kernel
theorem d_M_times_32 : decode b_M_times 32 = .ok (.aload_n 0, 1) := by decide +kernel
theorem d_M_times_33 : decode b_M_times 33 = .ok (.getfield 23, 3) := by decide +kernel
theorem d_M_times_36 : decode b_M_times 36 = .ok (.bipush 24, 2) := by decide +kernel
theorem d_M_times_38 : decode b_M_times 38 = .ok (.iload_n 1, 1) := by decide +kernel
theorem d_M_times_39 : decode b_M_times 39 = .ok (.imul, 1) := by decide +kernel
theorem d_M_times_40 : decode b_M_times 40 = .ok (.iload 6, 2) := by decide +kernel
theorem d_M_times_42 : decode b_M_times 42 = .ok (.iadd, 1) := by decide +kernel
theorem d_M_times_43 : decode b_M_times 43 = .ok (.lload 7, 2) := by decide +kernel
theorem d_M_times_45 : decode b_M_times 45 = .ok (.ldc2_w 37, 3) := by decide +kernel
theorem d_M_times_48 : decode b_M_times 48 = .ok (.lrem, 1) := by decide +kernel
theorem d_M_times_49 : decode b_M_times 49 = .ok (.lastore, 1) := by decide +kernel
theorem d_M_times_50 : decode b_M_times 50 = .ok (.lload 7, 2) := by decide +kernel
theorem d_M_times_52 : decode b_M_times 52 = .ok (.ldc2_w 37, 3) := by decide +kernel
theorem d_M_times_55 : decode b_M_times 55 = .ok (.ldiv, 1) := by decide +kernel
theorem d_M_times_56 : decode b_M_times 56 = .ok (.lstore 4, 2) := by decide +kernel
theorem d_M_times_58 : decode b_M_times 58 = .ok (.iinc 6 1, 3) := by decide +kernel
theorem d_M_times_61 : decode b_M_times 61 = .ok (.goto (-55), 3) := by decide +kernel
theorem d_M_times_64 : decode b_M_times 64 = .ok (.return_, 1) := by decide +kernel
theorem d_M_by_0 : decode b_M_by 0 = .ok (.lconst 0, 1) := by decide +kernel
theorem d_M_by_1 : decode b_M_by 1 = .ok (.lstore 4, 2) := by decide +kernel
theorem d_M_by_3 : decode b_M_by 3 = .ok (.bipush 23, 2) := by decide +kernel
theorem d_M_by_5 : decode b_M_by 5 = .ok (.istore 6, 2) := by decide +kernel
theorem d_M_by_7 : decode b_M_by 7 = .ok (.iload 6, 2) := by decide +kernel
theorem d_M_by_9 : decode b_M_by 9 = .ok (.ifCond .lt 52, 3) := by decide +kernel
theorem d_M_by_12 : decode b_M_by 12 = .ok (.lload 4, 2) := by decide +kernel
theorem d_M_by_14 : decode b_M_by 14 = .ok (.ldc2_w 37, 3) := by decide +kernel
theorem d_M_by_17 : decode b_M_by 17 = .ok (.lmul, 1) := by decide +kernel
theorem d_M_by_18 : decode b_M_by 18 = .ok (.aload_n 0, 1) := by decide +kernel
theorem d_M_by_19 : decode b_M_by 19 = .ok (.getfield 23, 3) := by decide +kernel
theorem d_M_by_22 : decode b_M_by 22 = .ok (.bipush 24, 2) := by decide +kernel
theorem d_M_by_24 : decode b_M_by 24 = .ok (.iload_n 1, 1) := by decide +kernel
theorem d_M_by_25 : decode b_M_by 25 = .ok (.imul, 1) := by decide +kernel
theorem d_M_by_26 : decode b_M_by 26 = .ok (.iload 6, 2) := by decide +kernel
theorem d_M_by_28 : decode b_M_by 28 = .ok (.iadd, 1) := by decide +kernel
theorem d_M_by_29 : decode b_M_by 29 = .ok (.laload, 1) := by decide +kernel
theorem d_M_by_30 : decode b_M_by 30 = .ok (.ladd, 1) := by decide +kernel
theorem d_M_by_31 : decode b_M_by 31 = .ok (.lstore 7, 2) := by decide +kernel
theorem d_M_by_33 : decode b_M_by 33 = .ok (.aload_n 0, 1) := by decide +kernel
theorem d_M_by_34 : decode b_M_by 34 = .ok (.getfield 23, 3) := by decide +kernel
theorem d_M_by_37 : decode b_M_by 37 = .ok (.bipush 24, 2) := by decide +kernel
theorem d_M_by_39 : decode b_M_by 39 = .ok (.iload_n 1, 1) := by decide +kernel
theorem d_M_by_40 : decode b_M_by 40 = .ok (.imul, 1) := by decide +kernel
theorem d_M_by_41 : decode b_M_by 41 = .ok (.iload 6, 2) := by decide +kernel
theorem d_M_by_43 : decode b_M_by 43 = .ok (.iadd, 1) := by decide +kernel
theorem d_M_by_44 : decode b_M_by 44 = .ok (.lload 7, 2) := by decide +kernel
theorem d_M_by_46 : decode b_M_by 46 = .ok (.lload_n 2, 1) := by decide +kernel
theorem d_M_by_47 : decode b_M_by 47 = .ok (.ldiv, 1) := by decide +kernel
theorem d_M_by_48 : decode b_M_by 48 = .ok (.lastore, 1) := by decide +kernel
theorem d_M_by_49 : decode b_M_by 49 = .ok (.lload 7, 2) := by decide +kernel
theorem d_M_by_51 : decode b_M_by 51 = .ok (.lload_n 2, 1) := by decide +kernel
theorem d_M_by_52 : decode b_M_by 52 = .ok (.lrem, 1) := by decide +kernel
theorem d_M_by_53 : decode b_M_by 53 = .ok (.lstore 4, 2) := by decide +kernel
theorem d_M_by_55 : decode b_M_by 55 = .ok (.iinc 6 (-1), 3) := by decide +kernel
theorem d_M_by_58 : decode b_M_by 58 = .ok (.goto (-51), 3) := by decide +kernel
theorem d_M_by_61 : decode b_M_by 61 = .ok (.return_, 1) := by decide +kernel
theorem d_M_ratio_0 : decode b_M_ratio 0 = .ok (.aload_n 0, 1) := by decide +kernel
theorem d_M_ratio_1 : decode b_M_ratio 1 = .ok (.iload_n 1, 1) := by decide +kernel
theorem d_M_ratio_2 : decode b_M_ratio 2 = .ok (.lload_n 2, 1) := by decide +kernel
theorem d_M_ratio_3 : decode b_M_ratio 3 = .ok (.invokevirtual 39, 3) := by decide +kernel
theorem d_M_ratio_6 : decode b_M_ratio 6 = .ok (.aload_n 0, 1) := by decide +kernel
theorem d_M_ratio_7 : decode b_M_ratio 7 = .ok (.iload_n 1, 1) := by decide +kernel
theorem d_M_ratio_8 : decode b_M_ratio 8 = .ok (.lload 4, 2) := by decide +kernel
theorem d_M_ratio_10 : decode b_M_ratio 10 = .ok (.invokevirtual 43, 3) := by decide +kernel
theorem d_M_ratio_13 : decode b_M_ratio 13 = .ok (.return_, 1) := by decide +kernel
theorem d_M_multiply_0 : decode b_M_multiply 0 = .ok (.iconst 0, 1) := by decide +kernel
theorem d_M_multiply_1 : decode b_M_multiply 1 = .ok (.istore 4, 2) := by decide +kernel
theorem d_M_multiply_3 : decode b_M_multiply 3 = .ok (.iload 4, 2) := by decide +kernel
theorem d_M_multiply_5 : decode b_M_multiply 5 = .ok (.bipush 48, 2) := by decide +kernel
theorem d_M_multiply_7 : decode b_M_multiply 7 = .ok (.if_icmp .ge 17, 3) := by decide +kernel
theorem d_M_multiply_10 : decode b_M_multiply 10 = .ok (.aload_n 0, 1) := by decide +kernel
theorem d_M_multiply_11 : decode b_M_multiply 11 = .ok (.getfield 27, 3) := by decide +kernel
theorem d_M_multiply_14 : decode b_M_multiply 14 = .ok (.iload 4, 2) := by decide +kernel
theorem d_M_multiply_16 : decode b_M_multiply 16 = .ok (.lconst 0, 1) := by decide +kernel
theorem d_M_multiply_17 : decode b_M_multiply 17 = .ok (.lastore, 1) := by decide +kernel
theorem d_M_multiply_18 : decode b_M_multiply 18 = .ok (.iinc 4 1, 3) := by decide +kernel
theorem d_M_multiply_21 : decode b_M_multiply 21 = .ok (.goto (-18), 3) := by decide +kernel
theorem d_M_multiply_24 : decode b_M_multiply 24 = .ok (.iconst 0, 1) := by decide +kernel
theorem d_M_multiply_25 : decode b_M_multiply 25 = .ok (.istore 4, 2) := by decide +kernel
theorem d_M_multiply_27 : decode b_M_multiply 27 = .ok (.iload 4, 2) := by decide +kernel
theorem d_M_multiply_29 : decode b_M_multiply 29 = .ok (.bipush 24, 2) := by decide +kernel
theorem d_M_multiply_31 : decode b_M_multiply 31 = .ok (.if_icmp .ge 74, 3) := by decide +kernel
theorem d_M_multiply_34 : decode b_M_multiply 34 = .ok (.aload_n 0, 1) := by decide +kernel
theorem d_M_multiply_35 : decode b_M_multiply 35 = .ok (.getfield 23, 3) := by decide +kernel
theorem d_M_multiply_38 : decode b_M_multiply 38 = .ok (.bipush 24, 2) := by decide +kernel
theorem d_M_multiply_40 : decode b_M_multiply 40 = .ok (.iload_n 2, 1) := by decide +kernel
theorem d_M_multiply_41 : decode b_M_multiply 41 = .ok (.imul, 1) := by decide +kernel
theorem d_M_multiply_42 : decode b_M_multiply 42 = .ok (.iload 4, 2) := by decide +kernel
theorem d_M_multiply_44 : decode b_M_multiply 44 = .ok (.iadd, 1) := by decide +kernel
theorem d_M_multiply_45 : decode b_M_multiply 45 = .ok (.laload, 1) := by decide +kernel
theorem d_M_multiply_46 : decode b_M_multiply 46 = .ok (.lstore 5, 2) := by decide +kernel
theorem d_M_multiply_48 : decode b_M_multiply 48 = .ok (.iconst 0, 1) := by decide +kernel
theorem d_M_multiply_49 : decode b_M_multiply 49 = .ok (.istore 7, 2) := by decide +kernel
theorem d_M_multiply_51 : decode b_M_multiply 51 = .ok (.iload 7, 2) := by decide +kernel
theorem d_M_multiply_53 : decode b_M_multiply 53 = .ok (.bipush 24, 2) := by decide +kernel
theorem d_M_multiply_55 : decode b_M_multiply 55 = .ok (.if_icmp .ge 44, 3) := by decide +kernel
theorem d_M_multiply_58 : decode b_M_multiply 58 = .ok (.lload 5, 2) := by decide +kernel
theorem d_M_multiply_60 : decode b_M_multiply 60 = .ok (.lconst 0, 1) := by decide +kernel
theorem d_M_multiply_61 : decode b_M_multiply 61 = .ok (.lcmp, 1) := by decide +kernel
theorem d_M_multiply_62 : decode b_M_multiply 62 = .ok (.ifCond .le 37, 3) := by decide +kernel
theorem d_M_multiply_65 : decode b_M_multiply 65 = .ok (.aload_n 0, 1) := by decide +kernel
theorem d_M_multiply_66 : decode b_M_multiply 66 = .ok (.getfield 27, 3) := by decide +kernel
theorem d_M_multiply_69 : decode b_M_multiply 69 = .ok (.iload 4, 2) := by decide +kernel
theorem d_M_multiply_71 : decode b_M_multiply 71 = .ok (.iload 7, 2) := by decide +kernel
theorem d_M_multiply_73 : decode b_M_multiply 73 = .ok (.iadd, 1) := by decide +kernel
theorem d_M_multiply_74 : decode b_M_multiply 74 = .ok (.dup2, 1) := by decide +kernel
theorem d_M_multiply_75 : decode b_M_multiply 75 = .ok (.laload, 1) := by decide +kernel
theorem d_M_multiply_76 : decode b_M_multiply 76 = .ok (.lload 5, 2) := by decide +kernel
theorem d_M_multiply_78 : decode b_M_multiply 78 = .ok (.aload_n 0, 1) := by decide +kernel
theorem d_M_multiply_79 : decode b_M_multiply 79 = .ok (.getfield 23, 3) := by decide +kernel
theorem d_M_multiply_82 : decode b_M_multiply 82 = .ok (.bipush 24, 2) := by decide +kernel
theorem d_M_multiply_84 : decode b_M_multiply 84 = .ok (.iload_n 3, 1) := by decide +kernel
theorem d_M_multiply_85 : decode b_M_multiply 85 = .ok (.imul, 1) := by decide +kernel
theorem d_M_multiply_86 : decode b_M_multiply 86 = .ok (.iload 7, 2) := by decide +kernel
theorem d_M_multiply_88 : decode b_M_multiply 88 = .ok (.iadd, 1) := by decide +kernel
theorem d_M_multiply_89 : decode b_M_multiply 89 = .ok (.laload, 1) := by decide +kernel
theorem d_M_multiply_90 : decode b_M_multiply 90 = .ok (.lmul, 1) := by decide +kernel
theorem d_M_multiply_91 : decode b_M_multiply 91 = .ok (.ladd, 1) := by decide +kernel
theorem d_M_multiply_92 : decode b_M_multiply 92 = .ok (.lastore, 1) := by decide +kernel
theorem d_M_multiply_93 : decode b_M_multiply 93 = .ok (.iinc 7 1, 3) := by decide +kernel
theorem d_M_multiply_96 : decode b_M_multiply 96 = .ok (.goto (-45), 3) := by decide +kernel
theorem d_M_multiply_99 : decode b_M_multiply 99 = .ok (.iinc 4 1, 3) := by decide +kernel
theorem d_M_multiply_102 : decode b_M_multiply 102 = .ok (.goto (-75), 3) := by decide +kernel
theorem d_M_multiply_105 : decode b_M_multiply 105 = .ok (.lconst 0, 1) := by decide +kernel
theorem d_M_multiply_106 : decode b_M_multiply 106 = .ok (.lstore 4, 2) := by decide +kernel
theorem d_M_multiply_108 : decode b_M_multiply 108 = .ok (.iconst 0, 1) := by decide +kernel
theorem d_M_multiply_109 : decode b_M_multiply 109 = .ok (.istore 6, 2) := by decide +kernel
theorem d_M_multiply_111 : decode b_M_multiply 111 = .ok (.iload 6, 2) := by decide +kernel
theorem d_M_multiply_113 : decode b_M_multiply 113 = .ok (.bipush 48, 2) := by decide +kernel
theorem d_M_multiply_115 : decode b_M_multiply 115 = .ok (.if_icmp .ge 73, 3) := by decide +kernel
theorem d_M_multiply_118 : decode b_M_multiply 118 = .ok (.aload_n 0, 1) := by decide +kernel
theorem d_M_multiply_119 : decode b_M_multiply 119 = .ok (.getfield 27, 3) := by decide +kernel
theorem d_M_multiply_122 : decode b_M_multiply 122 = .ok (.iload 6, 2) := by decide +kernel
theorem d_M_multiply_124 : decode b_M_multiply 124 = .ok (.laload, 1) := by decide +kernel
theorem d_M_multiply_125 : decode b_M_multiply 125 = .ok (.lload 4, 2) := by decide +kernel
theorem d_M_multiply_127 : decode b_M_multiply 127 = .ok (.ladd, 1) := by decide +kernel
theorem d_M_multiply_128 : decode b_M_multiply 128 = .ok (.lstore 7, 2) := by decide +kernel
theorem d_M_multiply_130 : decode b_M_multiply 130 = .ok (.lload 7, 2) := by decide +kernel
theorem d_M_multiply_132 : decode b_M_multiply 132 = .ok (.ldc2_w 37, 3) := by decide +kernel
theorem d_M_multiply_135 : decode b_M_multiply 135 = .ok (.ldiv, 1) := by decide +kernel
theorem d_M_multiply_136 : decode b_M_multiply 136 = .ok (.lstore 4, 2) := by decide +kernel
theorem d_M_multiply_138 : decode b_M_multiply 138 = .ok (.iload 6, 2) := by decide +kernel
theorem d_M_multiply_140 : decode b_M_multiply 140 = .ok (.aload_n 0, 1) := by decide +kernel
theorem d_M_multiply_141 : decode b_M_multiply 141 = .ok (.getfield 19, 3) := by decide +kernel
theorem d_M_multiply_144 : decode b_M_multiply 144 = .ok (.if_icmp .lt 38, 3) := by decide +kernel
theorem d_M_multiply_147 : decode b_M_multiply 147 = .ok (.iload 6, 2) := by decide +kernel
theorem d_M_multiply_149 : decode b_M_multiply 149 = .ok (.aload_n 0, 1) := by decide +kernel
theorem d_M_multiply_150 : decode b_M_multiply 150 = .ok (.getfield 19, 3) := by decide +kernel
theorem d_M_multiply_153 : decode b_M_multiply 153 = .ok (.isub, 1) := by decide +kernel
theorem d_M_multiply_154 : decode b_M_multiply 154 = .ok (.bipush 24, 2) := by decide +kernel
theorem d_M_multiply_156 : decode b_M_multiply 156 = .ok (.if_icmp .ge 26, 3) := by decide +kernel
theorem d_M_multiply_159 : decode b_M_multiply 159 = .ok (.aload_n 0, 1) := by decide +kernel
theorem d_M_multiply_160 : decode b_M_multiply 160 = .ok (.getfield 23, 3) := by decide +kernel
theorem d_M_multiply_163 : decode b_M_multiply 163 = .ok (.bipush 24, 2) := by decide +kernel
theorem d_M_multiply_165 : decode b_M_multiply 165 = .ok (.iload_n 1, 1) := by decide +kernel
theorem d_M_multiply_166 : decode b_M_multiply 166 = .ok (.imul, 1) := by decide +kernel
theorem d_M_multiply_167 : decode b_M_multiply 167 = .ok (.iload 6, 2) := by decide +kernel
theorem d_M_multiply_169 : decode b_M_multiply 169 = .ok (.iadd, 1) := by decide +kernel
theorem d_M_multiply_170 : decode b_M_multiply 170 = .ok (.aload_n 0, 1) := by decide +kernel
theorem d_M_multiply_171 : decode b_M_multiply 171 = .ok (.getfield 19, 3) := by decide +kernel
theorem d_M_multiply_174 : decode b_M_multiply 174 = .ok (.isub, 1) := by decide +kernel
theorem d_M_multiply_175 : decode b_M_multiply 175 = .ok (.lload 7, 2) := by decide +kernel
theorem d_M_multiply_177 : decode b_M_multiply 177 = .ok (.ldc2_w 37, 3) := by decide +kernel
theorem d_M_multiply_180 : decode b_M_multiply 180 = .ok (.lrem, 1) := by decide +kernel
theorem d_M_multiply_181 : decode b_M_multiply 181 = .ok (.lastore, 1) := by decide +kernel
theorem d_M_multiply_182 : decode b_M_multiply 182 = .ok (.iinc 6 1, 3) := by decide +kernel
theorem d_M_multiply_185 : decode b_M_multiply 185 = .ok (.goto (-74), 3) := by decide +kernel
theorem d_M_multiply_188 : decode b_M_multiply 188 = .ok (.return_, 1) := by decide +kernel
theorem d_M_isOpen_0 : decode b_M_isOpen 0 = .ok (.iconst 1, 1) := by decide +kernel
theorem d_M_isOpen_1 : decode b_M_isOpen 1 = .ok (.istore_n 2, 1) := by decide +kernel
theorem d_M_isOpen_2 : decode b_M_isOpen 2 = .ok (.iconst 1, 1) := by decide +kernel
theorem d_M_isOpen_3 : decode b_M_isOpen 3 = .ok (.istore_n 3, 1) := by decide +kernel
theorem d_M_isOpen_4 : decode b_M_isOpen 4 = .ok (.aload_n 0, 1) := by decide +kernel
theorem d_M_isOpen_5 : decode b_M_isOpen 5 = .ok (.getfield 19, 3) := by decide +kernel
theorem d_M_isOpen_8 : decode b_M_isOpen 8 = .ok (.iconst 1, 1) := by decide +kernel
theorem d_M_isOpen_9 : decode b_M_isOpen 9 = .ok (.isub, 1) := by decide +kernel
theorem d_M_isOpen_10 : decode b_M_isOpen 10 = .ok (.istore 4, 2) := by decide +kernel
theorem d_M_isOpen_12 : decode b_M_isOpen 12 = .ok (.iload 4, 2) := by decide +kernel
theorem d_M_isOpen_14 : decode b_M_isOpen 14 = .ok (.aload_n 0, 1) := by decide +kernel
theorem d_M_isOpen_15 : decode b_M_isOpen 15 = .ok (.getfield 19, 3) := by decide +kernel
theorem d_M_isOpen_18 : decode b_M_isOpen 18 = .ok (.bipush 6, 2) := by decide +kernel
theorem d_M_isOpen_20 : decode b_M_isOpen 20 = .ok (.isub, 1) := by decide +kernel
theorem d_M_isOpen_21 : decode b_M_isOpen 21 = .ok (.if_icmp .lt 74, 3) := by decide +kernel
theorem d_M_isOpen_24 : decode b_M_isOpen 24 = .ok (.aload_n 0, 1) := by decide +kernel
theorem d_M_isOpen_25 : decode b_M_isOpen 25 = .ok (.getfield 19, 3) := by decide +kernel
theorem d_M_isOpen_28 : decode b_M_isOpen 28 = .ok (.bipush 11, 2) := by decide +kernel
theorem d_M_isOpen_30 : decode b_M_isOpen 30 = .ok (.if_icmp .ne 65, 3) := by decide +kernel
theorem d_M_isOpen_33 : decode b_M_isOpen 33 = .ok (.iload_n 2, 1) := by decide +kernel
theorem d_M_isOpen_34 : decode b_M_isOpen 34 = .ok (.ifCond .eq 24, 3) := by decide +kernel
theorem d_M_isOpen_37 : decode b_M_isOpen 37 = .ok (.aload_n 0, 1) := by decide +kernel
theorem d_M_isOpen_38 : decode b_M_isOpen 38 = .ok (.getfield 23, 3) := by decide +kernel
theorem d_M_isOpen_41 : decode b_M_isOpen 41 = .ok (.bipush 24, 2) := by decide +kernel
theorem d_M_isOpen_43 : decode b_M_isOpen 43 = .ok (.iload_n 1, 1) := by decide +kernel
theorem d_M_isOpen_44 : decode b_M_isOpen 44 = .ok (.imul, 1) := by decide +kernel
theorem d_M_isOpen_45 : decode b_M_isOpen 45 = .ok (.iload 4, 2) := by decide +kernel
theorem d_M_isOpen_47 : decode b_M_isOpen 47 = .ok (.iadd, 1) := by decide +kernel
theorem d_M_isOpen_48 : decode b_M_isOpen 48 = .ok (.laload, 1) := by decide +kernel
theorem d_M_isOpen_49 : decode b_M_isOpen 49 = .ok (.lconst 0, 1) := by decide +kernel
theorem d_M_isOpen_50 : decode b_M_isOpen 50 = .ok (.lcmp, 1) := by decide +kernel
theorem d_M_isOpen_51 : decode b_M_isOpen 51 = .ok (.ifCond .ne 7, 3) := by decide +kernel
theorem d_M_isOpen_54 : decode b_M_isOpen 54 = .ok (.iconst 1, 1) := by decide +kernel
theorem d_M_isOpen_55 : decode b_M_isOpen 55 = .ok (.goto 4, 3) := by decide +kernel
theorem d_M_isOpen_58 : decode b_M_isOpen 58 = .ok (.iconst 0, 1) := by decide +kernel
theorem d_M_isOpen_59 : decode b_M_isOpen 59 = .ok (.istore_n 2, 1) := by decide +kernel
theorem d_M_isOpen_60 : decode b_M_isOpen 60 = .ok (.iload_n 3, 1) := by decide +kernel
theorem d_M_isOpen_61 : decode b_M_isOpen 61 = .ok (.ifCond .eq 26, 3) := by decide +kernel
theorem d_M_isOpen_64 : decode b_M_isOpen 64 = .ok (.aload_n 0, 1) := by decide +kernel
theorem d_M_isOpen_65 : decode b_M_isOpen 65 = .ok (.getfield 23, 3) := by decide +kernel
theorem d_M_isOpen_68 : decode b_M_isOpen 68 = .ok (.bipush 24, 2) := by decide +kernel
theorem d_M_isOpen_70 : decode b_M_isOpen 70 = .ok (.iload_n 1, 1) := by decide +kernel
theorem d_M_isOpen_71 : decode b_M_isOpen 71 = .ok (.imul, 1) := by decide +kernel
theorem d_M_isOpen_72 : decode b_M_isOpen 72 = .ok (.iload 4, 2) := by decide +kernel
theorem d_M_isOpen_74 : decode b_M_isOpen 74 = .ok (.iadd, 1) := by decide +kernel
theorem d_M_isOpen_75 : decode b_M_isOpen 75 = .ok (.laload, 1) := by decide +kernel
theorem d_M_isOpen_76 : decode b_M_isOpen 76 = .ok (.ldc2_w 46, 3) := by decide +kernel
theorem d_M_isOpen_79 : decode b_M_isOpen 79 = .ok (.lcmp, 1) := by decide +kernel
theorem d_M_isOpen_80 : decode b_M_isOpen 80 = .ok (.ifCond .ne 7, 3) := by decide +kernel
theorem d_M_isOpen_83 : decode b_M_isOpen 83 = .ok (.iconst 1, 1) := by decide +kernel
theorem d_M_isOpen_84 : decode b_M_isOpen 84 = .ok (.goto 4, 3) := by decide +kernel
theorem d_M_isOpen_87 : decode b_M_isOpen 87 = .ok (.iconst 0, 1) := by decide +kernel
theorem d_M_isOpen_88 : decode b_M_isOpen 88 = .ok (.istore_n 3, 1) := by decide +kernel
theorem d_M_isOpen_89 : decode b_M_isOpen 89 = .ok (.iinc 4 (-1), 3) := by decide +kernel
theorem d_M_isOpen_92 : decode b_M_isOpen 92 = .ok (.goto (-80), 3) := by decide +kernel
theorem d_M_isOpen_95 : decode b_M_isOpen 95 = .ok (.aload_n 0, 1) := by decide +kernel
theorem d_M_isOpen_96 : decode b_M_isOpen 96 = .ok (.getfield 19, 3) := by decide +kernel
theorem d_M_isOpen_99 : decode b_M_isOpen 99 = .ok (.bipush 11, 2) := by decide +kernel
theorem d_M_isOpen_101 : decode b_M_isOpen 101 = .ok (.if_icmp .ne 15, 3) := by decide +kernel
theorem d_M_isOpen_104 : decode b_M_isOpen 104 = .ok (.iload_n 2, 1) := by decide +kernel
theorem d_M_isOpen_105 : decode b_M_isOpen 105 = .ok (.ifCond .ne 7, 3) := by decide +kernel
theorem d_M_isOpen_108 : decode b_M_isOpen 108 = .ok (.iload_n 3, 1) := by decide +kernel
theorem d_M_isOpen_109 : decode b_M_isOpen 109 = .ok (.ifCond .eq 7, 3) := by decide +kernel
theorem d_M_isOpen_112 : decode b_M_isOpen 112 = .ok (.iconst 1, 1) := by decide +kernel
theorem d_M_isOpen_113 : decode b_M_isOpen 113 = .ok (.goto 4, 3) := by decide +kernel
theorem d_M_isOpen_116 : decode b_M_isOpen 116 = .ok (.iconst 0, 1) := by decide +kernel
theorem d_M_isOpen_117 : decode b_M_isOpen 117 = .ok (.ireturn, 1) := by decide +kernel
theorem d_M_before_0 : decode b_M_before 0 = .ok (.lconst 0, 1) := by decide +kernel
theorem d_M_before_1 : decode b_M_before 1 = .ok (.lstore_n 2, 1) := by decide +kernel
theorem d_M_before_2 : decode b_M_before 2 = .ok (.bipush 23, 2) := by decide +kernel
theorem d_M_before_4 : decode b_M_before 4 = .ok (.istore 4, 2) := by decide +kernel
theorem d_M_before_6 : decode b_M_before 6 = .ok (.iload 4, 2) := by decide +kernel
theorem d_M_before_8 : decode b_M_before 8 = .ok (.aload_n 0, 1) := by decide +kernel
theorem d_M_before_9 : decode b_M_before 9 = .ok (.getfield 19, 3) := by decide +kernel
theorem d_M_before_12 : decode b_M_before 12 = .ok (.if_icmp .lt 28, 3) := by decide +kernel
theorem d_M_before_15 : decode b_M_before 15 = .ok (.lload_n 2, 1) := by decide +kernel
theorem d_M_before_16 : decode b_M_before 16 = .ok (.ldc2_w 37, 3) := by decide +kernel
theorem d_M_before_19 : decode b_M_before 19 = .ok (.lmul, 1) := by decide +kernel
theorem d_M_before_20 : decode b_M_before 20 = .ok (.aload_n 0, 1) := by decide +kernel
theorem d_M_before_21 : decode b_M_before 21 = .ok (.getfield 23, 3) := by decide +kernel
theorem d_M_before_24 : decode b_M_before 24 = .ok (.bipush 24, 2) := by decide +kernel
theorem d_M_before_26 : decode b_M_before 26 = .ok (.iload_n 1, 1) := by decide +kernel
theorem d_M_before_27 : decode b_M_before 27 = .ok (.imul, 1) := by decide +kernel
theorem d_M_before_28 : decode b_M_before 28 = .ok (.iload 4, 2) := by decide +kernel
theorem d_M_before_30 : decode b_M_before 30 = .ok (.iadd, 1) := by decide +kernel
theorem d_M_before_31 : decode b_M_before 31 = .ok (.laload, 1) := by decide +kernel
theorem d_M_before_32 : decode b_M_before 32 = .ok (.ladd, 1) := by decide +kernel
theorem d_M_before_33 : decode b_M_before 33 = .ok (.lstore_n 2, 1) := by decide +kernel
theorem d_M_before_34 : decode b_M_before 34 = .ok (.iinc 4 (-1), 3) := by decide +kernel
theorem d_M_before_37 : decode b_M_before 37 = .ok (.goto (-31), 3) := by decide +kernel
theorem d_M_before_40 : decode b_M_before 40 = .ok (.lload_n 2, 1) := by decide +kernel
theorem d_M_before_41 : decode b_M_before 41 = .ok (.lreturn, 1) := by decide +kernel
theorem d_M_told_0 : decode b_M_told 0 = .ok (.aload_n 0, 1) := by decide +kernel
theorem d_M_told_1 : decode b_M_told 1 = .ok (.iload_n 1, 1) := by decide +kernel
theorem d_M_told_2 : decode b_M_told 2 = .ok (.ldc2_w 48, 3) := by decide +kernel
theorem d_M_told_5 : decode b_M_told 5 = .ok (.invokevirtual 50, 3) := by decide +kernel
theorem d_M_told_8 : decode b_M_told 8 = .ok (.iload_n 2, 1) := by decide +kernel
theorem d_M_told_9 : decode b_M_told 9 = .ok (.ifCond .eq 14, 3) := by decide +kernel
theorem d_M_told_12 : decode b_M_told 12 = .ok (.aload_n 0, 1) := by decide +kernel
theorem d_M_told_13 : decode b_M_told 13 = .ok (.iload_n 1, 1) := by decide +kernel
theorem d_M_told_14 : decode b_M_told 14 = .ok (.invokevirtual 53, 3) := by decide +kernel
theorem d_M_told_17 : decode b_M_told 17 = .ok (.lneg, 1) := by decide +kernel
theorem d_M_told_18 : decode b_M_told 18 = .ok (.lconst 1, 1) := by decide +kernel
theorem d_M_told_19 : decode b_M_told 19 = .ok (.lsub, 1) := by decide +kernel
theorem d_M_told_20 : decode b_M_told 20 = .ok (.goto 8, 3) := by decide +kernel
theorem d_M_told_23 : decode b_M_told 23 = .ok (.aload_n 0, 1) := by decide +kernel
theorem d_M_told_24 : decode b_M_told 24 = .ok (.iload_n 1, 1) := by decide +kernel
theorem d_M_told_25 : decode b_M_told 25 = .ok (.invokevirtual 53, 3) := by decide +kernel
theorem d_M_told_28 : decode b_M_told 28 = .ok (.lreturn, 1) := by decide +kernel
theorem d_M_powerOf_0 : decode b_M_powerOf 0 = .ok (.aload_n 0, 1) := by decide +kernel
theorem d_M_powerOf_1 : decode b_M_powerOf 1 = .ok (.iconst 2, 1) := by decide +kernel
theorem d_M_powerOf_2 : decode b_M_powerOf 2 = .ok (.bipush 8, 2) := by decide +kernel
theorem d_M_powerOf_4 : decode b_M_powerOf 4 = .ok (.invokevirtual 57, 3) := by decide +kernel
theorem d_M_powerOf_7 : decode b_M_powerOf 7 = .ok (.aload_n 0, 1) := by decide +kernel
theorem d_M_powerOf_8 : decode b_M_powerOf 8 = .ok (.iconst 2, 1) := by decide +kernel
theorem d_M_powerOf_9 : decode b_M_powerOf 9 = .ok (.ldc2_w 61, 3) := by decide +kernel
theorem d_M_powerOf_12 : decode b_M_powerOf 12 = .ok (.invokevirtual 43, 3) := by decide +kernel
theorem d_M_powerOf_15 : decode b_M_powerOf 15 = .ok (.aload_n 0, 1) := by decide +kernel
theorem d_M_powerOf_16 : decode b_M_powerOf 16 = .ok (.iconst 0, 1) := by decide +kernel
theorem d_M_powerOf_17 : decode b_M_powerOf 17 = .ok (.lconst 1, 1) := by decide +kernel
theorem d_M_powerOf_18 : decode b_M_powerOf 18 = .ok (.invokevirtual 39, 3) := by decide +kernel
theorem d_M_powerOf_21 : decode b_M_powerOf 21 = .ok (.aload_n 0, 1) := by decide +kernel
theorem d_M_powerOf_22 : decode b_M_powerOf 22 = .ok (.iconst 1, 1) := by decide +kernel
theorem d_M_powerOf_23 : decode b_M_powerOf 23 = .ok (.lconst 1, 1) := by decide +kernel
theorem d_M_powerOf_24 : decode b_M_powerOf 24 = .ok (.invokevirtual 39, 3) := by decide +kernel
theorem d_M_powerOf_27 : decode b_M_powerOf 27 = .ok (.iconst 1, 1) := by decide +kernel
theorem d_M_powerOf_28 : decode b_M_powerOf 28 = .ok (.istore_n 2, 1) := by decide +kernel
theorem d_M_powerOf_29 : decode b_M_powerOf 29 = .ok (.aload_n 0, 1) := by decide +kernel
theorem d_M_powerOf_30 : decode b_M_powerOf 30 = .ok (.iconst 1, 1) := by decide +kernel
theorem d_M_powerOf_31 : decode b_M_powerOf 31 = .ok (.invokevirtual 63, 3) := by decide +kernel
theorem d_M_powerOf_34 : decode b_M_powerOf 34 = .ok (.ifCond .ne 49, 3) := by decide +kernel
theorem d_M_powerOf_37 : decode b_M_powerOf 37 = .ok (.aload_n 0, 1) := by decide +kernel
theorem d_M_powerOf_38 : decode b_M_powerOf 38 = .ok (.iconst 1, 1) := by decide +kernel
theorem d_M_powerOf_39 : decode b_M_powerOf 39 = .ok (.iconst 1, 1) := by decide +kernel
theorem d_M_powerOf_40 : decode b_M_powerOf 40 = .ok (.iconst 2, 1) := by decide +kernel
theorem d_M_powerOf_41 : decode b_M_powerOf 41 = .ok (.invokevirtual 67, 3) := by decide +kernel
theorem d_M_powerOf_44 : decode b_M_powerOf 44 = .ok (.aload_n 0, 1) := by decide +kernel
theorem d_M_powerOf_45 : decode b_M_powerOf 45 = .ok (.iconst 1, 1) := by decide +kernel
theorem d_M_powerOf_46 : decode b_M_powerOf 46 = .ok (.iload_n 2, 1) := by decide +kernel
theorem d_M_powerOf_47 : decode b_M_powerOf 47 = .ok (.i2l, 1) := by decide +kernel
theorem d_M_powerOf_48 : decode b_M_powerOf 48 = .ok (.invokevirtual 43, 3) := by decide +kernel
theorem d_M_powerOf_51 : decode b_M_powerOf 51 = .ok (.iload_n 1, 1) := by decide +kernel
theorem d_M_powerOf_52 : decode b_M_powerOf 52 = .ok (.ifCond .eq 19, 3) := by decide +kernel
theorem d_M_powerOf_55 : decode b_M_powerOf 55 = .ok (.iload_n 2, 1) := by decide +kernel
theorem d_M_powerOf_56 : decode b_M_powerOf 56 = .ok (.iconst 2, 1) := by decide +kernel
theorem d_M_powerOf_57 : decode b_M_powerOf 57 = .ok (.irem, 1) := by decide +kernel
theorem d_M_powerOf_58 : decode b_M_powerOf 58 = .ok (.iconst 1, 1) := by decide +kernel
theorem d_M_powerOf_59 : decode b_M_powerOf 59 = .ok (.if_icmp .ne 12, 3) := by decide +kernel
theorem d_M_powerOf_62 : decode b_M_powerOf 62 = .ok (.aload_n 0, 1) := by decide +kernel
theorem d_M_powerOf_63 : decode b_M_powerOf 63 = .ok (.iconst 0, 1) := by decide +kernel
theorem d_M_powerOf_64 : decode b_M_powerOf 64 = .ok (.iconst 1, 1) := by decide +kernel
theorem d_M_powerOf_65 : decode b_M_powerOf 65 = .ok (.invokevirtual 71, 3) := by decide +kernel
theorem d_M_powerOf_68 : decode b_M_powerOf 68 = .ok (.goto 9, 3) := by decide +kernel
theorem d_M_powerOf_71 : decode b_M_powerOf 71 = .ok (.aload_n 0, 1) := by decide +kernel
theorem d_M_powerOf_72 : decode b_M_powerOf 72 = .ok (.iconst 0, 1) := by decide +kernel
theorem d_M_powerOf_73 : decode b_M_powerOf 73 = .ok (.iconst 1, 1) := by decide +kernel
theorem d_M_powerOf_74 : decode b_M_powerOf 74 = .ok (.invokevirtual 74, 3) := by decide +kernel
theorem d_M_powerOf_77 : decode b_M_powerOf 77 = .ok (.iinc 2 1, 3) := by decide +kernel
theorem d_M_powerOf_80 : decode b_M_powerOf 80 = .ok (.goto (-51), 3) := by decide +kernel
theorem d_M_powerOf_83 : decode b_M_powerOf 83 = .ok (.iconst 0, 1) := by decide +kernel
theorem d_M_powerOf_84 : decode b_M_powerOf 84 = .ok (.istore_n 2, 1) := by decide +kernel
theorem d_M_powerOf_85 : decode b_M_powerOf 85 = .ok (.iload_n 2, 1) := by decide +kernel
theorem d_M_powerOf_86 : decode b_M_powerOf 86 = .ok (.bipush 6, 2) := by decide +kernel
theorem d_M_powerOf_88 : decode b_M_powerOf 88 = .ok (.if_icmp .ge 16, 3) := by decide +kernel
theorem d_M_powerOf_91 : decode b_M_powerOf 91 = .ok (.aload_n 0, 1) := by decide +kernel
theorem d_M_powerOf_92 : decode b_M_powerOf 92 = .ok (.iconst 0, 1) := by decide +kernel
theorem d_M_powerOf_93 : decode b_M_powerOf 93 = .ok (.iconst 0, 1) := by decide +kernel
theorem d_M_powerOf_94 : decode b_M_powerOf 94 = .ok (.iconst 0, 1) := by decide +kernel
theorem d_M_powerOf_95 : decode b_M_powerOf 95 = .ok (.invokevirtual 67, 3) := by decide +kernel
theorem d_M_powerOf_98 : decode b_M_powerOf 98 = .ok (.iinc 2 1, 3) := by decide +kernel
theorem d_M_powerOf_101 : decode b_M_powerOf 101 = .ok (.goto (-16), 3) := by decide +kernel
theorem d_M_powerOf_104 : decode b_M_powerOf 104 = .ok (.return_, 1) := by decide +kernel
theorem d_M_raised_0 : decode b_M_raised 0 = .ok (.aload_n 0, 1) := by decide +kernel
theorem d_M_raised_1 : decode b_M_raised 1 = .ok (.iconst 1, 1) := by decide +kernel
theorem d_M_raised_2 : decode b_M_raised 2 = .ok (.lload_n 1, 1) := by decide +kernel
theorem d_M_raised_3 : decode b_M_raised 3 = .ok (.lload_n 3, 1) := by decide +kernel
theorem d_M_raised_4 : decode b_M_raised 4 = .ok (.invokevirtual 77, 3) := by decide +kernel
theorem d_M_raised_7 : decode b_M_raised 7 = .ok (.aload_n 0, 1) := by decide +kernel
theorem d_M_raised_8 : decode b_M_raised 8 = .ok (.iconst 0, 1) := by decide +kernel
theorem d_M_raised_9 : decode b_M_raised 9 = .ok (.iconst 1, 1) := by decide +kernel
theorem d_M_raised_10 : decode b_M_raised 10 = .ok (.invokevirtual 57, 3) := by decide +kernel
theorem d_M_raised_13 : decode b_M_raised 13 = .ok (.aload_n 0, 1) := by decide +kernel
theorem d_M_raised_14 : decode b_M_raised 14 = .ok (.iconst 2, 1) := by decide +kernel
theorem d_M_raised_15 : decode b_M_raised 15 = .ok (.iconst 1, 1) := by decide +kernel
theorem d_M_raised_16 : decode b_M_raised 16 = .ok (.iconst 1, 1) := by decide +kernel
theorem d_M_raised_17 : decode b_M_raised 17 = .ok (.invokevirtual 67, 3) := by decide +kernel
theorem d_M_raised_20 : decode b_M_raised 20 = .ok (.iconst 3, 1) := by decide +kernel
theorem d_M_raised_21 : decode b_M_raised 21 = .ok (.istore 5, 2) := by decide +kernel
theorem d_M_raised_23 : decode b_M_raised 23 = .ok (.aload_n 0, 1) := by decide +kernel
theorem d_M_raised_24 : decode b_M_raised 24 = .ok (.iconst 1, 1) := by decide +kernel
theorem d_M_raised_25 : decode b_M_raised 25 = .ok (.invokevirtual 63, 3) := by decide +kernel
theorem d_M_raised_28 : decode b_M_raised 28 = .ok (.ifCond .ne 36, 3) := by decide +kernel
theorem d_M_raised_31 : decode b_M_raised 31 = .ok (.aload_n 0, 1) := by decide +kernel
theorem d_M_raised_32 : decode b_M_raised 32 = .ok (.iconst 1, 1) := by decide +kernel
theorem d_M_raised_33 : decode b_M_raised 33 = .ok (.iconst 1, 1) := by decide +kernel
theorem d_M_raised_34 : decode b_M_raised 34 = .ok (.iconst 2, 1) := by decide +kernel
theorem d_M_raised_35 : decode b_M_raised 35 = .ok (.invokevirtual 67, 3) := by decide +kernel
theorem d_M_raised_38 : decode b_M_raised 38 = .ok (.aload_n 0, 1) := by decide +kernel
theorem d_M_raised_39 : decode b_M_raised 39 = .ok (.iconst 5, 1) := by decide +kernel
theorem d_M_raised_40 : decode b_M_raised 40 = .ok (.iconst 1, 1) := by decide +kernel
theorem d_M_raised_41 : decode b_M_raised 41 = .ok (.invokevirtual 57, 3) := by decide +kernel
theorem d_M_raised_44 : decode b_M_raised 44 = .ok (.aload_n 0, 1) := by decide +kernel
theorem d_M_raised_45 : decode b_M_raised 45 = .ok (.iconst 5, 1) := by decide +kernel
theorem d_M_raised_46 : decode b_M_raised 46 = .ok (.iload 5, 2) := by decide +kernel
theorem d_M_raised_48 : decode b_M_raised 48 = .ok (.i2l, 1) := by decide +kernel
theorem d_M_raised_49 : decode b_M_raised 49 = .ok (.invokevirtual 43, 3) := by decide +kernel
theorem d_M_raised_52 : decode b_M_raised 52 = .ok (.aload_n 0, 1) := by decide +kernel
theorem d_M_raised_53 : decode b_M_raised 53 = .ok (.iconst 0, 1) := by decide +kernel
theorem d_M_raised_54 : decode b_M_raised 54 = .ok (.iconst 5, 1) := by decide +kernel
theorem d_M_raised_55 : decode b_M_raised 55 = .ok (.invokevirtual 74, 3) := by decide +kernel
theorem d_M_raised_58 : decode b_M_raised 58 = .ok (.iinc 5 2, 3) := by decide +kernel
theorem d_M_raised_61 : decode b_M_raised 61 = .ok (.goto (-38), 3) := by decide +kernel
theorem d_M_raised_64 : decode b_M_raised 64 = .ok (.aload_n 0, 1) := by decide +kernel
theorem d_M_raised_65 : decode b_M_raised 65 = .ok (.iconst 0, 1) := by decide +kernel
theorem d_M_raised_66 : decode b_M_raised 66 = .ok (.ldc2_w 81, 3) := by decide +kernel
theorem d_M_raised_69 : decode b_M_raised 69 = .ok (.invokevirtual 50, 3) := by decide +kernel
theorem d_M_raised_72 : decode b_M_raised 72 = .ok (.return_, 1) := by decide +kernel
theorem d_M_logarithmOf_0 : decode b_M_logarithmOf 0 = .ok (.lconst 1, 1) := by decide +kernel
theorem d_M_logarithmOf_1 : decode b_M_logarithmOf 1 = .ok (.lstore_n 3, 1) := by decide +kernel
theorem d_M_logarithmOf_2 : decode b_M_logarithmOf 2 = .ok (.iconst 0, 1) := by decide +kernel
theorem d_M_logarithmOf_3 : decode b_M_logarithmOf 3 = .ok (.istore 5, 2) := by decide +kernel
theorem d_M_logarithmOf_5 : decode b_M_logarithmOf 5 = .ok (.ldc2_w 81, 3) := by decide +kernel
theorem d_M_logarithmOf_8 : decode b_M_logarithmOf 8 = .ok (.lload_n 3, 1) := by decide +kernel
theorem d_M_logarithmOf_9 : decode b_M_logarithmOf 9 = .ok (.lmul, 1) := by decide +kernel
theorem d_M_logarithmOf_10 : decode b_M_logarithmOf 10 = .ok (.lload_n 1, 1) := by decide +kernel
theorem d_M_logarithmOf_11 : decode b_M_logarithmOf 11 = .ok (.lcmp, 1) := by decide +kernel
theorem d_M_logarithmOf_12 : decode b_M_logarithmOf 12 = .ok (.ifCond .gt 15, 3) := by decide +kernel
theorem d_M_logarithmOf_15 : decode b_M_logarithmOf 15 = .ok (.ldc2_w 81, 3) := by decide +kernel
theorem d_M_logarithmOf_18 : decode b_M_logarithmOf 18 = .ok (.lload_n 3, 1) := by decide +kernel
theorem d_M_logarithmOf_19 : decode b_M_logarithmOf 19 = .ok (.lmul, 1) := by decide +kernel
theorem d_M_logarithmOf_20 : decode b_M_logarithmOf 20 = .ok (.lstore_n 3, 1) := by decide +kernel
theorem d_M_logarithmOf_21 : decode b_M_logarithmOf 21 = .ok (.iinc 5 1, 3) := by decide +kernel
theorem d_M_logarithmOf_24 : decode b_M_logarithmOf 24 = .ok (.goto (-19), 3) := by decide +kernel
theorem d_M_logarithmOf_27 : decode b_M_logarithmOf 27 = .ok (.aload_n 0, 1) := by decide +kernel
theorem d_M_logarithmOf_28 : decode b_M_logarithmOf 28 = .ok (.lconst 1, 1) := by decide +kernel
theorem d_M_logarithmOf_29 : decode b_M_logarithmOf 29 = .ok (.ldc2_w 83, 3) := by decide +kernel
theorem d_M_logarithmOf_32 : decode b_M_logarithmOf 32 = .ok (.invokevirtual 85, 3) := by decide +kernel
theorem d_M_logarithmOf_35 : decode b_M_logarithmOf 35 = .ok (.aload_n 0, 1) := by decide +kernel
theorem d_M_logarithmOf_36 : decode b_M_logarithmOf 36 = .ok (.iconst 0, 1) := by decide +kernel
theorem d_M_logarithmOf_37 : decode b_M_logarithmOf 37 = .ok (.iload 5, 2) := by decide +kernel
theorem d_M_logarithmOf_39 : decode b_M_logarithmOf 39 = .ok (.i2l, 1) := by decide +kernel
theorem d_M_logarithmOf_40 : decode b_M_logarithmOf 40 = .ok (.invokevirtual 50, 3) := by decide +kernel
theorem d_M_logarithmOf_43 : decode b_M_logarithmOf 43 = .ok (.aload_n 0, 1) := by decide +kernel
theorem d_M_logarithmOf_44 : decode b_M_logarithmOf 44 = .ok (.iconst 3, 1) := by decide +kernel
theorem d_M_logarithmOf_45 : decode b_M_logarithmOf 45 = .ok (.iconst 0, 1) := by decide +kernel
theorem d_M_logarithmOf_46 : decode b_M_logarithmOf 46 = .ok (.invokevirtual 57, 3) := by decide +kernel
theorem d_M_logarithmOf_49 : decode b_M_logarithmOf 49 = .ok (.aload_n 0, 1) := by decide +kernel
theorem d_M_logarithmOf_50 : decode b_M_logarithmOf 50 = .ok (.lload_n 1, 1) := by decide +kernel
theorem d_M_logarithmOf_51 : decode b_M_logarithmOf 51 = .ok (.lload_n 3, 1) := by decide +kernel
theorem d_M_logarithmOf_52 : decode b_M_logarithmOf 52 = .ok (.lsub, 1) := by decide +kernel
theorem d_M_logarithmOf_53 : decode b_M_logarithmOf 53 = .ok (.lload_n 1, 1) := by decide +kernel
theorem d_M_logarithmOf_54 : decode b_M_logarithmOf 54 = .ok (.lload_n 3, 1) := by decide +kernel
theorem d_M_logarithmOf_55 : decode b_M_logarithmOf 55 = .ok (.ladd, 1) := by decide +kernel
theorem d_M_logarithmOf_56 : decode b_M_logarithmOf 56 = .ok (.invokevirtual 85, 3) := by decide +kernel
theorem d_M_logarithmOf_59 : decode b_M_logarithmOf 59 = .ok (.aload_n 0, 1) := by decide +kernel
theorem d_M_logarithmOf_60 : decode b_M_logarithmOf 60 = .ok (.iconst 0, 1) := by decide +kernel
theorem d_M_logarithmOf_61 : decode b_M_logarithmOf 61 = .ok (.iconst 3, 1) := by decide +kernel
theorem d_M_logarithmOf_62 : decode b_M_logarithmOf 62 = .ok (.invokevirtual 74, 3) := by decide +kernel
theorem d_M_logarithmOf_65 : decode b_M_logarithmOf 65 = .ok (.return_, 1) := by decide +kernel
theorem d_M_angleOfOne_0 : decode b_M_angleOfOne 0 = .ok (.aload_n 0, 1) := by decide +kernel
theorem d_M_angleOfOne_1 : decode b_M_angleOfOne 1 = .ok (.iconst 1, 1) := by decide +kernel
theorem d_M_angleOfOne_2 : decode b_M_angleOfOne 2 = .ok (.lload 4, 2) := by decide +kernel
theorem d_M_angleOfOne_4 : decode b_M_angleOfOne 4 = .ok (.lload_n 2, 1) := by decide +kernel
theorem d_M_angleOfOne_5 : decode b_M_angleOfOne 5 = .ok (.invokevirtual 77, 3) := by decide +kernel
theorem d_M_angleOfOne_8 : decode b_M_angleOfOne 8 = .ok (.aload_n 0, 1) := by decide +kernel
theorem d_M_angleOfOne_9 : decode b_M_angleOfOne 9 = .ok (.iload_n 1, 1) := by decide +kernel
theorem d_M_angleOfOne_10 : decode b_M_angleOfOne 10 = .ok (.iconst 1, 1) := by decide +kernel
theorem d_M_angleOfOne_11 : decode b_M_angleOfOne 11 = .ok (.invokevirtual 57, 3) := by decide +kernel
theorem d_M_angleOfOne_14 : decode b_M_angleOfOne 14 = .ok (.iconst 3, 1) := by decide +kernel
theorem d_M_angleOfOne_15 : decode b_M_angleOfOne 15 = .ok (.istore 6, 2) := by decide +kernel
theorem d_M_angleOfOne_17 : decode b_M_angleOfOne 17 = .ok (.aload_n 0, 1) := by decide +kernel
theorem d_M_angleOfOne_18 : decode b_M_angleOfOne 18 = .ok (.iconst 1, 1) := by decide +kernel
theorem d_M_angleOfOne_19 : decode b_M_angleOfOne 19 = .ok (.invokevirtual 63, 3) := by decide +kernel
theorem d_M_angleOfOne_22 : decode b_M_angleOfOne 22 = .ok (.ifCond .ne 54, 3) := by decide +kernel
theorem d_M_angleOfOne_25 : decode b_M_angleOfOne 25 = .ok (.aload_n 0, 1) := by decide +kernel
theorem d_M_angleOfOne_26 : decode b_M_angleOfOne 26 = .ok (.iconst 1, 1) := by decide +kernel
theorem d_M_angleOfOne_27 : decode b_M_angleOfOne 27 = .ok (.lload_n 2, 1) := by decide +kernel
theorem d_M_angleOfOne_28 : decode b_M_angleOfOne 28 = .ok (.lload_n 2, 1) := by decide +kernel
theorem d_M_angleOfOne_29 : decode b_M_angleOfOne 29 = .ok (.lmul, 1) := by decide +kernel
theorem d_M_angleOfOne_30 : decode b_M_angleOfOne 30 = .ok (.invokevirtual 43, 3) := by decide +kernel
theorem d_M_angleOfOne_33 : decode b_M_angleOfOne 33 = .ok (.aload_n 0, 1) := by decide +kernel
theorem d_M_angleOfOne_34 : decode b_M_angleOfOne 34 = .ok (.iconst 5, 1) := by decide +kernel
theorem d_M_angleOfOne_35 : decode b_M_angleOfOne 35 = .ok (.iconst 1, 1) := by decide +kernel
theorem d_M_angleOfOne_36 : decode b_M_angleOfOne 36 = .ok (.invokevirtual 57, 3) := by decide +kernel
theorem d_M_angleOfOne_39 : decode b_M_angleOfOne 39 = .ok (.aload_n 0, 1) := by decide +kernel
theorem d_M_angleOfOne_40 : decode b_M_angleOfOne 40 = .ok (.iconst 5, 1) := by decide +kernel
theorem d_M_angleOfOne_41 : decode b_M_angleOfOne 41 = .ok (.iload 6, 2) := by decide +kernel
theorem d_M_angleOfOne_43 : decode b_M_angleOfOne 43 = .ok (.i2l, 1) := by decide +kernel
theorem d_M_angleOfOne_44 : decode b_M_angleOfOne 44 = .ok (.invokevirtual 43, 3) := by decide +kernel
theorem d_M_angleOfOne_47 : decode b_M_angleOfOne 47 = .ok (.iload 6, 2) := by decide +kernel
theorem d_M_angleOfOne_49 : decode b_M_angleOfOne 49 = .ok (.iconst 4, 1) := by decide +kernel
theorem d_M_angleOfOne_50 : decode b_M_angleOfOne 50 = .ok (.irem, 1) := by decide +kernel
theorem d_M_angleOfOne_51 : decode b_M_angleOfOne 51 = .ok (.iconst 3, 1) := by decide +kernel
theorem d_M_angleOfOne_52 : decode b_M_angleOfOne 52 = .ok (.if_icmp .ne 12, 3) := by decide +kernel
theorem d_M_angleOfOne_55 : decode b_M_angleOfOne 55 = .ok (.aload_n 0, 1) := by decide +kernel
theorem d_M_angleOfOne_56 : decode b_M_angleOfOne 56 = .ok (.iload_n 1, 1) := by decide +kernel
theorem d_M_angleOfOne_57 : decode b_M_angleOfOne 57 = .ok (.iconst 5, 1) := by decide +kernel
theorem d_M_angleOfOne_58 : decode b_M_angleOfOne 58 = .ok (.invokevirtual 71, 3) := by decide +kernel
theorem d_M_angleOfOne_61 : decode b_M_angleOfOne 61 = .ok (.goto 9, 3) := by decide +kernel
theorem d_M_angleOfOne_64 : decode b_M_angleOfOne 64 = .ok (.aload_n 0, 1) := by decide +kernel
theorem d_M_angleOfOne_65 : decode b_M_angleOfOne 65 = .ok (.iload_n 1, 1) := by decide +kernel
theorem d_M_angleOfOne_66 : decode b_M_angleOfOne 66 = .ok (.iconst 5, 1) := by decide +kernel
theorem d_M_angleOfOne_67 : decode b_M_angleOfOne 67 = .ok (.invokevirtual 74, 3) := by decide +kernel
theorem d_M_angleOfOne_70 : decode b_M_angleOfOne 70 = .ok (.iinc 6 2, 3) := by decide +kernel
theorem d_M_angleOfOne_73 : decode b_M_angleOfOne 73 = .ok (.goto (-56), 3) := by decide +kernel
theorem d_M_angleOfOne_76 : decode b_M_angleOfOne 76 = .ok (.return_, 1) := by decide +kernel
theorem d_M_half_0 : decode b_M_half 0 = .ok (.aload_n 0, 1) := by decide +kernel
theorem d_M_half_1 : decode b_M_half 1 = .ok (.bipush 7, 2) := by decide +kernel
theorem d_M_half_3 : decode b_M_half 3 = .ok (.ldc2_w 89, 3) := by decide +kernel
theorem d_M_half_6 : decode b_M_half 6 = .ok (.ldc2_w 91, 3) := by decide +kernel
theorem d_M_half_9 : decode b_M_half 9 = .ok (.invokevirtual 93, 3) := by decide +kernel
theorem d_M_half_12 : decode b_M_half 12 = .ok (.aload_n 0, 1) := by decide +kernel
theorem d_M_half_13 : decode b_M_half 13 = .ok (.iconst 4, 1) := by decide +kernel
theorem d_M_half_14 : decode b_M_half 14 = .ok (.ldc2_w 96, 3) := by decide +kernel
theorem d_M_half_17 : decode b_M_half 17 = .ok (.ldc2_w 98, 3) := by decide +kernel
theorem d_M_half_20 : decode b_M_half 20 = .ok (.invokevirtual 93, 3) := by decide +kernel
theorem d_M_half_23 : decode b_M_half 23 = .ok (.aload_n 0, 1) := by decide +kernel
theorem d_M_half_24 : decode b_M_half 24 = .ok (.bipush 7, 2) := by decide +kernel
theorem d_M_half_26 : decode b_M_half 26 = .ok (.iconst 4, 1) := by decide +kernel
theorem d_M_half_27 : decode b_M_half 27 = .ok (.invokevirtual 71, 3) := by decide +kernel
theorem d_M_half_30 : decode b_M_half 30 = .ok (.aload_n 0, 1) := by decide +kernel
theorem d_M_half_31 : decode b_M_half 31 = .ok (.iconst 4, 1) := by decide +kernel
theorem d_M_half_32 : decode b_M_half 32 = .ok (.bipush 7, 2) := by decide +kernel
theorem d_M_half_34 : decode b_M_half 34 = .ok (.invokevirtual 57, 3) := by decide +kernel
theorem d_M_half_37 : decode b_M_half 37 = .ok (.aload_n 0, 1) := by decide +kernel
theorem d_M_half_38 : decode b_M_half 38 = .ok (.iconst 4, 1) := by decide +kernel
theorem d_M_half_39 : decode b_M_half 39 = .ok (.ldc2_w 81, 3) := by decide +kernel
theorem d_M_half_42 : decode b_M_half 42 = .ok (.invokevirtual 43, 3) := by decide +kernel
theorem d_M_half_45 : decode b_M_half 45 = .ok (.return_, 1) := by decide +kernel
theorem d_M_angleOf_0 : decode b_M_angleOf 0 = .ok (.lload_n 1, 1) := by decide +kernel
theorem d_M_angleOf_1 : decode b_M_angleOf 1 = .ok (.lload_n 1, 1) := by decide +kernel
theorem d_M_angleOf_2 : decode b_M_angleOf 2 = .ok (.lmul, 1) := by decide +kernel
theorem d_M_angleOf_3 : decode b_M_angleOf 3 = .ok (.lload_n 3, 1) := by decide +kernel
theorem d_M_angleOf_4 : decode b_M_angleOf 4 = .ok (.lload_n 3, 1) := by decide +kernel
theorem d_M_angleOf_5 : decode b_M_angleOf 5 = .ok (.lmul, 1) := by decide +kernel
theorem d_M_angleOf_6 : decode b_M_angleOf 6 = .ok (.ladd, 1) := by decide +kernel
theorem d_M_angleOf_7 : decode b_M_angleOf 7 = .ok (.lstore 5, 2) := by decide +kernel
theorem d_M_angleOf_9 : decode b_M_angleOf 9 = .ok (.aload_n 0, 1) := by decide +kernel
theorem d_M_angleOf_10 : decode b_M_angleOf 10 = .ok (.iconst 1, 1) := by decide +kernel
theorem d_M_angleOf_11 : decode b_M_angleOf 11 = .ok (.lload_n 1, 1) := by decide +kernel
theorem d_M_angleOf_12 : decode b_M_angleOf 12 = .ok (.lload_n 3, 1) := by decide +kernel
theorem d_M_angleOf_13 : decode b_M_angleOf 13 = .ok (.lmul, 1) := by decide +kernel
theorem d_M_angleOf_14 : decode b_M_angleOf 14 = .ok (.lload 5, 2) := by decide +kernel
theorem d_M_angleOf_16 : decode b_M_angleOf 16 = .ok (.invokevirtual 77, 3) := by decide +kernel
theorem d_M_angleOf_19 : decode b_M_angleOf 19 = .ok (.aload_n 0, 1) := by decide +kernel
theorem d_M_angleOf_20 : decode b_M_angleOf 20 = .ok (.iconst 0, 1) := by decide +kernel
theorem d_M_angleOf_21 : decode b_M_angleOf 21 = .ok (.iconst 1, 1) := by decide +kernel
theorem d_M_angleOf_22 : decode b_M_angleOf 22 = .ok (.invokevirtual 57, 3) := by decide +kernel
theorem d_M_angleOf_25 : decode b_M_angleOf 25 = .ok (.iconst 1, 1) := by decide +kernel
theorem d_M_angleOf_26 : decode b_M_angleOf 26 = .ok (.istore 7, 2) := by decide +kernel
theorem d_M_angleOf_28 : decode b_M_angleOf 28 = .ok (.aload_n 0, 1) := by decide +kernel
theorem d_M_angleOf_29 : decode b_M_angleOf 29 = .ok (.iconst 1, 1) := by decide +kernel
theorem d_M_angleOf_30 : decode b_M_angleOf 30 = .ok (.invokevirtual 63, 3) := by decide +kernel
theorem d_M_angleOf_33 : decode b_M_angleOf 33 = .ok (.ifCond .ne 56, 3) := by decide +kernel
theorem d_M_angleOf_36 : decode b_M_angleOf 36 = .ok (.aload_n 0, 1) := by decide +kernel
theorem d_M_angleOf_37 : decode b_M_angleOf 37 = .ok (.iconst 1, 1) := by decide +kernel
theorem d_M_angleOf_38 : decode b_M_angleOf 38 = .ok (.lload_n 1, 1) := by decide +kernel
theorem d_M_angleOf_39 : decode b_M_angleOf 39 = .ok (.lload_n 1, 1) := by decide +kernel
theorem d_M_angleOf_40 : decode b_M_angleOf 40 = .ok (.lmul, 1) := by decide +kernel
theorem d_M_angleOf_41 : decode b_M_angleOf 41 = .ok (.invokevirtual 50, 3) := by decide +kernel
theorem d_M_angleOf_44 : decode b_M_angleOf 44 = .ok (.aload_n 0, 1) := by decide +kernel
theorem d_M_angleOf_45 : decode b_M_angleOf 45 = .ok (.iconst 1, 1) := by decide +kernel
theorem d_M_angleOf_46 : decode b_M_angleOf 46 = .ok (.lload 5, 2) := by decide +kernel
theorem d_M_angleOf_48 : decode b_M_angleOf 48 = .ok (.invokevirtual 43, 3) := by decide +kernel
theorem d_M_angleOf_51 : decode b_M_angleOf 51 = .ok (.aload_n 0, 1) := by decide +kernel
theorem d_M_angleOf_52 : decode b_M_angleOf 52 = .ok (.iconst 1, 1) := by decide +kernel
theorem d_M_angleOf_53 : decode b_M_angleOf 53 = .ok (.ldc2_w 81, 3) := by decide +kernel
theorem d_M_angleOf_56 : decode b_M_angleOf 56 = .ok (.iload 7, 2) := by decide +kernel
theorem d_M_angleOf_58 : decode b_M_angleOf 58 = .ok (.i2l, 1) := by decide +kernel
theorem d_M_angleOf_59 : decode b_M_angleOf 59 = .ok (.lmul, 1) := by decide +kernel
theorem d_M_angleOf_60 : decode b_M_angleOf 60 = .ok (.invokevirtual 50, 3) := by decide +kernel
theorem d_M_angleOf_63 : decode b_M_angleOf 63 = .ok (.aload_n 0, 1) := by decide +kernel
theorem d_M_angleOf_64 : decode b_M_angleOf 64 = .ok (.iconst 1, 1) := by decide +kernel
theorem d_M_angleOf_65 : decode b_M_angleOf 65 = .ok (.ldc2_w 81, 3) := by decide +kernel
theorem d_M_angleOf_68 : decode b_M_angleOf 68 = .ok (.iload 7, 2) := by decide +kernel
theorem d_M_angleOf_70 : decode b_M_angleOf 70 = .ok (.i2l, 1) := by decide +kernel
theorem d_M_angleOf_71 : decode b_M_angleOf 71 = .ok (.lmul, 1) := by decide +kernel
theorem d_M_angleOf_72 : decode b_M_angleOf 72 = .ok (.lconst 1, 1) := by decide +kernel
theorem d_M_angleOf_73 : decode b_M_angleOf 73 = .ok (.ladd, 1) := by decide +kernel
theorem d_M_angleOf_74 : decode b_M_angleOf 74 = .ok (.invokevirtual 43, 3) := by decide +kernel
theorem d_M_angleOf_77 : decode b_M_angleOf 77 = .ok (.aload_n 0, 1) := by decide +kernel
theorem d_M_angleOf_78 : decode b_M_angleOf 78 = .ok (.iconst 0, 1) := by decide +kernel
theorem d_M_angleOf_79 : decode b_M_angleOf 79 = .ok (.iconst 1, 1) := by decide +kernel
theorem d_M_angleOf_80 : decode b_M_angleOf 80 = .ok (.invokevirtual 74, 3) := by decide +kernel
theorem d_M_angleOf_83 : decode b_M_angleOf 83 = .ok (.iinc 7 1, 3) := by decide +kernel
theorem d_M_angleOf_86 : decode b_M_angleOf 86 = .ok (.goto (-58), 3) := by decide +kernel
theorem d_M_angleOf_89 : decode b_M_angleOf 89 = .ok (.return_, 1) := by decide +kernel
theorem d_M_quarter_0 : decode b_M_quarter 0 = .ok (.aload_n 0, 1) := by decide +kernel
theorem d_M_quarter_1 : decode b_M_quarter 1 = .ok (.iconst 2, 1) := by decide +kernel
theorem d_M_quarter_2 : decode b_M_quarter 2 = .ok (.bipush 8, 2) := by decide +kernel
theorem d_M_quarter_4 : decode b_M_quarter 4 = .ok (.bipush 8, 2) := by decide +kernel
theorem d_M_quarter_6 : decode b_M_quarter 6 = .ok (.invokevirtual 67, 3) := by decide +kernel
theorem d_M_quarter_9 : decode b_M_quarter 9 = .ok (.iload_n 1, 1) := by decide +kernel
theorem d_M_quarter_10 : decode b_M_quarter 10 = .ok (.ifCond .eq 12, 3) := by decide +kernel
theorem d_M_quarter_13 : decode b_M_quarter 13 = .ok (.aload_n 0, 1) := by decide +kernel
theorem d_M_quarter_14 : decode b_M_quarter 14 = .ok (.iconst 1, 1) := by decide +kernel
theorem d_M_quarter_15 : decode b_M_quarter 15 = .ok (.lconst 1, 1) := by decide +kernel
theorem d_M_quarter_16 : decode b_M_quarter 16 = .ok (.invokevirtual 39, 3) := by decide +kernel
theorem d_M_quarter_19 : decode b_M_quarter 19 = .ok (.goto 10, 3) := by decide +kernel
theorem d_M_quarter_22 : decode b_M_quarter 22 = .ok (.aload_n 0, 1) := by decide +kernel
theorem d_M_quarter_23 : decode b_M_quarter 23 = .ok (.iconst 1, 1) := by decide +kernel
theorem d_M_quarter_24 : decode b_M_quarter 24 = .ok (.bipush 8, 2) := by decide +kernel
theorem d_M_quarter_26 : decode b_M_quarter 26 = .ok (.invokevirtual 57, 3) := by decide +kernel
theorem d_M_quarter_29 : decode b_M_quarter 29 = .ok (.aload_n 0, 1) := by decide +kernel
theorem d_M_quarter_30 : decode b_M_quarter 30 = .ok (.iconst 0, 1) := by decide +kernel
theorem d_M_quarter_31 : decode b_M_quarter 31 = .ok (.iconst 1, 1) := by decide +kernel
theorem d_M_quarter_32 : decode b_M_quarter 32 = .ok (.invokevirtual 57, 3) := by decide +kernel
theorem d_M_quarter_35 : decode b_M_quarter 35 = .ok (.iload_n 1, 1) := by decide +kernel
theorem d_M_quarter_36 : decode b_M_quarter 36 = .ok (.ifCond .eq 7, 3) := by decide +kernel
theorem d_M_quarter_39 : decode b_M_quarter 39 = .ok (.iconst 1, 1) := by decide +kernel
theorem d_M_quarter_40 : decode b_M_quarter 40 = .ok (.goto 4, 3) := by decide +kernel
theorem d_M_quarter_43 : decode b_M_quarter 43 = .ok (.iconst 2, 1) := by decide +kernel
theorem d_M_quarter_44 : decode b_M_quarter 44 = .ok (.istore_n 2, 1) := by decide +kernel
theorem d_M_quarter_45 : decode b_M_quarter 45 = .ok (.aload_n 0, 1) := by decide +kernel
theorem d_M_quarter_46 : decode b_M_quarter 46 = .ok (.iconst 1, 1) := by decide +kernel
theorem d_M_quarter_47 : decode b_M_quarter 47 = .ok (.invokevirtual 63, 3) := by decide +kernel
theorem d_M_quarter_50 : decode b_M_quarter 50 = .ok (.ifCond .ne 60, 3) := by decide +kernel
theorem d_M_quarter_53 : decode b_M_quarter 53 = .ok (.aload_n 0, 1) := by decide +kernel
theorem d_M_quarter_54 : decode b_M_quarter 54 = .ok (.iconst 1, 1) := by decide +kernel
theorem d_M_quarter_55 : decode b_M_quarter 55 = .ok (.iconst 1, 1) := by decide +kernel
theorem d_M_quarter_56 : decode b_M_quarter 56 = .ok (.iconst 2, 1) := by decide +kernel
theorem d_M_quarter_57 : decode b_M_quarter 57 = .ok (.invokevirtual 67, 3) := by decide +kernel
theorem d_M_quarter_60 : decode b_M_quarter 60 = .ok (.aload_n 0, 1) := by decide +kernel
theorem d_M_quarter_61 : decode b_M_quarter 61 = .ok (.iconst 1, 1) := by decide +kernel
theorem d_M_quarter_62 : decode b_M_quarter 62 = .ok (.iload_n 2, 1) := by decide +kernel
theorem d_M_quarter_63 : decode b_M_quarter 63 = .ok (.i2l, 1) := by decide +kernel
theorem d_M_quarter_64 : decode b_M_quarter 64 = .ok (.iload_n 2, 1) := by decide +kernel
theorem d_M_quarter_65 : decode b_M_quarter 65 = .ok (.iconst 1, 1) := by decide +kernel
theorem d_M_quarter_66 : decode b_M_quarter 66 = .ok (.iadd, 1) := by decide +kernel
theorem d_M_quarter_67 : decode b_M_quarter 67 = .ok (.i2l, 1) := by decide +kernel
theorem d_M_quarter_68 : decode b_M_quarter 68 = .ok (.lmul, 1) := by decide +kernel
theorem d_M_quarter_69 : decode b_M_quarter 69 = .ok (.invokevirtual 43, 3) := by decide +kernel
theorem d_M_quarter_72 : decode b_M_quarter 72 = .ok (.iload_n 2, 1) := by decide +kernel
theorem d_M_quarter_73 : decode b_M_quarter 73 = .ok (.iload_n 1, 1) := by decide +kernel
theorem d_M_quarter_74 : decode b_M_quarter 74 = .ok (.ifCond .eq 7, 3) := by decide +kernel
theorem d_M_quarter_77 : decode b_M_quarter 77 = .ok (.iconst 1, 1) := by decide +kernel
theorem d_M_quarter_78 : decode b_M_quarter 78 = .ok (.goto 4, 3) := by decide +kernel
theorem d_M_quarter_81 : decode b_M_quarter 81 = .ok (.iconst 0, 1) := by decide +kernel
theorem d_M_quarter_82 : decode b_M_quarter 82 = .ok (.iadd, 1) := by decide +kernel
theorem d_M_quarter_83 : decode b_M_quarter 83 = .ok (.iconst 4, 1) := by decide +kernel
theorem d_M_quarter_84 : decode b_M_quarter 84 = .ok (.irem, 1) := by decide +kernel
theorem d_M_quarter_85 : decode b_M_quarter 85 = .ok (.iconst 2, 1) := by decide +kernel
theorem d_M_quarter_86 : decode b_M_quarter 86 = .ok (.if_icmp .ne 12, 3) := by decide +kernel
theorem d_M_quarter_89 : decode b_M_quarter 89 = .ok (.aload_n 0, 1) := by decide +kernel
theorem d_M_quarter_90 : decode b_M_quarter 90 = .ok (.iconst 0, 1) := by decide +kernel
theorem d_M_quarter_91 : decode b_M_quarter 91 = .ok (.iconst 1, 1) := by decide +kernel
theorem d_M_quarter_92 : decode b_M_quarter 92 = .ok (.invokevirtual 71, 3) := by decide +kernel
theorem d_M_quarter_95 : decode b_M_quarter 95 = .ok (.goto 9, 3) := by decide +kernel
theorem d_M_quarter_98 : decode b_M_quarter 98 = .ok (.aload_n 0, 1) := by decide +kernel
theorem d_M_quarter_99 : decode b_M_quarter 99 = .ok (.iconst 0, 1) := by decide +kernel
theorem d_M_quarter_100 : decode b_M_quarter 100 = .ok (.iconst 1, 1) := by decide +kernel
theorem d_M_quarter_101 : decode b_M_quarter 101 = .ok (.invokevirtual 74, 3) := by decide +kernel
theorem d_M_quarter_104 : decode b_M_quarter 104 = .ok (.iinc 2 2, 3) := by decide +kernel
theorem d_M_quarter_107 : decode b_M_quarter 107 = .ok (.goto (-62), 3) := by decide +kernel
theorem d_M_quarter_110 : decode b_M_quarter 110 = .ok (.return_, 1) := by decide +kernel
theorem d_M_power_0 : decode b_M_power 0 = .ok (.aload_n 0, 1) := by decide +kernel
theorem d_M_power_1 : decode b_M_power 1 = .ok (.iload_n 1, 1) := by decide +kernel
theorem d_M_power_2 : decode b_M_power 2 = .ok (.ldc 100, 2) := by decide +kernel
theorem d_M_power_4 : decode b_M_power 4 = .ok (.if_icmp .lt 9, 3) := by decide +kernel
theorem d_M_power_7 : decode b_M_power 7 = .ok (.iload_n 1, 1) := by decide +kernel
theorem d_M_power_8 : decode b_M_power 8 = .ok (.ldc 101, 2) := by decide +kernel
theorem d_M_power_10 : decode b_M_power 10 = .ok (.if_icmp .le 7, 3) := by decide +kernel
theorem d_M_power_13 : decode b_M_power 13 = .ok (.iconst 1, 1) := by decide +kernel
theorem d_M_power_14 : decode b_M_power 14 = .ok (.goto 4, 3) := by decide +kernel
theorem d_M_power_17 : decode b_M_power 17 = .ok (.iconst 0, 1) := by decide +kernel
theorem d_M_power_18 : decode b_M_power 18 = .ok (.putfield 34, 3) := by decide +kernel
theorem d_M_power_21 : decode b_M_power 21 = .ok (.aload_n 0, 1) := by decide +kernel
theorem d_M_power_22 : decode b_M_power 22 = .ok (.getfield 34, 3) := by decide +kernel
theorem d_M_power_25 : decode b_M_power 25 = .ok (.ifCond .le 5, 3) := by decide +kernel
theorem d_M_power_28 : decode b_M_power 28 = .ok (.lconst 0, 1) := by decide +kernel
theorem d_M_power_29 : decode b_M_power 29 = .ok (.lreturn, 1) := by decide +kernel
theorem d_M_power_30 : decode b_M_power 30 = .ok (.iload_n 1, 1) := by decide +kernel
theorem d_M_power_31 : decode b_M_power 31 = .ok (.ifCond .ne 7, 3) := by decide +kernel
theorem d_M_power_34 : decode b_M_power 34 = .ok (.ldc2_w 48, 3) := by decide +kernel
theorem d_M_power_37 : decode b_M_power 37 = .ok (.lreturn, 1) := by decide +kernel
theorem d_M_power_38 : decode b_M_power 38 = .ok (.lconst 0, 1) := by decide +kernel
theorem d_M_power_39 : decode b_M_power 39 = .ok (.lstore_n 2, 1) := by decide +kernel
theorem d_M_power_40 : decode b_M_power 40 = .ok (.iconst 1, 1) := by decide +kernel
theorem d_M_power_41 : decode b_M_power 41 = .ok (.istore 4, 2) := by decide +kernel
theorem d_M_power_43 : decode b_M_power 43 = .ok (.aload_n 0, 1) := by decide +kernel
theorem d_M_power_44 : decode b_M_power 44 = .ok (.bipush 11, 2) := by decide +kernel
theorem d_M_power_46 : decode b_M_power 46 = .ok (.putfield 19, 3) := by decide +kernel
theorem d_M_power_49 : decode b_M_power 49 = .ok (.iload 4, 2) := by decide +kernel
theorem d_M_power_51 : decode b_M_power 51 = .ok (.ifCond .eq 60, 3) := by decide +kernel
theorem d_M_power_54 : decode b_M_power 54 = .ok (.aload_n 0, 1) := by decide +kernel
theorem d_M_power_55 : decode b_M_power 55 = .ok (.bipush 8, 2) := by decide +kernel
theorem d_M_power_57 : decode b_M_power 57 = .ok (.iload_n 1, 1) := by decide +kernel
theorem d_M_power_58 : decode b_M_power 58 = .ok (.ifCond .ge 9, 3) := by decide +kernel
theorem d_M_power_61 : decode b_M_power 61 = .ok (.iload_n 1, 1) := by decide +kernel
theorem d_M_power_62 : decode b_M_power 62 = .ok (.ineg, 1) := by decide +kernel
theorem d_M_power_63 : decode b_M_power 63 = .ok (.i2l, 1) := by decide +kernel
theorem d_M_power_64 : decode b_M_power 64 = .ok (.goto 5, 3) := by decide +kernel
theorem d_M_power_67 : decode b_M_power 67 = .ok (.iload_n 1, 1) := by decide +kernel
theorem d_M_power_68 : decode b_M_power 68 = .ok (.i2l, 1) := by decide +kernel
theorem d_M_power_69 : decode b_M_power 69 = .ok (.ldc2_w 37, 3) := by decide +kernel
theorem d_M_power_72 : decode b_M_power 72 = .ok (.invokevirtual 77, 3) := by decide +kernel
theorem d_M_power_75 : decode b_M_power 75 = .ok (.aload_n 0, 1) := by decide +kernel
theorem d_M_power_76 : decode b_M_power 76 = .ok (.iload_n 1, 1) := by decide +kernel
theorem d_M_power_77 : decode b_M_power 77 = .ok (.ifCond .ge 7, 3) := by decide +kernel
theorem d_M_power_80 : decode b_M_power 80 = .ok (.iconst 1, 1) := by decide +kernel
theorem d_M_power_81 : decode b_M_power 81 = .ok (.goto 4, 3) := by decide +kernel
theorem d_M_power_84 : decode b_M_power 84 = .ok (.iconst 0, 1) := by decide +kernel
theorem d_M_power_85 : decode b_M_power 85 = .ok (.invokevirtual 102, 3) := by decide +kernel
theorem d_M_power_88 : decode b_M_power 88 = .ok (.aload_n 0, 1) := by decide +kernel
theorem d_M_power_89 : decode b_M_power 89 = .ok (.iconst 0, 1) := by decide +kernel
theorem d_M_power_90 : decode b_M_power 90 = .ok (.iconst 0, 1) := by decide +kernel
theorem d_M_power_91 : decode b_M_power 91 = .ok (.invokevirtual 106, 3) := by decide +kernel
theorem d_M_power_94 : decode b_M_power 94 = .ok (.lstore_n 2, 1) := by decide +kernel
theorem d_M_power_95 : decode b_M_power 95 = .ok (.aload_n 0, 1) := by decide +kernel
theorem d_M_power_96 : decode b_M_power 96 = .ok (.iconst 0, 1) := by decide +kernel
theorem d_M_power_97 : decode b_M_power 97 = .ok (.invokevirtual 110, 3) := by decide +kernel
theorem d_M_power_100 : decode b_M_power 100 = .ok (.istore 4, 2) := by decide +kernel
theorem d_M_power_102 : decode b_M_power 102 = .ok (.aload_n 0, 1) := by decide +kernel
theorem d_M_power_103 : decode b_M_power 103 = .ok (.bipush 17, 2) := by decide +kernel
theorem d_M_power_105 : decode b_M_power 105 = .ok (.putfield 19, 3) := by decide +kernel
theorem d_M_power_108 : decode b_M_power 108 = .ok (.goto (-59), 3) := by decide +kernel
theorem d_M_power_111 : decode b_M_power 111 = .ok (.lload_n 2, 1) := by decide +kernel
theorem d_M_power_112 : decode b_M_power 112 = .ok (.lreturn, 1) := by decide +kernel
theorem d_M_logarithm_0 : decode b_M_logarithm 0 = .ok (.aload_n 0, 1) := by decide +kernel
theorem d_M_logarithm_1 : decode b_M_logarithm 1 = .ok (.lload_n 1, 1) := by decide +kernel
theorem d_M_logarithm_2 : decode b_M_logarithm 2 = .ok (.ldc2_w 113, 3) := by decide +kernel
theorem d_M_logarithm_5 : decode b_M_logarithm 5 = .ok (.lcmp, 1) := by decide +kernel
theorem d_M_logarithm_6 : decode b_M_logarithm 6 = .ok (.ifCond .le 7, 3) := by decide +kernel
theorem d_M_logarithm_9 : decode b_M_logarithm 9 = .ok (.iconst 1, 1) := by decide +kernel
theorem d_M_logarithm_10 : decode b_M_logarithm 10 = .ok (.goto 4, 3) := by decide +kernel
theorem d_M_logarithm_13 : decode b_M_logarithm 13 = .ok (.iconst 0, 1) := by decide +kernel
theorem d_M_logarithm_14 : decode b_M_logarithm 14 = .ok (.putfield 34, 3) := by decide +kernel
theorem d_M_logarithm_17 : decode b_M_logarithm 17 = .ok (.aload_n 0, 1) := by decide +kernel
theorem d_M_logarithm_18 : decode b_M_logarithm 18 = .ok (.getfield 34, 3) := by decide +kernel
theorem d_M_logarithm_21 : decode b_M_logarithm 21 = .ok (.ifCond .le 5, 3) := by decide +kernel
theorem d_M_logarithm_24 : decode b_M_logarithm 24 = .ok (.lconst 0, 1) := by decide +kernel
theorem d_M_logarithm_25 : decode b_M_logarithm 25 = .ok (.lreturn, 1) := by decide +kernel
theorem d_M_logarithm_26 : decode b_M_logarithm 26 = .ok (.lload_n 1, 1) := by decide +kernel
theorem d_M_logarithm_27 : decode b_M_logarithm 27 = .ok (.lconst 0, 1) := by decide +kernel
theorem d_M_logarithm_28 : decode b_M_logarithm 28 = .ok (.lcmp, 1) := by decide +kernel
theorem d_M_logarithm_29 : decode b_M_logarithm 29 = .ok (.ifCond .gt 7, 3) := by decide +kernel
theorem d_M_logarithm_32 : decode b_M_logarithm 32 = .ok (.ldc2_w 115, 3) := by decide +kernel
theorem d_M_logarithm_35 : decode b_M_logarithm 35 = .ok (.lreturn, 1) := by decide +kernel
theorem d_M_logarithm_36 : decode b_M_logarithm 36 = .ok (.lload_n 1, 1) := by decide +kernel
theorem d_M_logarithm_37 : decode b_M_logarithm 37 = .ok (.ldc2_w 37, 3) := by decide +kernel
theorem d_M_logarithm_40 : decode b_M_logarithm 40 = .ok (.lcmp, 1) := by decide +kernel
theorem d_M_logarithm_41 : decode b_M_logarithm 41 = .ok (.ifCond .ne 5, 3) := by decide +kernel
theorem d_M_logarithm_44 : decode b_M_logarithm 44 = .ok (.lconst 0, 1) := by decide +kernel
theorem d_M_logarithm_45 : decode b_M_logarithm 45 = .ok (.lreturn, 1) := by decide +kernel
theorem d_M_logarithm_46 : decode b_M_logarithm 46 = .ok (.lconst 0, 1) := by decide +kernel
theorem d_M_logarithm_47 : decode b_M_logarithm 47 = .ok (.lstore_n 3, 1) := by decide +kernel
theorem d_M_logarithm_48 : decode b_M_logarithm 48 = .ok (.iconst 1, 1) := by decide +kernel
theorem d_M_logarithm_49 : decode b_M_logarithm 49 = .ok (.istore 5, 2) := by decide +kernel
theorem d_M_logarithm_51 : decode b_M_logarithm 51 = .ok (.aload_n 0, 1) := by decide +kernel
theorem d_M_logarithm_52 : decode b_M_logarithm 52 = .ok (.bipush 11, 2) := by decide +kernel
theorem d_M_logarithm_54 : decode b_M_logarithm 54 = .ok (.putfield 19, 3) := by decide +kernel
theorem d_M_logarithm_57 : decode b_M_logarithm 57 = .ok (.iload 5, 2) := by decide +kernel
theorem d_M_logarithm_59 : decode b_M_logarithm 59 = .ok (.ifCond .eq 90, 3) := by decide +kernel
theorem d_M_logarithm_62 : decode b_M_logarithm 62 = .ok (.aload_n 0, 1) := by decide +kernel
theorem d_M_logarithm_63 : decode b_M_logarithm 63 = .ok (.ldc2_w 37, 3) := by decide +kernel
theorem d_M_logarithm_66 : decode b_M_logarithm 66 = .ok (.invokevirtual 117, 3) := by decide +kernel
theorem d_M_logarithm_69 : decode b_M_logarithm 69 = .ok (.aload_n 0, 1) := by decide +kernel
theorem d_M_logarithm_70 : decode b_M_logarithm 70 = .ok (.bipush 6, 2) := by decide +kernel
theorem d_M_logarithm_72 : decode b_M_logarithm 72 = .ok (.iconst 0, 1) := by decide +kernel
theorem d_M_logarithm_73 : decode b_M_logarithm 73 = .ok (.invokevirtual 57, 3) := by decide +kernel
theorem d_M_logarithm_76 : decode b_M_logarithm 76 = .ok (.aload_n 0, 1) := by decide +kernel
theorem d_M_logarithm_77 : decode b_M_logarithm 77 = .ok (.lload_n 1, 1) := by decide +kernel
theorem d_M_logarithm_78 : decode b_M_logarithm 78 = .ok (.invokevirtual 117, 3) := by decide +kernel
theorem d_M_logarithm_81 : decode b_M_logarithm 81 = .ok (.lload_n 1, 1) := by decide +kernel
theorem d_M_logarithm_82 : decode b_M_logarithm 82 = .ok (.ldc2_w 37, 3) := by decide +kernel
theorem d_M_logarithm_85 : decode b_M_logarithm 85 = .ok (.lcmp, 1) := by decide +kernel
theorem d_M_logarithm_86 : decode b_M_logarithm 86 = .ok (.ifCond .ge 7, 3) := by decide +kernel
theorem d_M_logarithm_89 : decode b_M_logarithm 89 = .ok (.iconst 1, 1) := by decide +kernel
theorem d_M_logarithm_90 : decode b_M_logarithm 90 = .ok (.goto 4, 3) := by decide +kernel
theorem d_M_logarithm_93 : decode b_M_logarithm 93 = .ok (.iconst 0, 1) := by decide +kernel
theorem d_M_logarithm_94 : decode b_M_logarithm 94 = .ok (.istore 6, 2) := by decide +kernel
theorem d_M_logarithm_96 : decode b_M_logarithm 96 = .ok (.iload 6, 2) := by decide +kernel
theorem d_M_logarithm_98 : decode b_M_logarithm 98 = .ok (.ifCond .eq 20, 3) := by decide +kernel
theorem d_M_logarithm_101 : decode b_M_logarithm 101 = .ok (.aload_n 0, 1) := by decide +kernel
theorem d_M_logarithm_102 : decode b_M_logarithm 102 = .ok (.bipush 6, 2) := by decide +kernel
theorem d_M_logarithm_104 : decode b_M_logarithm 104 = .ok (.iconst 0, 1) := by decide +kernel
theorem d_M_logarithm_105 : decode b_M_logarithm 105 = .ok (.invokevirtual 71, 3) := by decide +kernel
theorem d_M_logarithm_108 : decode b_M_logarithm 108 = .ok (.aload_n 0, 1) := by decide +kernel
theorem d_M_logarithm_109 : decode b_M_logarithm 109 = .ok (.iconst 0, 1) := by decide +kernel
theorem d_M_logarithm_110 : decode b_M_logarithm 110 = .ok (.bipush 6, 2) := by decide +kernel
theorem d_M_logarithm_112 : decode b_M_logarithm 112 = .ok (.invokevirtual 57, 3) := by decide +kernel
theorem d_M_logarithm_115 : decode b_M_logarithm 115 = .ok (.goto 10, 3) := by decide +kernel
theorem d_M_logarithm_118 : decode b_M_logarithm 118 = .ok (.aload_n 0, 1) := by decide +kernel
theorem d_M_logarithm_119 : decode b_M_logarithm 119 = .ok (.iconst 0, 1) := by decide +kernel
theorem d_M_logarithm_120 : decode b_M_logarithm 120 = .ok (.bipush 6, 2) := by decide +kernel
theorem d_M_logarithm_122 : decode b_M_logarithm 122 = .ok (.invokevirtual 71, 3) := by decide +kernel
theorem d_M_logarithm_125 : decode b_M_logarithm 125 = .ok (.aload_n 0, 1) := by decide +kernel
theorem d_M_logarithm_126 : decode b_M_logarithm 126 = .ok (.iconst 0, 1) := by decide +kernel
theorem d_M_logarithm_127 : decode b_M_logarithm 127 = .ok (.iload 6, 2) := by decide +kernel
theorem d_M_logarithm_129 : decode b_M_logarithm 129 = .ok (.invokevirtual 106, 3) := by decide +kernel
theorem d_M_logarithm_132 : decode b_M_logarithm 132 = .ok (.lstore_n 3, 1) := by decide +kernel
theorem d_M_logarithm_133 : decode b_M_logarithm 133 = .ok (.aload_n 0, 1) := by decide +kernel
theorem d_M_logarithm_134 : decode b_M_logarithm 134 = .ok (.iconst 0, 1) := by decide +kernel
theorem d_M_logarithm_135 : decode b_M_logarithm 135 = .ok (.invokevirtual 110, 3) := by decide +kernel
theorem d_M_logarithm_138 : decode b_M_logarithm 138 = .ok (.istore 5, 2) := by decide +kernel
theorem d_M_logarithm_140 : decode b_M_logarithm 140 = .ok (.aload_n 0, 1) := by decide +kernel
theorem d_M_logarithm_141 : decode b_M_logarithm 141 = .ok (.bipush 17, 2) := by decide +kernel
theorem d_M_logarithm_143 : decode b_M_logarithm 143 = .ok (.putfield 19, 3) := by decide +kernel
theorem d_M_logarithm_146 : decode b_M_logarithm 146 = .ok (.goto (-89), 3) := by decide +kernel
theorem d_M_logarithm_149 : decode b_M_logarithm 149 = .ok (.lload_n 3, 1) := by decide +kernel
theorem d_M_logarithm_150 : decode b_M_logarithm 150 = .ok (.lreturn, 1) := by decide +kernel
theorem d_M_wave_0 : decode b_M_wave 0 = .ok (.aload_n 0, 1) := by decide +kernel
theorem d_M_wave_1 : decode b_M_wave 1 = .ok (.iload_n 1, 1) := by decide +kernel
theorem d_M_wave_2 : decode b_M_wave 2 = .ok (.ldc 121, 2) := by decide +kernel
theorem d_M_wave_4 : decode b_M_wave 4 = .ok (.if_icmp .lt 9, 3) := by decide +kernel
theorem d_M_wave_7 : decode b_M_wave 7 = .ok (.iload_n 1, 1) := by decide +kernel
theorem d_M_wave_8 : decode b_M_wave 8 = .ok (.ldc 122, 2) := by decide +kernel
theorem d_M_wave_10 : decode b_M_wave 10 = .ok (.if_icmp .le 7, 3) := by decide +kernel
theorem d_M_wave_13 : decode b_M_wave 13 = .ok (.iconst 1, 1) := by decide +kernel
theorem d_M_wave_14 : decode b_M_wave 14 = .ok (.goto 4, 3) := by decide +kernel
theorem d_M_wave_17 : decode b_M_wave 17 = .ok (.iconst 0, 1) := by decide +kernel
theorem d_M_wave_18 : decode b_M_wave 18 = .ok (.putfield 34, 3) := by decide +kernel
theorem d_M_wave_21 : decode b_M_wave 21 = .ok (.aload_n 0, 1) := by decide +kernel
theorem d_M_wave_22 : decode b_M_wave 22 = .ok (.getfield 34, 3) := by decide +kernel
theorem d_M_wave_25 : decode b_M_wave 25 = .ok (.ifCond .le 5, 3) := by decide +kernel
theorem d_M_wave_28 : decode b_M_wave 28 = .ok (.lconst 0, 1) := by decide +kernel
theorem d_M_wave_29 : decode b_M_wave 29 = .ok (.lreturn, 1) := by decide +kernel
theorem d_M_wave_30 : decode b_M_wave 30 = .ok (.iload_n 1, 1) := by decide +kernel
theorem d_M_wave_31 : decode b_M_wave 31 = .ok (.ifCond .ne 15, 3) := by decide +kernel
theorem d_M_wave_34 : decode b_M_wave 34 = .ok (.iload_n 2, 1) := by decide +kernel
theorem d_M_wave_35 : decode b_M_wave 35 = .ok (.ifCond .eq 9, 3) := by decide +kernel
theorem d_M_wave_38 : decode b_M_wave 38 = .ok (.ldc2_w 48, 3) := by decide +kernel
theorem d_M_wave_41 : decode b_M_wave 41 = .ok (.goto 4, 3) := by decide +kernel
theorem d_M_wave_44 : decode b_M_wave 44 = .ok (.lconst 0, 1) := by decide +kernel
theorem d_M_wave_45 : decode b_M_wave 45 = .ok (.lreturn, 1) := by decide +kernel
theorem d_M_wave_46 : decode b_M_wave 46 = .ok (.lconst 0, 1) := by decide +kernel
theorem d_M_wave_47 : decode b_M_wave 47 = .ok (.lstore_n 3, 1) := by decide +kernel
theorem d_M_wave_48 : decode b_M_wave 48 = .ok (.iconst 1, 1) := by decide +kernel
theorem d_M_wave_49 : decode b_M_wave 49 = .ok (.istore 5, 2) := by decide +kernel
theorem d_M_wave_51 : decode b_M_wave 51 = .ok (.aload_n 0, 1) := by decide +kernel
theorem d_M_wave_52 : decode b_M_wave 52 = .ok (.bipush 11, 2) := by decide +kernel
theorem d_M_wave_54 : decode b_M_wave 54 = .ok (.putfield 19, 3) := by decide +kernel
theorem d_M_wave_57 : decode b_M_wave 57 = .ok (.iload 5, 2) := by decide +kernel
theorem d_M_wave_59 : decode b_M_wave 59 = .ok (.ifCond .eq 153, 3) := by decide +kernel
theorem d_M_wave_62 : decode b_M_wave 62 = .ok (.aload_n 0, 1) := by decide +kernel
theorem d_M_wave_63 : decode b_M_wave 63 = .ok (.invokevirtual 123, 3) := by decide +kernel
theorem d_M_wave_66 : decode b_M_wave 66 = .ok (.aload_n 0, 1) := by decide +kernel
theorem d_M_wave_67 : decode b_M_wave 67 = .ok (.bipush 8, 2) := by decide +kernel
theorem d_M_wave_69 : decode b_M_wave 69 = .ok (.iload_n 1, 1) := by decide +kernel
theorem d_M_wave_70 : decode b_M_wave 70 = .ok (.ifCond .ge 9, 3) := by decide +kernel
theorem d_M_wave_73 : decode b_M_wave 73 = .ok (.iload_n 1, 1) := by decide +kernel
theorem d_M_wave_74 : decode b_M_wave 74 = .ok (.ineg, 1) := by decide +kernel
theorem d_M_wave_75 : decode b_M_wave 75 = .ok (.i2l, 1) := by decide +kernel
theorem d_M_wave_76 : decode b_M_wave 76 = .ok (.goto 5, 3) := by decide +kernel
theorem d_M_wave_79 : decode b_M_wave 79 = .ok (.iload_n 1, 1) := by decide +kernel
theorem d_M_wave_80 : decode b_M_wave 80 = .ok (.i2l, 1) := by decide +kernel
theorem d_M_wave_81 : decode b_M_wave 81 = .ok (.ldc2_w 37, 3) := by decide +kernel
theorem d_M_wave_84 : decode b_M_wave 84 = .ok (.invokevirtual 77, 3) := by decide +kernel
theorem d_M_wave_87 : decode b_M_wave 87 = .ok (.iload_n 1, 1) := by decide +kernel
theorem d_M_wave_88 : decode b_M_wave 88 = .ok (.ifCond .ge 11, 3) := by decide +kernel
theorem d_M_wave_91 : decode b_M_wave 91 = .ok (.iload_n 2, 1) := by decide +kernel
theorem d_M_wave_92 : decode b_M_wave 92 = .ok (.ifCond .ne 7, 3) := by decide +kernel
theorem d_M_wave_95 : decode b_M_wave 95 = .ok (.iconst 1, 1) := by decide +kernel
theorem d_M_wave_96 : decode b_M_wave 96 = .ok (.goto 4, 3) := by decide +kernel
theorem d_M_wave_99 : decode b_M_wave 99 = .ok (.iconst 0, 1) := by decide +kernel
theorem d_M_wave_100 : decode b_M_wave 100 = .ok (.istore 6, 2) := by decide +kernel
theorem d_M_wave_102 : decode b_M_wave 102 = .ok (.aload_n 0, 1) := by decide +kernel
theorem d_M_wave_103 : decode b_M_wave 103 = .ok (.bipush 8, 2) := by decide +kernel
theorem d_M_wave_105 : decode b_M_wave 105 = .ok (.bipush 7, 2) := by decide +kernel
theorem d_M_wave_107 : decode b_M_wave 107 = .ok (.invokevirtual 126, 3) := by decide +kernel
theorem d_M_wave_110 : decode b_M_wave 110 = .ok (.ifCond .lt 26, 3) := by decide +kernel
theorem d_M_wave_113 : decode b_M_wave 113 = .ok (.aload_n 0, 1) := by decide +kernel
theorem d_M_wave_114 : decode b_M_wave 114 = .ok (.bipush 8, 2) := by decide +kernel
theorem d_M_wave_116 : decode b_M_wave 116 = .ok (.bipush 7, 2) := by decide +kernel
theorem d_M_wave_118 : decode b_M_wave 118 = .ok (.invokevirtual 71, 3) := by decide +kernel
theorem d_M_wave_121 : decode b_M_wave 121 = .ok (.iload 6, 2) := by decide +kernel
theorem d_M_wave_123 : decode b_M_wave 123 = .ok (.ifCond .ne 7, 3) := by decide +kernel
theorem d_M_wave_126 : decode b_M_wave 126 = .ok (.iconst 1, 1) := by decide +kernel
theorem d_M_wave_127 : decode b_M_wave 127 = .ok (.goto 4, 3) := by decide +kernel
theorem d_M_wave_130 : decode b_M_wave 130 = .ok (.iconst 0, 1) := by decide +kernel
theorem d_M_wave_131 : decode b_M_wave 131 = .ok (.istore 6, 2) := by decide +kernel
theorem d_M_wave_133 : decode b_M_wave 133 = .ok (.goto (-31), 3) := by decide +kernel
theorem d_M_wave_136 : decode b_M_wave 136 = .ok (.aload_n 0, 1) := by decide +kernel
theorem d_M_wave_137 : decode b_M_wave 137 = .ok (.bipush 8, 2) := by decide +kernel
theorem d_M_wave_139 : decode b_M_wave 139 = .ok (.iconst 4, 1) := by decide +kernel
theorem d_M_wave_140 : decode b_M_wave 140 = .ok (.invokevirtual 126, 3) := by decide +kernel
theorem d_M_wave_143 : decode b_M_wave 143 = .ok (.ifCond .le 40, 3) := by decide +kernel
theorem d_M_wave_146 : decode b_M_wave 146 = .ok (.aload_n 0, 1) := by decide +kernel
theorem d_M_wave_147 : decode b_M_wave 147 = .ok (.bipush 6, 2) := by decide +kernel
theorem d_M_wave_149 : decode b_M_wave 149 = .ok (.bipush 7, 2) := by decide +kernel
theorem d_M_wave_151 : decode b_M_wave 151 = .ok (.invokevirtual 57, 3) := by decide +kernel
theorem d_M_wave_154 : decode b_M_wave 154 = .ok (.aload_n 0, 1) := by decide +kernel
theorem d_M_wave_155 : decode b_M_wave 155 = .ok (.bipush 6, 2) := by decide +kernel
theorem d_M_wave_157 : decode b_M_wave 157 = .ok (.bipush 8, 2) := by decide +kernel
theorem d_M_wave_159 : decode b_M_wave 159 = .ok (.invokevirtual 71, 3) := by decide +kernel
theorem d_M_wave_162 : decode b_M_wave 162 = .ok (.aload_n 0, 1) := by decide +kernel
theorem d_M_wave_163 : decode b_M_wave 163 = .ok (.bipush 8, 2) := by decide +kernel
theorem d_M_wave_165 : decode b_M_wave 165 = .ok (.bipush 6, 2) := by decide +kernel
theorem d_M_wave_167 : decode b_M_wave 167 = .ok (.invokevirtual 57, 3) := by decide +kernel
theorem d_M_wave_170 : decode b_M_wave 170 = .ok (.iload 6, 2) := by decide +kernel
theorem d_M_wave_172 : decode b_M_wave 172 = .ok (.iload_n 2, 1) := by decide +kernel
theorem d_M_wave_173 : decode b_M_wave 173 = .ok (.if_icmp .eq 7, 3) := by decide +kernel
theorem d_M_wave_176 : decode b_M_wave 176 = .ok (.iconst 1, 1) := by decide +kernel
theorem d_M_wave_177 : decode b_M_wave 177 = .ok (.goto 4, 3) := by decide +kernel
theorem d_M_wave_180 : decode b_M_wave 180 = .ok (.iconst 0, 1) := by decide +kernel
theorem d_M_wave_181 : decode b_M_wave 181 = .ok (.istore 6, 2) := by decide +kernel
theorem d_M_wave_183 : decode b_M_wave 183 = .ok (.aload_n 0, 1) := by decide +kernel
theorem d_M_wave_184 : decode b_M_wave 184 = .ok (.iload_n 2, 1) := by decide +kernel
theorem d_M_wave_185 : decode b_M_wave 185 = .ok (.invokevirtual 130, 3) := by decide +kernel
theorem d_M_wave_188 : decode b_M_wave 188 = .ok (.aload_n 0, 1) := by decide +kernel
theorem d_M_wave_189 : decode b_M_wave 189 = .ok (.iconst 0, 1) := by decide +kernel
theorem d_M_wave_190 : decode b_M_wave 190 = .ok (.iload 6, 2) := by decide +kernel
theorem d_M_wave_192 : decode b_M_wave 192 = .ok (.invokevirtual 106, 3) := by decide +kernel
theorem d_M_wave_195 : decode b_M_wave 195 = .ok (.lstore_n 3, 1) := by decide +kernel
theorem d_M_wave_196 : decode b_M_wave 196 = .ok (.aload_n 0, 1) := by decide +kernel
theorem d_M_wave_197 : decode b_M_wave 197 = .ok (.iconst 0, 1) := by decide +kernel
theorem d_M_wave_198 : decode b_M_wave 198 = .ok (.invokevirtual 110, 3) := by decide +kernel
theorem d_M_wave_201 : decode b_M_wave 201 = .ok (.istore 5, 2) := by decide +kernel
theorem d_M_wave_203 : decode b_M_wave 203 = .ok (.aload_n 0, 1) := by decide +kernel
theorem d_M_wave_204 : decode b_M_wave 204 = .ok (.bipush 17, 2) := by decide +kernel
theorem d_M_wave_206 : decode b_M_wave 206 = .ok (.putfield 19, 3) := by decide +kernel
theorem d_M_wave_209 : decode b_M_wave 209 = .ok (.goto (-152), 3) := by decide +kernel
theorem d_M_wave_212 : decode b_M_wave 212 = .ok (.lload_n 3, 1) := by decide +kernel
theorem d_M_wave_213 : decode b_M_wave 213 = .ok (.lreturn, 1) := by decide +kernel
theorem d_M_sine_0 : decode b_M_sine 0 = .ok (.aload_n 0, 1) := by decide +kernel
theorem d_M_sine_1 : decode b_M_sine 1 = .ok (.iload_n 1, 1) := by decide +kernel
theorem d_M_sine_2 : decode b_M_sine 2 = .ok (.iconst 0, 1) := by decide +kernel
theorem d_M_sine_3 : decode b_M_sine 3 = .ok (.invokevirtual 133, 3) := by decide +kernel
theorem d_M_sine_6 : decode b_M_sine 6 = .ok (.lreturn, 1) := by decide +kernel
theorem d_M_cosine_0 : decode b_M_cosine 0 = .ok (.aload_n 0, 1) := by decide +kernel
theorem d_M_cosine_1 : decode b_M_cosine 1 = .ok (.iload_n 1, 1) := by decide +kernel
theorem d_M_cosine_2 : decode b_M_cosine 2 = .ok (.iconst 1, 1) := by decide +kernel
theorem d_M_cosine_3 : decode b_M_cosine 3 = .ok (.invokevirtual 133, 3) := by decide +kernel
theorem d_M_cosine_6 : decode b_M_cosine 6 = .ok (.lreturn, 1) := by decide +kernel
theorem d_M_angle_0 : decode b_M_angle 0 = .ok (.aload_n 0, 1) := by decide +kernel
theorem d_M_angle_1 : decode b_M_angle 1 = .ok (.iload_n 1, 1) := by decide +kernel
theorem d_M_angle_2 : decode b_M_angle 2 = .ok (.ldc 136, 2) := by decide +kernel
theorem d_M_angle_4 : decode b_M_angle 4 = .ok (.if_icmp .lt 21, 3) := by decide +kernel
theorem d_M_angle_7 : decode b_M_angle 7 = .ok (.iload_n 1, 1) := by decide +kernel
theorem d_M_angle_8 : decode b_M_angle 8 = .ok (.ldc 137, 2) := by decide +kernel
theorem d_M_angle_10 : decode b_M_angle 10 = .ok (.if_icmp .gt 15, 3) := by decide +kernel
theorem d_M_angle_13 : decode b_M_angle 13 = .ok (.iload_n 2, 1) := by decide +kernel
theorem d_M_angle_14 : decode b_M_angle 14 = .ok (.ldc 136, 2) := by decide +kernel
theorem d_M_angle_16 : decode b_M_angle 16 = .ok (.if_icmp .lt 9, 3) := by decide +kernel
theorem d_M_angle_19 : decode b_M_angle 19 = .ok (.iload_n 2, 1) := by decide +kernel
theorem d_M_angle_20 : decode b_M_angle 20 = .ok (.ldc 137, 2) := by decide +kernel
theorem d_M_angle_22 : decode b_M_angle 22 = .ok (.if_icmp .le 7, 3) := by decide +kernel
theorem d_M_angle_25 : decode b_M_angle 25 = .ok (.iconst 1, 1) := by decide +kernel
theorem d_M_angle_26 : decode b_M_angle 26 = .ok (.goto 4, 3) := by decide +kernel
theorem d_M_angle_29 : decode b_M_angle 29 = .ok (.iconst 0, 1) := by decide +kernel
theorem d_M_angle_30 : decode b_M_angle 30 = .ok (.putfield 34, 3) := by decide +kernel
theorem d_M_angle_33 : decode b_M_angle 33 = .ok (.aload_n 0, 1) := by decide +kernel
theorem d_M_angle_34 : decode b_M_angle 34 = .ok (.getfield 34, 3) := by decide +kernel
theorem d_M_angle_37 : decode b_M_angle 37 = .ok (.ifCond .le 5, 3) := by decide +kernel
theorem d_M_angle_40 : decode b_M_angle 40 = .ok (.lconst 0, 1) := by decide +kernel
theorem d_M_angle_41 : decode b_M_angle 41 = .ok (.lreturn, 1) := by decide +kernel
theorem d_M_angle_42 : decode b_M_angle 42 = .ok (.iload_n 1, 1) := by decide +kernel
theorem d_M_angle_43 : decode b_M_angle 43 = .ok (.ifCond .ne 19, 3) := by decide +kernel
theorem d_M_angle_46 : decode b_M_angle 46 = .ok (.iload_n 2, 1) := by decide +kernel
theorem d_M_angle_47 : decode b_M_angle 47 = .ok (.ifCond .lt 15, 3) := by decide +kernel
theorem d_M_angle_50 : decode b_M_angle 50 = .ok (.iload_n 2, 1) := by decide +kernel
theorem d_M_angle_51 : decode b_M_angle 51 = .ok (.ifCond .ne 9, 3) := by decide +kernel
theorem d_M_angle_54 : decode b_M_angle 54 = .ok (.ldc2_w 115, 3) := by decide +kernel
theorem d_M_angle_57 : decode b_M_angle 57 = .ok (.goto 4, 3) := by decide +kernel
theorem d_M_angle_60 : decode b_M_angle 60 = .ok (.lconst 0, 1) := by decide +kernel
theorem d_M_angle_61 : decode b_M_angle 61 = .ok (.lreturn, 1) := by decide +kernel
theorem d_M_angle_62 : decode b_M_angle 62 = .ok (.iload_n 2, 1) := by decide +kernel
theorem d_M_angle_63 : decode b_M_angle 63 = .ok (.ifCond .ge 9, 3) := by decide +kernel
theorem d_M_angle_66 : decode b_M_angle 66 = .ok (.iload_n 2, 1) := by decide +kernel
theorem d_M_angle_67 : decode b_M_angle 67 = .ok (.ineg, 1) := by decide +kernel
theorem d_M_angle_68 : decode b_M_angle 68 = .ok (.i2l, 1) := by decide +kernel
theorem d_M_angle_69 : decode b_M_angle 69 = .ok (.goto 5, 3) := by decide +kernel
theorem d_M_angle_72 : decode b_M_angle 72 = .ok (.iload_n 2, 1) := by decide +kernel
theorem d_M_angle_73 : decode b_M_angle 73 = .ok (.i2l, 1) := by decide +kernel
theorem d_M_angle_74 : decode b_M_angle 74 = .ok (.lstore_n 3, 1) := by decide +kernel
theorem d_M_angle_75 : decode b_M_angle 75 = .ok (.iload_n 1, 1) := by decide +kernel
theorem d_M_angle_76 : decode b_M_angle 76 = .ok (.ifCond .ge 9, 3) := by decide +kernel
theorem d_M_angle_79 : decode b_M_angle 79 = .ok (.iload_n 1, 1) := by decide +kernel
theorem d_M_angle_80 : decode b_M_angle 80 = .ok (.ineg, 1) := by decide +kernel
theorem d_M_angle_81 : decode b_M_angle 81 = .ok (.i2l, 1) := by decide +kernel
theorem d_M_angle_82 : decode b_M_angle 82 = .ok (.goto 5, 3) := by decide +kernel
theorem d_M_angle_85 : decode b_M_angle 85 = .ok (.iload_n 1, 1) := by decide +kernel
theorem d_M_angle_86 : decode b_M_angle 86 = .ok (.i2l, 1) := by decide +kernel
theorem d_M_angle_87 : decode b_M_angle 87 = .ok (.lstore 5, 2) := by decide +kernel
theorem d_M_angle_89 : decode b_M_angle 89 = .ok (.lconst 0, 1) := by decide +kernel
theorem d_M_angle_90 : decode b_M_angle 90 = .ok (.lstore 7, 2) := by decide +kernel
theorem d_M_angle_92 : decode b_M_angle 92 = .ok (.iconst 1, 1) := by decide +kernel
theorem d_M_angle_93 : decode b_M_angle 93 = .ok (.istore 9, 2) := by decide +kernel
theorem d_M_angle_95 : decode b_M_angle 95 = .ok (.aload_n 0, 1) := by decide +kernel
theorem d_M_angle_96 : decode b_M_angle 96 = .ok (.bipush 11, 2) := by decide +kernel
theorem d_M_angle_98 : decode b_M_angle 98 = .ok (.putfield 19, 3) := by decide +kernel
theorem d_M_angle_101 : decode b_M_angle 101 = .ok (.iload 9, 2) := by decide +kernel
theorem d_M_angle_103 : decode b_M_angle 103 = .ok (.ifCond .eq 110, 3) := by decide +kernel
theorem d_M_angle_106 : decode b_M_angle 106 = .ok (.aload_n 0, 1) := by decide +kernel
theorem d_M_angle_107 : decode b_M_angle 107 = .ok (.invokevirtual 123, 3) := by decide +kernel
theorem d_M_angle_110 : decode b_M_angle 110 = .ok (.lload 5, 2) := by decide +kernel
theorem d_M_angle_112 : decode b_M_angle 112 = .ok (.lload_n 3, 1) := by decide +kernel
theorem d_M_angle_113 : decode b_M_angle 113 = .ok (.lcmp, 1) := by decide +kernel
theorem d_M_angle_114 : decode b_M_angle 114 = .ok (.ifCond .le 34, 3) := by decide +kernel
theorem d_M_angle_117 : decode b_M_angle 117 = .ok (.aload_n 0, 1) := by decide +kernel
theorem d_M_angle_118 : decode b_M_angle 118 = .ok (.lload_n 3, 1) := by decide +kernel
theorem d_M_angle_119 : decode b_M_angle 119 = .ok (.lload 5, 2) := by decide +kernel
theorem d_M_angle_121 : decode b_M_angle 121 = .ok (.invokevirtual 138, 3) := by decide +kernel
theorem d_M_angle_124 : decode b_M_angle 124 = .ok (.aload_n 0, 1) := by decide +kernel
theorem d_M_angle_125 : decode b_M_angle 125 = .ok (.bipush 6, 2) := by decide +kernel
theorem d_M_angle_127 : decode b_M_angle 127 = .ok (.iconst 4, 1) := by decide +kernel
theorem d_M_angle_128 : decode b_M_angle 128 = .ok (.invokevirtual 57, 3) := by decide +kernel
theorem d_M_angle_131 : decode b_M_angle 131 = .ok (.aload_n 0, 1) := by decide +kernel
theorem d_M_angle_132 : decode b_M_angle 132 = .ok (.bipush 6, 2) := by decide +kernel
theorem d_M_angle_134 : decode b_M_angle 134 = .ok (.iconst 0, 1) := by decide +kernel
theorem d_M_angle_135 : decode b_M_angle 135 = .ok (.invokevirtual 71, 3) := by decide +kernel
theorem d_M_angle_138 : decode b_M_angle 138 = .ok (.aload_n 0, 1) := by decide +kernel
theorem d_M_angle_139 : decode b_M_angle 139 = .ok (.iconst 0, 1) := by decide +kernel
theorem d_M_angle_140 : decode b_M_angle 140 = .ok (.bipush 6, 2) := by decide +kernel
theorem d_M_angle_142 : decode b_M_angle 142 = .ok (.invokevirtual 57, 3) := by decide +kernel
theorem d_M_angle_145 : decode b_M_angle 145 = .ok (.goto 10, 3) := by decide +kernel
theorem d_M_angle_148 : decode b_M_angle 148 = .ok (.aload_n 0, 1) := by decide +kernel
theorem d_M_angle_149 : decode b_M_angle 149 = .ok (.lload 5, 2) := by decide +kernel
theorem d_M_angle_151 : decode b_M_angle 151 = .ok (.lload_n 3, 1) := by decide +kernel
theorem d_M_angle_152 : decode b_M_angle 152 = .ok (.invokevirtual 138, 3) := by decide +kernel
theorem d_M_angle_155 : decode b_M_angle 155 = .ok (.iload_n 2, 1) := by decide +kernel
theorem d_M_angle_156 : decode b_M_angle 156 = .ok (.ifCond .ge 25, 3) := by decide +kernel
theorem d_M_angle_159 : decode b_M_angle 159 = .ok (.aload_n 0, 1) := by decide +kernel
theorem d_M_angle_160 : decode b_M_angle 160 = .ok (.bipush 6, 2) := by decide +kernel
theorem d_M_angle_162 : decode b_M_angle 162 = .ok (.bipush 7, 2) := by decide +kernel
theorem d_M_angle_164 : decode b_M_angle 164 = .ok (.invokevirtual 57, 3) := by decide +kernel
theorem d_M_angle_167 : decode b_M_angle 167 = .ok (.aload_n 0, 1) := by decide +kernel
theorem d_M_angle_168 : decode b_M_angle 168 = .ok (.bipush 6, 2) := by decide +kernel
theorem d_M_angle_170 : decode b_M_angle 170 = .ok (.iconst 0, 1) := by decide +kernel
theorem d_M_angle_171 : decode b_M_angle 171 = .ok (.invokevirtual 71, 3) := by decide +kernel
theorem d_M_angle_174 : decode b_M_angle 174 = .ok (.aload_n 0, 1) := by decide +kernel
theorem d_M_angle_175 : decode b_M_angle 175 = .ok (.iconst 0, 1) := by decide +kernel
theorem d_M_angle_176 : decode b_M_angle 176 = .ok (.bipush 6, 2) := by decide +kernel
theorem d_M_angle_178 : decode b_M_angle 178 = .ok (.invokevirtual 57, 3) := by decide +kernel
theorem d_M_angle_181 : decode b_M_angle 181 = .ok (.aload_n 0, 1) := by decide +kernel
theorem d_M_angle_182 : decode b_M_angle 182 = .ok (.iconst 0, 1) := by decide +kernel
theorem d_M_angle_183 : decode b_M_angle 183 = .ok (.iload_n 1, 1) := by decide +kernel
theorem d_M_angle_184 : decode b_M_angle 184 = .ok (.ifCond .ge 7, 3) := by decide +kernel
theorem d_M_angle_187 : decode b_M_angle 187 = .ok (.iconst 1, 1) := by decide +kernel
theorem d_M_angle_188 : decode b_M_angle 188 = .ok (.goto 4, 3) := by decide +kernel
theorem d_M_angle_191 : decode b_M_angle 191 = .ok (.iconst 0, 1) := by decide +kernel
theorem d_M_angle_192 : decode b_M_angle 192 = .ok (.invokevirtual 106, 3) := by decide +kernel
theorem d_M_angle_195 : decode b_M_angle 195 = .ok (.lstore 7, 2) := by decide +kernel
theorem d_M_angle_197 : decode b_M_angle 197 = .ok (.aload_n 0, 1) := by decide +kernel
theorem d_M_angle_198 : decode b_M_angle 198 = .ok (.iconst 0, 1) := by decide +kernel
theorem d_M_angle_199 : decode b_M_angle 199 = .ok (.invokevirtual 110, 3) := by decide +kernel
theorem d_M_angle_202 : decode b_M_angle 202 = .ok (.istore 9, 2) := by decide +kernel
theorem d_M_angle_204 : decode b_M_angle 204 = .ok (.aload_n 0, 1) := by decide +kernel
theorem d_M_angle_205 : decode b_M_angle 205 = .ok (.bipush 17, 2) := by decide +kernel
theorem d_M_angle_207 : decode b_M_angle 207 = .ok (.putfield 19, 3) := by decide +kernel
theorem d_M_angle_210 : decode b_M_angle 210 = .ok (.goto (-109), 3) := by decide +kernel
theorem d_M_angle_213 : decode b_M_angle 213 = .ok (.lload 7, 2) := by decide +kernel
theorem d_M_angle_215 : decode b_M_angle 215 = .ok (.lreturn, 1) := by decide +kernel
theorem d_M_root_0 : decode b_M_root 0 = .ok (.aload_n 0, 1) := by decide +kernel
theorem d_M_root_1 : decode b_M_root 1 = .ok (.lload_n 1, 1) := by decide +kernel
theorem d_M_root_2 : decode b_M_root 2 = .ok (.lconst 0, 1) := by decide +kernel
theorem d_M_root_3 : decode b_M_root 3 = .ok (.lcmp, 1) := by decide +kernel
theorem d_M_root_4 : decode b_M_root 4 = .ok (.ifCond .lt 21, 3) := by decide +kernel
theorem d_M_root_7 : decode b_M_root 7 = .ok (.lload_n 1, 1) := by decide +kernel
theorem d_M_root_8 : decode b_M_root 8 = .ok (.ldc2_w 113, 3) := by decide +kernel
theorem d_M_root_11 : decode b_M_root 11 = .ok (.lcmp, 1) := by decide +kernel
theorem d_M_root_12 : decode b_M_root 12 = .ok (.ifCond .gt 13, 3) := by decide +kernel
theorem d_M_root_15 : decode b_M_root 15 = .ok (.iload_n 3, 1) := by decide +kernel
theorem d_M_root_16 : decode b_M_root 16 = .ok (.iconst 2, 1) := by decide +kernel
theorem d_M_root_17 : decode b_M_root 17 = .ok (.if_icmp .lt 8, 3) := by decide +kernel
theorem d_M_root_20 : decode b_M_root 20 = .ok (.iload_n 3, 1) := by decide +kernel
theorem d_M_root_21 : decode b_M_root 21 = .ok (.iconst 5, 1) := by decide +kernel
theorem d_M_root_22 : decode b_M_root 22 = .ok (.if_icmp .le 7, 3) := by decide +kernel
theorem d_M_root_25 : decode b_M_root 25 = .ok (.iconst 1, 1) := by decide +kernel
theorem d_M_root_26 : decode b_M_root 26 = .ok (.goto 4, 3) := by decide +kernel
theorem d_M_root_29 : decode b_M_root 29 = .ok (.iconst 0, 1) := by decide +kernel
theorem d_M_root_30 : decode b_M_root 30 = .ok (.putfield 34, 3) := by decide +kernel
theorem d_M_root_33 : decode b_M_root 33 = .ok (.aload_n 0, 1) := by decide +kernel
theorem d_M_root_34 : decode b_M_root 34 = .ok (.getfield 34, 3) := by decide +kernel
theorem d_M_root_37 : decode b_M_root 37 = .ok (.ifCond .le 5, 3) := by decide +kernel
theorem d_M_root_40 : decode b_M_root 40 = .ok (.lconst 0, 1) := by decide +kernel
theorem d_M_root_41 : decode b_M_root 41 = .ok (.lreturn, 1) := by decide +kernel
theorem d_M_root_42 : decode b_M_root 42 = .ok (.aload_n 0, 1) := by decide +kernel
theorem d_M_root_43 : decode b_M_root 43 = .ok (.iconst 0, 1) := by decide +kernel
theorem d_M_root_44 : decode b_M_root 44 = .ok (.putfield 19, 3) := by decide +kernel
theorem d_M_root_47 : decode b_M_root 47 = .ok (.aload_n 0, 1) := by decide +kernel
theorem d_M_root_48 : decode b_M_root 48 = .ok (.bipush 6, 2) := by decide +kernel
theorem d_M_root_50 : decode b_M_root 50 = .ok (.lload_n 1, 1) := by decide +kernel
theorem d_M_root_51 : decode b_M_root 51 = .ok (.invokevirtual 39, 3) := by decide +kernel
theorem d_M_root_54 : decode b_M_root 54 = .ok (.iconst 0, 1) := by decide +kernel
theorem d_M_root_55 : decode b_M_root 55 = .ok (.istore 4, 2) := by decide +kernel
theorem d_M_root_57 : decode b_M_root 57 = .ok (.iload 4, 2) := by decide +kernel
theorem d_M_root_59 : decode b_M_root 59 = .ok (.iload_n 3, 1) := by decide +kernel
theorem d_M_root_60 : decode b_M_root 60 = .ok (.iconst 1, 1) := by decide +kernel
theorem d_M_root_61 : decode b_M_root 61 = .ok (.isub, 1) := by decide +kernel
theorem d_M_root_62 : decode b_M_root 62 = .ok (.if_icmp .ge 18, 3) := by decide +kernel
theorem d_M_root_65 : decode b_M_root 65 = .ok (.aload_n 0, 1) := by decide +kernel
theorem d_M_root_66 : decode b_M_root 66 = .ok (.bipush 6, 2) := by decide +kernel
theorem d_M_root_68 : decode b_M_root 68 = .ok (.ldc2_w 48, 3) := by decide +kernel
theorem d_M_root_71 : decode b_M_root 71 = .ok (.invokevirtual 50, 3) := by decide +kernel
theorem d_M_root_74 : decode b_M_root 74 = .ok (.iinc 4 1, 3) := by decide +kernel
theorem d_M_root_77 : decode b_M_root 77 = .ok (.goto (-20), 3) := by decide +kernel
theorem d_M_root_80 : decode b_M_root 80 = .ok (.aload_n 0, 1) := by decide +kernel
theorem d_M_root_81 : decode b_M_root 81 = .ok (.bipush 6, 2) := by decide +kernel
theorem d_M_root_83 : decode b_M_root 83 = .ok (.ldc2_w 141, 3) := by decide +kernel
theorem d_M_root_86 : decode b_M_root 86 = .ok (.invokevirtual 50, 3) := by decide +kernel
theorem d_M_root_89 : decode b_M_root 89 = .ok (.lconst 0, 1) := by decide +kernel
theorem d_M_root_90 : decode b_M_root 90 = .ok (.lstore 4, 2) := by decide +kernel
theorem d_M_root_92 : decode b_M_root 92 = .ok (.ldc2_w 143, 3) := by decide +kernel
theorem d_M_root_95 : decode b_M_root 95 = .ok (.lstore 6, 2) := by decide +kernel
theorem d_M_root_97 : decode b_M_root 97 = .ok (.lload 6, 2) := by decide +kernel
theorem d_M_root_99 : decode b_M_root 99 = .ok (.lload 4, 2) := by decide +kernel
theorem d_M_root_101 : decode b_M_root 101 = .ok (.lsub, 1) := by decide +kernel
theorem d_M_root_102 : decode b_M_root 102 = .ok (.lconst 1, 1) := by decide +kernel
theorem d_M_root_103 : decode b_M_root 103 = .ok (.lcmp, 1) := by decide +kernel
theorem d_M_root_104 : decode b_M_root 104 = .ok (.ifCond .le 66, 3) := by decide +kernel
theorem d_M_root_107 : decode b_M_root 107 = .ok (.lload 4, 2) := by decide +kernel
theorem d_M_root_109 : decode b_M_root 109 = .ok (.lload 6, 2) := by decide +kernel
theorem d_M_root_111 : decode b_M_root 111 = .ok (.ladd, 1) := by decide +kernel
theorem d_M_root_112 : decode b_M_root 112 = .ok (.ldc2_w 81, 3) := by decide +kernel
theorem d_M_root_115 : decode b_M_root 115 = .ok (.ldiv, 1) := by decide +kernel
theorem d_M_root_116 : decode b_M_root 116 = .ok (.lstore 8, 2) := by decide +kernel
theorem d_M_root_118 : decode b_M_root 118 = .ok (.aload_n 0, 1) := by decide +kernel
theorem d_M_root_119 : decode b_M_root 119 = .ok (.iconst 0, 1) := by decide +kernel
theorem d_M_root_120 : decode b_M_root 120 = .ok (.lconst 1, 1) := by decide +kernel
theorem d_M_root_121 : decode b_M_root 121 = .ok (.invokevirtual 39, 3) := by decide +kernel
theorem d_M_root_124 : decode b_M_root 124 = .ok (.iconst 0, 1) := by decide +kernel
theorem d_M_root_125 : decode b_M_root 125 = .ok (.istore 10, 2) := by decide +kernel
theorem d_M_root_127 : decode b_M_root 127 = .ok (.iload 10, 2) := by decide +kernel
theorem d_M_root_129 : decode b_M_root 129 = .ok (.iload_n 3, 1) := by decide +kernel
theorem d_M_root_130 : decode b_M_root 130 = .ok (.if_icmp .ge 16, 3) := by decide +kernel
theorem d_M_root_133 : decode b_M_root 133 = .ok (.aload_n 0, 1) := by decide +kernel
theorem d_M_root_134 : decode b_M_root 134 = .ok (.iconst 0, 1) := by decide +kernel
theorem d_M_root_135 : decode b_M_root 135 = .ok (.lload 8, 2) := by decide +kernel
theorem d_M_root_137 : decode b_M_root 137 = .ok (.invokevirtual 50, 3) := by decide +kernel
theorem d_M_root_140 : decode b_M_root 140 = .ok (.iinc 10 1, 3) := by decide +kernel
theorem d_M_root_143 : decode b_M_root 143 = .ok (.goto (-16), 3) := by decide +kernel
theorem d_M_root_146 : decode b_M_root 146 = .ok (.aload_n 0, 1) := by decide +kernel
theorem d_M_root_147 : decode b_M_root 147 = .ok (.iconst 0, 1) := by decide +kernel
theorem d_M_root_148 : decode b_M_root 148 = .ok (.bipush 6, 2) := by decide +kernel
theorem d_M_root_150 : decode b_M_root 150 = .ok (.invokevirtual 126, 3) := by decide +kernel
theorem d_M_root_153 : decode b_M_root 153 = .ok (.ifCond .le 10, 3) := by decide +kernel
theorem d_M_root_156 : decode b_M_root 156 = .ok (.lload 8, 2) := by decide +kernel
theorem d_M_root_158 : decode b_M_root 158 = .ok (.lstore 6, 2) := by decide +kernel
theorem d_M_root_160 : decode b_M_root 160 = .ok (.goto 7, 3) := by decide +kernel
theorem d_M_root_163 : decode b_M_root 163 = .ok (.lload 8, 2) := by decide +kernel
theorem d_M_root_165 : decode b_M_root 165 = .ok (.lstore 4, 2) := by decide +kernel
theorem d_M_root_167 : decode b_M_root 167 = .ok (.goto (-70), 3) := by decide +kernel
theorem d_M_root_170 : decode b_M_root 170 = .ok (.lload 4, 2) := by decide +kernel
theorem d_M_root_172 : decode b_M_root 172 = .ok (.lreturn, 1) := by decide +kernel
theorem d_M_pressure_0 : decode b_M_pressure 0 = .ok (.iload_n 1, 1) := by decide +kernel
theorem d_M_pressure_1 : decode b_M_pressure 1 = .ok (.ifCond .eq 7, 3) := by decide +kernel
theorem d_M_pressure_4 : decode b_M_pressure 4 = .ok (.iload_n 2, 1) := by decide +kernel
theorem d_M_pressure_5 : decode b_M_pressure 5 = .ok (.ifCond .ne 14, 3) := by decide +kernel
theorem d_M_pressure_8 : decode b_M_pressure 8 = .ok (.ldc2_w 145, 3) := by decide +kernel
theorem d_M_pressure_11 : decode b_M_pressure 11 = .ok (.iload_n 2, 1) := by decide +kernel
theorem d_M_pressure_12 : decode b_M_pressure 12 = .ok (.i2l, 1) := by decide +kernel
theorem d_M_pressure_13 : decode b_M_pressure 13 = .ok (.lmul, 1) := by decide +kernel
theorem d_M_pressure_14 : decode b_M_pressure 14 = .ok (.ldc2_w 141, 3) := by decide +kernel
theorem d_M_pressure_17 : decode b_M_pressure 17 = .ok (.ldiv, 1) := by decide +kernel
theorem d_M_pressure_18 : decode b_M_pressure 18 = .ok (.lreturn, 1) := by decide +kernel
theorem d_M_pressure_19 : decode b_M_pressure 19 = .ok (.lconst 0, 1) := by decide +kernel
theorem d_M_pressure_20 : decode b_M_pressure 20 = .ok (.lstore_n 3, 1) := by decide +kernel
theorem d_M_pressure_21 : decode b_M_pressure 21 = .ok (.iconst 1, 1) := by decide +kernel
theorem d_M_pressure_22 : decode b_M_pressure 22 = .ok (.istore 5, 2) := by decide +kernel
theorem d_M_pressure_24 : decode b_M_pressure 24 = .ok (.aload_n 0, 1) := by decide +kernel
theorem d_M_pressure_25 : decode b_M_pressure 25 = .ok (.bipush 11, 2) := by decide +kernel
theorem d_M_pressure_27 : decode b_M_pressure 27 = .ok (.putfield 19, 3) := by decide +kernel
theorem d_M_pressure_30 : decode b_M_pressure 30 = .ok (.iload 5, 2) := by decide +kernel
theorem d_M_pressure_32 : decode b_M_pressure 32 = .ok (.ifCond .eq 88, 3) := by decide +kernel
theorem d_M_pressure_35 : decode b_M_pressure 35 = .ok (.aload_n 0, 1) := by decide +kernel
theorem d_M_pressure_36 : decode b_M_pressure 36 = .ok (.bipush 8, 2) := by decide +kernel
theorem d_M_pressure_38 : decode b_M_pressure 38 = .ok (.ldc2_w 147, 3) := by decide +kernel
theorem d_M_pressure_41 : decode b_M_pressure 41 = .ok (.iload_n 1, 1) := by decide +kernel
theorem d_M_pressure_42 : decode b_M_pressure 42 = .ok (.ifCond .ge 8, 3) := by decide +kernel
theorem d_M_pressure_45 : decode b_M_pressure 45 = .ok (.iload_n 1, 1) := by decide +kernel
theorem d_M_pressure_46 : decode b_M_pressure 46 = .ok (.ineg, 1) := by decide +kernel
theorem d_M_pressure_47 : decode b_M_pressure 47 = .ok (.goto 4, 3) := by decide +kernel
theorem d_M_pressure_50 : decode b_M_pressure 50 = .ok (.iload_n 1, 1) := by decide +kernel
theorem d_M_pressure_51 : decode b_M_pressure 51 = .ok (.i2l, 1) := by decide +kernel
theorem d_M_pressure_52 : decode b_M_pressure 52 = .ok (.lmul, 1) := by decide +kernel
theorem d_M_pressure_53 : decode b_M_pressure 53 = .ok (.ldc2_w 141, 3) := by decide +kernel
theorem d_M_pressure_56 : decode b_M_pressure 56 = .ok (.sipush 24304, 3) := by decide +kernel
theorem d_M_pressure_59 : decode b_M_pressure 59 = .ok (.iload_n 1, 1) := by decide +kernel
theorem d_M_pressure_60 : decode b_M_pressure 60 = .ok (.iadd, 1) := by decide +kernel
theorem d_M_pressure_61 : decode b_M_pressure 61 = .ok (.i2l, 1) := by decide +kernel
theorem d_M_pressure_62 : decode b_M_pressure 62 = .ok (.lmul, 1) := by decide +kernel
theorem d_M_pressure_63 : decode b_M_pressure 63 = .ok (.invokevirtual 77, 3) := by decide +kernel
theorem d_M_pressure_66 : decode b_M_pressure 66 = .ok (.aload_n 0, 1) := by decide +kernel
theorem d_M_pressure_67 : decode b_M_pressure 67 = .ok (.iload_n 1, 1) := by decide +kernel
theorem d_M_pressure_68 : decode b_M_pressure 68 = .ok (.ifCond .ge 7, 3) := by decide +kernel
theorem d_M_pressure_71 : decode b_M_pressure 71 = .ok (.iconst 1, 1) := by decide +kernel
theorem d_M_pressure_72 : decode b_M_pressure 72 = .ok (.goto 4, 3) := by decide +kernel
theorem d_M_pressure_75 : decode b_M_pressure 75 = .ok (.iconst 0, 1) := by decide +kernel
theorem d_M_pressure_76 : decode b_M_pressure 76 = .ok (.invokevirtual 102, 3) := by decide +kernel
theorem d_M_pressure_79 : decode b_M_pressure 79 = .ok (.aload_n 0, 1) := by decide +kernel
theorem d_M_pressure_80 : decode b_M_pressure 80 = .ok (.iconst 0, 1) := by decide +kernel
theorem d_M_pressure_81 : decode b_M_pressure 81 = .ok (.ldc2_w 145, 3) := by decide +kernel
theorem d_M_pressure_84 : decode b_M_pressure 84 = .ok (.iload_n 2, 1) := by decide +kernel
theorem d_M_pressure_85 : decode b_M_pressure 85 = .ok (.i2l, 1) := by decide +kernel
theorem d_M_pressure_86 : decode b_M_pressure 86 = .ok (.lmul, 1) := by decide +kernel
theorem d_M_pressure_87 : decode b_M_pressure 87 = .ok (.invokevirtual 50, 3) := by decide +kernel
theorem d_M_pressure_90 : decode b_M_pressure 90 = .ok (.aload_n 0, 1) := by decide +kernel
theorem d_M_pressure_91 : decode b_M_pressure 91 = .ok (.iconst 0, 1) := by decide +kernel
theorem d_M_pressure_92 : decode b_M_pressure 92 = .ok (.ldc2_w 141, 3) := by decide +kernel
theorem d_M_pressure_95 : decode b_M_pressure 95 = .ok (.invokevirtual 43, 3) := by decide +kernel
theorem d_M_pressure_98 : decode b_M_pressure 98 = .ok (.aload_n 0, 1) := by decide +kernel
theorem d_M_pressure_99 : decode b_M_pressure 99 = .ok (.iconst 0, 1) := by decide +kernel
theorem d_M_pressure_100 : decode b_M_pressure 100 = .ok (.invokevirtual 53, 3) := by decide +kernel
theorem d_M_pressure_103 : decode b_M_pressure 103 = .ok (.lstore_n 3, 1) := by decide +kernel
theorem d_M_pressure_104 : decode b_M_pressure 104 = .ok (.aload_n 0, 1) := by decide +kernel
theorem d_M_pressure_105 : decode b_M_pressure 105 = .ok (.iconst 0, 1) := by decide +kernel
theorem d_M_pressure_106 : decode b_M_pressure 106 = .ok (.invokevirtual 110, 3) := by decide +kernel
theorem d_M_pressure_109 : decode b_M_pressure 109 = .ok (.istore 5, 2) := by decide +kernel
theorem d_M_pressure_111 : decode b_M_pressure 111 = .ok (.aload_n 0, 1) := by decide +kernel
theorem d_M_pressure_112 : decode b_M_pressure 112 = .ok (.bipush 17, 2) := by decide +kernel
theorem d_M_pressure_114 : decode b_M_pressure 114 = .ok (.putfield 19, 3) := by decide +kernel
theorem d_M_pressure_117 : decode b_M_pressure 117 = .ok (.goto (-87), 3) := by decide +kernel
theorem d_M_pressure_120 : decode b_M_pressure 120 = .ok (.lload_n 3, 1) := by decide +kernel
theorem d_M_pressure_121 : decode b_M_pressure 121 = .ok (.lreturn, 1) := by decide +kernel
theorem d_M_isWarmth_0 : decode b_M_isWarmth 0 = .ok (.iload_n 0, 1) := by decide +kernel
theorem d_M_isWarmth_1 : decode b_M_isWarmth 1 = .ok (.sipush (-4000), 3) := by decide +kernel
theorem d_M_isWarmth_4 : decode b_M_isWarmth 4 = .ok (.if_icmp .lt 14, 3) := by decide +kernel
theorem d_M_isWarmth_7 : decode b_M_isWarmth 7 = .ok (.iload_n 0, 1) := by decide +kernel
theorem d_M_isWarmth_8 : decode b_M_isWarmth 8 = .ok (.sipush 10000, 3) := by decide +kernel
theorem d_M_isWarmth_11 : decode b_M_isWarmth 11 = .ok (.if_icmp .gt 7, 3) := by decide +kernel
theorem d_M_isWarmth_14 : decode b_M_isWarmth 14 = .ok (.iconst 1, 1) := by decide +kernel
theorem d_M_isWarmth_15 : decode b_M_isWarmth 15 = .ok (.goto 4, 3) := by decide +kernel
theorem d_M_isWarmth_18 : decode b_M_isWarmth 18 = .ok (.iconst 0, 1) := by decide +kernel
theorem d_M_isWarmth_19 : decode b_M_isWarmth 19 = .ok (.ireturn, 1) := by decide +kernel
theorem d_M_damp_0 : decode b_M_damp 0 = .ok (.aload_n 0, 1) := by decide +kernel
theorem d_M_damp_1 : decode b_M_damp 1 = .ok (.iload_n 1, 1) := by decide +kernel
theorem d_M_damp_2 : decode b_M_damp 2 = .ok (.invokestatic 149, 3) := by decide +kernel
theorem d_M_damp_5 : decode b_M_damp 5 = .ok (.ifCond .eq 14, 3) := by decide +kernel
theorem d_M_damp_8 : decode b_M_damp 8 = .ok (.iload_n 2, 1) := by decide +kernel
theorem d_M_damp_9 : decode b_M_damp 9 = .ok (.ifCond .lt 10, 3) := by decide +kernel
theorem d_M_damp_12 : decode b_M_damp 12 = .ok (.iload_n 2, 1) := by decide +kernel
theorem d_M_damp_13 : decode b_M_damp 13 = .ok (.sipush 10000, 3) := by decide +kernel
theorem d_M_damp_16 : decode b_M_damp 16 = .ok (.if_icmp .le 7, 3) := by decide +kernel
theorem d_M_damp_19 : decode b_M_damp 19 = .ok (.iconst 1, 1) := by decide +kernel
theorem d_M_damp_20 : decode b_M_damp 20 = .ok (.goto 4, 3) := by decide +kernel
theorem d_M_damp_23 : decode b_M_damp 23 = .ok (.iconst 0, 1) := by decide +kernel
theorem d_M_damp_24 : decode b_M_damp 24 = .ok (.putfield 34, 3) := by decide +kernel
theorem d_M_damp_27 : decode b_M_damp 27 = .ok (.aload_n 0, 1) := by decide +kernel
theorem d_M_damp_28 : decode b_M_damp 28 = .ok (.getfield 34, 3) := by decide +kernel
theorem d_M_damp_31 : decode b_M_damp 31 = .ok (.ifCond .le 7, 3) := by decide +kernel
theorem d_M_damp_34 : decode b_M_damp 34 = .ok (.lconst 0, 1) := by decide +kernel
theorem d_M_damp_35 : decode b_M_damp 35 = .ok (.goto 9, 3) := by decide +kernel
theorem d_M_damp_38 : decode b_M_damp 38 = .ok (.aload_n 0, 1) := by decide +kernel
theorem d_M_damp_39 : decode b_M_damp 39 = .ok (.iload_n 1, 1) := by decide +kernel
theorem d_M_damp_40 : decode b_M_damp 40 = .ok (.iload_n 2, 1) := by decide +kernel
theorem d_M_damp_41 : decode b_M_damp 41 = .ok (.invokevirtual 152, 3) := by decide +kernel
theorem d_M_damp_44 : decode b_M_damp 44 = .ok (.lreturn, 1) := by decide +kernel
theorem d_M_dew_0 : decode b_M_dew 0 = .ok (.aload_n 0, 1) := by decide +kernel
theorem d_M_dew_1 : decode b_M_dew 1 = .ok (.iload_n 1, 1) := by decide +kernel
theorem d_M_dew_2 : decode b_M_dew 2 = .ok (.ifCond .lt 9, 3) := by decide +kernel
theorem d_M_dew_5 : decode b_M_dew 5 = .ok (.iload_n 1, 1) := by decide +kernel
theorem d_M_dew_6 : decode b_M_dew 6 = .ok (.ldc 156, 2) := by decide +kernel
theorem d_M_dew_8 : decode b_M_dew 8 = .ok (.if_icmp .le 7, 3) := by decide +kernel
theorem d_M_dew_11 : decode b_M_dew 11 = .ok (.iconst 1, 1) := by decide +kernel
theorem d_M_dew_12 : decode b_M_dew 12 = .ok (.goto 4, 3) := by decide +kernel
theorem d_M_dew_15 : decode b_M_dew 15 = .ok (.iconst 0, 1) := by decide +kernel
theorem d_M_dew_16 : decode b_M_dew 16 = .ok (.putfield 34, 3) := by decide +kernel
theorem d_M_dew_19 : decode b_M_dew 19 = .ok (.aload_n 0, 1) := by decide +kernel
theorem d_M_dew_20 : decode b_M_dew 20 = .ok (.getfield 34, 3) := by decide +kernel
theorem d_M_dew_23 : decode b_M_dew 23 = .ok (.ifCond .le 5, 3) := by decide +kernel
theorem d_M_dew_26 : decode b_M_dew 26 = .ok (.lconst 0, 1) := by decide +kernel
theorem d_M_dew_27 : decode b_M_dew 27 = .ok (.lreturn, 1) := by decide +kernel
theorem d_M_dew_28 : decode b_M_dew 28 = .ok (.aload_n 0, 1) := by decide +kernel
theorem d_M_dew_29 : decode b_M_dew 29 = .ok (.sipush (-4000), 3) := by decide +kernel
theorem d_M_dew_32 : decode b_M_dew 32 = .ok (.sipush 10000, 3) := by decide +kernel
theorem d_M_dew_35 : decode b_M_dew 35 = .ok (.invokevirtual 152, 3) := by decide +kernel
theorem d_M_dew_38 : decode b_M_dew 38 = .ok (.iload_n 1, 1) := by decide +kernel
theorem d_M_dew_39 : decode b_M_dew 39 = .ok (.i2l, 1) := by decide +kernel
theorem d_M_dew_40 : decode b_M_dew 40 = .ok (.lcmp, 1) := by decide +kernel
theorem d_M_dew_41 : decode b_M_dew 41 = .ok (.ifCond .le 7, 3) := by decide +kernel
theorem d_M_dew_44 : decode b_M_dew 44 = .ok (.ldc2_w 115, 3) := by decide +kernel
theorem d_M_dew_47 : decode b_M_dew 47 = .ok (.lreturn, 1) := by decide +kernel
theorem d_M_dew_48 : decode b_M_dew 48 = .ok (.sipush (-4000), 3) := by decide +kernel
theorem d_M_dew_51 : decode b_M_dew 51 = .ok (.istore_n 2, 1) := by decide +kernel
theorem d_M_dew_52 : decode b_M_dew 52 = .ok (.sipush 10001, 3) := by decide +kernel
theorem d_M_dew_55 : decode b_M_dew 55 = .ok (.istore_n 3, 1) := by decide +kernel
theorem d_M_dew_56 : decode b_M_dew 56 = .ok (.iload_n 3, 1) := by decide +kernel
theorem d_M_dew_57 : decode b_M_dew 57 = .ok (.iload_n 2, 1) := by decide +kernel
theorem d_M_dew_58 : decode b_M_dew 58 = .ok (.isub, 1) := by decide +kernel
theorem d_M_dew_59 : decode b_M_dew 59 = .ok (.iconst 1, 1) := by decide +kernel
theorem d_M_dew_60 : decode b_M_dew 60 = .ok (.if_icmp .le 39, 3) := by decide +kernel
theorem d_M_dew_63 : decode b_M_dew 63 = .ok (.iload_n 2, 1) := by decide +kernel
theorem d_M_dew_64 : decode b_M_dew 64 = .ok (.iload_n 3, 1) := by decide +kernel
theorem d_M_dew_65 : decode b_M_dew 65 = .ok (.iload_n 2, 1) := by decide +kernel
theorem d_M_dew_66 : decode b_M_dew 66 = .ok (.isub, 1) := by decide +kernel
theorem d_M_dew_67 : decode b_M_dew 67 = .ok (.iconst 2, 1) := by decide +kernel
theorem d_M_dew_68 : decode b_M_dew 68 = .ok (.idiv, 1) := by decide +kernel
theorem d_M_dew_69 : decode b_M_dew 69 = .ok (.iadd, 1) := by decide +kernel
theorem d_M_dew_70 : decode b_M_dew 70 = .ok (.istore 4, 2) := by decide +kernel
theorem d_M_dew_72 : decode b_M_dew 72 = .ok (.aload_n 0, 1) := by decide +kernel
theorem d_M_dew_73 : decode b_M_dew 73 = .ok (.iload 4, 2) := by decide +kernel
theorem d_M_dew_75 : decode b_M_dew 75 = .ok (.sipush 10000, 3) := by decide +kernel
theorem d_M_dew_78 : decode b_M_dew 78 = .ok (.invokevirtual 152, 3) := by decide +kernel
theorem d_M_dew_81 : decode b_M_dew 81 = .ok (.iload_n 1, 1) := by decide +kernel
theorem d_M_dew_82 : decode b_M_dew 82 = .ok (.i2l, 1) := by decide +kernel
theorem d_M_dew_83 : decode b_M_dew 83 = .ok (.lcmp, 1) := by decide +kernel
theorem d_M_dew_84 : decode b_M_dew 84 = .ok (.ifCond .gt 9, 3) := by decide +kernel
theorem d_M_dew_87 : decode b_M_dew 87 = .ok (.iload 4, 2) := by decide +kernel
theorem d_M_dew_89 : decode b_M_dew 89 = .ok (.istore_n 2, 1) := by decide +kernel
theorem d_M_dew_90 : decode b_M_dew 90 = .ok (.goto 6, 3) := by decide +kernel
theorem d_M_dew_93 : decode b_M_dew 93 = .ok (.iload 4, 2) := by decide +kernel
theorem d_M_dew_95 : decode b_M_dew 95 = .ok (.istore_n 3, 1) := by decide +kernel
theorem d_M_dew_96 : decode b_M_dew 96 = .ok (.goto (-40), 3) := by decide +kernel
theorem d_M_dew_99 : decode b_M_dew 99 = .ok (.iload_n 2, 1) := by decide +kernel
theorem d_M_dew_100 : decode b_M_dew 100 = .ok (.i2l, 1) := by decide +kernel
theorem d_M_dew_101 : decode b_M_dew 101 = .ok (.lreturn, 1) := by decide +kernel
theorem d_M_table_0 : decode b_M_table 0 = .ok (.aload_n 0, 1) := by decide +kernel
theorem d_M_table_1 : decode b_M_table 1 = .ok (.aload_n 0, 1) := by decide +kernel
theorem d_M_table_2 : decode b_M_table 2 = .ok (.getfield 157, 3) := by decide +kernel
theorem d_M_table_5 : decode b_M_table 5 = .ok (.bipush 6, 2) := by decide +kernel
theorem d_M_table_7 : decode b_M_table 7 = .ok (.if_icmp .ne 7, 3) := by decide +kernel
theorem d_M_table_10 : decode b_M_table 10 = .ok (.iconst 1, 1) := by decide +kernel
theorem d_M_table_11 : decode b_M_table 11 = .ok (.goto 4, 3) := by decide +kernel
theorem d_M_table_14 : decode b_M_table 14 = .ok (.iconst 0, 1) := by decide +kernel
theorem d_M_table_15 : decode b_M_table 15 = .ok (.putfield 34, 3) := by decide +kernel
theorem d_M_table_18 : decode b_M_table 18 = .ok (.aload_n 0, 1) := by decide +kernel
theorem d_M_table_19 : decode b_M_table 19 = .ok (.getfield 34, 3) := by decide +kernel
theorem d_M_table_22 : decode b_M_table 22 = .ok (.ifCond .le 5, 3) := by decide +kernel
theorem d_M_table_25 : decode b_M_table 25 = .ok (.iconst 0, 1) := by decide +kernel
theorem d_M_table_26 : decode b_M_table 26 = .ok (.ireturn, 1) := by decide +kernel
theorem d_M_table_27 : decode b_M_table 27 = .ok (.aload_n 0, 1) := by decide +kernel
theorem d_M_table_28 : decode b_M_table 28 = .ok (.getfield 7, 3) := by decide +kernel
theorem d_M_table_31 : decode b_M_table 31 = .ok (.aload_n 0, 1) := by decide +kernel
theorem d_M_table_32 : decode b_M_table 32 = .ok (.getfield 157, 3) := by decide +kernel
theorem d_M_table_35 : decode b_M_table 35 = .ok (.iconst 0, 1) := by decide +kernel
theorem d_M_table_36 : decode b_M_table 36 = .ok (.iastore, 1) := by decide +kernel
theorem d_M_table_37 : decode b_M_table 37 = .ok (.aload_n 0, 1) := by decide +kernel
theorem d_M_table_38 : decode b_M_table 38 = .ok (.dup, 1) := by decide +kernel
theorem d_M_table_39 : decode b_M_table 39 = .ok (.getfield 157, 3) := by decide +kernel
theorem d_M_table_42 : decode b_M_table 42 = .ok (.iconst 1, 1) := by decide +kernel
theorem d_M_table_43 : decode b_M_table 43 = .ok (.iadd, 1) := by decide +kernel
theorem d_M_table_44 : decode b_M_table 44 = .ok (.putfield 157, 3) := by decide +kernel
theorem d_M_table_47 : decode b_M_table 47 = .ok (.aload_n 0, 1) := by decide +kernel
theorem d_M_table_48 : decode b_M_table 48 = .ok (.getfield 157, 3) := by decide +kernel
theorem d_M_table_51 : decode b_M_table 51 = .ok (.iconst 1, 1) := by decide +kernel
theorem d_M_table_52 : decode b_M_table 52 = .ok (.isub, 1) := by decide +kernel
theorem d_M_table_53 : decode b_M_table 53 = .ok (.ireturn, 1) := by decide +kernel
theorem d_M_isNumber_0 : decode b_M_isNumber 0 = .ok (.iload_n 0, 1) := by decide +kernel
theorem d_M_isNumber_1 : decode b_M_isNumber 1 = .ok (.ldc 160, 2) := by decide +kernel
theorem d_M_isNumber_3 : decode b_M_isNumber 3 = .ok (.if_icmp .lt 13, 3) := by decide +kernel
theorem d_M_isNumber_6 : decode b_M_isNumber 6 = .ok (.iload_n 0, 1) := by decide +kernel
theorem d_M_isNumber_7 : decode b_M_isNumber 7 = .ok (.ldc 156, 2) := by decide +kernel
theorem d_M_isNumber_9 : decode b_M_isNumber 9 = .ok (.if_icmp .gt 7, 3) := by decide +kernel
theorem d_M_isNumber_12 : decode b_M_isNumber 12 = .ok (.iconst 1, 1) := by decide +kernel
theorem d_M_isNumber_13 : decode b_M_isNumber 13 = .ok (.goto 4, 3) := by decide +kernel
theorem d_M_isNumber_16 : decode b_M_isNumber 16 = .ok (.iconst 0, 1) := by decide +kernel
theorem d_M_isNumber_17 : decode b_M_isNumber 17 = .ok (.ireturn, 1) := by decide +kernel
theorem d_M_isTable_0 : decode b_M_isTable 0 = .ok (.iload_n 1, 1) := by decide +kernel
theorem d_M_isTable_1 : decode b_M_isTable 1 = .ok (.ifCond .lt 15, 3) := by decide +kernel
theorem d_M_isTable_4 : decode b_M_isTable 4 = .ok (.iload_n 1, 1) := by decide +kernel
theorem d_M_isTable_5 : decode b_M_isTable 5 = .ok (.aload_n 0, 1) := by decide +kernel
theorem d_M_isTable_6 : decode b_M_isTable 6 = .ok (.getfield 157, 3) := by decide +kernel
theorem d_M_isTable_9 : decode b_M_isTable 9 = .ok (.if_icmp .ge 7, 3) := by decide +kernel
theorem d_M_isTable_12 : decode b_M_isTable 12 = .ok (.iconst 1, 1) := by decide +kernel
theorem d_M_isTable_13 : decode b_M_isTable 13 = .ok (.goto 4, 3) := by decide +kernel
theorem d_M_isTable_16 : decode b_M_isTable 16 = .ok (.iconst 0, 1) := by decide +kernel
theorem d_M_isTable_17 : decode b_M_isTable 17 = .ok (.ireturn, 1) := by decide +kernel
theorem d_M_row_0 : decode b_M_row 0 = .ok (.aload_n 0, 1) := by decide +kernel
theorem d_M_row_1 : decode b_M_row 1 = .ok (.aload_n 0, 1) := by decide +kernel
theorem d_M_row_2 : decode b_M_row 2 = .ok (.iload_n 1, 1) := by decide +kernel
theorem d_M_row_3 : decode b_M_row 3 = .ok (.invokevirtual 161, 3) := by decide +kernel
theorem d_M_row_6 : decode b_M_row 6 = .ok (.ifCond .eq 17, 3) := by decide +kernel
theorem d_M_row_9 : decode b_M_row 9 = .ok (.iload_n 2, 1) := by decide +kernel
theorem d_M_row_10 : decode b_M_row 10 = .ok (.invokestatic 164, 3) := by decide +kernel
theorem d_M_row_13 : decode b_M_row 13 = .ok (.ifCond .eq 10, 3) := by decide +kernel
theorem d_M_row_16 : decode b_M_row 16 = .ok (.iload_n 3, 1) := by decide +kernel
theorem d_M_row_17 : decode b_M_row 17 = .ok (.invokestatic 164, 3) := by decide +kernel
theorem d_M_row_20 : decode b_M_row 20 = .ok (.ifCond .ne 7, 3) := by decide +kernel
theorem d_M_row_23 : decode b_M_row 23 = .ok (.iconst 1, 1) := by decide +kernel
theorem d_M_row_24 : decode b_M_row 24 = .ok (.goto 19, 3) := by decide +kernel
theorem d_M_row_27 : decode b_M_row 27 = .ok (.aload_n 0, 1) := by decide +kernel
theorem d_M_row_28 : decode b_M_row 28 = .ok (.getfield 7, 3) := by decide +kernel
theorem d_M_row_31 : decode b_M_row 31 = .ok (.iload_n 1, 1) := by decide +kernel
theorem d_M_row_32 : decode b_M_row 32 = .ok (.iaload, 1) := by decide +kernel
theorem d_M_row_33 : decode b_M_row 33 = .ok (.bipush 20, 2) := by decide +kernel
theorem d_M_row_35 : decode b_M_row 35 = .ok (.if_icmp .ne 7, 3) := by decide +kernel
theorem d_M_row_38 : decode b_M_row 38 = .ok (.iconst 2, 1) := by decide +kernel
theorem d_M_row_39 : decode b_M_row 39 = .ok (.goto 4, 3) := by decide +kernel
theorem d_M_row_42 : decode b_M_row 42 = .ok (.iconst 0, 1) := by decide +kernel
theorem d_M_row_43 : decode b_M_row 43 = .ok (.putfield 34, 3) := by decide +kernel
theorem d_M_row_46 : decode b_M_row 46 = .ok (.aload_n 0, 1) := by decide +kernel
theorem d_M_row_47 : decode b_M_row 47 = .ok (.getfield 34, 3) := by decide +kernel
theorem d_M_row_50 : decode b_M_row 50 = .ok (.ifCond .le 5, 3) := by decide +kernel
theorem d_M_row_53 : decode b_M_row 53 = .ok (.iconst 0, 1) := by decide +kernel
theorem d_M_row_54 : decode b_M_row 54 = .ok (.ireturn, 1) := by decide +kernel
theorem d_M_row_55 : decode b_M_row 55 = .ok (.bipush 20, 2) := by decide +kernel
theorem d_M_row_57 : decode b_M_row 57 = .ok (.iload_n 1, 1) := by decide +kernel
theorem d_M_row_58 : decode b_M_row 58 = .ok (.imul, 1) := by decide +kernel
theorem d_M_row_59 : decode b_M_row 59 = .ok (.aload_n 0, 1) := by decide +kernel
theorem d_M_row_60 : decode b_M_row 60 = .ok (.getfield 7, 3) := by decide +kernel
theorem d_M_row_63 : decode b_M_row 63 = .ok (.iload_n 1, 1) := by decide +kernel
theorem d_M_row_64 : decode b_M_row 64 = .ok (.iaload, 1) := by decide +kernel
theorem d_M_row_65 : decode b_M_row 65 = .ok (.iadd, 1) := by decide +kernel
theorem d_M_row_66 : decode b_M_row 66 = .ok (.istore 4, 2) := by decide +kernel
theorem d_M_row_68 : decode b_M_row 68 = .ok (.aload_n 0, 1) := by decide +kernel
theorem d_M_row_69 : decode b_M_row 69 = .ok (.getfield 7, 3) := by decide +kernel
theorem d_M_row_72 : decode b_M_row 72 = .ok (.iload_n 1, 1) := by decide +kernel
theorem d_M_row_73 : decode b_M_row 73 = .ok (.iaload, 1) := by decide +kernel
theorem d_M_row_74 : decode b_M_row 74 = .ok (.ifCond .le 18, 3) := by decide +kernel
theorem d_M_row_77 : decode b_M_row 77 = .ok (.aload_n 0, 1) := by decide +kernel
theorem d_M_row_78 : decode b_M_row 78 = .ok (.getfield 13, 3) := by decide +kernel
theorem d_M_row_81 : decode b_M_row 81 = .ok (.iload 4, 2) := by decide +kernel
theorem d_M_row_83 : decode b_M_row 83 = .ok (.iconst 1, 1) := by decide +kernel
theorem d_M_row_84 : decode b_M_row 84 = .ok (.isub, 1) := by decide +kernel
theorem d_M_row_85 : decode b_M_row 85 = .ok (.iaload, 1) := by decide +kernel
theorem d_M_row_86 : decode b_M_row 86 = .ok (.iload_n 2, 1) := by decide +kernel
theorem d_M_row_87 : decode b_M_row 87 = .ok (.if_icmp .lt 5, 3) := by decide +kernel
theorem d_M_row_90 : decode b_M_row 90 = .ok (.iconst (-1), 1) := by decide +kernel
theorem d_M_row_91 : decode b_M_row 91 = .ok (.ireturn, 1) := by decide +kernel
theorem d_M_row_92 : decode b_M_row 92 = .ok (.aload_n 0, 1) := by decide +kernel
theorem d_M_row_93 : decode b_M_row 93 = .ok (.getfield 13, 3) := by decide +kernel
theorem d_M_row_96 : decode b_M_row 96 = .ok (.iload 4, 2) := by decide +kernel
theorem d_M_row_98 : decode b_M_row 98 = .ok (.iload_n 2, 1) := by decide +kernel
theorem d_M_row_99 : decode b_M_row 99 = .ok (.iastore, 1) := by decide +kernel
theorem d_M_row_100 : decode b_M_row 100 = .ok (.aload_n 0, 1) := by decide +kernel
theorem d_M_row_101 : decode b_M_row 101 = .ok (.getfield 16, 3) := by decide +kernel
theorem d_M_row_104 : decode b_M_row 104 = .ok (.iload 4, 2) := by decide +kernel
theorem d_M_row_106 : decode b_M_row 106 = .ok (.iload_n 3, 1) := by decide +kernel
theorem d_M_row_107 : decode b_M_row 107 = .ok (.iastore, 1) := by decide +kernel
theorem d_M_row_108 : decode b_M_row 108 = .ok (.aload_n 0, 1) := by decide +kernel
theorem d_M_row_109 : decode b_M_row 109 = .ok (.getfield 7, 3) := by decide +kernel
theorem d_M_row_112 : decode b_M_row 112 = .ok (.iload_n 1, 1) := by decide +kernel
theorem d_M_row_113 : decode b_M_row 113 = .ok (.dup2, 1) := by decide +kernel
theorem d_M_row_114 : decode b_M_row 114 = .ok (.iaload, 1) := by decide +kernel
theorem d_M_row_115 : decode b_M_row 115 = .ok (.iconst 1, 1) := by decide +kernel
theorem d_M_row_116 : decode b_M_row 116 = .ok (.iadd, 1) := by decide +kernel
theorem d_M_row_117 : decode b_M_row 117 = .ok (.iastore, 1) := by decide +kernel
theorem d_M_row_118 : decode b_M_row 118 = .ok (.aload_n 0, 1) := by decide +kernel
theorem d_M_row_119 : decode b_M_row 119 = .ok (.getfield 7, 3) := by decide +kernel
theorem d_M_row_122 : decode b_M_row 122 = .ok (.iload_n 1, 1) := by decide +kernel
theorem d_M_row_123 : decode b_M_row 123 = .ok (.iaload, 1) := by decide +kernel
theorem d_M_row_124 : decode b_M_row 124 = .ok (.ireturn, 1) := by decide +kernel
theorem d_M_down_0 : decode b_M_down 0 = .ok (.lload_n 0, 1) := by decide +kernel
theorem d_M_down_1 : decode b_M_down 1 = .ok (.lload_n 2, 1) := by decide +kernel
theorem d_M_down_2 : decode b_M_down 2 = .ok (.ldiv, 1) := by decide +kernel
theorem d_M_down_3 : decode b_M_down 3 = .ok (.lstore 4, 2) := by decide +kernel
theorem d_M_down_5 : decode b_M_down 5 = .ok (.lload 4, 2) := by decide +kernel
theorem d_M_down_7 : decode b_M_down 7 = .ok (.lload_n 2, 1) := by decide +kernel
theorem d_M_down_8 : decode b_M_down 8 = .ok (.lmul, 1) := by decide +kernel
theorem d_M_down_9 : decode b_M_down 9 = .ok (.lload_n 0, 1) := by decide +kernel
theorem d_M_down_10 : decode b_M_down 10 = .ok (.lcmp, 1) := by decide +kernel
theorem d_M_down_11 : decode b_M_down 11 = .ok (.ifCond .le 10, 3) := by decide +kernel
theorem d_M_down_14 : decode b_M_down 14 = .ok (.lload 4, 2) := by decide +kernel
theorem d_M_down_16 : decode b_M_down 16 = .ok (.lconst 1, 1) := by decide +kernel
theorem d_M_down_17 : decode b_M_down 17 = .ok (.lsub, 1) := by decide +kernel
theorem d_M_down_18 : decode b_M_down 18 = .ok (.goto 5, 3) := by decide +kernel
theorem d_M_down_21 : decode b_M_down 21 = .ok (.lload 4, 2) := by decide +kernel
theorem d_M_down_23 : decode b_M_down 23 = .ok (.lreturn, 1) := by decide +kernel
theorem d_M_valueAt_0 : decode b_M_valueAt 0 = .ok (.bipush 20, 2) := by decide +kernel
theorem d_M_valueAt_2 : decode b_M_valueAt 2 = .ok (.iload_n 1, 1) := by decide +kernel
theorem d_M_valueAt_3 : decode b_M_valueAt 3 = .ok (.imul, 1) := by decide +kernel
theorem d_M_valueAt_4 : decode b_M_valueAt 4 = .ok (.istore_n 3, 1) := by decide +kernel
theorem d_M_valueAt_5 : decode b_M_valueAt 5 = .ok (.iload_n 3, 1) := by decide +kernel
theorem d_M_valueAt_6 : decode b_M_valueAt 6 = .ok (.aload_n 0, 1) := by decide +kernel
theorem d_M_valueAt_7 : decode b_M_valueAt 7 = .ok (.getfield 7, 3) := by decide +kernel
theorem d_M_valueAt_10 : decode b_M_valueAt 10 = .ok (.iload_n 1, 1) := by decide +kernel
theorem d_M_valueAt_11 : decode b_M_valueAt 11 = .ok (.iaload, 1) := by decide +kernel
theorem d_M_valueAt_12 : decode b_M_valueAt 12 = .ok (.iadd, 1) := by decide +kernel
theorem d_M_valueAt_13 : decode b_M_valueAt 13 = .ok (.istore 4, 2) := by decide +kernel
theorem d_M_valueAt_15 : decode b_M_valueAt 15 = .ok (.iload_n 3, 1) := by decide +kernel
theorem d_M_valueAt_16 : decode b_M_valueAt 16 = .ok (.iload 4, 2) := by decide +kernel
theorem d_M_valueAt_18 : decode b_M_valueAt 18 = .ok (.if_icmp .ne 7, 3) := by decide +kernel
theorem d_M_valueAt_21 : decode b_M_valueAt 21 = .ok (.ldc2_w 115, 3) := by decide +kernel
theorem d_M_valueAt_24 : decode b_M_valueAt 24 = .ok (.lreturn, 1) := by decide +kernel
theorem d_M_valueAt_25 : decode b_M_valueAt 25 = .ok (.iload_n 3, 1) := by decide +kernel
theorem d_M_valueAt_26 : decode b_M_valueAt 26 = .ok (.istore 5, 2) := by decide +kernel
theorem d_M_valueAt_28 : decode b_M_valueAt 28 = .ok (.iload 5, 2) := by decide +kernel
theorem d_M_valueAt_30 : decode b_M_valueAt 30 = .ok (.iload 4, 2) := by decide +kernel
theorem d_M_valueAt_32 : decode b_M_valueAt 32 = .ok (.if_icmp .ge 20, 3) := by decide +kernel
theorem d_M_valueAt_35 : decode b_M_valueAt 35 = .ok (.aload_n 0, 1) := by decide +kernel
theorem d_M_valueAt_36 : decode b_M_valueAt 36 = .ok (.getfield 13, 3) := by decide +kernel
theorem d_M_valueAt_39 : decode b_M_valueAt 39 = .ok (.iload 5, 2) := by decide +kernel
theorem d_M_valueAt_41 : decode b_M_valueAt 41 = .ok (.iaload, 1) := by decide +kernel
theorem d_M_valueAt_42 : decode b_M_valueAt 42 = .ok (.iload_n 2, 1) := by decide +kernel
theorem d_M_valueAt_43 : decode b_M_valueAt 43 = .ok (.if_icmp .ge 9, 3) := by decide +kernel
theorem d_M_valueAt_46 : decode b_M_valueAt 46 = .ok (.iinc 5 1, 3) := by decide +kernel
theorem d_M_valueAt_49 : decode b_M_valueAt 49 = .ok (.goto (-21), 3) := by decide +kernel
theorem d_M_valueAt_52 : decode b_M_valueAt 52 = .ok (.iload 5, 2) := by decide +kernel
theorem d_M_valueAt_54 : decode b_M_valueAt 54 = .ok (.iload 4, 2) := by decide +kernel
theorem d_M_valueAt_56 : decode b_M_valueAt 56 = .ok (.if_icmp .eq 9, 3) := by decide +kernel
theorem d_M_valueAt_59 : decode b_M_valueAt 59 = .ok (.iload 5, 2) := by decide +kernel
theorem d_M_valueAt_61 : decode b_M_valueAt 61 = .ok (.iload_n 3, 1) := by decide +kernel
theorem d_M_valueAt_62 : decode b_M_valueAt 62 = .ok (.if_icmp .ne 25, 3) := by decide +kernel
theorem d_M_valueAt_65 : decode b_M_valueAt 65 = .ok (.aload_n 0, 1) := by decide +kernel
theorem d_M_valueAt_66 : decode b_M_valueAt 66 = .ok (.getfield 16, 3) := by decide +kernel
theorem d_M_valueAt_69 : decode b_M_valueAt 69 = .ok (.iload 5, 2) := by decide +kernel
theorem d_M_valueAt_71 : decode b_M_valueAt 71 = .ok (.iload 4, 2) := by decide +kernel
theorem d_M_valueAt_73 : decode b_M_valueAt 73 = .ok (.if_icmp .ne 10, 3) := by decide +kernel
theorem d_M_valueAt_76 : decode b_M_valueAt 76 = .ok (.iload 4, 2) := by decide +kernel
theorem d_M_valueAt_78 : decode b_M_valueAt 78 = .ok (.iconst 1, 1) := by decide +kernel
theorem d_M_valueAt_79 : decode b_M_valueAt 79 = .ok (.isub, 1) := by decide +kernel
theorem d_M_valueAt_80 : decode b_M_valueAt 80 = .ok (.goto 4, 3) := by decide +kernel
theorem d_M_valueAt_83 : decode b_M_valueAt 83 = .ok (.iload_n 3, 1) := by decide +kernel
theorem d_M_valueAt_84 : decode b_M_valueAt 84 = .ok (.iaload, 1) := by decide +kernel
theorem d_M_valueAt_85 : decode b_M_valueAt 85 = .ok (.i2l, 1) := by decide +kernel
theorem d_M_valueAt_86 : decode b_M_valueAt 86 = .ok (.lreturn, 1) := by decide +kernel
theorem d_M_valueAt_87 : decode b_M_valueAt 87 = .ok (.aload_n 0, 1) := by decide +kernel
theorem d_M_valueAt_88 : decode b_M_valueAt 88 = .ok (.getfield 13, 3) := by decide +kernel
theorem d_M_valueAt_91 : decode b_M_valueAt 91 = .ok (.iload 5, 2) := by decide +kernel
theorem d_M_valueAt_93 : decode b_M_valueAt 93 = .ok (.iconst 1, 1) := by decide +kernel
theorem d_M_valueAt_94 : decode b_M_valueAt 94 = .ok (.isub, 1) := by decide +kernel
theorem d_M_valueAt_95 : decode b_M_valueAt 95 = .ok (.iaload, 1) := by decide +kernel
theorem d_M_valueAt_96 : decode b_M_valueAt 96 = .ok (.i2l, 1) := by decide +kernel
theorem d_M_valueAt_97 : decode b_M_valueAt 97 = .ok (.lstore 6, 2) := by decide +kernel
theorem d_M_valueAt_99 : decode b_M_valueAt 99 = .ok (.aload_n 0, 1) := by decide +kernel
theorem d_M_valueAt_100 : decode b_M_valueAt 100 = .ok (.getfield 16, 3) := by decide +kernel
theorem d_M_valueAt_103 : decode b_M_valueAt 103 = .ok (.iload 5, 2) := by decide +kernel
theorem d_M_valueAt_105 : decode b_M_valueAt 105 = .ok (.iconst 1, 1) := by decide +kernel
theorem d_M_valueAt_106 : decode b_M_valueAt 106 = .ok (.isub, 1) := by decide +kernel
theorem d_M_valueAt_107 : decode b_M_valueAt 107 = .ok (.iaload, 1) := by decide +kernel
theorem d_M_valueAt_108 : decode b_M_valueAt 108 = .ok (.i2l, 1) := by decide +kernel
theorem d_M_valueAt_109 : decode b_M_valueAt 109 = .ok (.lstore 8, 2) := by decide +kernel
theorem d_M_valueAt_111 : decode b_M_valueAt 111 = .ok (.lload 8, 2) := by decide +kernel
theorem d_M_valueAt_113 : decode b_M_valueAt 113 = .ok (.aload_n 0, 1) := by decide +kernel
theorem d_M_valueAt_114 : decode b_M_valueAt 114 = .ok (.getfield 16, 3) := by decide +kernel
theorem d_M_valueAt_117 : decode b_M_valueAt 117 = .ok (.iload 5, 2) := by decide +kernel
theorem d_M_valueAt_119 : decode b_M_valueAt 119 = .ok (.iaload, 1) := by decide +kernel
theorem d_M_valueAt_120 : decode b_M_valueAt 120 = .ok (.i2l, 1) := by decide +kernel
theorem d_M_valueAt_121 : decode b_M_valueAt 121 = .ok (.lload 8, 2) := by decide +kernel
theorem d_M_valueAt_123 : decode b_M_valueAt 123 = .ok (.lsub, 1) := by decide +kernel
theorem d_M_valueAt_124 : decode b_M_valueAt 124 = .ok (.iload_n 2, 1) := by decide +kernel
theorem d_M_valueAt_125 : decode b_M_valueAt 125 = .ok (.i2l, 1) := by decide +kernel
theorem d_M_valueAt_126 : decode b_M_valueAt 126 = .ok (.lload 6, 2) := by decide +kernel
theorem d_M_valueAt_128 : decode b_M_valueAt 128 = .ok (.lsub, 1) := by decide +kernel
theorem d_M_valueAt_129 : decode b_M_valueAt 129 = .ok (.lmul, 1) := by decide +kernel
theorem d_M_valueAt_130 : decode b_M_valueAt 130 = .ok (.aload_n 0, 1) := by decide +kernel
theorem d_M_valueAt_131 : decode b_M_valueAt 131 = .ok (.getfield 13, 3) := by decide +kernel
theorem d_M_valueAt_134 : decode b_M_valueAt 134 = .ok (.iload 5, 2) := by decide +kernel
theorem d_M_valueAt_136 : decode b_M_valueAt 136 = .ok (.iaload, 1) := by decide +kernel
theorem d_M_valueAt_137 : decode b_M_valueAt 137 = .ok (.i2l, 1) := by decide +kernel
theorem d_M_valueAt_138 : decode b_M_valueAt 138 = .ok (.lload 6, 2) := by decide +kernel
theorem d_M_valueAt_140 : decode b_M_valueAt 140 = .ok (.lsub, 1) := by decide +kernel
theorem d_M_valueAt_141 : decode b_M_valueAt 141 = .ok (.invokestatic 167, 3) := by decide +kernel
theorem d_M_valueAt_144 : decode b_M_valueAt 144 = .ok (.ladd, 1) := by decide +kernel
theorem d_M_valueAt_145 : decode b_M_valueAt 145 = .ok (.lreturn, 1) := by decide +kernel
theorem d_M_at_0 : decode b_M_at 0 = .ok (.aload_n 0, 1) := by decide +kernel
theorem d_M_at_1 : decode b_M_at 1 = .ok (.aload_n 0, 1) := by decide +kernel
theorem d_M_at_2 : decode b_M_at 2 = .ok (.iload_n 1, 1) := by decide +kernel
theorem d_M_at_3 : decode b_M_at 3 = .ok (.invokevirtual 161, 3) := by decide +kernel
theorem d_M_at_6 : decode b_M_at 6 = .ok (.ifCond .eq 7, 3) := by decide +kernel
theorem d_M_at_9 : decode b_M_at 9 = .ok (.iconst 0, 1) := by decide +kernel
theorem d_M_at_10 : decode b_M_at 10 = .ok (.goto 4, 3) := by decide +kernel
theorem d_M_at_13 : decode b_M_at 13 = .ok (.iconst 1, 1) := by decide +kernel
theorem d_M_at_14 : decode b_M_at 14 = .ok (.putfield 34, 3) := by decide +kernel
theorem d_M_at_17 : decode b_M_at 17 = .ok (.aload_n 0, 1) := by decide +kernel
theorem d_M_at_18 : decode b_M_at 18 = .ok (.getfield 34, 3) := by decide +kernel
theorem d_M_at_21 : decode b_M_at 21 = .ok (.ifCond .le 7, 3) := by decide +kernel
theorem d_M_at_24 : decode b_M_at 24 = .ok (.lconst 0, 1) := by decide +kernel
theorem d_M_at_25 : decode b_M_at 25 = .ok (.goto 9, 3) := by decide +kernel
theorem d_M_at_28 : decode b_M_at 28 = .ok (.aload_n 0, 1) := by decide +kernel
theorem d_M_at_29 : decode b_M_at 29 = .ok (.iload_n 1, 1) := by decide +kernel
theorem d_M_at_30 : decode b_M_at 30 = .ok (.iload_n 2, 1) := by decide +kernel
theorem d_M_at_31 : decode b_M_at 31 = .ok (.invokevirtual 171, 3) := by decide +kernel
theorem d_M_at_34 : decode b_M_at 34 = .ok (.lreturn, 1) := by decide +kernel
theorem d_M_join_0 : decode b_M_join 0 = .ok (.aload_n 0, 1) := by decide +kernel
theorem d_M_join_1 : decode b_M_join 1 = .ok (.aload_n 0, 1) := by decide +kernel
theorem d_M_join_2 : decode b_M_join 2 = .ok (.iload_n 1, 1) := by decide +kernel
theorem d_M_join_3 : decode b_M_join 3 = .ok (.invokevirtual 161, 3) := by decide +kernel
theorem d_M_join_6 : decode b_M_join 6 = .ok (.ifCond .eq 15, 3) := by decide +kernel
theorem d_M_join_9 : decode b_M_join 9 = .ok (.aload_n 0, 1) := by decide +kernel
theorem d_M_join_10 : decode b_M_join 10 = .ok (.iload_n 2, 1) := by decide +kernel
theorem d_M_join_11 : decode b_M_join 11 = .ok (.invokevirtual 161, 3) := by decide +kernel
theorem d_M_join_14 : decode b_M_join 14 = .ok (.ifCond .eq 7, 3) := by decide +kernel
theorem d_M_join_17 : decode b_M_join 17 = .ok (.iconst 0, 1) := by decide +kernel
theorem d_M_join_18 : decode b_M_join 18 = .ok (.goto 4, 3) := by decide +kernel
theorem d_M_join_21 : decode b_M_join 21 = .ok (.iconst 1, 1) := by decide +kernel
theorem d_M_join_22 : decode b_M_join 22 = .ok (.putfield 34, 3) := by decide +kernel
theorem d_M_join_25 : decode b_M_join 25 = .ok (.aload_n 0, 1) := by decide +kernel
theorem d_M_join_26 : decode b_M_join 26 = .ok (.getfield 34, 3) := by decide +kernel
theorem d_M_join_29 : decode b_M_join 29 = .ok (.ifCond .le 5, 3) := by decide +kernel
theorem d_M_join_32 : decode b_M_join 32 = .ok (.lconst 0, 1) := by decide +kernel
theorem d_M_join_33 : decode b_M_join 33 = .ok (.lreturn, 1) := by decide +kernel
theorem d_M_join_34 : decode b_M_join 34 = .ok (.aload_n 0, 1) := by decide +kernel
theorem d_M_join_35 : decode b_M_join 35 = .ok (.iload_n 1, 1) := by decide +kernel
theorem d_M_join_36 : decode b_M_join 36 = .ok (.iload_n 3, 1) := by decide +kernel
theorem d_M_join_37 : decode b_M_join 37 = .ok (.invokevirtual 171, 3) := by decide +kernel
theorem d_M_join_40 : decode b_M_join 40 = .ok (.lstore 4, 2) := by decide +kernel
theorem d_M_join_42 : decode b_M_join 42 = .ok (.aload_n 0, 1) := by decide +kernel
theorem d_M_join_43 : decode b_M_join 43 = .ok (.iload_n 2, 1) := by decide +kernel
theorem d_M_join_44 : decode b_M_join 44 = .ok (.iload_n 3, 1) := by decide +kernel
theorem d_M_join_45 : decode b_M_join 45 = .ok (.invokevirtual 171, 3) := by decide +kernel
theorem d_M_join_48 : decode b_M_join 48 = .ok (.lstore 6, 2) := by decide +kernel
theorem d_M_join_50 : decode b_M_join 50 = .ok (.lload 4, 2) := by decide +kernel
theorem d_M_join_52 : decode b_M_join 52 = .ok (.ldc2_w 115, 3) := by decide +kernel
theorem d_M_join_55 : decode b_M_join 55 = .ok (.lcmp, 1) := by decide +kernel
theorem d_M_join_56 : decode b_M_join 56 = .ok (.ifCond .eq 12, 3) := by decide +kernel
theorem d_M_join_59 : decode b_M_join 59 = .ok (.lload 6, 2) := by decide +kernel
theorem d_M_join_61 : decode b_M_join 61 = .ok (.ldc2_w 115, 3) := by decide +kernel
theorem d_M_join_64 : decode b_M_join 64 = .ok (.lcmp, 1) := by decide +kernel
theorem d_M_join_65 : decode b_M_join 65 = .ok (.ifCond .ne 9, 3) := by decide +kernel
theorem d_M_join_68 : decode b_M_join 68 = .ok (.ldc2_w 115, 3) := by decide +kernel
theorem d_M_join_71 : decode b_M_join 71 = .ok (.goto 8, 3) := by decide +kernel
theorem d_M_join_74 : decode b_M_join 74 = .ok (.lload 4, 2) := by decide +kernel
theorem d_M_join_76 : decode b_M_join 76 = .ok (.lload 6, 2) := by decide +kernel
theorem d_M_join_78 : decode b_M_join 78 = .ok (.lsub, 1) := by decide +kernel
theorem d_M_join_79 : decode b_M_join 79 = .ok (.lreturn, 1) := by decide +kernel
theorem d_M_drawn_0 : decode b_M_drawn 0 = .ok (.aload_n 0, 1) := by decide +kernel
theorem d_M_drawn_1 : decode b_M_drawn 1 = .ok (.iconst 0, 1) := by decide +kernel
theorem d_M_drawn_2 : decode b_M_drawn 2 = .ok (.putfield 34, 3) := by decide +kernel
theorem d_M_drawn_5 : decode b_M_drawn 5 = .ok (.aload_n 0, 1) := by decide +kernel
theorem d_M_drawn_6 : decode b_M_drawn 6 = .ok (.getfield 30, 3) := by decide +kernel
theorem d_M_drawn_9 : decode b_M_drawn 9 = .ok (.ldc2_w 174, 3) := by decide +kernel
theorem d_M_drawn_12 : decode b_M_drawn 12 = .ok (.lload_n 1, 1) := by decide +kernel
theorem d_M_drawn_13 : decode b_M_drawn 13 = .ok (.lconst 1, 1) := by decide +kernel
theorem d_M_drawn_14 : decode b_M_drawn 14 = .ok (.ladd, 1) := by decide +kernel
theorem d_M_drawn_15 : decode b_M_drawn 15 = .ok (.lmul, 1) := by decide +kernel
theorem d_M_drawn_16 : decode b_M_drawn 16 = .ok (.ladd, 1) := by decide +kernel
theorem d_M_drawn_17 : decode b_M_drawn 17 = .ok (.ldc2_w 176, 3) := by decide +kernel
theorem d_M_drawn_20 : decode b_M_drawn 20 = .ok (.iload_n 3, 1) := by decide +kernel
theorem d_M_drawn_21 : decode b_M_drawn 21 = .ok (.i2l, 1) := by decide +kernel
theorem d_M_drawn_22 : decode b_M_drawn 22 = .ok (.lmul, 1) := by decide +kernel
theorem d_M_drawn_23 : decode b_M_drawn 23 = .ok (.ladd, 1) := by decide +kernel
theorem d_M_drawn_24 : decode b_M_drawn 24 = .ok (.lstore 4, 2) := by decide +kernel
theorem d_M_drawn_26 : decode b_M_drawn 26 = .ok (.lload 4, 2) := by decide +kernel
theorem d_M_drawn_28 : decode b_M_drawn 28 = .ok (.lload 4, 2) := by decide +kernel
theorem d_M_drawn_30 : decode b_M_drawn 30 = .ok (.bipush 30, 2) := by decide +kernel
theorem d_M_drawn_32 : decode b_M_drawn 32 = .ok (.lushr, 1) := by decide +kernel
theorem d_M_drawn_33 : decode b_M_drawn 33 = .ok (.lxor, 1) := by decide +kernel
theorem d_M_drawn_34 : decode b_M_drawn 34 = .ok (.ldc2_w 178, 3) := by decide +kernel
theorem d_M_drawn_37 : decode b_M_drawn 37 = .ok (.lmul, 1) := by decide +kernel
theorem d_M_drawn_38 : decode b_M_drawn 38 = .ok (.lstore 4, 2) := by decide +kernel
theorem d_M_drawn_40 : decode b_M_drawn 40 = .ok (.lload 4, 2) := by decide +kernel
theorem d_M_drawn_42 : decode b_M_drawn 42 = .ok (.lload 4, 2) := by decide +kernel
theorem d_M_drawn_44 : decode b_M_drawn 44 = .ok (.bipush 27, 2) := by decide +kernel
theorem d_M_drawn_46 : decode b_M_drawn 46 = .ok (.lushr, 1) := by decide +kernel
theorem d_M_drawn_47 : decode b_M_drawn 47 = .ok (.lxor, 1) := by decide +kernel
theorem d_M_drawn_48 : decode b_M_drawn 48 = .ok (.ldc2_w 180, 3) := by decide +kernel
theorem d_M_drawn_51 : decode b_M_drawn 51 = .ok (.lmul, 1) := by decide +kernel
theorem d_M_drawn_52 : decode b_M_drawn 52 = .ok (.lstore 4, 2) := by decide +kernel
theorem d_M_drawn_54 : decode b_M_drawn 54 = .ok (.lload 4, 2) := by decide +kernel
theorem d_M_drawn_56 : decode b_M_drawn 56 = .ok (.lload 4, 2) := by decide +kernel
theorem d_M_drawn_58 : decode b_M_drawn 58 = .ok (.bipush 31, 2) := by decide +kernel
theorem d_M_drawn_60 : decode b_M_drawn 60 = .ok (.lushr, 1) := by decide +kernel
theorem d_M_drawn_61 : decode b_M_drawn 61 = .ok (.lxor, 1) := by decide +kernel
theorem d_M_drawn_62 : decode b_M_drawn 62 = .ok (.lstore 4, 2) := by decide +kernel
theorem d_M_drawn_64 : decode b_M_drawn 64 = .ok (.lload 4, 2) := by decide +kernel
theorem d_M_drawn_66 : decode b_M_drawn 66 = .ok (.bipush 11, 2) := by decide +kernel
theorem d_M_drawn_68 : decode b_M_drawn 68 = .ok (.lushr, 1) := by decide +kernel
theorem d_M_drawn_69 : decode b_M_drawn 69 = .ok (.ldc2_w 48, 3) := by decide +kernel
theorem d_M_drawn_72 : decode b_M_drawn 72 = .ok (.lrem, 1) := by decide +kernel
theorem d_M_drawn_73 : decode b_M_drawn 73 = .ok (.l2i, 1) := by decide +kernel
theorem d_M_drawn_74 : decode b_M_drawn 74 = .ok (.ireturn, 1) := by decide +kernel
