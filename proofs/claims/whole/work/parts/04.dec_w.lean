theorem d_W_init_0 : decode b_W_init 0 = .ok (.aload_n 0, 1) := by decide +kernel
theorem d_W_init_1 : decode b_W_init 1 = .ok (.invokespecial 1, 3) := by decide +kernel
theorem d_W_init_4 : decode b_W_init 4 = .ok (.aload_n 0, 1) := by decide +kernel
theorem d_W_init_5 : decode b_W_init 5 = .ok (.bipush 7, 2) := by decide +kernel
theorem d_W_init_7 : decode b_W_init 7 = .ok (.newarray .long, 2) := by decide +kernel
theorem d_W_init_9 : decode b_W_init 9 = .ok (.putfield 9, 3) := by decide +kernel
theorem d_W_init_12 : decode b_W_init 12 = .ok (.aload_n 0, 1) := by decide +kernel
theorem d_W_init_13 : decode b_W_init 13 = .ok (.bipush 14, 2) := by decide +kernel
theorem d_W_init_15 : decode b_W_init 15 = .ok (.newarray .long, 2) := by decide +kernel
theorem d_W_init_17 : decode b_W_init 17 = .ok (.putfield 13, 3) := by decide +kernel
theorem d_W_init_20 : decode b_W_init 20 = .ok (.return_, 1) := by decide +kernel
theorem d_W_load_0 : decode b_W_load 0 = .ok (.aload_n 0, 1) := by decide +kernel
theorem d_W_load_1 : decode b_W_load 1 = .ok (.getfield 9, 3) := by decide +kernel
theorem d_W_load_4 : decode b_W_load 4 = .ok (.lconst 0, 1) := by decide +kernel
theorem d_W_load_5 : decode b_W_load 5 = .ok (.invokestatic 16, 3) := by decide +kernel
theorem d_W_load_8 : decode b_W_load 8 = .ok (.aload_n 0, 1) := by decide +kernel
theorem d_W_load_9 : decode b_W_load 9 = .ok (.getfield 9, 3) := by decide +kernel
theorem d_W_load_12 : decode b_W_load 12 = .ok (.iconst 5, 1) := by decide +kernel
theorem d_W_load_13 : decode b_W_load 13 = .ok (.lload_n 1, 1) := by decide +kernel
theorem d_W_load_14 : decode b_W_load 14 = .ok (.ldc2_w 22, 3) := by decide +kernel
theorem d_W_load_17 : decode b_W_load 17 = .ok (.land, 1) := by decide +kernel
theorem d_W_load_18 : decode b_W_load 18 = .ok (.lastore, 1) := by decide +kernel
theorem d_W_load_19 : decode b_W_load 19 = .ok (.aload_n 0, 1) := by decide +kernel
theorem d_W_load_20 : decode b_W_load 20 = .ok (.getfield 9, 3) := by decide +kernel
theorem d_W_load_23 : decode b_W_load 23 = .ok (.bipush 6, 2) := by decide +kernel
theorem d_W_load_25 : decode b_W_load 25 = .ok (.lload_n 1, 1) := by decide +kernel
theorem d_W_load_26 : decode b_W_load 26 = .ok (.bipush 32, 2) := by decide +kernel
theorem d_W_load_28 : decode b_W_load 28 = .ok (.lushr, 1) := by decide +kernel
theorem d_W_load_29 : decode b_W_load 29 = .ok (.lastore, 1) := by decide +kernel
theorem d_W_load_30 : decode b_W_load 30 = .ok (.return_, 1) := by decide +kernel
theorem d_W_loadInteger_0 : decode b_W_loadInteger 0 = .ok (.aload_n 0, 1) := by decide +kernel
theorem d_W_loadInteger_1 : decode b_W_loadInteger 1 = .ok (.getfield 9, 3) := by decide +kernel
theorem d_W_loadInteger_4 : decode b_W_loadInteger 4 = .ok (.lconst 0, 1) := by decide +kernel
theorem d_W_loadInteger_5 : decode b_W_loadInteger 5 = .ok (.invokestatic 16, 3) := by decide +kernel
theorem d_W_loadInteger_8 : decode b_W_loadInteger 8 = .ok (.aload_n 0, 1) := by decide +kernel
theorem d_W_loadInteger_9 : decode b_W_loadInteger 9 = .ok (.getfield 9, 3) := by decide +kernel
theorem d_W_loadInteger_12 : decode b_W_loadInteger 12 = .ok (.iconst 0, 1) := by decide +kernel
theorem d_W_loadInteger_13 : decode b_W_loadInteger 13 = .ok (.lload_n 1, 1) := by decide +kernel
theorem d_W_loadInteger_14 : decode b_W_loadInteger 14 = .ok (.ldc2_w 22, 3) := by decide +kernel
theorem d_W_loadInteger_17 : decode b_W_loadInteger 17 = .ok (.land, 1) := by decide +kernel
theorem d_W_loadInteger_18 : decode b_W_loadInteger 18 = .ok (.lastore, 1) := by decide +kernel
theorem d_W_loadInteger_19 : decode b_W_loadInteger 19 = .ok (.aload_n 0, 1) := by decide +kernel
theorem d_W_loadInteger_20 : decode b_W_loadInteger 20 = .ok (.getfield 9, 3) := by decide +kernel
theorem d_W_loadInteger_23 : decode b_W_loadInteger 23 = .ok (.iconst 1, 1) := by decide +kernel
theorem d_W_loadInteger_24 : decode b_W_loadInteger 24 = .ok (.lload_n 1, 1) := by decide +kernel
theorem d_W_loadInteger_25 : decode b_W_loadInteger 25 = .ok (.bipush 32, 2) := by decide +kernel
theorem d_W_loadInteger_27 : decode b_W_loadInteger 27 = .ok (.lushr, 1) := by decide +kernel
theorem d_W_loadInteger_28 : decode b_W_loadInteger 28 = .ok (.lastore, 1) := by decide +kernel
theorem d_W_loadInteger_29 : decode b_W_loadInteger 29 = .ok (.return_, 1) := by decide +kernel
theorem d_W_loadRatio_0 : decode b_W_loadRatio 0 = .ok (.aload_n 0, 1) := by decide +kernel
theorem d_W_loadRatio_1 : decode b_W_loadRatio 1 = .ok (.lload_n 1, 1) := by decide +kernel
theorem d_W_loadRatio_2 : decode b_W_loadRatio 2 = .ok (.invokevirtual 24, 3) := by decide +kernel
theorem d_W_loadRatio_5 : decode b_W_loadRatio 5 = .ok (.aload_n 0, 1) := by decide +kernel
theorem d_W_loadRatio_6 : decode b_W_loadRatio 6 = .ok (.lload_n 3, 1) := by decide +kernel
theorem d_W_loadRatio_7 : decode b_W_loadRatio 7 = .ok (.invokevirtual 28, 3) := by decide +kernel
theorem d_W_loadRatio_10 : decode b_W_loadRatio 10 = .ok (.return_, 1) := by decide +kernel
theorem d_W_loadWide_0 : decode b_W_loadWide 0 = .ok (.iconst 0, 1) := by decide +kernel
theorem d_W_loadWide_1 : decode b_W_loadWide 1 = .ok (.istore_n 2, 1) := by decide +kernel
theorem d_W_loadWide_2 : decode b_W_loadWide 2 = .ok (.iload_n 2, 1) := by decide +kernel
theorem d_W_loadWide_3 : decode b_W_loadWide 3 = .ok (.bipush 7, 2) := by decide +kernel
theorem d_W_loadWide_5 : decode b_W_loadWide 5 = .ok (.if_icmp .ge 21, 3) := by decide +kernel
theorem d_W_loadWide_8 : decode b_W_loadWide 8 = .ok (.aload_n 0, 1) := by decide +kernel
theorem d_W_loadWide_9 : decode b_W_loadWide 9 = .ok (.getfield 9, 3) := by decide +kernel
theorem d_W_loadWide_12 : decode b_W_loadWide 12 = .ok (.iload_n 2, 1) := by decide +kernel
theorem d_W_loadWide_13 : decode b_W_loadWide 13 = .ok (.aload_n 1, 1) := by decide +kernel
theorem d_W_loadWide_14 : decode b_W_loadWide 14 = .ok (.getfield 9, 3) := by decide +kernel
theorem d_W_loadWide_17 : decode b_W_loadWide 17 = .ok (.iload_n 2, 1) := by decide +kernel
theorem d_W_loadWide_18 : decode b_W_loadWide 18 = .ok (.laload, 1) := by decide +kernel
theorem d_W_loadWide_19 : decode b_W_loadWide 19 = .ok (.lastore, 1) := by decide +kernel
theorem d_W_loadWide_20 : decode b_W_loadWide 20 = .ok (.iinc 2 1, 3) := by decide +kernel
theorem d_W_loadWide_23 : decode b_W_loadWide 23 = .ok (.goto (-21), 3) := by decide +kernel
theorem d_W_loadWide_26 : decode b_W_loadWide 26 = .ok (.return_, 1) := by decide +kernel
theorem d_W_loadLimbs_0 : decode b_W_loadLimbs 0 = .ok (.iconst 0, 1) := by decide +kernel
theorem d_W_loadLimbs_1 : decode b_W_loadLimbs 1 = .ok (.istore_n 3, 1) := by decide +kernel
theorem d_W_loadLimbs_2 : decode b_W_loadLimbs 2 = .ok (.iload_n 3, 1) := by decide +kernel
theorem d_W_loadLimbs_3 : decode b_W_loadLimbs 3 = .ok (.bipush 7, 2) := by decide +kernel
theorem d_W_loadLimbs_5 : decode b_W_loadLimbs 5 = .ok (.if_icmp .ge 40, 3) := by decide +kernel
theorem d_W_loadLimbs_8 : decode b_W_loadLimbs 8 = .ok (.iload_n 2, 1) := by decide +kernel
theorem d_W_loadLimbs_9 : decode b_W_loadLimbs 9 = .ok (.iload_n 3, 1) := by decide +kernel
theorem d_W_loadLimbs_10 : decode b_W_loadLimbs 10 = .ok (.iadd, 1) := by decide +kernel
theorem d_W_loadLimbs_11 : decode b_W_loadLimbs 11 = .ok (.istore 4, 2) := by decide +kernel
theorem d_W_loadLimbs_13 : decode b_W_loadLimbs 13 = .ok (.aload_n 0, 1) := by decide +kernel
theorem d_W_loadLimbs_14 : decode b_W_loadLimbs 14 = .ok (.getfield 9, 3) := by decide +kernel
theorem d_W_loadLimbs_17 : decode b_W_loadLimbs 17 = .ok (.iload_n 3, 1) := by decide +kernel
theorem d_W_loadLimbs_18 : decode b_W_loadLimbs 18 = .ok (.iload 4, 2) := by decide +kernel
theorem d_W_loadLimbs_20 : decode b_W_loadLimbs 20 = .ok (.ifCond .lt 17, 3) := by decide +kernel
theorem d_W_loadLimbs_23 : decode b_W_loadLimbs 23 = .ok (.iload 4, 2) := by decide +kernel
theorem d_W_loadLimbs_25 : decode b_W_loadLimbs 25 = .ok (.aload_n 1, 1) := by decide +kernel
theorem d_W_loadLimbs_26 : decode b_W_loadLimbs 26 = .ok (.arraylength, 1) := by decide +kernel
theorem d_W_loadLimbs_27 : decode b_W_loadLimbs 27 = .ok (.if_icmp .ge 10, 3) := by decide +kernel
theorem d_W_loadLimbs_30 : decode b_W_loadLimbs 30 = .ok (.aload_n 1, 1) := by decide +kernel
theorem d_W_loadLimbs_31 : decode b_W_loadLimbs 31 = .ok (.iload 4, 2) := by decide +kernel
theorem d_W_loadLimbs_33 : decode b_W_loadLimbs 33 = .ok (.laload, 1) := by decide +kernel
theorem d_W_loadLimbs_34 : decode b_W_loadLimbs 34 = .ok (.goto 4, 3) := by decide +kernel
theorem d_W_loadLimbs_37 : decode b_W_loadLimbs 37 = .ok (.lconst 0, 1) := by decide +kernel
theorem d_W_loadLimbs_38 : decode b_W_loadLimbs 38 = .ok (.lastore, 1) := by decide +kernel
theorem d_W_loadLimbs_39 : decode b_W_loadLimbs 39 = .ok (.iinc 3 1, 3) := by decide +kernel
theorem d_W_loadLimbs_42 : decode b_W_loadLimbs 42 = .ok (.goto (-40), 3) := by decide +kernel
theorem d_W_loadLimbs_45 : decode b_W_loadLimbs 45 = .ok (.return_, 1) := by decide +kernel
theorem d_W_add_0 : decode b_W_add 0 = .ok (.lconst 0, 1) := by decide +kernel
theorem d_W_add_1 : decode b_W_add 1 = .ok (.lstore_n 2, 1) := by decide +kernel
theorem d_W_add_2 : decode b_W_add 2 = .ok (.iconst 0, 1) := by decide +kernel
theorem d_W_add_3 : decode b_W_add 3 = .ok (.istore 4, 2) := by decide +kernel
theorem d_W_add_5 : decode b_W_add 5 = .ok (.iload 4, 2) := by decide +kernel
theorem d_W_add_7 : decode b_W_add 7 = .ok (.bipush 7, 2) := by decide +kernel
theorem d_W_add_9 : decode b_W_add 9 = .ok (.if_icmp .ge 47, 3) := by decide +kernel
theorem d_W_add_12 : decode b_W_add 12 = .ok (.aload_n 0, 1) := by decide +kernel
theorem d_W_add_13 : decode b_W_add 13 = .ok (.getfield 9, 3) := by decide +kernel
theorem d_W_add_16 : decode b_W_add 16 = .ok (.iload 4, 2) := by decide +kernel
theorem d_W_add_18 : decode b_W_add 18 = .ok (.laload, 1) := by decide +kernel
theorem d_W_add_19 : decode b_W_add 19 = .ok (.aload_n 1, 1) := by decide +kernel
theorem d_W_add_20 : decode b_W_add 20 = .ok (.getfield 9, 3) := by decide +kernel
theorem d_W_add_23 : decode b_W_add 23 = .ok (.iload 4, 2) := by decide +kernel
theorem d_W_add_25 : decode b_W_add 25 = .ok (.laload, 1) := by decide +kernel
theorem d_W_add_26 : decode b_W_add 26 = .ok (.ladd, 1) := by decide +kernel
theorem d_W_add_27 : decode b_W_add 27 = .ok (.lload_n 2, 1) := by decide +kernel
theorem d_W_add_28 : decode b_W_add 28 = .ok (.ladd, 1) := by decide +kernel
theorem d_W_add_29 : decode b_W_add 29 = .ok (.lstore 5, 2) := by decide +kernel
theorem d_W_add_31 : decode b_W_add 31 = .ok (.aload_n 0, 1) := by decide +kernel
theorem d_W_add_32 : decode b_W_add 32 = .ok (.getfield 9, 3) := by decide +kernel
theorem d_W_add_35 : decode b_W_add 35 = .ok (.iload 4, 2) := by decide +kernel
theorem d_W_add_37 : decode b_W_add 37 = .ok (.lload 5, 2) := by decide +kernel
theorem d_W_add_39 : decode b_W_add 39 = .ok (.ldc2_w 22, 3) := by decide +kernel
theorem d_W_add_42 : decode b_W_add 42 = .ok (.land, 1) := by decide +kernel
theorem d_W_add_43 : decode b_W_add 43 = .ok (.lastore, 1) := by decide +kernel
theorem d_W_add_44 : decode b_W_add 44 = .ok (.lload 5, 2) := by decide +kernel
theorem d_W_add_46 : decode b_W_add 46 = .ok (.bipush 32, 2) := by decide +kernel
theorem d_W_add_48 : decode b_W_add 48 = .ok (.lushr, 1) := by decide +kernel
theorem d_W_add_49 : decode b_W_add 49 = .ok (.lstore_n 2, 1) := by decide +kernel
theorem d_W_add_50 : decode b_W_add 50 = .ok (.iinc 4 1, 3) := by decide +kernel
theorem d_W_add_53 : decode b_W_add 53 = .ok (.goto (-48), 3) := by decide +kernel
theorem d_W_add_56 : decode b_W_add 56 = .ok (.return_, 1) := by decide +kernel
theorem d_W_subtract_0 : decode b_W_subtract 0 = .ok (.lconst 0, 1) := by decide +kernel
theorem d_W_subtract_1 : decode b_W_subtract 1 = .ok (.lstore_n 2, 1) := by decide +kernel
theorem d_W_subtract_2 : decode b_W_subtract 2 = .ok (.iconst 0, 1) := by decide +kernel
theorem d_W_subtract_3 : decode b_W_subtract 3 = .ok (.istore 4, 2) := by decide +kernel
theorem d_W_subtract_5 : decode b_W_subtract 5 = .ok (.iload 4, 2) := by decide +kernel
theorem d_W_subtract_7 : decode b_W_subtract 7 = .ok (.bipush 7, 2) := by decide +kernel
theorem d_W_subtract_9 : decode b_W_subtract 9 = .ok (.if_icmp .ge 47, 3) := by decide +kernel
theorem d_W_subtract_12 : decode b_W_subtract 12 = .ok (.aload_n 0, 1) := by decide +kernel
theorem d_W_subtract_13 : decode b_W_subtract 13 = .ok (.getfield 9, 3) := by decide +kernel
theorem d_W_subtract_16 : decode b_W_subtract 16 = .ok (.iload 4, 2) := by decide +kernel
theorem d_W_subtract_18 : decode b_W_subtract 18 = .ok (.laload, 1) := by decide +kernel
theorem d_W_subtract_19 : decode b_W_subtract 19 = .ok (.aload_n 1, 1) := by decide +kernel
theorem d_W_subtract_20 : decode b_W_subtract 20 = .ok (.getfield 9, 3) := by decide +kernel
theorem d_W_subtract_23 : decode b_W_subtract 23 = .ok (.iload 4, 2) := by decide +kernel
theorem d_W_subtract_25 : decode b_W_subtract 25 = .ok (.laload, 1) := by decide +kernel
theorem d_W_subtract_26 : decode b_W_subtract 26 = .ok (.lsub, 1) := by decide +kernel
theorem d_W_subtract_27 : decode b_W_subtract 27 = .ok (.lload_n 2, 1) := by decide +kernel
theorem d_W_subtract_28 : decode b_W_subtract 28 = .ok (.ladd, 1) := by decide +kernel
theorem d_W_subtract_29 : decode b_W_subtract 29 = .ok (.lstore 5, 2) := by decide +kernel
theorem d_W_subtract_31 : decode b_W_subtract 31 = .ok (.aload_n 0, 1) := by decide +kernel
theorem d_W_subtract_32 : decode b_W_subtract 32 = .ok (.getfield 9, 3) := by decide +kernel
theorem d_W_subtract_35 : decode b_W_subtract 35 = .ok (.iload 4, 2) := by decide +kernel
theorem d_W_subtract_37 : decode b_W_subtract 37 = .ok (.lload 5, 2) := by decide +kernel
theorem d_W_subtract_39 : decode b_W_subtract 39 = .ok (.ldc2_w 22, 3) := by decide +kernel
theorem d_W_subtract_42 : decode b_W_subtract 42 = .ok (.land, 1) := by decide +kernel
theorem d_W_subtract_43 : decode b_W_subtract 43 = .ok (.lastore, 1) := by decide +kernel
theorem d_W_subtract_44 : decode b_W_subtract 44 = .ok (.lload 5, 2) := by decide +kernel
theorem d_W_subtract_46 : decode b_W_subtract 46 = .ok (.bipush 32, 2) := by decide +kernel
theorem d_W_subtract_48 : decode b_W_subtract 48 = .ok (.lshr, 1) := by decide +kernel
theorem d_W_subtract_49 : decode b_W_subtract 49 = .ok (.lstore_n 2, 1) := by decide +kernel
theorem d_W_subtract_50 : decode b_W_subtract 50 = .ok (.iinc 4 1, 3) := by decide +kernel
theorem d_W_subtract_53 : decode b_W_subtract 53 = .ok (.goto (-48), 3) := by decide +kernel
theorem d_W_subtract_56 : decode b_W_subtract 56 = .ok (.return_, 1) := by decide +kernel
theorem d_W_addOrSubtract_0 : decode b_W_addOrSubtract 0 = .ok (.iload_n 2, 1) := by decide +kernel
theorem d_W_addOrSubtract_1 : decode b_W_addOrSubtract 1 = .ok (.ifCond .eq 11, 3) := by decide +kernel
theorem d_W_addOrSubtract_4 : decode b_W_addOrSubtract 4 = .ok (.aload_n 0, 1) := by decide +kernel
theorem d_W_addOrSubtract_5 : decode b_W_addOrSubtract 5 = .ok (.aload_n 1, 1) := by decide +kernel
theorem d_W_addOrSubtract_6 : decode b_W_addOrSubtract 6 = .ok (.invokevirtual 31, 3) := by decide +kernel
theorem d_W_addOrSubtract_9 : decode b_W_addOrSubtract 9 = .ok (.goto 8, 3) := by decide +kernel
theorem d_W_addOrSubtract_12 : decode b_W_addOrSubtract 12 = .ok (.aload_n 0, 1) := by decide +kernel
theorem d_W_addOrSubtract_13 : decode b_W_addOrSubtract 13 = .ok (.aload_n 1, 1) := by decide +kernel
theorem d_W_addOrSubtract_14 : decode b_W_addOrSubtract 14 = .ok (.invokevirtual 35, 3) := by decide +kernel
theorem d_W_addOrSubtract_17 : decode b_W_addOrSubtract 17 = .ok (.return_, 1) := by decide +kernel
theorem d_W_negate_0 : decode b_W_negate 0 = .ok (.lconst 1, 1) := by decide +kernel
theorem d_W_negate_1 : decode b_W_negate 1 = .ok (.lstore_n 1, 1) := by decide +kernel
theorem d_W_negate_2 : decode b_W_negate 2 = .ok (.iconst 0, 1) := by decide +kernel
theorem d_W_negate_3 : decode b_W_negate 3 = .ok (.istore_n 3, 1) := by decide +kernel
theorem d_W_negate_4 : decode b_W_negate 4 = .ok (.iload_n 3, 1) := by decide +kernel
theorem d_W_negate_5 : decode b_W_negate 5 = .ok (.bipush 7, 2) := by decide +kernel
theorem d_W_negate_7 : decode b_W_negate 7 = .ok (.if_icmp .ge 41, 3) := by decide +kernel
theorem d_W_negate_10 : decode b_W_negate 10 = .ok (.aload_n 0, 1) := by decide +kernel
theorem d_W_negate_11 : decode b_W_negate 11 = .ok (.getfield 9, 3) := by decide +kernel
theorem d_W_negate_14 : decode b_W_negate 14 = .ok (.iload_n 3, 1) := by decide +kernel
theorem d_W_negate_15 : decode b_W_negate 15 = .ok (.laload, 1) := by decide +kernel
theorem d_W_negate_16 : decode b_W_negate 16 = .ok (.ldc2_w 22, 3) := by decide +kernel
theorem d_W_negate_19 : decode b_W_negate 19 = .ok (.lxor, 1) := by decide +kernel
theorem d_W_negate_20 : decode b_W_negate 20 = .ok (.lload_n 1, 1) := by decide +kernel
theorem d_W_negate_21 : decode b_W_negate 21 = .ok (.ladd, 1) := by decide +kernel
theorem d_W_negate_22 : decode b_W_negate 22 = .ok (.lstore 4, 2) := by decide +kernel
theorem d_W_negate_24 : decode b_W_negate 24 = .ok (.aload_n 0, 1) := by decide +kernel
theorem d_W_negate_25 : decode b_W_negate 25 = .ok (.getfield 9, 3) := by decide +kernel
theorem d_W_negate_28 : decode b_W_negate 28 = .ok (.iload_n 3, 1) := by decide +kernel
theorem d_W_negate_29 : decode b_W_negate 29 = .ok (.lload 4, 2) := by decide +kernel
theorem d_W_negate_31 : decode b_W_negate 31 = .ok (.ldc2_w 22, 3) := by decide +kernel
theorem d_W_negate_34 : decode b_W_negate 34 = .ok (.land, 1) := by decide +kernel
theorem d_W_negate_35 : decode b_W_negate 35 = .ok (.lastore, 1) := by decide +kernel
theorem d_W_negate_36 : decode b_W_negate 36 = .ok (.lload 4, 2) := by decide +kernel
theorem d_W_negate_38 : decode b_W_negate 38 = .ok (.bipush 32, 2) := by decide +kernel
theorem d_W_negate_40 : decode b_W_negate 40 = .ok (.lushr, 1) := by decide +kernel
theorem d_W_negate_41 : decode b_W_negate 41 = .ok (.lstore_n 1, 1) := by decide +kernel
theorem d_W_negate_42 : decode b_W_negate 42 = .ok (.iinc 3 1, 3) := by decide +kernel
theorem d_W_negate_45 : decode b_W_negate 45 = .ok (.goto (-41), 3) := by decide +kernel
theorem d_W_negate_48 : decode b_W_negate 48 = .ok (.return_, 1) := by decide +kernel
theorem d_W_scale_0 : decode b_W_scale 0 = .ok (.lconst 0, 1) := by decide +kernel
theorem d_W_scale_1 : decode b_W_scale 1 = .ok (.lstore_n 3, 1) := by decide +kernel
theorem d_W_scale_2 : decode b_W_scale 2 = .ok (.iconst 0, 1) := by decide +kernel
theorem d_W_scale_3 : decode b_W_scale 3 = .ok (.istore 5, 2) := by decide +kernel
theorem d_W_scale_5 : decode b_W_scale 5 = .ok (.iload 5, 2) := by decide +kernel
theorem d_W_scale_7 : decode b_W_scale 7 = .ok (.bipush 7, 2) := by decide +kernel
theorem d_W_scale_9 : decode b_W_scale 9 = .ok (.if_icmp .ge 41, 3) := by decide +kernel
theorem d_W_scale_12 : decode b_W_scale 12 = .ok (.aload_n 0, 1) := by decide +kernel
theorem d_W_scale_13 : decode b_W_scale 13 = .ok (.getfield 9, 3) := by decide +kernel
theorem d_W_scale_16 : decode b_W_scale 16 = .ok (.iload 5, 2) := by decide +kernel
theorem d_W_scale_18 : decode b_W_scale 18 = .ok (.laload, 1) := by decide +kernel
theorem d_W_scale_19 : decode b_W_scale 19 = .ok (.lload_n 1, 1) := by decide +kernel
theorem d_W_scale_20 : decode b_W_scale 20 = .ok (.lmul, 1) := by decide +kernel
theorem d_W_scale_21 : decode b_W_scale 21 = .ok (.lload_n 3, 1) := by decide +kernel
theorem d_W_scale_22 : decode b_W_scale 22 = .ok (.ladd, 1) := by decide +kernel
theorem d_W_scale_23 : decode b_W_scale 23 = .ok (.lstore 6, 2) := by decide +kernel
theorem d_W_scale_25 : decode b_W_scale 25 = .ok (.aload_n 0, 1) := by decide +kernel
theorem d_W_scale_26 : decode b_W_scale 26 = .ok (.getfield 9, 3) := by decide +kernel
theorem d_W_scale_29 : decode b_W_scale 29 = .ok (.iload 5, 2) := by decide +kernel
theorem d_W_scale_31 : decode b_W_scale 31 = .ok (.lload 6, 2) := by decide +kernel
theorem d_W_scale_33 : decode b_W_scale 33 = .ok (.ldc2_w 22, 3) := by decide +kernel
theorem d_W_scale_36 : decode b_W_scale 36 = .ok (.land, 1) := by decide +kernel
theorem d_W_scale_37 : decode b_W_scale 37 = .ok (.lastore, 1) := by decide +kernel
theorem d_W_scale_38 : decode b_W_scale 38 = .ok (.lload 6, 2) := by decide +kernel
theorem d_W_scale_40 : decode b_W_scale 40 = .ok (.bipush 32, 2) := by decide +kernel
theorem d_W_scale_42 : decode b_W_scale 42 = .ok (.lushr, 1) := by decide +kernel
theorem d_W_scale_43 : decode b_W_scale 43 = .ok (.lstore_n 3, 1) := by decide +kernel
theorem d_W_scale_44 : decode b_W_scale 44 = .ok (.iinc 5 1, 3) := by decide +kernel
theorem d_W_scale_47 : decode b_W_scale 47 = .ok (.goto (-42), 3) := by decide +kernel
theorem d_W_scale_50 : decode b_W_scale 50 = .ok (.return_, 1) := by decide +kernel
theorem d_W_divide_0 : decode b_W_divide 0 = .ok (.lload_n 1, 1) := by decide +kernel
theorem d_W_divide_1 : decode b_W_divide 1 = .ok (.lconst 0, 1) := by decide +kernel
theorem d_W_divide_2 : decode b_W_divide 2 = .ok (.lcmp, 1) := by decide +kernel
theorem d_W_divide_3 : decode b_W_divide 3 = .ok (.ifCond .le 11, 3) := by decide +kernel
theorem d_W_divide_6 : decode b_W_divide 6 = .ok (.lload_n 1, 1) := by decide +kernel
theorem d_W_divide_7 : decode b_W_divide 7 = .ok (.ldc2_w 38, 3) := by decide +kernel
theorem d_W_divide_10 : decode b_W_divide 10 = .ok (.lcmp, 1) := by decide +kernel
theorem d_W_divide_11 : decode b_W_divide 11 = .ok (.ifCond .lt 4, 3) := by decide +kernel
theorem d_W_divide_14 : decode b_W_divide 14 = .ok (.return_, 1) := by decide +kernel
theorem d_W_divide_15 : decode b_W_divide 15 = .ok (.lconst 0, 1) := by decide +kernel
theorem d_W_divide_16 : decode b_W_divide 16 = .ok (.lstore_n 3, 1) := by decide +kernel
theorem d_W_divide_17 : decode b_W_divide 17 = .ok (.bipush 6, 2) := by decide +kernel
theorem d_W_divide_19 : decode b_W_divide 19 = .ok (.istore 5, 2) := by decide +kernel
theorem d_W_divide_21 : decode b_W_divide 21 = .ok (.iload 5, 2) := by decide +kernel
theorem d_W_divide_23 : decode b_W_divide 23 = .ok (.ifCond .lt 85, 3) := by decide +kernel
theorem d_W_divide_26 : decode b_W_divide 26 = .ok (.lload_n 3, 1) := by decide +kernel
theorem d_W_divide_27 : decode b_W_divide 27 = .ok (.bipush 16, 2) := by decide +kernel
theorem d_W_divide_29 : decode b_W_divide 29 = .ok (.lshl, 1) := by decide +kernel
theorem d_W_divide_30 : decode b_W_divide 30 = .ok (.aload_n 0, 1) := by decide +kernel
theorem d_W_divide_31 : decode b_W_divide 31 = .ok (.getfield 9, 3) := by decide +kernel
theorem d_W_divide_34 : decode b_W_divide 34 = .ok (.iload 5, 2) := by decide +kernel
theorem d_W_divide_36 : decode b_W_divide 36 = .ok (.laload, 1) := by decide +kernel
theorem d_W_divide_37 : decode b_W_divide 37 = .ok (.bipush 16, 2) := by decide +kernel
theorem d_W_divide_39 : decode b_W_divide 39 = .ok (.lushr, 1) := by decide +kernel
theorem d_W_divide_40 : decode b_W_divide 40 = .ok (.lor, 1) := by decide +kernel
theorem d_W_divide_41 : decode b_W_divide 41 = .ok (.lstore 6, 2) := by decide +kernel
theorem d_W_divide_43 : decode b_W_divide 43 = .ok (.lload 6, 2) := by decide +kernel
theorem d_W_divide_45 : decode b_W_divide 45 = .ok (.lload_n 1, 1) := by decide +kernel
theorem d_W_divide_46 : decode b_W_divide 46 = .ok (.ldiv, 1) := by decide +kernel
theorem d_W_divide_47 : decode b_W_divide 47 = .ok (.lstore 8, 2) := by decide +kernel
theorem d_W_divide_49 : decode b_W_divide 49 = .ok (.lload 6, 2) := by decide +kernel
theorem d_W_divide_51 : decode b_W_divide 51 = .ok (.lload 8, 2) := by decide +kernel
theorem d_W_divide_53 : decode b_W_divide 53 = .ok (.lload_n 1, 1) := by decide +kernel
theorem d_W_divide_54 : decode b_W_divide 54 = .ok (.lmul, 1) := by decide +kernel
theorem d_W_divide_55 : decode b_W_divide 55 = .ok (.lsub, 1) := by decide +kernel
theorem d_W_divide_56 : decode b_W_divide 56 = .ok (.bipush 16, 2) := by decide +kernel
theorem d_W_divide_58 : decode b_W_divide 58 = .ok (.lshl, 1) := by decide +kernel
theorem d_W_divide_59 : decode b_W_divide 59 = .ok (.aload_n 0, 1) := by decide +kernel
theorem d_W_divide_60 : decode b_W_divide 60 = .ok (.getfield 9, 3) := by decide +kernel
theorem d_W_divide_63 : decode b_W_divide 63 = .ok (.iload 5, 2) := by decide +kernel
theorem d_W_divide_65 : decode b_W_divide 65 = .ok (.laload, 1) := by decide +kernel
theorem d_W_divide_66 : decode b_W_divide 66 = .ok (.ldc2_w 40, 3) := by decide +kernel
theorem d_W_divide_69 : decode b_W_divide 69 = .ok (.land, 1) := by decide +kernel
theorem d_W_divide_70 : decode b_W_divide 70 = .ok (.lor, 1) := by decide +kernel
theorem d_W_divide_71 : decode b_W_divide 71 = .ok (.lstore 10, 2) := by decide +kernel
theorem d_W_divide_73 : decode b_W_divide 73 = .ok (.lload 10, 2) := by decide +kernel
theorem d_W_divide_75 : decode b_W_divide 75 = .ok (.lload_n 1, 1) := by decide +kernel
theorem d_W_divide_76 : decode b_W_divide 76 = .ok (.ldiv, 1) := by decide +kernel
theorem d_W_divide_77 : decode b_W_divide 77 = .ok (.lstore 12, 2) := by decide +kernel
theorem d_W_divide_79 : decode b_W_divide 79 = .ok (.lload 10, 2) := by decide +kernel
theorem d_W_divide_81 : decode b_W_divide 81 = .ok (.lload 12, 2) := by decide +kernel
theorem d_W_divide_83 : decode b_W_divide 83 = .ok (.lload_n 1, 1) := by decide +kernel
theorem d_W_divide_84 : decode b_W_divide 84 = .ok (.lmul, 1) := by decide +kernel
theorem d_W_divide_85 : decode b_W_divide 85 = .ok (.lsub, 1) := by decide +kernel
theorem d_W_divide_86 : decode b_W_divide 86 = .ok (.lstore_n 3, 1) := by decide +kernel
theorem d_W_divide_87 : decode b_W_divide 87 = .ok (.aload_n 0, 1) := by decide +kernel
theorem d_W_divide_88 : decode b_W_divide 88 = .ok (.getfield 9, 3) := by decide +kernel
theorem d_W_divide_91 : decode b_W_divide 91 = .ok (.iload 5, 2) := by decide +kernel
theorem d_W_divide_93 : decode b_W_divide 93 = .ok (.lload 8, 2) := by decide +kernel
theorem d_W_divide_95 : decode b_W_divide 95 = .ok (.bipush 16, 2) := by decide +kernel
theorem d_W_divide_97 : decode b_W_divide 97 = .ok (.lshl, 1) := by decide +kernel
theorem d_W_divide_98 : decode b_W_divide 98 = .ok (.lload 12, 2) := by decide +kernel
theorem d_W_divide_100 : decode b_W_divide 100 = .ok (.lor, 1) := by decide +kernel
theorem d_W_divide_101 : decode b_W_divide 101 = .ok (.lastore, 1) := by decide +kernel
theorem d_W_divide_102 : decode b_W_divide 102 = .ok (.iinc 5 (-1), 3) := by decide +kernel
theorem d_W_divide_105 : decode b_W_divide 105 = .ok (.goto (-84), 3) := by decide +kernel
theorem d_W_divide_108 : decode b_W_divide 108 = .ok (.return_, 1) := by decide +kernel
theorem d_W_multiply_0 : decode b_W_multiply 0 = .ok (.aload_n 0, 1) := by decide +kernel
theorem d_W_multiply_1 : decode b_W_multiply 1 = .ok (.aload_n 1, 1) := by decide +kernel
theorem d_W_multiply_2 : decode b_W_multiply 2 = .ok (.iconst 5, 1) := by decide +kernel
theorem d_W_multiply_3 : decode b_W_multiply 3 = .ok (.invokevirtual 42, 3) := by decide +kernel
theorem d_W_multiply_6 : decode b_W_multiply 6 = .ok (.return_, 1) := by decide +kernel
theorem d_W_multiplyInteger_0 : decode b_W_multiplyInteger 0 = .ok (.aload_n 0, 1) := by decide +kernel
theorem d_W_multiplyInteger_1 : decode b_W_multiplyInteger 1 = .ok (.aload_n 1, 1) := by decide +kernel
theorem d_W_multiplyInteger_2 : decode b_W_multiplyInteger 2 = .ok (.iconst 0, 1) := by decide +kernel
theorem d_W_multiplyInteger_3 : decode b_W_multiplyInteger 3 = .ok (.invokevirtual 42, 3) := by decide +kernel
theorem d_W_multiplyInteger_6 : decode b_W_multiplyInteger 6 = .ok (.return_, 1) := by decide +kernel
theorem d_W_multiplyAndDrop_0 : decode b_W_multiplyAndDrop 0 = .ok (.aload_n 0, 1) := by decide +kernel
theorem d_W_multiplyAndDrop_1 : decode b_W_multiplyAndDrop 1 = .ok (.getfield 13, 3) := by decide +kernel
theorem d_W_multiplyAndDrop_4 : decode b_W_multiplyAndDrop 4 = .ok (.lconst 0, 1) := by decide +kernel
theorem d_W_multiplyAndDrop_5 : decode b_W_multiplyAndDrop 5 = .ok (.invokestatic 16, 3) := by decide +kernel
theorem d_W_multiplyAndDrop_8 : decode b_W_multiplyAndDrop 8 = .ok (.iconst 0, 1) := by decide +kernel
theorem d_W_multiplyAndDrop_9 : decode b_W_multiplyAndDrop 9 = .ok (.istore_n 3, 1) := by decide +kernel
theorem d_W_multiplyAndDrop_10 : decode b_W_multiplyAndDrop 10 = .ok (.iload_n 3, 1) := by decide +kernel
theorem d_W_multiplyAndDrop_11 : decode b_W_multiplyAndDrop 11 = .ok (.bipush 7, 2) := by decide +kernel
theorem d_W_multiplyAndDrop_13 : decode b_W_multiplyAndDrop 13 = .ok (.if_icmp .ge 112, 3) := by decide +kernel
theorem d_W_multiplyAndDrop_16 : decode b_W_multiplyAndDrop 16 = .ok (.aload_n 0, 1) := by decide +kernel
theorem d_W_multiplyAndDrop_17 : decode b_W_multiplyAndDrop 17 = .ok (.getfield 9, 3) := by decide +kernel
theorem d_W_multiplyAndDrop_20 : decode b_W_multiplyAndDrop 20 = .ok (.iload_n 3, 1) := by decide +kernel
theorem d_W_multiplyAndDrop_21 : decode b_W_multiplyAndDrop 21 = .ok (.laload, 1) := by decide +kernel
theorem d_W_multiplyAndDrop_22 : decode b_W_multiplyAndDrop 22 = .ok (.lstore 4, 2) := by decide +kernel
theorem d_W_multiplyAndDrop_24 : decode b_W_multiplyAndDrop 24 = .ok (.lload 4, 2) := by decide +kernel
theorem d_W_multiplyAndDrop_26 : decode b_W_multiplyAndDrop 26 = .ok (.lconst 0, 1) := by decide +kernel
theorem d_W_multiplyAndDrop_27 : decode b_W_multiplyAndDrop 27 = .ok (.lcmp, 1) := by decide +kernel
theorem d_W_multiplyAndDrop_28 : decode b_W_multiplyAndDrop 28 = .ok (.ifCond .ne 6, 3) := by decide +kernel
theorem d_W_multiplyAndDrop_31 : decode b_W_multiplyAndDrop 31 = .ok (.goto 88, 3) := by decide +kernel
theorem d_W_multiplyAndDrop_34 : decode b_W_multiplyAndDrop 34 = .ok (.lconst 0, 1) := by decide +kernel
theorem d_W_multiplyAndDrop_35 : decode b_W_multiplyAndDrop 35 = .ok (.lstore 6, 2) := by decide +kernel
theorem d_W_multiplyAndDrop_37 : decode b_W_multiplyAndDrop 37 = .ok (.iconst 0, 1) := by decide +kernel
theorem d_W_multiplyAndDrop_38 : decode b_W_multiplyAndDrop 38 = .ok (.iload_n 2, 1) := by decide +kernel
theorem d_W_multiplyAndDrop_39 : decode b_W_multiplyAndDrop 39 = .ok (.iconst 1, 1) := by decide +kernel
theorem d_W_multiplyAndDrop_40 : decode b_W_multiplyAndDrop 40 = .ok (.isub, 1) := by decide +kernel
theorem d_W_multiplyAndDrop_41 : decode b_W_multiplyAndDrop 41 = .ok (.iload_n 3, 1) := by decide +kernel
theorem d_W_multiplyAndDrop_42 : decode b_W_multiplyAndDrop 42 = .ok (.isub, 1) := by decide +kernel
theorem d_W_multiplyAndDrop_43 : decode b_W_multiplyAndDrop 43 = .ok (.invokestatic 46, 3) := by decide +kernel
theorem d_W_multiplyAndDrop_46 : decode b_W_multiplyAndDrop 46 = .ok (.istore 8, 2) := by decide +kernel
theorem d_W_multiplyAndDrop_48 : decode b_W_multiplyAndDrop 48 = .ok (.iload 8, 2) := by decide +kernel
theorem d_W_multiplyAndDrop_50 : decode b_W_multiplyAndDrop 50 = .ok (.bipush 7, 2) := by decide +kernel
theorem d_W_multiplyAndDrop_52 : decode b_W_multiplyAndDrop 52 = .ok (.if_icmp .ge 56, 3) := by decide +kernel
theorem d_W_multiplyAndDrop_55 : decode b_W_multiplyAndDrop 55 = .ok (.lload 4, 2) := by decide +kernel
theorem d_W_multiplyAndDrop_57 : decode b_W_multiplyAndDrop 57 = .ok (.aload_n 1, 1) := by decide +kernel
theorem d_W_multiplyAndDrop_58 : decode b_W_multiplyAndDrop 58 = .ok (.getfield 9, 3) := by decide +kernel
theorem d_W_multiplyAndDrop_61 : decode b_W_multiplyAndDrop 61 = .ok (.iload 8, 2) := by decide +kernel
theorem d_W_multiplyAndDrop_63 : decode b_W_multiplyAndDrop 63 = .ok (.laload, 1) := by decide +kernel
theorem d_W_multiplyAndDrop_64 : decode b_W_multiplyAndDrop 64 = .ok (.lmul, 1) := by decide +kernel
theorem d_W_multiplyAndDrop_65 : decode b_W_multiplyAndDrop 65 = .ok (.aload_n 0, 1) := by decide +kernel
theorem d_W_multiplyAndDrop_66 : decode b_W_multiplyAndDrop 66 = .ok (.getfield 13, 3) := by decide +kernel
theorem d_W_multiplyAndDrop_69 : decode b_W_multiplyAndDrop 69 = .ok (.iload_n 3, 1) := by decide +kernel
theorem d_W_multiplyAndDrop_70 : decode b_W_multiplyAndDrop 70 = .ok (.iload 8, 2) := by decide +kernel
theorem d_W_multiplyAndDrop_72 : decode b_W_multiplyAndDrop 72 = .ok (.iadd, 1) := by decide +kernel
theorem d_W_multiplyAndDrop_73 : decode b_W_multiplyAndDrop 73 = .ok (.laload, 1) := by decide +kernel
theorem d_W_multiplyAndDrop_74 : decode b_W_multiplyAndDrop 74 = .ok (.ladd, 1) := by decide +kernel
theorem d_W_multiplyAndDrop_75 : decode b_W_multiplyAndDrop 75 = .ok (.lload 6, 2) := by decide +kernel
theorem d_W_multiplyAndDrop_77 : decode b_W_multiplyAndDrop 77 = .ok (.ladd, 1) := by decide +kernel
theorem d_W_multiplyAndDrop_78 : decode b_W_multiplyAndDrop 78 = .ok (.lstore 9, 2) := by decide +kernel
theorem d_W_multiplyAndDrop_80 : decode b_W_multiplyAndDrop 80 = .ok (.aload_n 0, 1) := by decide +kernel
theorem d_W_multiplyAndDrop_81 : decode b_W_multiplyAndDrop 81 = .ok (.getfield 13, 3) := by decide +kernel
theorem d_W_multiplyAndDrop_84 : decode b_W_multiplyAndDrop 84 = .ok (.iload_n 3, 1) := by decide +kernel
theorem d_W_multiplyAndDrop_85 : decode b_W_multiplyAndDrop 85 = .ok (.iload 8, 2) := by decide +kernel
theorem d_W_multiplyAndDrop_87 : decode b_W_multiplyAndDrop 87 = .ok (.iadd, 1) := by decide +kernel
theorem d_W_multiplyAndDrop_88 : decode b_W_multiplyAndDrop 88 = .ok (.lload 9, 2) := by decide +kernel
theorem d_W_multiplyAndDrop_90 : decode b_W_multiplyAndDrop 90 = .ok (.ldc2_w 22, 3) := by decide +kernel
theorem d_W_multiplyAndDrop_93 : decode b_W_multiplyAndDrop 93 = .ok (.land, 1) := by decide +kernel
theorem d_W_multiplyAndDrop_94 : decode b_W_multiplyAndDrop 94 = .ok (.lastore, 1) := by decide +kernel
theorem d_W_multiplyAndDrop_95 : decode b_W_multiplyAndDrop 95 = .ok (.lload 9, 2) := by decide +kernel
theorem d_W_multiplyAndDrop_97 : decode b_W_multiplyAndDrop 97 = .ok (.bipush 32, 2) := by decide +kernel
theorem d_W_multiplyAndDrop_99 : decode b_W_multiplyAndDrop 99 = .ok (.lushr, 1) := by decide +kernel
theorem d_W_multiplyAndDrop_100 : decode b_W_multiplyAndDrop 100 = .ok (.lstore 6, 2) := by decide +kernel
theorem d_W_multiplyAndDrop_102 : decode b_W_multiplyAndDrop 102 = .ok (.iinc 8 1, 3) := by decide +kernel
theorem d_W_multiplyAndDrop_105 : decode b_W_multiplyAndDrop 105 = .ok (.goto (-57), 3) := by decide +kernel
theorem d_W_multiplyAndDrop_108 : decode b_W_multiplyAndDrop 108 = .ok (.aload_n 0, 1) := by decide +kernel
theorem d_W_multiplyAndDrop_109 : decode b_W_multiplyAndDrop 109 = .ok (.getfield 13, 3) := by decide +kernel
theorem d_W_multiplyAndDrop_112 : decode b_W_multiplyAndDrop 112 = .ok (.iload_n 3, 1) := by decide +kernel
theorem d_W_multiplyAndDrop_113 : decode b_W_multiplyAndDrop 113 = .ok (.bipush 7, 2) := by decide +kernel
theorem d_W_multiplyAndDrop_115 : decode b_W_multiplyAndDrop 115 = .ok (.iadd, 1) := by decide +kernel
theorem d_W_multiplyAndDrop_116 : decode b_W_multiplyAndDrop 116 = .ok (.lload 6, 2) := by decide +kernel
theorem d_W_multiplyAndDrop_118 : decode b_W_multiplyAndDrop 118 = .ok (.lastore, 1) := by decide +kernel
theorem d_W_multiplyAndDrop_119 : decode b_W_multiplyAndDrop 119 = .ok (.iinc 3 1, 3) := by decide +kernel
theorem d_W_multiplyAndDrop_122 : decode b_W_multiplyAndDrop 122 = .ok (.goto (-112), 3) := by decide +kernel
theorem d_W_multiplyAndDrop_125 : decode b_W_multiplyAndDrop 125 = .ok (.iconst 0, 1) := by decide +kernel
theorem d_W_multiplyAndDrop_126 : decode b_W_multiplyAndDrop 126 = .ok (.istore_n 3, 1) := by decide +kernel
theorem d_W_multiplyAndDrop_127 : decode b_W_multiplyAndDrop 127 = .ok (.iload_n 3, 1) := by decide +kernel
theorem d_W_multiplyAndDrop_128 : decode b_W_multiplyAndDrop 128 = .ok (.bipush 7, 2) := by decide +kernel
theorem d_W_multiplyAndDrop_130 : decode b_W_multiplyAndDrop 130 = .ok (.if_icmp .ge 23, 3) := by decide +kernel
theorem d_W_multiplyAndDrop_133 : decode b_W_multiplyAndDrop 133 = .ok (.aload_n 0, 1) := by decide +kernel
theorem d_W_multiplyAndDrop_134 : decode b_W_multiplyAndDrop 134 = .ok (.getfield 9, 3) := by decide +kernel
theorem d_W_multiplyAndDrop_137 : decode b_W_multiplyAndDrop 137 = .ok (.iload_n 3, 1) := by decide +kernel
theorem d_W_multiplyAndDrop_138 : decode b_W_multiplyAndDrop 138 = .ok (.aload_n 0, 1) := by decide +kernel
theorem d_W_multiplyAndDrop_139 : decode b_W_multiplyAndDrop 139 = .ok (.getfield 13, 3) := by decide +kernel
theorem d_W_multiplyAndDrop_142 : decode b_W_multiplyAndDrop 142 = .ok (.iload_n 3, 1) := by decide +kernel
theorem d_W_multiplyAndDrop_143 : decode b_W_multiplyAndDrop 143 = .ok (.iload_n 2, 1) := by decide +kernel
theorem d_W_multiplyAndDrop_144 : decode b_W_multiplyAndDrop 144 = .ok (.iadd, 1) := by decide +kernel
theorem d_W_multiplyAndDrop_145 : decode b_W_multiplyAndDrop 145 = .ok (.laload, 1) := by decide +kernel
theorem d_W_multiplyAndDrop_146 : decode b_W_multiplyAndDrop 146 = .ok (.lastore, 1) := by decide +kernel
theorem d_W_multiplyAndDrop_147 : decode b_W_multiplyAndDrop 147 = .ok (.iinc 3 1, 3) := by decide +kernel
theorem d_W_multiplyAndDrop_150 : decode b_W_multiplyAndDrop 150 = .ok (.goto (-23), 3) := by decide +kernel
theorem d_W_multiplyAndDrop_153 : decode b_W_multiplyAndDrop 153 = .ok (.return_, 1) := by decide +kernel
theorem d_W_isZero_0 : decode b_W_isZero 0 = .ok (.iconst 0, 1) := by decide +kernel
theorem d_W_isZero_1 : decode b_W_isZero 1 = .ok (.istore_n 1, 1) := by decide +kernel
theorem d_W_isZero_2 : decode b_W_isZero 2 = .ok (.iload_n 1, 1) := by decide +kernel
theorem d_W_isZero_3 : decode b_W_isZero 3 = .ok (.bipush 7, 2) := by decide +kernel
theorem d_W_isZero_5 : decode b_W_isZero 5 = .ok (.if_icmp .ge 22, 3) := by decide +kernel
theorem d_W_isZero_8 : decode b_W_isZero 8 = .ok (.aload_n 0, 1) := by decide +kernel
theorem d_W_isZero_9 : decode b_W_isZero 9 = .ok (.getfield 9, 3) := by decide +kernel
theorem d_W_isZero_12 : decode b_W_isZero 12 = .ok (.iload_n 1, 1) := by decide +kernel
theorem d_W_isZero_13 : decode b_W_isZero 13 = .ok (.laload, 1) := by decide +kernel
theorem d_W_isZero_14 : decode b_W_isZero 14 = .ok (.lconst 0, 1) := by decide +kernel
theorem d_W_isZero_15 : decode b_W_isZero 15 = .ok (.lcmp, 1) := by decide +kernel
theorem d_W_isZero_16 : decode b_W_isZero 16 = .ok (.ifCond .eq 5, 3) := by decide +kernel
theorem d_W_isZero_19 : decode b_W_isZero 19 = .ok (.iconst 0, 1) := by decide +kernel
theorem d_W_isZero_20 : decode b_W_isZero 20 = .ok (.ireturn, 1) := by decide +kernel
theorem d_W_isZero_21 : decode b_W_isZero 21 = .ok (.iinc 1 1, 3) := by decide +kernel
theorem d_W_isZero_24 : decode b_W_isZero 24 = .ok (.goto (-22), 3) := by decide +kernel
theorem d_W_isZero_27 : decode b_W_isZero 27 = .ok (.iconst 1, 1) := by decide +kernel
theorem d_W_isZero_28 : decode b_W_isZero 28 = .ok (.ireturn, 1) := by decide +kernel
theorem d_W_isNegative_0 : decode b_W_isNegative 0 = .ok (.aload_n 0, 1) := by decide +kernel
theorem d_W_isNegative_1 : decode b_W_isNegative 1 = .ok (.getfield 9, 3) := by decide +kernel
theorem d_W_isNegative_4 : decode b_W_isNegative 4 = .ok (.bipush 6, 2) := by decide +kernel
theorem d_W_isNegative_6 : decode b_W_isNegative 6 = .ok (.laload, 1) := by decide +kernel
theorem d_W_isNegative_7 : decode b_W_isNegative 7 = .ok (.ldc2_w 52, 3) := by decide +kernel
theorem d_W_isNegative_10 : decode b_W_isNegative 10 = .ok (.land, 1) := by decide +kernel
theorem d_W_isNegative_11 : decode b_W_isNegative 11 = .ok (.lconst 0, 1) := by decide +kernel
theorem d_W_isNegative_12 : decode b_W_isNegative 12 = .ok (.lcmp, 1) := by decide +kernel
theorem d_W_isNegative_13 : decode b_W_isNegative 13 = .ok (.ifCond .eq 7, 3) := by decide +kernel
theorem d_W_isNegative_16 : decode b_W_isNegative 16 = .ok (.iconst 1, 1) := by decide +kernel
theorem d_W_isNegative_17 : decode b_W_isNegative 17 = .ok (.goto 4, 3) := by decide +kernel
theorem d_W_isNegative_20 : decode b_W_isNegative 20 = .ok (.iconst 0, 1) := by decide +kernel
theorem d_W_isNegative_21 : decode b_W_isNegative 21 = .ok (.ireturn, 1) := by decide +kernel
theorem d_W_isAbove_0 : decode b_W_isAbove 0 = .ok (.bipush 6, 2) := by decide +kernel
theorem d_W_isAbove_2 : decode b_W_isAbove 2 = .ok (.istore_n 2, 1) := by decide +kernel
theorem d_W_isAbove_3 : decode b_W_isAbove 3 = .ok (.iload_n 2, 1) := by decide +kernel
theorem d_W_isAbove_4 : decode b_W_isAbove 4 = .ok (.ifCond .lt 47, 3) := by decide +kernel
theorem d_W_isAbove_7 : decode b_W_isAbove 7 = .ok (.aload_n 0, 1) := by decide +kernel
theorem d_W_isAbove_8 : decode b_W_isAbove 8 = .ok (.getfield 9, 3) := by decide +kernel
theorem d_W_isAbove_11 : decode b_W_isAbove 11 = .ok (.iload_n 2, 1) := by decide +kernel
theorem d_W_isAbove_12 : decode b_W_isAbove 12 = .ok (.laload, 1) := by decide +kernel
theorem d_W_isAbove_13 : decode b_W_isAbove 13 = .ok (.aload_n 1, 1) := by decide +kernel
theorem d_W_isAbove_14 : decode b_W_isAbove 14 = .ok (.getfield 9, 3) := by decide +kernel
theorem d_W_isAbove_17 : decode b_W_isAbove 17 = .ok (.iload_n 2, 1) := by decide +kernel
theorem d_W_isAbove_18 : decode b_W_isAbove 18 = .ok (.laload, 1) := by decide +kernel
theorem d_W_isAbove_19 : decode b_W_isAbove 19 = .ok (.lcmp, 1) := by decide +kernel
theorem d_W_isAbove_20 : decode b_W_isAbove 20 = .ok (.ifCond .eq 25, 3) := by decide +kernel
theorem d_W_isAbove_23 : decode b_W_isAbove 23 = .ok (.aload_n 0, 1) := by decide +kernel
theorem d_W_isAbove_24 : decode b_W_isAbove 24 = .ok (.getfield 9, 3) := by decide +kernel
theorem d_W_isAbove_27 : decode b_W_isAbove 27 = .ok (.iload_n 2, 1) := by decide +kernel
theorem d_W_isAbove_28 : decode b_W_isAbove 28 = .ok (.laload, 1) := by decide +kernel
theorem d_W_isAbove_29 : decode b_W_isAbove 29 = .ok (.aload_n 1, 1) := by decide +kernel
theorem d_W_isAbove_30 : decode b_W_isAbove 30 = .ok (.getfield 9, 3) := by decide +kernel
theorem d_W_isAbove_33 : decode b_W_isAbove 33 = .ok (.iload_n 2, 1) := by decide +kernel
theorem d_W_isAbove_34 : decode b_W_isAbove 34 = .ok (.laload, 1) := by decide +kernel
theorem d_W_isAbove_35 : decode b_W_isAbove 35 = .ok (.lcmp, 1) := by decide +kernel
theorem d_W_isAbove_36 : decode b_W_isAbove 36 = .ok (.ifCond .le 7, 3) := by decide +kernel
theorem d_W_isAbove_39 : decode b_W_isAbove 39 = .ok (.iconst 1, 1) := by decide +kernel
theorem d_W_isAbove_40 : decode b_W_isAbove 40 = .ok (.goto 4, 3) := by decide +kernel
theorem d_W_isAbove_43 : decode b_W_isAbove 43 = .ok (.iconst 0, 1) := by decide +kernel
theorem d_W_isAbove_44 : decode b_W_isAbove 44 = .ok (.ireturn, 1) := by decide +kernel
theorem d_W_isAbove_45 : decode b_W_isAbove 45 = .ok (.iinc 2 (-1), 3) := by decide +kernel
theorem d_W_isAbove_48 : decode b_W_isAbove 48 = .ok (.goto (-45), 3) := by decide +kernel
theorem d_W_isAbove_51 : decode b_W_isAbove 51 = .ok (.iconst 0, 1) := by decide +kernel
theorem d_W_isAbove_52 : decode b_W_isAbove 52 = .ok (.ireturn, 1) := by decide +kernel
theorem d_W_whole_0 : decode b_W_whole 0 = .ok (.aload_n 0, 1) := by decide +kernel
theorem d_W_whole_1 : decode b_W_whole 1 = .ok (.getfield 9, 3) := by decide +kernel
theorem d_W_whole_4 : decode b_W_whole 4 = .ok (.bipush 6, 2) := by decide +kernel
theorem d_W_whole_6 : decode b_W_whole 6 = .ok (.laload, 1) := by decide +kernel
theorem d_W_whole_7 : decode b_W_whole 7 = .ok (.bipush 32, 2) := by decide +kernel
theorem d_W_whole_9 : decode b_W_whole 9 = .ok (.lshl, 1) := by decide +kernel
theorem d_W_whole_10 : decode b_W_whole 10 = .ok (.aload_n 0, 1) := by decide +kernel
theorem d_W_whole_11 : decode b_W_whole 11 = .ok (.getfield 9, 3) := by decide +kernel
theorem d_W_whole_14 : decode b_W_whole 14 = .ok (.iconst 5, 1) := by decide +kernel
theorem d_W_whole_15 : decode b_W_whole 15 = .ok (.laload, 1) := by decide +kernel
theorem d_W_whole_16 : decode b_W_whole 16 = .ok (.lor, 1) := by decide +kernel
theorem d_W_whole_17 : decode b_W_whole 17 = .ok (.lreturn, 1) := by decide +kernel
theorem d_T_init_0 : decode b_T_init 0 = .ok (.aload_n 0, 1) := by decide +kernel
theorem d_T_init_1 : decode b_T_init 1 = .ok (.invokespecial 3, 3) := by decide +kernel
theorem d_T_init_4 : decode b_T_init 4 = .ok (.aload_n 0, 1) := by decide +kernel
theorem d_T_init_5 : decode b_T_init 5 = .ok (.bipush 20, 2) := by decide +kernel
theorem d_T_init_7 : decode b_T_init 7 = .ok (.newarray .int, 2) := by decide +kernel
theorem d_T_init_9 : decode b_T_init 9 = .ok (.putfield 9, 3) := by decide +kernel
theorem d_T_init_12 : decode b_T_init 12 = .ok (.aload_n 0, 1) := by decide +kernel
theorem d_T_init_13 : decode b_T_init 13 = .ok (.bipush 20, 2) := by decide +kernel
theorem d_T_init_15 : decode b_T_init 15 = .ok (.newarray .int, 2) := by decide +kernel
theorem d_T_init_17 : decode b_T_init 17 = .ok (.putfield 15, 3) := by decide +kernel
theorem d_T_init_20 : decode b_T_init 20 = .ok (.aload_n 0, 1) := by decide +kernel
theorem d_T_init_21 : decode b_T_init 21 = .ok (.iconst 0, 1) := by decide +kernel
theorem d_T_init_22 : decode b_T_init 22 = .ok (.putfield 18, 3) := by decide +kernel
theorem d_T_init_25 : decode b_T_init 25 = .ok (.return_, 1) := by decide +kernel
theorem d_T_isFull_0 : decode b_T_isFull 0 = .ok (.aload_n 0, 1) := by decide +kernel
theorem d_T_isFull_1 : decode b_T_isFull 1 = .ok (.getfield 18, 3) := by decide +kernel
theorem d_T_isFull_4 : decode b_T_isFull 4 = .ok (.bipush 20, 2) := by decide +kernel
theorem d_T_isFull_6 : decode b_T_isFull 6 = .ok (.if_icmp .lt 7, 3) := by decide +kernel
theorem d_T_isFull_9 : decode b_T_isFull 9 = .ok (.iconst 1, 1) := by decide +kernel
theorem d_T_isFull_10 : decode b_T_isFull 10 = .ok (.goto 4, 3) := by decide +kernel
theorem d_T_isFull_13 : decode b_T_isFull 13 = .ok (.iconst 0, 1) := by decide +kernel
theorem d_T_isFull_14 : decode b_T_isFull 14 = .ok (.ireturn, 1) := by decide +kernel
theorem d_T_append_0 : decode b_T_append 0 = .ok (.aload_n 0, 1) := by decide +kernel
theorem d_T_append_1 : decode b_T_append 1 = .ok (.invokevirtual 22, 3) := by decide +kernel
theorem d_T_append_4 : decode b_T_append 4 = .ok (.ifCond .ne 25, 3) := by decide +kernel
theorem d_T_append_7 : decode b_T_append 7 = .ok (.aload_n 0, 1) := by decide +kernel
theorem d_T_append_8 : decode b_T_append 8 = .ok (.getfield 18, 3) := by decide +kernel
theorem d_T_append_11 : decode b_T_append 11 = .ok (.ifCond .le 20, 3) := by decide +kernel
theorem d_T_append_14 : decode b_T_append 14 = .ok (.iload_n 1, 1) := by decide +kernel
theorem d_T_append_15 : decode b_T_append 15 = .ok (.aload_n 0, 1) := by decide +kernel
theorem d_T_append_16 : decode b_T_append 16 = .ok (.getfield 9, 3) := by decide +kernel
theorem d_T_append_19 : decode b_T_append 19 = .ok (.aload_n 0, 1) := by decide +kernel
theorem d_T_append_20 : decode b_T_append 20 = .ok (.getfield 18, 3) := by decide +kernel
theorem d_T_append_23 : decode b_T_append 23 = .ok (.iconst 1, 1) := by decide +kernel
theorem d_T_append_24 : decode b_T_append 24 = .ok (.isub, 1) := by decide +kernel
theorem d_T_append_25 : decode b_T_append 25 = .ok (.iaload, 1) := by decide +kernel
theorem d_T_append_26 : decode b_T_append 26 = .ok (.if_icmp .gt 5, 3) := by decide +kernel
theorem d_T_append_29 : decode b_T_append 29 = .ok (.iconst (-1), 1) := by decide +kernel
theorem d_T_append_30 : decode b_T_append 30 = .ok (.ireturn, 1) := by decide +kernel
theorem d_T_append_31 : decode b_T_append 31 = .ok (.aload_n 0, 1) := by decide +kernel
theorem d_T_append_32 : decode b_T_append 32 = .ok (.getfield 9, 3) := by decide +kernel
theorem d_T_append_35 : decode b_T_append 35 = .ok (.aload_n 0, 1) := by decide +kernel
theorem d_T_append_36 : decode b_T_append 36 = .ok (.getfield 18, 3) := by decide +kernel
theorem d_T_append_39 : decode b_T_append 39 = .ok (.iload_n 1, 1) := by decide +kernel
theorem d_T_append_40 : decode b_T_append 40 = .ok (.iastore, 1) := by decide +kernel
theorem d_T_append_41 : decode b_T_append 41 = .ok (.aload_n 0, 1) := by decide +kernel
theorem d_T_append_42 : decode b_T_append 42 = .ok (.getfield 15, 3) := by decide +kernel
theorem d_T_append_45 : decode b_T_append 45 = .ok (.aload_n 0, 1) := by decide +kernel
theorem d_T_append_46 : decode b_T_append 46 = .ok (.getfield 18, 3) := by decide +kernel
theorem d_T_append_49 : decode b_T_append 49 = .ok (.iload_n 2, 1) := by decide +kernel
theorem d_T_append_50 : decode b_T_append 50 = .ok (.iastore, 1) := by decide +kernel
theorem d_T_append_51 : decode b_T_append 51 = .ok (.aload_n 0, 1) := by decide +kernel
theorem d_T_append_52 : decode b_T_append 52 = .ok (.dup, 1) := by decide +kernel
theorem d_T_append_53 : decode b_T_append 53 = .ok (.getfield 18, 3) := by decide +kernel
theorem d_T_append_56 : decode b_T_append 56 = .ok (.iconst 1, 1) := by decide +kernel
theorem d_T_append_57 : decode b_T_append 57 = .ok (.iadd, 1) := by decide +kernel
theorem d_T_append_58 : decode b_T_append 58 = .ok (.putfield 18, 3) := by decide +kernel
theorem d_T_append_61 : decode b_T_append 61 = .ok (.aload_n 0, 1) := by decide +kernel
theorem d_T_append_62 : decode b_T_append 62 = .ok (.getfield 18, 3) := by decide +kernel
theorem d_T_append_65 : decode b_T_append 65 = .ok (.ireturn, 1) := by decide +kernel
theorem d_T_valueBy_0 : decode b_T_valueBy 0 = .ok (.aload_n 0, 1) := by decide +kernel
theorem d_T_valueBy_1 : decode b_T_valueBy 1 = .ok (.getfield 18, 3) := by decide +kernel
theorem d_T_valueBy_4 : decode b_T_valueBy 4 = .ok (.ifCond .ne 7, 3) := by decide +kernel
theorem d_T_valueBy_7 : decode b_T_valueBy 7 = .ok (.ldc2_w 26, 3) := by decide +kernel
theorem d_T_valueBy_10 : decode b_T_valueBy 10 = .ok (.lreturn, 1) := by decide +kernel
theorem d_T_valueBy_11 : decode b_T_valueBy 11 = .ok (.iload_n 1, 1) := by decide +kernel
theorem d_T_valueBy_12 : decode b_T_valueBy 12 = .ok (.aload_n 0, 1) := by decide +kernel
theorem d_T_valueBy_13 : decode b_T_valueBy 13 = .ok (.getfield 9, 3) := by decide +kernel
theorem d_T_valueBy_16 : decode b_T_valueBy 16 = .ok (.iconst 0, 1) := by decide +kernel
theorem d_T_valueBy_17 : decode b_T_valueBy 17 = .ok (.iaload, 1) := by decide +kernel
theorem d_T_valueBy_18 : decode b_T_valueBy 18 = .ok (.if_icmp .gt 11, 3) := by decide +kernel
theorem d_T_valueBy_21 : decode b_T_valueBy 21 = .ok (.aload_n 0, 1) := by decide +kernel
theorem d_T_valueBy_22 : decode b_T_valueBy 22 = .ok (.getfield 15, 3) := by decide +kernel
theorem d_T_valueBy_25 : decode b_T_valueBy 25 = .ok (.iconst 0, 1) := by decide +kernel
theorem d_T_valueBy_26 : decode b_T_valueBy 26 = .ok (.iaload, 1) := by decide +kernel
theorem d_T_valueBy_27 : decode b_T_valueBy 27 = .ok (.i2l, 1) := by decide +kernel
theorem d_T_valueBy_28 : decode b_T_valueBy 28 = .ok (.lreturn, 1) := by decide +kernel
theorem d_T_valueBy_29 : decode b_T_valueBy 29 = .ok (.iconst 1, 1) := by decide +kernel
theorem d_T_valueBy_30 : decode b_T_valueBy 30 = .ok (.istore_n 2, 1) := by decide +kernel
theorem d_T_valueBy_31 : decode b_T_valueBy 31 = .ok (.iload_n 2, 1) := by decide +kernel
theorem d_T_valueBy_32 : decode b_T_valueBy 32 = .ok (.aload_n 0, 1) := by decide +kernel
theorem d_T_valueBy_33 : decode b_T_valueBy 33 = .ok (.getfield 18, 3) := by decide +kernel
theorem d_T_valueBy_36 : decode b_T_valueBy 36 = .ok (.if_icmp .ge 26, 3) := by decide +kernel
theorem d_T_valueBy_39 : decode b_T_valueBy 39 = .ok (.iload_n 1, 1) := by decide +kernel
theorem d_T_valueBy_40 : decode b_T_valueBy 40 = .ok (.aload_n 0, 1) := by decide +kernel
theorem d_T_valueBy_41 : decode b_T_valueBy 41 = .ok (.getfield 9, 3) := by decide +kernel
theorem d_T_valueBy_44 : decode b_T_valueBy 44 = .ok (.iload_n 2, 1) := by decide +kernel
theorem d_T_valueBy_45 : decode b_T_valueBy 45 = .ok (.iaload, 1) := by decide +kernel
theorem d_T_valueBy_46 : decode b_T_valueBy 46 = .ok (.if_icmp .gt 10, 3) := by decide +kernel
theorem d_T_valueBy_49 : decode b_T_valueBy 49 = .ok (.aload_n 0, 1) := by decide +kernel
theorem d_T_valueBy_50 : decode b_T_valueBy 50 = .ok (.iload_n 2, 1) := by decide +kernel
theorem d_T_valueBy_51 : decode b_T_valueBy 51 = .ok (.iload_n 1, 1) := by decide +kernel
theorem d_T_valueBy_52 : decode b_T_valueBy 52 = .ok (.invokevirtual 28, 3) := by decide +kernel
theorem d_T_valueBy_55 : decode b_T_valueBy 55 = .ok (.lreturn, 1) := by decide +kernel
theorem d_T_valueBy_56 : decode b_T_valueBy 56 = .ok (.iinc 2 1, 3) := by decide +kernel
theorem d_T_valueBy_59 : decode b_T_valueBy 59 = .ok (.goto (-28), 3) := by decide +kernel
theorem d_T_valueBy_62 : decode b_T_valueBy 62 = .ok (.aload_n 0, 1) := by decide +kernel
theorem d_T_valueBy_63 : decode b_T_valueBy 63 = .ok (.getfield 15, 3) := by decide +kernel
theorem d_T_valueBy_66 : decode b_T_valueBy 66 = .ok (.aload_n 0, 1) := by decide +kernel
theorem d_T_valueBy_67 : decode b_T_valueBy 67 = .ok (.getfield 18, 3) := by decide +kernel
theorem d_T_valueBy_70 : decode b_T_valueBy 70 = .ok (.iconst 1, 1) := by decide +kernel
theorem d_T_valueBy_71 : decode b_T_valueBy 71 = .ok (.isub, 1) := by decide +kernel
theorem d_T_valueBy_72 : decode b_T_valueBy 72 = .ok (.iaload, 1) := by decide +kernel
theorem d_T_valueBy_73 : decode b_T_valueBy 73 = .ok (.i2l, 1) := by decide +kernel
theorem d_T_valueBy_74 : decode b_T_valueBy 74 = .ok (.lreturn, 1) := by decide +kernel
theorem d_T_valueBefore_0 : decode b_T_valueBefore 0 = .ok (.aload_n 0, 1) := by decide +kernel
theorem d_T_valueBefore_1 : decode b_T_valueBefore 1 = .ok (.getfield 9, 3) := by decide +kernel
theorem d_T_valueBefore_4 : decode b_T_valueBefore 4 = .ok (.iload_n 1, 1) := by decide +kernel
theorem d_T_valueBefore_5 : decode b_T_valueBefore 5 = .ok (.iaload, 1) := by decide +kernel
theorem d_T_valueBefore_6 : decode b_T_valueBefore 6 = .ok (.i2l, 1) := by decide +kernel
theorem d_T_valueBefore_7 : decode b_T_valueBefore 7 = .ok (.aload_n 0, 1) := by decide +kernel
theorem d_T_valueBefore_8 : decode b_T_valueBefore 8 = .ok (.getfield 9, 3) := by decide +kernel
theorem d_T_valueBefore_11 : decode b_T_valueBefore 11 = .ok (.iload_n 1, 1) := by decide +kernel
theorem d_T_valueBefore_12 : decode b_T_valueBefore 12 = .ok (.iconst 1, 1) := by decide +kernel
theorem d_T_valueBefore_13 : decode b_T_valueBefore 13 = .ok (.isub, 1) := by decide +kernel
theorem d_T_valueBefore_14 : decode b_T_valueBefore 14 = .ok (.iaload, 1) := by decide +kernel
theorem d_T_valueBefore_15 : decode b_T_valueBefore 15 = .ok (.i2l, 1) := by decide +kernel
theorem d_T_valueBefore_16 : decode b_T_valueBefore 16 = .ok (.lsub, 1) := by decide +kernel
theorem d_T_valueBefore_17 : decode b_T_valueBefore 17 = .ok (.lstore_n 3, 1) := by decide +kernel
theorem d_T_valueBefore_18 : decode b_T_valueBefore 18 = .ok (.lload_n 3, 1) := by decide +kernel
theorem d_T_valueBefore_19 : decode b_T_valueBefore 19 = .ok (.lconst 0, 1) := by decide +kernel
theorem d_T_valueBefore_20 : decode b_T_valueBefore 20 = .ok (.lcmp, 1) := by decide +kernel
theorem d_T_valueBefore_21 : decode b_T_valueBefore 21 = .ok (.ifCond .gt 11, 3) := by decide +kernel
theorem d_T_valueBefore_24 : decode b_T_valueBefore 24 = .ok (.aload_n 0, 1) := by decide +kernel
theorem d_T_valueBefore_25 : decode b_T_valueBefore 25 = .ok (.getfield 15, 3) := by decide +kernel
theorem d_T_valueBefore_28 : decode b_T_valueBefore 28 = .ok (.iload_n 1, 1) := by decide +kernel
theorem d_T_valueBefore_29 : decode b_T_valueBefore 29 = .ok (.iaload, 1) := by decide +kernel
theorem d_T_valueBefore_30 : decode b_T_valueBefore 30 = .ok (.i2l, 1) := by decide +kernel
theorem d_T_valueBefore_31 : decode b_T_valueBefore 31 = .ok (.lreturn, 1) := by decide +kernel
theorem d_T_valueBefore_32 : decode b_T_valueBefore 32 = .ok (.aload_n 0, 1) := by decide +kernel
theorem d_T_valueBefore_33 : decode b_T_valueBefore 33 = .ok (.getfield 15, 3) := by decide +kernel
theorem d_T_valueBefore_36 : decode b_T_valueBefore 36 = .ok (.iload_n 1, 1) := by decide +kernel
theorem d_T_valueBefore_37 : decode b_T_valueBefore 37 = .ok (.iaload, 1) := by decide +kernel
theorem d_T_valueBefore_38 : decode b_T_valueBefore 38 = .ok (.i2l, 1) := by decide +kernel
theorem d_T_valueBefore_39 : decode b_T_valueBefore 39 = .ok (.aload_n 0, 1) := by decide +kernel
theorem d_T_valueBefore_40 : decode b_T_valueBefore 40 = .ok (.getfield 15, 3) := by decide +kernel
theorem d_T_valueBefore_43 : decode b_T_valueBefore 43 = .ok (.iload_n 1, 1) := by decide +kernel
theorem d_T_valueBefore_44 : decode b_T_valueBefore 44 = .ok (.iconst 1, 1) := by decide +kernel
theorem d_T_valueBefore_45 : decode b_T_valueBefore 45 = .ok (.isub, 1) := by decide +kernel
theorem d_T_valueBefore_46 : decode b_T_valueBefore 46 = .ok (.iaload, 1) := by decide +kernel
theorem d_T_valueBefore_47 : decode b_T_valueBefore 47 = .ok (.i2l, 1) := by decide +kernel
theorem d_T_valueBefore_48 : decode b_T_valueBefore 48 = .ok (.lsub, 1) := by decide +kernel
theorem d_T_valueBefore_49 : decode b_T_valueBefore 49 = .ok (.lstore 5, 2) := by decide +kernel
theorem d_T_valueBefore_51 : decode b_T_valueBefore 51 = .ok (.iload_n 2, 1) := by decide +kernel
theorem d_T_valueBefore_52 : decode b_T_valueBefore 52 = .ok (.i2l, 1) := by decide +kernel
theorem d_T_valueBefore_53 : decode b_T_valueBefore 53 = .ok (.aload_n 0, 1) := by decide +kernel
theorem d_T_valueBefore_54 : decode b_T_valueBefore 54 = .ok (.getfield 9, 3) := by decide +kernel
theorem d_T_valueBefore_57 : decode b_T_valueBefore 57 = .ok (.iload_n 1, 1) := by decide +kernel
theorem d_T_valueBefore_58 : decode b_T_valueBefore 58 = .ok (.iconst 1, 1) := by decide +kernel
theorem d_T_valueBefore_59 : decode b_T_valueBefore 59 = .ok (.isub, 1) := by decide +kernel
theorem d_T_valueBefore_60 : decode b_T_valueBefore 60 = .ok (.iaload, 1) := by decide +kernel
theorem d_T_valueBefore_61 : decode b_T_valueBefore 61 = .ok (.i2l, 1) := by decide +kernel
theorem d_T_valueBefore_62 : decode b_T_valueBefore 62 = .ok (.lsub, 1) := by decide +kernel
theorem d_T_valueBefore_63 : decode b_T_valueBefore 63 = .ok (.lstore 7, 2) := by decide +kernel
theorem d_T_valueBefore_65 : decode b_T_valueBefore 65 = .ok (.aload_n 0, 1) := by decide +kernel
theorem d_T_valueBefore_66 : decode b_T_valueBefore 66 = .ok (.getfield 15, 3) := by decide +kernel
theorem d_T_valueBefore_69 : decode b_T_valueBefore 69 = .ok (.iload_n 1, 1) := by decide +kernel
theorem d_T_valueBefore_70 : decode b_T_valueBefore 70 = .ok (.iconst 1, 1) := by decide +kernel
theorem d_T_valueBefore_71 : decode b_T_valueBefore 71 = .ok (.isub, 1) := by decide +kernel
theorem d_T_valueBefore_72 : decode b_T_valueBefore 72 = .ok (.iaload, 1) := by decide +kernel
theorem d_T_valueBefore_73 : decode b_T_valueBefore 73 = .ok (.i2l, 1) := by decide +kernel
theorem d_T_valueBefore_74 : decode b_T_valueBefore 74 = .ok (.lload 5, 2) := by decide +kernel
theorem d_T_valueBefore_76 : decode b_T_valueBefore 76 = .ok (.lload 7, 2) := by decide +kernel
theorem d_T_valueBefore_78 : decode b_T_valueBefore 78 = .ok (.lmul, 1) := by decide +kernel
theorem d_T_valueBefore_79 : decode b_T_valueBefore 79 = .ok (.lload_n 3, 1) := by decide +kernel
theorem d_T_valueBefore_80 : decode b_T_valueBefore 80 = .ok (.invokestatic 32, 3) := by decide +kernel
theorem d_T_valueBefore_83 : decode b_T_valueBefore 83 = .ok (.ladd, 1) := by decide +kernel
theorem d_T_valueBefore_84 : decode b_T_valueBefore 84 = .ok (.lreturn, 1) := by decide +kernel
theorem d_fill_0 : decode b_fill 0 = .ok (.iconst 0, 1) := by decide +kernel
theorem d_fill_1 : decode b_fill 1 = .ok (.istore_n 3, 1) := by decide +kernel
theorem d_fill_2 : decode b_fill 2 = .ok (.aload_n 0, 1) := by decide +kernel
theorem d_fill_3 : decode b_fill 3 = .ok (.arraylength, 1) := by decide +kernel
theorem d_fill_4 : decode b_fill 4 = .ok (.istore 4, 2) := by decide +kernel
theorem d_fill_6 : decode b_fill 6 = .ok (.iload_n 3, 1) := by decide +kernel
theorem d_fill_7 : decode b_fill 7 = .ok (.iload 4, 2) := by decide +kernel
theorem d_fill_9 : decode b_fill 9 = .ok (.if_icmp .ge 13, 3) := by decide +kernel
theorem d_fill_12 : decode b_fill 12 = .ok (.aload_n 0, 1) := by decide +kernel
theorem d_fill_13 : decode b_fill 13 = .ok (.iload_n 3, 1) := by decide +kernel
theorem d_fill_14 : decode b_fill 14 = .ok (.lload_n 1, 1) := by decide +kernel
theorem d_fill_15 : decode b_fill 15 = .ok (.lastore, 1) := by decide +kernel
theorem d_fill_16 : decode b_fill 16 = .ok (.iinc 3 1, 3) := by decide +kernel
theorem d_fill_19 : decode b_fill 19 = .ok (.goto (-13), 3) := by decide +kernel
theorem d_fill_22 : decode b_fill 22 = .ok (.return_, 1) := by decide +kernel
theorem d_Math_max_III_0 : decode b_Math_max_III 0 = .ok (.iload_n 0, 1) := by decide +kernel
theorem d_Math_max_III_1 : decode b_Math_max_III 1 = .ok (.iload_n 1, 1) := by decide +kernel
theorem d_Math_max_III_2 : decode b_Math_max_III 2 = .ok (.if_icmp .lt 7, 3) := by decide +kernel
theorem d_Math_max_III_5 : decode b_Math_max_III 5 = .ok (.iload_n 0, 1) := by decide +kernel
theorem d_Math_max_III_6 : decode b_Math_max_III 6 = .ok (.goto 4, 3) := by decide +kernel
theorem d_Math_max_III_9 : decode b_Math_max_III 9 = .ok (.iload_n 1, 1) := by decide +kernel
theorem d_Math_max_III_10 : decode b_Math_max_III 10 = .ok (.ireturn, 1) := by decide +kernel
theorem d_Math_abs_JJ_0 : decode b_Math_abs_JJ 0 = .ok (.lload_n 0, 1) := by decide +kernel
theorem d_Math_abs_JJ_1 : decode b_Math_abs_JJ 1 = .ok (.lconst 0, 1) := by decide +kernel
theorem d_Math_abs_JJ_2 : decode b_Math_abs_JJ 2 = .ok (.lcmp, 1) := by decide +kernel
theorem d_Math_abs_JJ_3 : decode b_Math_abs_JJ 3 = .ok (.ifCond .ge 8, 3) := by decide +kernel
theorem d_Math_abs_JJ_6 : decode b_Math_abs_JJ 6 = .ok (.lload_n 0, 1) := by decide +kernel
theorem d_Math_abs_JJ_7 : decode b_Math_abs_JJ 7 = .ok (.lneg, 1) := by decide +kernel
theorem d_Math_abs_JJ_8 : decode b_Math_abs_JJ 8 = .ok (.goto 4, 3) := by decide +kernel
theorem d_Math_abs_JJ_11 : decode b_Math_abs_JJ 11 = .ok (.lload_n 0, 1) := by decide +kernel
theorem d_Math_abs_JJ_12 : decode b_Math_abs_JJ 12 = .ok (.lreturn, 1) := by decide +kernel
theorem d_Math_abs_II_0 : decode b_Math_abs_II 0 = .ok (.iload_n 0, 1) := by decide +kernel
theorem d_Math_abs_II_1 : decode b_Math_abs_II 1 = .ok (.ifCond .ge 8, 3) := by decide +kernel
theorem d_Math_abs_II_4 : decode b_Math_abs_II 4 = .ok (.iload_n 0, 1) := by decide +kernel
theorem d_Math_abs_II_5 : decode b_Math_abs_II 5 = .ok (.ineg, 1) := by decide +kernel
theorem d_Math_abs_II_6 : decode b_Math_abs_II 6 = .ok (.goto 4, 3) := by decide +kernel
theorem d_Math_abs_II_9 : decode b_Math_abs_II 9 = .ok (.iload_n 0, 1) := by decide +kernel
theorem d_Math_abs_II_10 : decode b_Math_abs_II 10 = .ok (.ireturn, 1) := by decide +kernel
theorem d_Math_min_JJJ_0 : decode b_Math_min_JJJ 0 = .ok (.lload_n 0, 1) := by decide +kernel
theorem d_Math_min_JJJ_1 : decode b_Math_min_JJJ 1 = .ok (.lload_n 2, 1) := by decide +kernel
theorem d_Math_min_JJJ_2 : decode b_Math_min_JJJ 2 = .ok (.lcmp, 1) := by decide +kernel
theorem d_Math_min_JJJ_3 : decode b_Math_min_JJJ 3 = .ok (.ifCond .gt 7, 3) := by decide +kernel
theorem d_Math_min_JJJ_6 : decode b_Math_min_JJJ 6 = .ok (.lload_n 0, 1) := by decide +kernel
theorem d_Math_min_JJJ_7 : decode b_Math_min_JJJ 7 = .ok (.goto 4, 3) := by decide +kernel
theorem d_Math_min_JJJ_10 : decode b_Math_min_JJJ 10 = .ok (.lload_n 2, 1) := by decide +kernel
theorem d_Math_min_JJJ_11 : decode b_Math_min_JJJ 11 = .ok (.lreturn, 1) := by decide +kernel
theorem d_Math_max_JJJ_0 : decode b_Math_max_JJJ 0 = .ok (.lload_n 0, 1) := by decide +kernel
theorem d_Math_max_JJJ_1 : decode b_Math_max_JJJ 1 = .ok (.lload_n 2, 1) := by decide +kernel
theorem d_Math_max_JJJ_2 : decode b_Math_max_JJJ 2 = .ok (.lcmp, 1) := by decide +kernel
theorem d_Math_max_JJJ_3 : decode b_Math_max_JJJ 3 = .ok (.ifCond .lt 7, 3) := by decide +kernel
theorem d_Math_max_JJJ_6 : decode b_Math_max_JJJ 6 = .ok (.lload_n 0, 1) := by decide +kernel
theorem d_Math_max_JJJ_7 : decode b_Math_max_JJJ 7 = .ok (.goto 4, 3) := by decide +kernel
theorem d_Math_max_JJJ_10 : decode b_Math_max_JJJ 10 = .ok (.lload_n 2, 1) := by decide +kernel
theorem d_Math_max_JJJ_11 : decode b_Math_max_JJJ 11 = .ok (.lreturn, 1) := by decide +kernel
theorem d_Math_floorDiv_JJJ_0 : decode b_Math_floorDiv_JJJ 0 = .ok (.lload_n 0, 1) := by decide +kernel
theorem d_Math_floorDiv_JJJ_1 : decode b_Math_floorDiv_JJJ 1 = .ok (.lload_n 2, 1) := by decide +kernel
theorem d_Math_floorDiv_JJJ_2 : decode b_Math_floorDiv_JJJ 2 = .ok (.ldiv, 1) := by decide +kernel
theorem d_Math_floorDiv_JJJ_3 : decode b_Math_floorDiv_JJJ 3 = .ok (.lstore 4, 2) := by decide +kernel
theorem d_Math_floorDiv_JJJ_5 : decode b_Math_floorDiv_JJJ 5 = .ok (.lload_n 0, 1) := by decide +kernel
theorem d_Math_floorDiv_JJJ_6 : decode b_Math_floorDiv_JJJ 6 = .ok (.lload_n 2, 1) := by decide +kernel
theorem d_Math_floorDiv_JJJ_7 : decode b_Math_floorDiv_JJJ 7 = .ok (.lxor, 1) := by decide +kernel
theorem d_Math_floorDiv_JJJ_8 : decode b_Math_floorDiv_JJJ 8 = .ok (.lconst 0, 1) := by decide +kernel
theorem d_Math_floorDiv_JJJ_9 : decode b_Math_floorDiv_JJJ 9 = .ok (.lcmp, 1) := by decide +kernel
theorem d_Math_floorDiv_JJJ_10 : decode b_Math_floorDiv_JJJ 10 = .ok (.ifCond .ge 17, 3) := by decide +kernel
theorem d_Math_floorDiv_JJJ_13 : decode b_Math_floorDiv_JJJ 13 = .ok (.lload 4, 2) := by decide +kernel
theorem d_Math_floorDiv_JJJ_15 : decode b_Math_floorDiv_JJJ 15 = .ok (.lload_n 2, 1) := by decide +kernel
theorem d_Math_floorDiv_JJJ_16 : decode b_Math_floorDiv_JJJ 16 = .ok (.lmul, 1) := by decide +kernel
theorem d_Math_floorDiv_JJJ_17 : decode b_Math_floorDiv_JJJ 17 = .ok (.lload_n 0, 1) := by decide +kernel
theorem d_Math_floorDiv_JJJ_18 : decode b_Math_floorDiv_JJJ 18 = .ok (.lcmp, 1) := by decide +kernel
theorem d_Math_floorDiv_JJJ_19 : decode b_Math_floorDiv_JJJ 19 = .ok (.ifCond .eq 8, 3) := by decide +kernel
theorem d_Math_floorDiv_JJJ_22 : decode b_Math_floorDiv_JJJ 22 = .ok (.lload 4, 2) := by decide +kernel
theorem d_Math_floorDiv_JJJ_24 : decode b_Math_floorDiv_JJJ 24 = .ok (.lconst 1, 1) := by decide +kernel
theorem d_Math_floorDiv_JJJ_25 : decode b_Math_floorDiv_JJJ 25 = .ok (.lsub, 1) := by decide +kernel
theorem d_Math_floorDiv_JJJ_26 : decode b_Math_floorDiv_JJJ 26 = .ok (.lreturn, 1) := by decide +kernel
theorem d_Math_floorDiv_JJJ_27 : decode b_Math_floorDiv_JJJ 27 = .ok (.lload 4, 2) := by decide +kernel
theorem d_Math_floorDiv_JJJ_29 : decode b_Math_floorDiv_JJJ 29 = .ok (.lreturn, 1) := by decide +kernel
theorem d_Math_floorDiv_III_0 : decode b_Math_floorDiv_III 0 = .ok (.iload_n 0, 1) := by decide +kernel
theorem d_Math_floorDiv_III_1 : decode b_Math_floorDiv_III 1 = .ok (.iload_n 1, 1) := by decide +kernel
theorem d_Math_floorDiv_III_2 : decode b_Math_floorDiv_III 2 = .ok (.idiv, 1) := by decide +kernel
theorem d_Math_floorDiv_III_3 : decode b_Math_floorDiv_III 3 = .ok (.istore_n 2, 1) := by decide +kernel
theorem d_Math_floorDiv_III_4 : decode b_Math_floorDiv_III 4 = .ok (.iload_n 0, 1) := by decide +kernel
theorem d_Math_floorDiv_III_5 : decode b_Math_floorDiv_III 5 = .ok (.iload_n 1, 1) := by decide +kernel
theorem d_Math_floorDiv_III_6 : decode b_Math_floorDiv_III 6 = .ok (.ixor, 1) := by decide +kernel
theorem d_Math_floorDiv_III_7 : decode b_Math_floorDiv_III 7 = .ok (.ifCond .ge 14, 3) := by decide +kernel
theorem d_Math_floorDiv_III_10 : decode b_Math_floorDiv_III 10 = .ok (.iload_n 2, 1) := by decide +kernel
theorem d_Math_floorDiv_III_11 : decode b_Math_floorDiv_III 11 = .ok (.iload_n 1, 1) := by decide +kernel
theorem d_Math_floorDiv_III_12 : decode b_Math_floorDiv_III 12 = .ok (.imul, 1) := by decide +kernel
theorem d_Math_floorDiv_III_13 : decode b_Math_floorDiv_III 13 = .ok (.iload_n 0, 1) := by decide +kernel
theorem d_Math_floorDiv_III_14 : decode b_Math_floorDiv_III 14 = .ok (.if_icmp .eq 7, 3) := by decide +kernel
theorem d_Math_floorDiv_III_17 : decode b_Math_floorDiv_III 17 = .ok (.iload_n 2, 1) := by decide +kernel
theorem d_Math_floorDiv_III_18 : decode b_Math_floorDiv_III 18 = .ok (.iconst 1, 1) := by decide +kernel
theorem d_Math_floorDiv_III_19 : decode b_Math_floorDiv_III 19 = .ok (.isub, 1) := by decide +kernel
theorem d_Math_floorDiv_III_20 : decode b_Math_floorDiv_III 20 = .ok (.ireturn, 1) := by decide +kernel
theorem d_Math_floorDiv_III_21 : decode b_Math_floorDiv_III 21 = .ok (.iload_n 2, 1) := by decide +kernel
theorem d_Math_floorDiv_III_22 : decode b_Math_floorDiv_III 22 = .ok (.ireturn, 1) := by decide +kernel
