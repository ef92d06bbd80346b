theorem d_F_init_0 : decode b_F_init 0 = .ok (.aload_n 0, 1) := by decide +kernel
theorem d_F_init_1 : decode b_F_init 1 = .ok (.invokespecial 1, 3) := by decide +kernel
theorem d_F_init_4 : decode b_F_init 4 = .ok (.aload_n 0, 1) := by decide +kernel
theorem d_F_init_5 : decode b_F_init 5 = .ok (.lload_n 1, 1) := by decide +kernel
theorem d_F_init_6 : decode b_F_init 6 = .ok (.putfield 7, 3) := by decide +kernel
theorem d_F_init_9 : decode b_F_init 9 = .ok (.aload_n 0, 1) := by decide +kernel
theorem d_F_init_10 : decode b_F_init 10 = .ok (.bipush 6, 2) := by decide +kernel
theorem d_F_init_12 : decode b_F_init 12 = .ok (.anewarray 13, 3) := by decide +kernel
theorem d_F_init_15 : decode b_F_init 15 = .ok (.putfield 15, 3) := by decide +kernel
theorem d_F_init_18 : decode b_F_init 18 = .ok (.iconst 0, 1) := by decide +kernel
theorem d_F_init_19 : decode b_F_init 19 = .ok (.istore_n 3, 1) := by decide +kernel
theorem d_F_init_20 : decode b_F_init 20 = .ok (.iload_n 3, 1) := by decide +kernel
theorem d_F_init_21 : decode b_F_init 21 = .ok (.bipush 6, 2) := by decide +kernel
theorem d_F_init_23 : decode b_F_init 23 = .ok (.if_icmp .ge 22, 3) := by decide +kernel
theorem d_F_init_26 : decode b_F_init 26 = .ok (.aload_n 0, 1) := by decide +kernel
theorem d_F_init_27 : decode b_F_init 27 = .ok (.getfield 15, 3) := by decide +kernel
theorem d_F_init_30 : decode b_F_init 30 = .ok (.iload_n 3, 1) := by decide +kernel
theorem d_F_init_31 : decode b_F_init 31 = .ok (.new 13, 3) := by decide +kernel
theorem d_F_init_34 : decode b_F_init 34 = .ok (.dup, 1) := by decide +kernel
theorem d_F_init_35 : decode b_F_init 35 = .ok (.invokespecial 19, 3) := by decide +kernel
theorem d_F_init_38 : decode b_F_init 38 = .ok (.aastore, 1) := by decide +kernel
theorem d_F_init_39 : decode b_F_init 39 = .ok (.iinc 3 1, 3) := by decide +kernel
theorem d_F_init_42 : decode b_F_init 42 = .ok (.goto (-22), 3) := by decide +kernel
theorem d_F_init_45 : decode b_F_init 45 = .ok (.aload_n 0, 1) := by decide +kernel
theorem d_F_init_46 : decode b_F_init 46 = .ok (.iconst 0, 1) := by decide +kernel
theorem d_F_init_47 : decode b_F_init 47 = .ok (.putfield 20, 3) := by decide +kernel
theorem d_F_init_50 : decode b_F_init 50 = .ok (.aload_n 0, 1) := by decide +kernel
theorem d_F_init_51 : decode b_F_init 51 = .ok (.new 24, 3) := by decide +kernel
theorem d_F_init_54 : decode b_F_init 54 = .ok (.dup, 1) := by decide +kernel
theorem d_F_init_55 : decode b_F_init 55 = .ok (.invokespecial 26, 3) := by decide +kernel
theorem d_F_init_58 : decode b_F_init 58 = .ok (.putfield 27, 3) := by decide +kernel
theorem d_F_init_61 : decode b_F_init 61 = .ok (.return_, 1) := by decide +kernel
theorem d_F_power_0 : decode b_F_power 0 = .ok (.iload_n 1, 1) := by decide +kernel
theorem d_F_power_1 : decode b_F_power 1 = .ok (.i2l, 1) := by decide +kernel
theorem d_F_power_2 : decode b_F_power 2 = .ok (.ldc2_w 31, 3) := by decide +kernel
theorem d_F_power_5 : decode b_F_power 5 = .ok (.ldc2_w 33, 3) := by decide +kernel
theorem d_F_power_8 : decode b_F_power 8 = .ok (.invokestatic 35, 3) := by decide +kernel
theorem d_F_power_11 : decode b_F_power 11 = .ok (.aload_n 0, 1) := by decide +kernel
theorem d_F_power_12 : decode b_F_power 12 = .ok (.getfield 27, 3) := by decide +kernel
theorem d_F_power_15 : decode b_F_power 15 = .ok (.iload_n 1, 1) := by decide +kernel
theorem d_F_power_16 : decode b_F_power 16 = .ok (.i2l, 1) := by decide +kernel
theorem d_F_power_17 : decode b_F_power 17 = .ok (.ldc2_w 39, 3) := by decide +kernel
theorem d_F_power_20 : decode b_F_power 20 = .ok (.invokevirtual 41, 3) := by decide +kernel
theorem d_F_power_23 : decode b_F_power 23 = .ok (.aload_n 0, 1) := by decide +kernel
theorem d_F_power_24 : decode b_F_power 24 = .ok (.getfield 27, 3) := by decide +kernel
theorem d_F_power_27 : decode b_F_power 27 = .ok (.ldc2_w 45, 3) := by decide +kernel
theorem d_F_power_30 : decode b_F_power 30 = .ok (.invokevirtual 47, 3) := by decide +kernel
theorem d_F_power_33 : decode b_F_power 33 = .ok (.lreturn, 1) := by decide +kernel
theorem d_F_logarithm_0 : decode b_F_logarithm 0 = .ok (.lload_n 1, 1) := by decide +kernel
theorem d_F_logarithm_1 : decode b_F_logarithm 1 = .ok (.lconst 0, 1) := by decide +kernel
theorem d_F_logarithm_2 : decode b_F_logarithm 2 = .ok (.lcmp, 1) := by decide +kernel
theorem d_F_logarithm_3 : decode b_F_logarithm 3 = .ok (.ifCond .gt 7, 3) := by decide +kernel
theorem d_F_logarithm_6 : decode b_F_logarithm 6 = .ok (.ldc2_w 51, 3) := by decide +kernel
theorem d_F_logarithm_9 : decode b_F_logarithm 9 = .ok (.lreturn, 1) := by decide +kernel
theorem d_F_logarithm_10 : decode b_F_logarithm 10 = .ok (.lload_n 1, 1) := by decide +kernel
theorem d_F_logarithm_11 : decode b_F_logarithm 11 = .ok (.lconst 1, 1) := by decide +kernel
theorem d_F_logarithm_12 : decode b_F_logarithm 12 = .ok (.ldc2_w 53, 3) := by decide +kernel
theorem d_F_logarithm_15 : decode b_F_logarithm 15 = .ok (.invokestatic 35, 3) := by decide +kernel
theorem d_F_logarithm_18 : decode b_F_logarithm 18 = .ok (.aload_n 0, 1) := by decide +kernel
theorem d_F_logarithm_19 : decode b_F_logarithm 19 = .ok (.getfield 27, 3) := by decide +kernel
theorem d_F_logarithm_22 : decode b_F_logarithm 22 = .ok (.lload_n 1, 1) := by decide +kernel
theorem d_F_logarithm_23 : decode b_F_logarithm 23 = .ok (.ldc2_w 39, 3) := by decide +kernel
theorem d_F_logarithm_26 : decode b_F_logarithm 26 = .ok (.invokevirtual 55, 3) := by decide +kernel
theorem d_F_logarithm_29 : decode b_F_logarithm 29 = .ok (.aload_n 0, 1) := by decide +kernel
theorem d_F_logarithm_30 : decode b_F_logarithm 30 = .ok (.getfield 27, 3) := by decide +kernel
theorem d_F_logarithm_33 : decode b_F_logarithm 33 = .ok (.ldc2_w 45, 3) := by decide +kernel
theorem d_F_logarithm_36 : decode b_F_logarithm 36 = .ok (.invokevirtual 47, 3) := by decide +kernel
theorem d_F_logarithm_39 : decode b_F_logarithm 39 = .ok (.lreturn, 1) := by decide +kernel
theorem d_F_sine_0 : decode b_F_sine 0 = .ok (.iload_n 1, 1) := by decide +kernel
theorem d_F_sine_1 : decode b_F_sine 1 = .ok (.i2l, 1) := by decide +kernel
theorem d_F_sine_2 : decode b_F_sine 2 = .ok (.ldc2_w 58, 3) := by decide +kernel
theorem d_F_sine_5 : decode b_F_sine 5 = .ok (.ldc2_w 60, 3) := by decide +kernel
theorem d_F_sine_8 : decode b_F_sine 8 = .ok (.invokestatic 35, 3) := by decide +kernel
theorem d_F_sine_11 : decode b_F_sine 11 = .ok (.aload_n 0, 1) := by decide +kernel
theorem d_F_sine_12 : decode b_F_sine 12 = .ok (.getfield 27, 3) := by decide +kernel
theorem d_F_sine_15 : decode b_F_sine 15 = .ok (.iload_n 1, 1) := by decide +kernel
theorem d_F_sine_16 : decode b_F_sine 16 = .ok (.i2l, 1) := by decide +kernel
theorem d_F_sine_17 : decode b_F_sine 17 = .ok (.invokestatic 62, 3) := by decide +kernel
theorem d_F_sine_20 : decode b_F_sine 20 = .ok (.iload_n 1, 1) := by decide +kernel
theorem d_F_sine_21 : decode b_F_sine 21 = .ok (.ifCond .ge 7, 3) := by decide +kernel
theorem d_F_sine_24 : decode b_F_sine 24 = .ok (.iconst 2, 1) := by decide +kernel
theorem d_F_sine_25 : decode b_F_sine 25 = .ok (.goto 4, 3) := by decide +kernel
theorem d_F_sine_28 : decode b_F_sine 28 = .ok (.iconst 0, 1) := by decide +kernel
theorem d_F_sine_29 : decode b_F_sine 29 = .ok (.invokevirtual 67, 3) := by decide +kernel
theorem d_F_sine_32 : decode b_F_sine 32 = .ok (.aload_n 0, 1) := by decide +kernel
theorem d_F_sine_33 : decode b_F_sine 33 = .ok (.getfield 27, 3) := by decide +kernel
theorem d_F_sine_36 : decode b_F_sine 36 = .ok (.ldc2_w 45, 3) := by decide +kernel
theorem d_F_sine_39 : decode b_F_sine 39 = .ok (.invokevirtual 47, 3) := by decide +kernel
theorem d_F_sine_42 : decode b_F_sine 42 = .ok (.lreturn, 1) := by decide +kernel
theorem d_F_cosine_0 : decode b_F_cosine 0 = .ok (.iload_n 1, 1) := by decide +kernel
theorem d_F_cosine_1 : decode b_F_cosine 1 = .ok (.i2l, 1) := by decide +kernel
theorem d_F_cosine_2 : decode b_F_cosine 2 = .ok (.ldc2_w 58, 3) := by decide +kernel
theorem d_F_cosine_5 : decode b_F_cosine 5 = .ok (.ldc2_w 60, 3) := by decide +kernel
theorem d_F_cosine_8 : decode b_F_cosine 8 = .ok (.invokestatic 35, 3) := by decide +kernel
theorem d_F_cosine_11 : decode b_F_cosine 11 = .ok (.aload_n 0, 1) := by decide +kernel
theorem d_F_cosine_12 : decode b_F_cosine 12 = .ok (.getfield 27, 3) := by decide +kernel
theorem d_F_cosine_15 : decode b_F_cosine 15 = .ok (.iload_n 1, 1) := by decide +kernel
theorem d_F_cosine_16 : decode b_F_cosine 16 = .ok (.i2l, 1) := by decide +kernel
theorem d_F_cosine_17 : decode b_F_cosine 17 = .ok (.invokestatic 62, 3) := by decide +kernel
theorem d_F_cosine_20 : decode b_F_cosine 20 = .ok (.iconst 1, 1) := by decide +kernel
theorem d_F_cosine_21 : decode b_F_cosine 21 = .ok (.invokevirtual 67, 3) := by decide +kernel
theorem d_F_cosine_24 : decode b_F_cosine 24 = .ok (.aload_n 0, 1) := by decide +kernel
theorem d_F_cosine_25 : decode b_F_cosine 25 = .ok (.getfield 27, 3) := by decide +kernel
theorem d_F_cosine_28 : decode b_F_cosine 28 = .ok (.ldc2_w 45, 3) := by decide +kernel
theorem d_F_cosine_31 : decode b_F_cosine 31 = .ok (.invokevirtual 47, 3) := by decide +kernel
theorem d_F_cosine_34 : decode b_F_cosine 34 = .ok (.lreturn, 1) := by decide +kernel
theorem d_F_angle_0 : decode b_F_angle 0 = .ok (.iload_n 1, 1) := by decide +kernel
theorem d_F_angle_1 : decode b_F_angle 1 = .ok (.i2l, 1) := by decide +kernel
theorem d_F_angle_2 : decode b_F_angle 2 = .ok (.ldc2_w 71, 3) := by decide +kernel
theorem d_F_angle_5 : decode b_F_angle 5 = .ok (.ldc2_w 39, 3) := by decide +kernel
theorem d_F_angle_8 : decode b_F_angle 8 = .ok (.invokestatic 35, 3) := by decide +kernel
theorem d_F_angle_11 : decode b_F_angle 11 = .ok (.iload_n 2, 1) := by decide +kernel
theorem d_F_angle_12 : decode b_F_angle 12 = .ok (.i2l, 1) := by decide +kernel
theorem d_F_angle_13 : decode b_F_angle 13 = .ok (.ldc2_w 71, 3) := by decide +kernel
theorem d_F_angle_16 : decode b_F_angle 16 = .ok (.ldc2_w 39, 3) := by decide +kernel
theorem d_F_angle_19 : decode b_F_angle 19 = .ok (.invokestatic 35, 3) := by decide +kernel
theorem d_F_angle_22 : decode b_F_angle 22 = .ok (.iload_n 2, 1) := by decide +kernel
theorem d_F_angle_23 : decode b_F_angle 23 = .ok (.ifCond .ne 11, 3) := by decide +kernel
theorem d_F_angle_26 : decode b_F_angle 26 = .ok (.iload_n 1, 1) := by decide +kernel
theorem d_F_angle_27 : decode b_F_angle 27 = .ok (.ifCond .ne 7, 3) := by decide +kernel
theorem d_F_angle_30 : decode b_F_angle 30 = .ok (.ldc2_w 51, 3) := by decide +kernel
theorem d_F_angle_33 : decode b_F_angle 33 = .ok (.lreturn, 1) := by decide +kernel
theorem d_F_angle_34 : decode b_F_angle 34 = .ok (.aload_n 0, 1) := by decide +kernel
theorem d_F_angle_35 : decode b_F_angle 35 = .ok (.getfield 27, 3) := by decide +kernel
theorem d_F_angle_38 : decode b_F_angle 38 = .ok (.iload_n 1, 1) := by decide +kernel
theorem d_F_angle_39 : decode b_F_angle 39 = .ok (.iload_n 2, 1) := by decide +kernel
theorem d_F_angle_40 : decode b_F_angle 40 = .ok (.invokevirtual 73, 3) := by decide +kernel
theorem d_F_angle_43 : decode b_F_angle 43 = .ok (.aload_n 0, 1) := by decide +kernel
theorem d_F_angle_44 : decode b_F_angle 44 = .ok (.getfield 27, 3) := by decide +kernel
theorem d_F_angle_47 : decode b_F_angle 47 = .ok (.ldc2_w 45, 3) := by decide +kernel
theorem d_F_angle_50 : decode b_F_angle 50 = .ok (.invokevirtual 47, 3) := by decide +kernel
theorem d_F_angle_53 : decode b_F_angle 53 = .ok (.lreturn, 1) := by decide +kernel
theorem d_F_root_0 : decode b_F_root 0 = .ok (.lload_n 1, 1) := by decide +kernel
theorem d_F_root_1 : decode b_F_root 1 = .ok (.lconst 0, 1) := by decide +kernel
theorem d_F_root_2 : decode b_F_root 2 = .ok (.ldc2_w 53, 3) := by decide +kernel
theorem d_F_root_5 : decode b_F_root 5 = .ok (.invokestatic 35, 3) := by decide +kernel
theorem d_F_root_8 : decode b_F_root 8 = .ok (.iload_n 3, 1) := by decide +kernel
theorem d_F_root_9 : decode b_F_root 9 = .ok (.i2l, 1) := by decide +kernel
theorem d_F_root_10 : decode b_F_root 10 = .ok (.ldc2_w 77, 3) := by decide +kernel
theorem d_F_root_13 : decode b_F_root 13 = .ok (.ldc2_w 79, 3) := by decide +kernel
theorem d_F_root_16 : decode b_F_root 16 = .ok (.invokestatic 35, 3) := by decide +kernel
theorem d_F_root_19 : decode b_F_root 19 = .ok (.aload_n 0, 1) := by decide +kernel
theorem d_F_root_20 : decode b_F_root 20 = .ok (.getfield 27, 3) := by decide +kernel
theorem d_F_root_23 : decode b_F_root 23 = .ok (.lload_n 1, 1) := by decide +kernel
theorem d_F_root_24 : decode b_F_root 24 = .ok (.iload_n 3, 1) := by decide +kernel
theorem d_F_root_25 : decode b_F_root 25 = .ok (.invokevirtual 81, 3) := by decide +kernel
theorem d_F_root_28 : decode b_F_root 28 = .ok (.lreturn, 1) := by decide +kernel
theorem d_F_damp_0 : decode b_F_damp 0 = .ok (.iload_n 1, 1) := by decide +kernel
theorem d_F_damp_1 : decode b_F_damp 1 = .ok (.i2l, 1) := by decide +kernel
theorem d_F_damp_2 : decode b_F_damp 2 = .ok (.ldc2_w 85, 3) := by decide +kernel
theorem d_F_damp_5 : decode b_F_damp 5 = .ok (.ldc2_w 87, 3) := by decide +kernel
theorem d_F_damp_8 : decode b_F_damp 8 = .ok (.invokestatic 35, 3) := by decide +kernel
theorem d_F_damp_11 : decode b_F_damp 11 = .ok (.iload_n 2, 1) := by decide +kernel
theorem d_F_damp_12 : decode b_F_damp 12 = .ok (.i2l, 1) := by decide +kernel
theorem d_F_damp_13 : decode b_F_damp 13 = .ok (.lconst 0, 1) := by decide +kernel
theorem d_F_damp_14 : decode b_F_damp 14 = .ok (.ldc2_w 87, 3) := by decide +kernel
theorem d_F_damp_17 : decode b_F_damp 17 = .ok (.invokestatic 35, 3) := by decide +kernel
theorem d_F_damp_20 : decode b_F_damp 20 = .ok (.aload_n 0, 1) := by decide +kernel
theorem d_F_damp_21 : decode b_F_damp 21 = .ok (.getfield 27, 3) := by decide +kernel
theorem d_F_damp_24 : decode b_F_damp 24 = .ok (.ldc2_w 89, 3) := by decide +kernel
theorem d_F_damp_27 : decode b_F_damp 27 = .ok (.iload_n 1, 1) := by decide +kernel
theorem d_F_damp_28 : decode b_F_damp 28 = .ok (.i2l, 1) := by decide +kernel
theorem d_F_damp_29 : decode b_F_damp 29 = .ok (.lmul, 1) := by decide +kernel
theorem d_F_damp_30 : decode b_F_damp 30 = .ok (.ldc2_w 91, 3) := by decide +kernel
theorem d_F_damp_33 : decode b_F_damp 33 = .ok (.ldc2_w 93, 3) := by decide +kernel
theorem d_F_damp_36 : decode b_F_damp 36 = .ok (.iload_n 1, 1) := by decide +kernel
theorem d_F_damp_37 : decode b_F_damp 37 = .ok (.i2l, 1) := by decide +kernel
theorem d_F_damp_38 : decode b_F_damp 38 = .ok (.ladd, 1) := by decide +kernel
theorem d_F_damp_39 : decode b_F_damp 39 = .ok (.lmul, 1) := by decide +kernel
theorem d_F_damp_40 : decode b_F_damp 40 = .ok (.invokevirtual 41, 3) := by decide +kernel
theorem d_F_damp_43 : decode b_F_damp 43 = .ok (.aload_n 0, 1) := by decide +kernel
theorem d_F_damp_44 : decode b_F_damp 44 = .ok (.getfield 27, 3) := by decide +kernel
theorem d_F_damp_47 : decode b_F_damp 47 = .ok (.ldc2_w 95, 3) := by decide +kernel
theorem d_F_damp_50 : decode b_F_damp 50 = .ok (.iload_n 2, 1) := by decide +kernel
theorem d_F_damp_51 : decode b_F_damp 51 = .ok (.i2l, 1) := by decide +kernel
theorem d_F_damp_52 : decode b_F_damp 52 = .ok (.lmul, 1) := by decide +kernel
theorem d_F_damp_53 : decode b_F_damp 53 = .ok (.invokevirtual 47, 3) := by decide +kernel
theorem d_F_damp_56 : decode b_F_damp 56 = .ok (.ldc2_w 97, 3) := by decide +kernel
theorem d_F_damp_59 : decode b_F_damp 59 = .ok (.ldiv, 1) := by decide +kernel
theorem d_F_damp_60 : decode b_F_damp 60 = .ok (.lreturn, 1) := by decide +kernel
theorem d_F_dew_0 : decode b_F_dew 0 = .ok (.iload_n 1, 1) := by decide +kernel
theorem d_F_dew_1 : decode b_F_dew 1 = .ok (.i2l, 1) := by decide +kernel
theorem d_F_dew_2 : decode b_F_dew 2 = .ok (.lconst 0, 1) := by decide +kernel
theorem d_F_dew_3 : decode b_F_dew 3 = .ok (.ldc2_w 45, 3) := by decide +kernel
theorem d_F_dew_6 : decode b_F_dew 6 = .ok (.invokestatic 35, 3) := by decide +kernel
theorem d_F_dew_9 : decode b_F_dew 9 = .ok (.aload_n 0, 1) := by decide +kernel
theorem d_F_dew_10 : decode b_F_dew 10 = .ok (.getfield 27, 3) := by decide +kernel
theorem d_F_dew_13 : decode b_F_dew 13 = .ok (.iload_n 1, 1) := by decide +kernel
theorem d_F_dew_14 : decode b_F_dew 14 = .ok (.i2l, 1) := by decide +kernel
theorem d_F_dew_15 : decode b_F_dew 15 = .ok (.lconst 1, 1) := by decide +kernel
theorem d_F_dew_16 : decode b_F_dew 16 = .ok (.ladd, 1) := by decide +kernel
theorem d_F_dew_17 : decode b_F_dew 17 = .ok (.ldc2_w 99, 3) := by decide +kernel
theorem d_F_dew_20 : decode b_F_dew 20 = .ok (.invokevirtual 55, 3) := by decide +kernel
theorem d_F_dew_23 : decode b_F_dew 23 = .ok (.aload_n 0, 1) := by decide +kernel
theorem d_F_dew_24 : decode b_F_dew 24 = .ok (.getfield 27, 3) := by decide +kernel
theorem d_F_dew_27 : decode b_F_dew 27 = .ok (.invokevirtual 101, 3) := by decide +kernel
theorem d_F_dew_30 : decode b_F_dew 30 = .ok (.sipush (-4001), 3) := by decide +kernel
theorem d_F_dew_33 : decode b_F_dew 33 = .ok (.istore_n 2, 1) := by decide +kernel
theorem d_F_dew_34 : decode b_F_dew 34 = .ok (.sipush 10000, 3) := by decide +kernel
theorem d_F_dew_37 : decode b_F_dew 37 = .ok (.istore_n 3, 1) := by decide +kernel
theorem d_F_dew_38 : decode b_F_dew 38 = .ok (.iconst 0, 1) := by decide +kernel
theorem d_F_dew_39 : decode b_F_dew 39 = .ok (.istore 4, 2) := by decide +kernel
theorem d_F_dew_41 : decode b_F_dew 41 = .ok (.iload 4, 2) := by decide +kernel
theorem d_F_dew_43 : decode b_F_dew 43 = .ok (.bipush 32, 2) := by decide +kernel
theorem d_F_dew_45 : decode b_F_dew 45 = .ok (.if_icmp .ge 45, 3) := by decide +kernel
theorem d_F_dew_48 : decode b_F_dew 48 = .ok (.iload_n 2, 1) := by decide +kernel
theorem d_F_dew_49 : decode b_F_dew 49 = .ok (.iload_n 3, 1) := by decide +kernel
theorem d_F_dew_50 : decode b_F_dew 50 = .ok (.if_icmp .ge 40, 3) := by decide +kernel
theorem d_F_dew_53 : decode b_F_dew 53 = .ok (.iload_n 2, 1) := by decide +kernel
theorem d_F_dew_54 : decode b_F_dew 54 = .ok (.iload_n 3, 1) := by decide +kernel
theorem d_F_dew_55 : decode b_F_dew 55 = .ok (.iadd, 1) := by decide +kernel
theorem d_F_dew_56 : decode b_F_dew 56 = .ok (.iconst 1, 1) := by decide +kernel
theorem d_F_dew_57 : decode b_F_dew 57 = .ok (.iadd, 1) := by decide +kernel
theorem d_F_dew_58 : decode b_F_dew 58 = .ok (.iconst 2, 1) := by decide +kernel
theorem d_F_dew_59 : decode b_F_dew 59 = .ok (.invokestatic 104, 3) := by decide +kernel
theorem d_F_dew_62 : decode b_F_dew 62 = .ok (.istore 5, 2) := by decide +kernel
theorem d_F_dew_64 : decode b_F_dew 64 = .ok (.aload_n 0, 1) := by decide +kernel
theorem d_F_dew_65 : decode b_F_dew 65 = .ok (.iload 5, 2) := by decide +kernel
theorem d_F_dew_67 : decode b_F_dew 67 = .ok (.invokevirtual 108, 3) := by decide +kernel
theorem d_F_dew_70 : decode b_F_dew 70 = .ok (.ifCond .eq 9, 3) := by decide +kernel
theorem d_F_dew_73 : decode b_F_dew 73 = .ok (.iload 5, 2) := by decide +kernel
theorem d_F_dew_75 : decode b_F_dew 75 = .ok (.istore_n 2, 1) := by decide +kernel
theorem d_F_dew_76 : decode b_F_dew 76 = .ok (.goto 8, 3) := by decide +kernel
theorem d_F_dew_79 : decode b_F_dew 79 = .ok (.iload 5, 2) := by decide +kernel
theorem d_F_dew_81 : decode b_F_dew 81 = .ok (.iconst 1, 1) := by decide +kernel
theorem d_F_dew_82 : decode b_F_dew 82 = .ok (.isub, 1) := by decide +kernel
theorem d_F_dew_83 : decode b_F_dew 83 = .ok (.istore_n 3, 1) := by decide +kernel
theorem d_F_dew_84 : decode b_F_dew 84 = .ok (.iinc 4 1, 3) := by decide +kernel
theorem d_F_dew_87 : decode b_F_dew 87 = .ok (.goto (-46), 3) := by decide +kernel
theorem d_F_dew_90 : decode b_F_dew 90 = .ok (.iload_n 2, 1) := by decide +kernel
theorem d_F_dew_91 : decode b_F_dew 91 = .ok (.sipush (-4000), 3) := by decide +kernel
theorem d_F_dew_94 : decode b_F_dew 94 = .ok (.if_icmp .ge 9, 3) := by decide +kernel
theorem d_F_dew_97 : decode b_F_dew 97 = .ok (.ldc2_w 51, 3) := by decide +kernel
theorem d_F_dew_100 : decode b_F_dew 100 = .ok (.goto 5, 3) := by decide +kernel
theorem d_F_dew_103 : decode b_F_dew 103 = .ok (.iload_n 2, 1) := by decide +kernel
theorem d_F_dew_104 : decode b_F_dew 104 = .ok (.i2l, 1) := by decide +kernel
theorem d_F_dew_105 : decode b_F_dew 105 = .ok (.lreturn, 1) := by decide +kernel
theorem d_F_table_0 : decode b_F_table 0 = .ok (.aload_n 0, 1) := by decide +kernel
theorem d_F_table_1 : decode b_F_table 1 = .ok (.getfield 20, 3) := by decide +kernel
theorem d_F_table_4 : decode b_F_table 4 = .ok (.bipush 6, 2) := by decide +kernel
theorem d_F_table_6 : decode b_F_table 6 = .ok (.if_icmp .lt 13, 3) := by decide +kernel
theorem d_F_table_9 : decode b_F_table 9 = .ok (.new 112, 3) := by decide +kernel
theorem d_F_table_12 : decode b_F_table 12 = .ok (.dup, 1) := by decide +kernel
theorem d_F_table_13 : decode b_F_table 13 = .ok (.ldc 114, 2) := by decide +kernel
theorem d_F_table_15 : decode b_F_table 15 = .ok (.invokespecial 116, 3) := by decide +kernel
theorem d_F_table_18 : decode b_F_table 18 = .ok (.athrow, 1) := by decide +kernel
theorem d_F_table_19 : decode b_F_table 19 = .ok (.aload_n 0, 1) := by decide +kernel
theorem d_F_table_20 : decode b_F_table 20 = .ok (.dup, 1) := by decide +kernel
theorem d_F_table_21 : decode b_F_table 21 = .ok (.getfield 20, 3) := by decide +kernel
theorem d_F_table_24 : decode b_F_table 24 = .ok (.iconst 1, 1) := by decide +kernel
theorem d_F_table_25 : decode b_F_table 25 = .ok (.iadd, 1) := by decide +kernel
theorem d_F_table_26 : decode b_F_table 26 = .ok (.putfield 20, 3) := by decide +kernel
theorem d_F_table_29 : decode b_F_table 29 = .ok (.aload_n 0, 1) := by decide +kernel
theorem d_F_table_30 : decode b_F_table 30 = .ok (.getfield 20, 3) := by decide +kernel
theorem d_F_table_33 : decode b_F_table 33 = .ok (.iconst 1, 1) := by decide +kernel
theorem d_F_table_34 : decode b_F_table 34 = .ok (.isub, 1) := by decide +kernel
theorem d_F_table_35 : decode b_F_table 35 = .ok (.ireturn, 1) := by decide +kernel
theorem d_F_row_0 : decode b_F_row 0 = .ok (.aload_n 0, 1) := by decide +kernel
theorem d_F_row_1 : decode b_F_row 1 = .ok (.iload_n 1, 1) := by decide +kernel
theorem d_F_row_2 : decode b_F_row 2 = .ok (.invokevirtual 119, 3) := by decide +kernel
theorem d_F_row_5 : decode b_F_row 5 = .ok (.astore 4, 2) := by decide +kernel
theorem d_F_row_7 : decode b_F_row 7 = .ok (.iload_n 2, 1) := by decide +kernel
theorem d_F_row_8 : decode b_F_row 8 = .ok (.i2l, 1) := by decide +kernel
theorem d_F_row_9 : decode b_F_row 9 = .ok (.ldc2_w 123, 3) := by decide +kernel
theorem d_F_row_12 : decode b_F_row 12 = .ok (.ldc2_w 45, 3) := by decide +kernel
theorem d_F_row_15 : decode b_F_row 15 = .ok (.invokestatic 35, 3) := by decide +kernel
theorem d_F_row_18 : decode b_F_row 18 = .ok (.iload_n 3, 1) := by decide +kernel
theorem d_F_row_19 : decode b_F_row 19 = .ok (.i2l, 1) := by decide +kernel
theorem d_F_row_20 : decode b_F_row 20 = .ok (.ldc2_w 123, 3) := by decide +kernel
theorem d_F_row_23 : decode b_F_row 23 = .ok (.ldc2_w 45, 3) := by decide +kernel
theorem d_F_row_26 : decode b_F_row 26 = .ok (.invokestatic 35, 3) := by decide +kernel
theorem d_F_row_29 : decode b_F_row 29 = .ok (.aload 4, 2) := by decide +kernel
theorem d_F_row_31 : decode b_F_row 31 = .ok (.invokevirtual 125, 3) := by decide +kernel
theorem d_F_row_34 : decode b_F_row 34 = .ok (.ifCond .eq 13, 3) := by decide +kernel
theorem d_F_row_37 : decode b_F_row 37 = .ok (.new 112, 3) := by decide +kernel
theorem d_F_row_40 : decode b_F_row 40 = .ok (.dup, 1) := by decide +kernel
theorem d_F_row_41 : decode b_F_row 41 = .ok (.ldc 129, 2) := by decide +kernel
theorem d_F_row_43 : decode b_F_row 43 = .ok (.invokespecial 116, 3) := by decide +kernel
theorem d_F_row_46 : decode b_F_row 46 = .ok (.athrow, 1) := by decide +kernel
theorem d_F_row_47 : decode b_F_row 47 = .ok (.aload 4, 2) := by decide +kernel
theorem d_F_row_49 : decode b_F_row 49 = .ok (.iload_n 2, 1) := by decide +kernel
theorem d_F_row_50 : decode b_F_row 50 = .ok (.iload_n 3, 1) := by decide +kernel
theorem d_F_row_51 : decode b_F_row 51 = .ok (.invokevirtual 131, 3) := by decide +kernel
theorem d_F_row_54 : decode b_F_row 54 = .ok (.ireturn, 1) := by decide +kernel
theorem d_F_at_0 : decode b_F_at 0 = .ok (.aload_n 0, 1) := by decide +kernel
theorem d_F_at_1 : decode b_F_at 1 = .ok (.iload_n 1, 1) := by decide +kernel
theorem d_F_at_2 : decode b_F_at 2 = .ok (.invokevirtual 119, 3) := by decide +kernel
theorem d_F_at_5 : decode b_F_at 5 = .ok (.iload_n 2, 1) := by decide +kernel
theorem d_F_at_6 : decode b_F_at 6 = .ok (.invokevirtual 134, 3) := by decide +kernel
theorem d_F_at_9 : decode b_F_at 9 = .ok (.lreturn, 1) := by decide +kernel
theorem d_F_drawn_0 : decode b_F_drawn 0 = .ok (.aload_n 0, 1) := by decide +kernel
theorem d_F_drawn_1 : decode b_F_drawn 1 = .ok (.getfield 7, 3) := by decide +kernel
theorem d_F_drawn_4 : decode b_F_drawn 4 = .ok (.ldc2_w 138, 3) := by decide +kernel
theorem d_F_drawn_7 : decode b_F_drawn 7 = .ok (.lload_n 1, 1) := by decide +kernel
theorem d_F_drawn_8 : decode b_F_drawn 8 = .ok (.lconst 1, 1) := by decide +kernel
theorem d_F_drawn_9 : decode b_F_drawn 9 = .ok (.ladd, 1) := by decide +kernel
theorem d_F_drawn_10 : decode b_F_drawn 10 = .ok (.lmul, 1) := by decide +kernel
theorem d_F_drawn_11 : decode b_F_drawn 11 = .ok (.ladd, 1) := by decide +kernel
theorem d_F_drawn_12 : decode b_F_drawn 12 = .ok (.ldc2_w 140, 3) := by decide +kernel
theorem d_F_drawn_15 : decode b_F_drawn 15 = .ok (.iload_n 3, 1) := by decide +kernel
theorem d_F_drawn_16 : decode b_F_drawn 16 = .ok (.i2l, 1) := by decide +kernel
theorem d_F_drawn_17 : decode b_F_drawn 17 = .ok (.lmul, 1) := by decide +kernel
theorem d_F_drawn_18 : decode b_F_drawn 18 = .ok (.ladd, 1) := by decide +kernel
theorem d_F_drawn_19 : decode b_F_drawn 19 = .ok (.lstore 4, 2) := by decide +kernel
theorem d_F_drawn_21 : decode b_F_drawn 21 = .ok (.lload 4, 2) := by decide +kernel
theorem d_F_drawn_23 : decode b_F_drawn 23 = .ok (.lload 4, 2) := by decide +kernel
theorem d_F_drawn_25 : decode b_F_drawn 25 = .ok (.bipush 30, 2) := by decide +kernel
theorem d_F_drawn_27 : decode b_F_drawn 27 = .ok (.lushr, 1) := by decide +kernel
theorem d_F_drawn_28 : decode b_F_drawn 28 = .ok (.lxor, 1) := by decide +kernel
theorem d_F_drawn_29 : decode b_F_drawn 29 = .ok (.ldc2_w 142, 3) := by decide +kernel
theorem d_F_drawn_32 : decode b_F_drawn 32 = .ok (.lmul, 1) := by decide +kernel
theorem d_F_drawn_33 : decode b_F_drawn 33 = .ok (.lstore 4, 2) := by decide +kernel
theorem d_F_drawn_35 : decode b_F_drawn 35 = .ok (.lload 4, 2) := by decide +kernel
theorem d_F_drawn_37 : decode b_F_drawn 37 = .ok (.lload 4, 2) := by decide +kernel
theorem d_F_drawn_39 : decode b_F_drawn 39 = .ok (.bipush 27, 2) := by decide +kernel
theorem d_F_drawn_41 : decode b_F_drawn 41 = .ok (.lushr, 1) := by decide +kernel
theorem d_F_drawn_42 : decode b_F_drawn 42 = .ok (.lxor, 1) := by decide +kernel
theorem d_F_drawn_43 : decode b_F_drawn 43 = .ok (.ldc2_w 144, 3) := by decide +kernel
theorem d_F_drawn_46 : decode b_F_drawn 46 = .ok (.lmul, 1) := by decide +kernel
theorem d_F_drawn_47 : decode b_F_drawn 47 = .ok (.lstore 4, 2) := by decide +kernel
theorem d_F_drawn_49 : decode b_F_drawn 49 = .ok (.lload 4, 2) := by decide +kernel
theorem d_F_drawn_51 : decode b_F_drawn 51 = .ok (.lload 4, 2) := by decide +kernel
theorem d_F_drawn_53 : decode b_F_drawn 53 = .ok (.bipush 31, 2) := by decide +kernel
theorem d_F_drawn_55 : decode b_F_drawn 55 = .ok (.lushr, 1) := by decide +kernel
theorem d_F_drawn_56 : decode b_F_drawn 56 = .ok (.lxor, 1) := by decide +kernel
theorem d_F_drawn_57 : decode b_F_drawn 57 = .ok (.lstore 4, 2) := by decide +kernel
theorem d_F_drawn_59 : decode b_F_drawn 59 = .ok (.lload 4, 2) := by decide +kernel
theorem d_F_drawn_61 : decode b_F_drawn 61 = .ok (.bipush 11, 2) := by decide +kernel
theorem d_F_drawn_63 : decode b_F_drawn 63 = .ok (.lushr, 1) := by decide +kernel
theorem d_F_drawn_64 : decode b_F_drawn 64 = .ok (.ldc2_w 45, 3) := by decide +kernel
theorem d_F_drawn_67 : decode b_F_drawn 67 = .ok (.lrem, 1) := by decide +kernel
theorem d_F_drawn_68 : decode b_F_drawn 68 = .ok (.l2i, 1) := by decide +kernel
theorem d_F_drawn_69 : decode b_F_drawn 69 = .ok (.ireturn, 1) := by decide +kernel
theorem d_F_join_0 : decode b_F_join 0 = .ok (.aload_n 0, 1) := by decide +kernel
theorem d_F_join_1 : decode b_F_join 1 = .ok (.iload_n 1, 1) := by decide +kernel
theorem d_F_join_2 : decode b_F_join 2 = .ok (.invokevirtual 119, 3) := by decide +kernel
theorem d_F_join_5 : decode b_F_join 5 = .ok (.astore 4, 2) := by decide +kernel
theorem d_F_join_7 : decode b_F_join 7 = .ok (.aload_n 0, 1) := by decide +kernel
theorem d_F_join_8 : decode b_F_join 8 = .ok (.iload_n 2, 1) := by decide +kernel
theorem d_F_join_9 : decode b_F_join 9 = .ok (.invokevirtual 119, 3) := by decide +kernel
theorem d_F_join_12 : decode b_F_join 12 = .ok (.astore 5, 2) := by decide +kernel
theorem d_F_join_14 : decode b_F_join 14 = .ok (.aload 4, 2) := by decide +kernel
theorem d_F_join_16 : decode b_F_join 16 = .ok (.iload_n 3, 1) := by decide +kernel
theorem d_F_join_17 : decode b_F_join 17 = .ok (.invokevirtual 134, 3) := by decide +kernel
theorem d_F_join_20 : decode b_F_join 20 = .ok (.lstore 6, 2) := by decide +kernel
theorem d_F_join_22 : decode b_F_join 22 = .ok (.aload 5, 2) := by decide +kernel
theorem d_F_join_24 : decode b_F_join 24 = .ok (.iload_n 3, 1) := by decide +kernel
theorem d_F_join_25 : decode b_F_join 25 = .ok (.invokevirtual 134, 3) := by decide +kernel
theorem d_F_join_28 : decode b_F_join 28 = .ok (.lstore 8, 2) := by decide +kernel
theorem d_F_join_30 : decode b_F_join 30 = .ok (.lload 6, 2) := by decide +kernel
theorem d_F_join_32 : decode b_F_join 32 = .ok (.ldc2_w 51, 3) := by decide +kernel
theorem d_F_join_35 : decode b_F_join 35 = .ok (.lcmp, 1) := by decide +kernel
theorem d_F_join_36 : decode b_F_join 36 = .ok (.ifCond .eq 12, 3) := by decide +kernel
theorem d_F_join_39 : decode b_F_join 39 = .ok (.lload 8, 2) := by decide +kernel
theorem d_F_join_41 : decode b_F_join 41 = .ok (.ldc2_w 51, 3) := by decide +kernel
theorem d_F_join_44 : decode b_F_join 44 = .ok (.lcmp, 1) := by decide +kernel
theorem d_F_join_45 : decode b_F_join 45 = .ok (.ifCond .ne 7, 3) := by decide +kernel
theorem d_F_join_48 : decode b_F_join 48 = .ok (.ldc2_w 51, 3) := by decide +kernel
theorem d_F_join_51 : decode b_F_join 51 = .ok (.lreturn, 1) := by decide +kernel
theorem d_F_join_52 : decode b_F_join 52 = .ok (.lload 6, 2) := by decide +kernel
theorem d_F_join_54 : decode b_F_join 54 = .ok (.lload 8, 2) := by decide +kernel
theorem d_F_join_56 : decode b_F_join 56 = .ok (.lsub, 1) := by decide +kernel
theorem d_F_join_57 : decode b_F_join 57 = .ok (.lreturn, 1) := by decide +kernel
theorem d_F_demandWithin_0 : decode b_F_demandWithin 0 = .ok (.lload_n 0, 1) := by decide +kernel
theorem d_F_demandWithin_1 : decode b_F_demandWithin 1 = .ok (.lload_n 2, 1) := by decide +kernel
theorem d_F_demandWithin_2 : decode b_F_demandWithin 2 = .ok (.lcmp, 1) := by decide +kernel
theorem d_F_demandWithin_3 : decode b_F_demandWithin 3 = .ok (.ifCond .lt 10, 3) := by decide +kernel
theorem d_F_demandWithin_6 : decode b_F_demandWithin 6 = .ok (.lload_n 0, 1) := by decide +kernel
theorem d_F_demandWithin_7 : decode b_F_demandWithin 7 = .ok (.lload 4, 2) := by decide +kernel
theorem d_F_demandWithin_9 : decode b_F_demandWithin 9 = .ok (.lcmp, 1) := by decide +kernel
theorem d_F_demandWithin_10 : decode b_F_demandWithin 10 = .ok (.ifCond .le 13, 3) := by decide +kernel
theorem d_F_demandWithin_13 : decode b_F_demandWithin 13 = .ok (.new 146, 3) := by decide +kernel
theorem d_F_demandWithin_16 : decode b_F_demandWithin 16 = .ok (.dup, 1) := by decide +kernel
theorem d_F_demandWithin_17 : decode b_F_demandWithin 17 = .ok (.ldc 148, 2) := by decide +kernel
theorem d_F_demandWithin_19 : decode b_F_demandWithin 19 = .ok (.invokespecial 150, 3) := by decide +kernel
theorem d_F_demandWithin_22 : decode b_F_demandWithin 22 = .ok (.athrow, 1) := by decide +kernel
theorem d_F_demandWithin_23 : decode b_F_demandWithin 23 = .ok (.return_, 1) := by decide +kernel
theorem d_F_tableOf_0 : decode b_F_tableOf 0 = .ok (.iload_n 1, 1) := by decide +kernel
theorem d_F_tableOf_1 : decode b_F_tableOf 1 = .ok (.ifCond .lt 20, 3) := by decide +kernel
theorem d_F_tableOf_4 : decode b_F_tableOf 4 = .ok (.iload_n 1, 1) := by decide +kernel
theorem d_F_tableOf_5 : decode b_F_tableOf 5 = .ok (.aload_n 0, 1) := by decide +kernel
theorem d_F_tableOf_6 : decode b_F_tableOf 6 = .ok (.getfield 20, 3) := by decide +kernel
theorem d_F_tableOf_9 : decode b_F_tableOf 9 = .ok (.if_icmp .ge 12, 3) := by decide +kernel
theorem d_F_tableOf_12 : decode b_F_tableOf 12 = .ok (.iload_n 1, 1) := by decide +kernel
theorem d_F_tableOf_13 : decode b_F_tableOf 13 = .ok (.aload_n 0, 1) := by decide +kernel
theorem d_F_tableOf_14 : decode b_F_tableOf 14 = .ok (.getfield 15, 3) := by decide +kernel
theorem d_F_tableOf_17 : decode b_F_tableOf 17 = .ok (.arraylength, 1) := by decide +kernel
theorem d_F_tableOf_18 : decode b_F_tableOf 18 = .ok (.if_icmp .lt 13, 3) := by decide +kernel
theorem d_F_tableOf_21 : decode b_F_tableOf 21 = .ok (.new 146, 3) := by decide +kernel
theorem d_F_tableOf_24 : decode b_F_tableOf 24 = .ok (.dup, 1) := by decide +kernel
theorem d_F_tableOf_25 : decode b_F_tableOf 25 = .ok (.ldc 151, 2) := by decide +kernel
theorem d_F_tableOf_27 : decode b_F_tableOf 27 = .ok (.invokespecial 150, 3) := by decide +kernel
theorem d_F_tableOf_30 : decode b_F_tableOf 30 = .ok (.athrow, 1) := by decide +kernel
theorem d_F_tableOf_31 : decode b_F_tableOf 31 = .ok (.aload_n 0, 1) := by decide +kernel
theorem d_F_tableOf_32 : decode b_F_tableOf 32 = .ok (.getfield 15, 3) := by decide +kernel
theorem d_F_tableOf_35 : decode b_F_tableOf 35 = .ok (.iload_n 1, 1) := by decide +kernel
theorem d_F_tableOf_36 : decode b_F_tableOf 36 = .ok (.aaload, 1) := by decide +kernel
theorem d_F_tableOf_37 : decode b_F_tableOf 37 = .ok (.areturn, 1) := by decide +kernel
theorem d_F_isBelowKeptLog_0 : decode b_F_isBelowKeptLog 0 = .ok (.aload_n 0, 1) := by decide +kernel
theorem d_F_isBelowKeptLog_1 : decode b_F_isBelowKeptLog 1 = .ok (.getfield 27, 3) := by decide +kernel
theorem d_F_isBelowKeptLog_4 : decode b_F_isBelowKeptLog 4 = .ok (.ldc2_w 89, 3) := by decide +kernel
theorem d_F_isBelowKeptLog_7 : decode b_F_isBelowKeptLog 7 = .ok (.iload_n 1, 1) := by decide +kernel
theorem d_F_isBelowKeptLog_8 : decode b_F_isBelowKeptLog 8 = .ok (.i2l, 1) := by decide +kernel
theorem d_F_isBelowKeptLog_9 : decode b_F_isBelowKeptLog 9 = .ok (.lmul, 1) := by decide +kernel
theorem d_F_isBelowKeptLog_10 : decode b_F_isBelowKeptLog 10 = .ok (.ldc2_w 91, 3) := by decide +kernel
theorem d_F_isBelowKeptLog_13 : decode b_F_isBelowKeptLog 13 = .ok (.ldc2_w 93, 3) := by decide +kernel
theorem d_F_isBelowKeptLog_16 : decode b_F_isBelowKeptLog 16 = .ok (.iload_n 1, 1) := by decide +kernel
theorem d_F_isBelowKeptLog_17 : decode b_F_isBelowKeptLog 17 = .ok (.i2l, 1) := by decide +kernel
theorem d_F_isBelowKeptLog_18 : decode b_F_isBelowKeptLog 18 = .ok (.ladd, 1) := by decide +kernel
theorem d_F_isBelowKeptLog_19 : decode b_F_isBelowKeptLog 19 = .ok (.lmul, 1) := by decide +kernel
theorem d_F_isBelowKeptLog_20 : decode b_F_isBelowKeptLog 20 = .ok (.invokevirtual 153, 3) := by decide +kernel
theorem d_F_isBelowKeptLog_23 : decode b_F_isBelowKeptLog 23 = .ok (.ireturn, 1) := by decide +kernel
