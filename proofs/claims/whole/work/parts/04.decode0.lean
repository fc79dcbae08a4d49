theorem d_LN_init_0 : decode b_LN_init 0 = .ok (.aload_n 0, 1) := by decide +kernel
theorem d_LN_init_1 : decode b_LN_init 1 = .ok (.invokespecial 3, 3) := by decide +kernel
theorem d_LN_init_4 : decode b_LN_init 4 = .ok (.aload_n 0, 1) := by decide +kernel
theorem d_LN_init_5 : decode b_LN_init 5 = .ok (.bipush 40, 2) := by decide +kernel
theorem d_LN_init_7 : decode b_LN_init 7 = .ok (.newarray .char, 2) := by decide +kernel
theorem d_LN_init_9 : decode b_LN_init 9 = .ok (.putfield 9, 3) := by decide +kernel
theorem d_LN_init_12 : decode b_LN_init 12 = .ok (.aload_n 0, 1) := by decide +kernel
theorem d_LN_init_13 : decode b_LN_init 13 = .ok (.iconst 0, 1) := by decide +kernel
theorem d_LN_init_14 : decode b_LN_init 14 = .ok (.putfield 15, 3) := by decide +kernel
theorem d_LN_init_17 : decode b_LN_init 17 = .ok (.aload_n 0, 1) := by decide +kernel
theorem d_LN_init_18 : decode b_LN_init 18 = .ok (.iconst 0, 1) := by decide +kernel
theorem d_LN_init_19 : decode b_LN_init 19 = .ok (.putfield 19, 3) := by decide +kernel
theorem d_LN_init_22 : decode b_LN_init 22 = .ok (.return_, 1) := by decide +kernel
theorem d_EL_init_0 : decode b_EL_init 0 = .ok (.aload_n 0, 1) := by decide +kernel
theorem d_EL_init_1 : decode b_EL_init 1 = .ok (.invokespecial 3, 3) := by decide +kernel
theorem d_EL_init_4 : decode b_EL_init 4 = .ok (.aload_n 0, 1) := by decide +kernel
theorem d_EL_init_5 : decode b_EL_init 5 = .ok (.bipush 20, 2) := by decide +kernel
theorem d_EL_init_7 : decode b_EL_init 7 = .ok (.anewarray 9, 3) := by decide +kernel
theorem d_EL_init_10 : decode b_EL_init 10 = .ok (.putfield 11, 3) := by decide +kernel
theorem d_EL_init_13 : decode b_EL_init 13 = .ok (.aload_n 0, 1) := by decide +kernel
theorem d_EL_init_14 : decode b_EL_init 14 = .ok (.bipush 20, 2) := by decide +kernel
theorem d_EL_init_16 : decode b_EL_init 16 = .ok (.newarray .int, 2) := by decide +kernel
theorem d_EL_init_18 : decode b_EL_init 18 = .ok (.putfield 17, 3) := by decide +kernel
theorem d_EL_init_21 : decode b_EL_init 21 = .ok (.aload_n 0, 1) := by decide +kernel
theorem d_EL_init_22 : decode b_EL_init 22 = .ok (.bipush 20, 2) := by decide +kernel
theorem d_EL_init_24 : decode b_EL_init 24 = .ok (.newarray .int, 2) := by decide +kernel
theorem d_EL_init_26 : decode b_EL_init 26 = .ok (.putfield 21, 3) := by decide +kernel
theorem d_EL_init_29 : decode b_EL_init 29 = .ok (.aload_n 0, 1) := by decide +kernel
theorem d_EL_init_30 : decode b_EL_init 30 = .ok (.bipush 20, 2) := by decide +kernel
theorem d_EL_init_32 : decode b_EL_init 32 = .ok (.anewarray 24, 3) := by decide +kernel
theorem d_EL_init_35 : decode b_EL_init 35 = .ok (.putfield 26, 3) := by decide +kernel
theorem d_EL_init_38 : decode b_EL_init 38 = .ok (.aload_n 0, 1) := by decide +kernel
theorem d_EL_init_39 : decode b_EL_init 39 = .ok (.iconst 0, 1) := by decide +kernel
theorem d_EL_init_40 : decode b_EL_init 40 = .ok (.putfield 30, 3) := by decide +kernel
theorem d_EL_init_43 : decode b_EL_init 43 = .ok (.return_, 1) := by decide +kernel
theorem d_LL_init_0 : decode b_LL_init 0 = .ok (.aload_n 0, 1) := by decide +kernel
theorem d_LL_init_1 : decode b_LL_init 1 = .ok (.invokespecial 1, 3) := by decide +kernel
theorem d_LL_init_4 : decode b_LL_init 4 = .ok (.aload_n 0, 1) := by decide +kernel
theorem d_LL_init_5 : decode b_LL_init 5 = .ok (.new 7, 3) := by decide +kernel
theorem d_LL_init_8 : decode b_LL_init 8 = .ok (.dup, 1) := by decide +kernel
theorem d_LL_init_9 : decode b_LL_init 9 = .ok (.invokespecial 9, 3) := by decide +kernel
theorem d_LL_init_12 : decode b_LL_init 12 = .ok (.putfield 10, 3) := by decide +kernel
theorem d_LL_init_15 : decode b_LL_init 15 = .ok (.aload_n 0, 1) := by decide +kernel
theorem d_LL_init_16 : decode b_LL_init 16 = .ok (.bipush 20, 2) := by decide +kernel
theorem d_LL_init_18 : decode b_LL_init 18 = .ok (.anewarray 16, 3) := by decide +kernel
theorem d_LL_init_21 : decode b_LL_init 21 = .ok (.putfield 18, 3) := by decide +kernel
theorem d_LL_init_24 : decode b_LL_init 24 = .ok (.aload_n 0, 1) := by decide +kernel
theorem d_LL_init_25 : decode b_LL_init 25 = .ok (.iconst 0, 1) := by decide +kernel
theorem d_LL_init_26 : decode b_LL_init 26 = .ok (.putfield 22, 3) := by decide +kernel
theorem d_LL_init_29 : decode b_LL_init 29 = .ok (.aload_n 0, 1) := by decide +kernel
theorem d_LL_init_30 : decode b_LL_init 30 = .ok (.new 26, 3) := by decide +kernel
theorem d_LL_init_33 : decode b_LL_init 33 = .ok (.dup, 1) := by decide +kernel
theorem d_LL_init_34 : decode b_LL_init 34 = .ok (.invokespecial 28, 3) := by decide +kernel
theorem d_LL_init_37 : decode b_LL_init 37 = .ok (.putfield 29, 3) := by decide +kernel
theorem d_LL_init_40 : decode b_LL_init 40 = .ok (.aload_n 0, 1) := by decide +kernel
theorem d_LL_init_41 : decode b_LL_init 41 = .ok (.new 26, 3) := by decide +kernel
theorem d_LL_init_44 : decode b_LL_init 44 = .ok (.dup, 1) := by decide +kernel
theorem d_LL_init_45 : decode b_LL_init 45 = .ok (.invokespecial 28, 3) := by decide +kernel
theorem d_LL_init_48 : decode b_LL_init 48 = .ok (.putfield 33, 3) := by decide +kernel
theorem d_LL_init_51 : decode b_LL_init 51 = .ok (.aload_n 0, 1) := by decide +kernel
theorem d_LL_init_52 : decode b_LL_init 52 = .ok (.iconst (-1), 1) := by decide +kernel
theorem d_LL_init_53 : decode b_LL_init 53 = .ok (.putfield 36, 3) := by decide +kernel
theorem d_LL_init_56 : decode b_LL_init 56 = .ok (.return_, 1) := by decide +kernel
theorem d_LN_append_0 : decode b_LN_append 0 = .ok (.aload_n 0, 1) := by decide +kernel
theorem d_LN_append_1 : decode b_LN_append 1 = .ok (.getfield 15, 3) := by decide +kernel
theorem d_LN_append_4 : decode b_LN_append 4 = .ok (.bipush 40, 2) := by decide +kernel
theorem d_LN_append_6 : decode b_LN_append 6 = .ok (.if_icmp .ge 23, 3) := by decide +kernel
theorem d_LN_append_9 : decode b_LN_append 9 = .ok (.aload_n 0, 1) := by decide +kernel
theorem d_LN_append_10 : decode b_LN_append 10 = .ok (.getfield 9, 3) := by decide +kernel
theorem d_LN_append_13 : decode b_LN_append 13 = .ok (.aload_n 0, 1) := by decide +kernel
theorem d_LN_append_14 : decode b_LN_append 14 = .ok (.getfield 15, 3) := by decide +kernel
theorem d_LN_append_17 : decode b_LN_append 17 = .ok (.iload_n 1, 1) := by decide +kernel
theorem d_LN_append_18 : decode b_LN_append 18 = .ok (.castore, 1) := by decide +kernel
theorem d_LN_append_19 : decode b_LN_append 19 = .ok (.aload_n 0, 1) := by decide +kernel
theorem d_LN_append_20 : decode b_LN_append 20 = .ok (.dup, 1) := by decide +kernel
theorem d_LN_append_21 : decode b_LN_append 21 = .ok (.getfield 15, 3) := by decide +kernel
theorem d_LN_append_24 : decode b_LN_append 24 = .ok (.iconst 1, 1) := by decide +kernel
theorem d_LN_append_25 : decode b_LN_append 25 = .ok (.iadd, 1) := by decide +kernel
theorem d_LN_append_26 : decode b_LN_append 26 = .ok (.putfield 15, 3) := by decide +kernel
theorem d_LN_append_29 : decode b_LN_append 29 = .ok (.return_, 1) := by decide +kernel
theorem d_LL_type_0 : decode b_LL_type 0 = .ok (.iload_n 1, 1) := by decide +kernel
theorem d_LL_type_1 : decode b_LL_type 1 = .ok (.ifCond .lt 10, 3) := by decide +kernel
theorem d_LL_type_4 : decode b_LL_type 4 = .ok (.iload_n 1, 1) := by decide +kernel
theorem d_LL_type_5 : decode b_LL_type 5 = .ok (.sipush 255, 3) := by decide +kernel
theorem d_LL_type_8 : decode b_LL_type 8 = .ok (.if_icmp .le 5, 3) := by decide +kernel
theorem d_LL_type_11 : decode b_LL_type 11 = .ok (.iconst (-1), 1) := by decide +kernel
theorem d_LL_type_12 : decode b_LL_type 12 = .ok (.ireturn, 1) := by decide +kernel
theorem d_LL_type_13 : decode b_LL_type 13 = .ok (.aload_n 0, 1) := by decide +kernel
theorem d_LL_type_14 : decode b_LL_type 14 = .ok (.getfield 10, 3) := by decide +kernel
theorem d_LL_type_17 : decode b_LL_type 17 = .ok (.getfield 39, 3) := by decide +kernel
theorem d_LL_type_20 : decode b_LL_type 20 = .ok (.bipush 40, 2) := by decide +kernel
theorem d_LL_type_22 : decode b_LL_type 22 = .ok (.if_icmp .ne 6, 3) := by decide +kernel
theorem d_LL_type_25 : decode b_LL_type 25 = .ok (.bipush (-2), 2) := by decide +kernel
theorem d_LL_type_27 : decode b_LL_type 27 = .ok (.ireturn, 1) := by decide +kernel
theorem d_LL_type_28 : decode b_LL_type 28 = .ok (.aload_n 0, 1) := by decide +kernel
theorem d_LL_type_29 : decode b_LL_type 29 = .ok (.getfield 10, 3) := by decide +kernel
theorem d_LL_type_32 : decode b_LL_type 32 = .ok (.iload_n 1, 1) := by decide +kernel
theorem d_LL_type_33 : decode b_LL_type 33 = .ok (.i2c, 1) := by decide +kernel
theorem d_LL_type_34 : decode b_LL_type 34 = .ok (.invokevirtual 42, 3) := by decide +kernel
theorem d_LL_type_37 : decode b_LL_type 37 = .ok (.aload_n 0, 1) := by decide +kernel
theorem d_LL_type_38 : decode b_LL_type 38 = .ok (.getfield 10, 3) := by decide +kernel
theorem d_LL_type_41 : decode b_LL_type 41 = .ok (.getfield 39, 3) := by decide +kernel
theorem d_LL_type_44 : decode b_LL_type 44 = .ok (.ireturn, 1) := by decide +kernel
theorem d_LN_clear_0 : decode b_LN_clear 0 = .ok (.aload_n 0, 1) := by decide +kernel
theorem d_LN_clear_1 : decode b_LN_clear 1 = .ok (.iconst 0, 1) := by decide +kernel
theorem d_LN_clear_2 : decode b_LN_clear 2 = .ok (.putfield 15, 3) := by decide +kernel
theorem d_LN_clear_5 : decode b_LN_clear 5 = .ok (.aload_n 0, 1) := by decide +kernel
theorem d_LN_clear_6 : decode b_LN_clear 6 = .ok (.iconst 0, 1) := by decide +kernel
theorem d_LN_clear_7 : decode b_LN_clear 7 = .ok (.putfield 19, 3) := by decide +kernel
theorem d_LN_clear_10 : decode b_LN_clear 10 = .ok (.return_, 1) := by decide +kernel
theorem d_LL_wipe_0 : decode b_LL_wipe 0 = .ok (.aload_n 0, 1) := by decide +kernel
theorem d_LL_wipe_1 : decode b_LL_wipe 1 = .ok (.getfield 10, 3) := by decide +kernel
theorem d_LL_wipe_4 : decode b_LL_wipe 4 = .ok (.getfield 39, 3) := by decide +kernel
theorem d_LL_wipe_7 : decode b_LL_wipe 7 = .ok (.istore_n 1, 1) := by decide +kernel
theorem d_LL_wipe_8 : decode b_LL_wipe 8 = .ok (.aload_n 0, 1) := by decide +kernel
theorem d_LL_wipe_9 : decode b_LL_wipe 9 = .ok (.getfield 10, 3) := by decide +kernel
theorem d_LL_wipe_12 : decode b_LL_wipe 12 = .ok (.invokevirtual 46, 3) := by decide +kernel
theorem d_LL_wipe_15 : decode b_LL_wipe 15 = .ok (.iload_n 1, 1) := by decide +kernel
theorem d_LL_wipe_16 : decode b_LL_wipe 16 = .ok (.ireturn, 1) := by decide +kernel
theorem d_JM_min_0 : decode b_JM_min 0 = .ok (.iload_n 0, 1) := by decide +kernel
theorem d_JM_min_1 : decode b_JM_min 1 = .ok (.iload_n 1, 1) := by decide +kernel
theorem d_JM_min_2 : decode b_JM_min 2 = .ok (.if_icmp .gt 7, 3) := by decide +kernel
theorem d_JM_min_5 : decode b_JM_min 5 = .ok (.iload_n 0, 1) := by decide +kernel
theorem d_JM_min_6 : decode b_JM_min 6 = .ok (.goto 4, 3) := by decide +kernel
theorem d_JM_min_9 : decode b_JM_min 9 = .ok (.iload_n 1, 1) := by decide +kernel
theorem d_JM_min_10 : decode b_JM_min 10 = .ok (.ireturn, 1) := by decide +kernel
theorem d_LL_isLetter_0 : decode b_LL_isLetter 0 = .ok (.iload_n 0, 1) := by decide +kernel
theorem d_LL_isLetter_1 : decode b_LL_isLetter 1 = .ok (.bipush 97, 2) := by decide +kernel
theorem d_LL_isLetter_3 : decode b_LL_isLetter 3 = .ok (.if_icmp .lt 13, 3) := by decide +kernel
theorem d_LL_isLetter_6 : decode b_LL_isLetter 6 = .ok (.iload_n 0, 1) := by decide +kernel
theorem d_LL_isLetter_7 : decode b_LL_isLetter 7 = .ok (.bipush 122, 2) := by decide +kernel
theorem d_LL_isLetter_9 : decode b_LL_isLetter 9 = .ok (.if_icmp .gt 7, 3) := by decide +kernel
theorem d_LL_isLetter_12 : decode b_LL_isLetter 12 = .ok (.iconst 1, 1) := by decide +kernel
theorem d_LL_isLetter_13 : decode b_LL_isLetter 13 = .ok (.goto 4, 3) := by decide +kernel
theorem d_LL_isLetter_16 : decode b_LL_isLetter 16 = .ok (.iconst 0, 1) := by decide +kernel
theorem d_LL_isLetter_17 : decode b_LL_isLetter 17 = .ok (.ireturn, 1) := by decide +kernel
theorem d_LL_letterNumber_0 : decode b_LL_letterNumber 0 = .ok (.iload_n 0, 1) := by decide +kernel
theorem d_LL_letterNumber_1 : decode b_LL_letterNumber 1 = .ok (.bipush 97, 2) := by decide +kernel
theorem d_LL_letterNumber_3 : decode b_LL_letterNumber 3 = .ok (.isub, 1) := by decide +kernel
theorem d_LL_letterNumber_4 : decode b_LL_letterNumber 4 = .ok (.iconst 1, 1) := by decide +kernel
theorem d_LL_letterNumber_5 : decode b_LL_letterNumber 5 = .ok (.iadd, 1) := by decide +kernel
theorem d_LL_letterNumber_6 : decode b_LL_letterNumber 6 = .ok (.ireturn, 1) := by decide +kernel
theorem d_LN_takeName_0 : decode b_LN_takeName 0 = .ok (.lconst 0, 1) := by decide +kernel
theorem d_LN_takeName_1 : decode b_LN_takeName 1 = .ok (.lstore_n 1, 1) := by decide +kernel
theorem d_LN_takeName_2 : decode b_LN_takeName 2 = .ok (.aload_n 0, 1) := by decide +kernel
theorem d_LN_takeName_3 : decode b_LN_takeName 3 = .ok (.getfield 15, 3) := by decide +kernel
theorem d_LN_takeName_6 : decode b_LN_takeName 6 = .ok (.aload_n 0, 1) := by decide +kernel
theorem d_LN_takeName_7 : decode b_LN_takeName 7 = .ok (.getfield 19, 3) := by decide +kernel
theorem d_LN_takeName_10 : decode b_LN_takeName 10 = .ok (.bipush 8, 2) := by decide +kernel
theorem d_LN_takeName_12 : decode b_LN_takeName 12 = .ok (.iadd, 1) := by decide +kernel
theorem d_LN_takeName_13 : decode b_LN_takeName 13 = .ok (.invokestatic 35, 3) := by decide +kernel
theorem d_LN_takeName_16 : decode b_LN_takeName 16 = .ok (.istore_n 3, 1) := by decide +kernel
theorem d_LN_takeName_17 : decode b_LN_takeName 17 = .ok (.aload_n 0, 1) := by decide +kernel
theorem d_LN_takeName_18 : decode b_LN_takeName 18 = .ok (.getfield 19, 3) := by decide +kernel
theorem d_LN_takeName_21 : decode b_LN_takeName 21 = .ok (.iload_n 3, 1) := by decide +kernel
theorem d_LN_takeName_22 : decode b_LN_takeName 22 = .ok (.if_icmp .ge 51, 3) := by decide +kernel
theorem d_LN_takeName_25 : decode b_LN_takeName 25 = .ok (.aload_n 0, 1) := by decide +kernel
theorem d_LN_takeName_26 : decode b_LN_takeName 26 = .ok (.getfield 9, 3) := by decide +kernel
theorem d_LN_takeName_29 : decode b_LN_takeName 29 = .ok (.aload_n 0, 1) := by decide +kernel
theorem d_LN_takeName_30 : decode b_LN_takeName 30 = .ok (.getfield 19, 3) := by decide +kernel
theorem d_LN_takeName_33 : decode b_LN_takeName 33 = .ok (.caload, 1) := by decide +kernel
theorem d_LN_takeName_34 : decode b_LN_takeName 34 = .ok (.invokestatic 41, 3) := by decide +kernel
theorem d_LN_takeName_37 : decode b_LN_takeName 37 = .ok (.ifCond .eq 36, 3) := by decide +kernel
theorem d_LN_takeName_40 : decode b_LN_takeName 40 = .ok (.lload_n 1, 1) := by decide +kernel
theorem d_LN_takeName_41 : decode b_LN_takeName 41 = .ok (.ldc2_w 44, 3) := by decide +kernel
theorem d_LN_takeName_44 : decode b_LN_takeName 44 = .ok (.lmul, 1) := by decide +kernel
theorem d_LN_takeName_45 : decode b_LN_takeName 45 = .ok (.aload_n 0, 1) := by decide +kernel
theorem d_LN_takeName_46 : decode b_LN_takeName 46 = .ok (.getfield 9, 3) := by decide +kernel
theorem d_LN_takeName_49 : decode b_LN_takeName 49 = .ok (.aload_n 0, 1) := by decide +kernel
theorem d_LN_takeName_50 : decode b_LN_takeName 50 = .ok (.getfield 19, 3) := by decide +kernel
theorem d_LN_takeName_53 : decode b_LN_takeName 53 = .ok (.caload, 1) := by decide +kernel
theorem d_LN_takeName_54 : decode b_LN_takeName 54 = .ok (.invokestatic 46, 3) := by decide +kernel
theorem d_LN_takeName_57 : decode b_LN_takeName 57 = .ok (.i2l, 1) := by decide +kernel
theorem d_LN_takeName_58 : decode b_LN_takeName 58 = .ok (.ladd, 1) := by decide +kernel
theorem d_LN_takeName_59 : decode b_LN_takeName 59 = .ok (.lstore_n 1, 1) := by decide +kernel
theorem d_LN_takeName_60 : decode b_LN_takeName 60 = .ok (.aload_n 0, 1) := by decide +kernel
theorem d_LN_takeName_61 : decode b_LN_takeName 61 = .ok (.dup, 1) := by decide +kernel
theorem d_LN_takeName_62 : decode b_LN_takeName 62 = .ok (.getfield 19, 3) := by decide +kernel
theorem d_LN_takeName_65 : decode b_LN_takeName 65 = .ok (.iconst 1, 1) := by decide +kernel
theorem d_LN_takeName_66 : decode b_LN_takeName 66 = .ok (.iadd, 1) := by decide +kernel
theorem d_LN_takeName_67 : decode b_LN_takeName 67 = .ok (.putfield 19, 3) := by decide +kernel
theorem d_LN_takeName_70 : decode b_LN_takeName 70 = .ok (.goto (-53), 3) := by decide +kernel
theorem d_LN_takeName_73 : decode b_LN_takeName 73 = .ok (.lload_n 1, 1) := by decide +kernel
theorem d_LN_takeName_74 : decode b_LN_takeName 74 = .ok (.lreturn, 1) := by decide +kernel
theorem d_LN_standsAt_0 : decode b_LN_standsAt 0 = .ok (.aload_n 0, 1) := by decide +kernel
theorem d_LN_standsAt_1 : decode b_LN_standsAt 1 = .ok (.getfield 19, 3) := by decide +kernel
theorem d_LN_standsAt_4 : decode b_LN_standsAt 4 = .ok (.aload_n 0, 1) := by decide +kernel
theorem d_LN_standsAt_5 : decode b_LN_standsAt 5 = .ok (.getfield 15, 3) := by decide +kernel
theorem d_LN_standsAt_8 : decode b_LN_standsAt 8 = .ok (.if_icmp .ge 20, 3) := by decide +kernel
theorem d_LN_standsAt_11 : decode b_LN_standsAt 11 = .ok (.aload_n 0, 1) := by decide +kernel
theorem d_LN_standsAt_12 : decode b_LN_standsAt 12 = .ok (.getfield 9, 3) := by decide +kernel
theorem d_LN_standsAt_15 : decode b_LN_standsAt 15 = .ok (.aload_n 0, 1) := by decide +kernel
theorem d_LN_standsAt_16 : decode b_LN_standsAt 16 = .ok (.getfield 19, 3) := by decide +kernel
theorem d_LN_standsAt_19 : decode b_LN_standsAt 19 = .ok (.caload, 1) := by decide +kernel
theorem d_LN_standsAt_20 : decode b_LN_standsAt 20 = .ok (.iload_n 1, 1) := by decide +kernel
theorem d_LN_standsAt_21 : decode b_LN_standsAt 21 = .ok (.if_icmp .ne 7, 3) := by decide +kernel
theorem d_LN_standsAt_24 : decode b_LN_standsAt 24 = .ok (.iconst 1, 1) := by decide +kernel
theorem d_LN_standsAt_25 : decode b_LN_standsAt 25 = .ok (.goto 4, 3) := by decide +kernel
theorem d_LN_standsAt_28 : decode b_LN_standsAt 28 = .ok (.iconst 0, 1) := by decide +kernel
theorem d_LN_standsAt_29 : decode b_LN_standsAt 29 = .ok (.ireturn, 1) := by decide +kernel
theorem d_LN_take_0 : decode b_LN_take 0 = .ok (.aload_n 0, 1) := by decide +kernel
theorem d_LN_take_1 : decode b_LN_take 1 = .ok (.iload_n 1, 1) := by decide +kernel
theorem d_LN_take_2 : decode b_LN_take 2 = .ok (.invokevirtual 31, 3) := by decide +kernel
theorem d_LN_take_5 : decode b_LN_take 5 = .ok (.ifCond .ne 5, 3) := by decide +kernel
theorem d_LN_take_8 : decode b_LN_take 8 = .ok (.iconst 0, 1) := by decide +kernel
theorem d_LN_take_9 : decode b_LN_take 9 = .ok (.ireturn, 1) := by decide +kernel
theorem d_LN_take_10 : decode b_LN_take 10 = .ok (.aload_n 0, 1) := by decide +kernel
theorem d_LN_take_11 : decode b_LN_take 11 = .ok (.dup, 1) := by decide +kernel
theorem d_LN_take_12 : decode b_LN_take 12 = .ok (.getfield 19, 3) := by decide +kernel
theorem d_LN_take_15 : decode b_LN_take 15 = .ok (.iconst 1, 1) := by decide +kernel
theorem d_LN_take_16 : decode b_LN_take 16 = .ok (.iadd, 1) := by decide +kernel
theorem d_LN_take_17 : decode b_LN_take 17 = .ok (.putfield 19, 3) := by decide +kernel
theorem d_LN_take_20 : decode b_LN_take 20 = .ok (.iconst 1, 1) := by decide +kernel
theorem d_LN_take_21 : decode b_LN_take 21 = .ok (.ireturn, 1) := by decide +kernel
theorem d_LN_takeNameAndColon_0 : decode b_LN_takeNameAndColon 0 = .ok (.aload_n 0, 1) := by decide +kernel
theorem d_LN_takeNameAndColon_1 : decode b_LN_takeNameAndColon 1 = .ok (.invokevirtual 50, 3) := by decide +kernel
theorem d_LN_takeNameAndColon_4 : decode b_LN_takeNameAndColon 4 = .ok (.lstore_n 1, 1) := by decide +kernel
theorem d_LN_takeNameAndColon_5 : decode b_LN_takeNameAndColon 5 = .ok (.aload_n 0, 1) := by decide +kernel
theorem d_LN_takeNameAndColon_6 : decode b_LN_takeNameAndColon 6 = .ok (.bipush 58, 2) := by decide +kernel
theorem d_LN_takeNameAndColon_8 : decode b_LN_takeNameAndColon 8 = .ok (.invokevirtual 54, 3) := by decide +kernel
theorem d_LN_takeNameAndColon_11 : decode b_LN_takeNameAndColon 11 = .ok (.ifCond .eq 7, 3) := by decide +kernel
theorem d_LN_takeNameAndColon_14 : decode b_LN_takeNameAndColon 14 = .ok (.lload_n 1, 1) := by decide +kernel
theorem d_LN_takeNameAndColon_15 : decode b_LN_takeNameAndColon 15 = .ok (.goto 4, 3) := by decide +kernel
theorem d_LN_takeNameAndColon_18 : decode b_LN_takeNameAndColon 18 = .ok (.lconst 0, 1) := by decide +kernel
theorem d_LN_takeNameAndColon_19 : decode b_LN_takeNameAndColon 19 = .ok (.lreturn, 1) := by decide +kernel
theorem d_LL_isDigit_0 : decode b_LL_isDigit 0 = .ok (.iload_n 0, 1) := by decide +kernel
theorem d_LL_isDigit_1 : decode b_LL_isDigit 1 = .ok (.bipush 48, 2) := by decide +kernel
theorem d_LL_isDigit_3 : decode b_LL_isDigit 3 = .ok (.if_icmp .lt 13, 3) := by decide +kernel
theorem d_LL_isDigit_6 : decode b_LL_isDigit 6 = .ok (.iload_n 0, 1) := by decide +kernel
theorem d_LL_isDigit_7 : decode b_LL_isDigit 7 = .ok (.bipush 57, 2) := by decide +kernel
theorem d_LL_isDigit_9 : decode b_LL_isDigit 9 = .ok (.if_icmp .gt 7, 3) := by decide +kernel
theorem d_LL_isDigit_12 : decode b_LL_isDigit 12 = .ok (.iconst 1, 1) := by decide +kernel
theorem d_LL_isDigit_13 : decode b_LL_isDigit 13 = .ok (.goto 4, 3) := by decide +kernel
theorem d_LL_isDigit_16 : decode b_LL_isDigit 16 = .ok (.iconst 0, 1) := by decide +kernel
theorem d_LL_isDigit_17 : decode b_LL_isDigit 17 = .ok (.ireturn, 1) := by decide +kernel
theorem d_LL_isSeparator_0 : decode b_LL_isSeparator 0 = .ok (.iload_n 0, 1) := by decide +kernel
theorem d_LL_isSeparator_1 : decode b_LL_isSeparator 1 = .ok (.bipush 46, 2) := by decide +kernel
theorem d_LL_isSeparator_3 : decode b_LL_isSeparator 3 = .ok (.if_icmp .eq 9, 3) := by decide +kernel
theorem d_LL_isSeparator_6 : decode b_LL_isSeparator 6 = .ok (.iload_n 0, 1) := by decide +kernel
theorem d_LL_isSeparator_7 : decode b_LL_isSeparator 7 = .ok (.bipush 45, 2) := by decide +kernel
theorem d_LL_isSeparator_9 : decode b_LL_isSeparator 9 = .ok (.if_icmp .ne 7, 3) := by decide +kernel
theorem d_LL_isSeparator_12 : decode b_LL_isSeparator 12 = .ok (.iconst 1, 1) := by decide +kernel
theorem d_LL_isSeparator_13 : decode b_LL_isSeparator 13 = .ok (.goto 4, 3) := by decide +kernel
theorem d_LL_isSeparator_16 : decode b_LL_isSeparator 16 = .ok (.iconst 0, 1) := by decide +kernel
theorem d_LL_isSeparator_17 : decode b_LL_isSeparator 17 = .ok (.ireturn, 1) := by decide +kernel
theorem d_LN_isOfVersion_0 : decode b_LN_isOfVersion 0 = .ok (.iload_n 0, 1) := by decide +kernel
theorem d_LN_isOfVersion_1 : decode b_LN_isOfVersion 1 = .ok (.invokestatic 85, 3) := by decide +kernel
theorem d_LN_isOfVersion_4 : decode b_LN_isOfVersion 4 = .ok (.ifCond .ne 17, 3) := by decide +kernel
theorem d_LN_isOfVersion_7 : decode b_LN_isOfVersion 7 = .ok (.iload_n 0, 1) := by decide +kernel
theorem d_LN_isOfVersion_8 : decode b_LN_isOfVersion 8 = .ok (.invokestatic 41, 3) := by decide +kernel
theorem d_LN_isOfVersion_11 : decode b_LN_isOfVersion 11 = .ok (.ifCond .ne 10, 3) := by decide +kernel
theorem d_LN_isOfVersion_14 : decode b_LN_isOfVersion 14 = .ok (.iload_n 0, 1) := by decide +kernel
theorem d_LN_isOfVersion_15 : decode b_LN_isOfVersion 15 = .ok (.invokestatic 88, 3) := by decide +kernel
theorem d_LN_isOfVersion_18 : decode b_LN_isOfVersion 18 = .ok (.ifCond .eq 7, 3) := by decide +kernel
theorem d_LN_isOfVersion_21 : decode b_LN_isOfVersion 21 = .ok (.iconst 1, 1) := by decide +kernel
theorem d_LN_isOfVersion_22 : decode b_LN_isOfVersion 22 = .ok (.goto 4, 3) := by decide +kernel
theorem d_LN_isOfVersion_25 : decode b_LN_isOfVersion 25 = .ok (.iconst 0, 1) := by decide +kernel
theorem d_LN_isOfVersion_26 : decode b_LN_isOfVersion 26 = .ok (.ireturn, 1) := by decide +kernel
theorem d_LN_isVersion_0 : decode b_LN_isVersion 0 = .ok (.iload_n 1, 1) := by decide +kernel
theorem d_LN_isVersion_1 : decode b_LN_isVersion 1 = .ok (.iload_n 2, 1) := by decide +kernel
theorem d_LN_isVersion_2 : decode b_LN_isVersion 2 = .ok (.if_icmp .eq 23, 3) := by decide +kernel
theorem d_LN_isVersion_5 : decode b_LN_isVersion 5 = .ok (.iload_n 2, 1) := by decide +kernel
theorem d_LN_isVersion_6 : decode b_LN_isVersion 6 = .ok (.iload_n 1, 1) := by decide +kernel
theorem d_LN_isVersion_7 : decode b_LN_isVersion 7 = .ok (.isub, 1) := by decide +kernel
theorem d_LN_isVersion_8 : decode b_LN_isVersion 8 = .ok (.bipush 12, 2) := by decide +kernel
theorem d_LN_isVersion_10 : decode b_LN_isVersion 10 = .ok (.if_icmp .gt 15, 3) := by decide +kernel
theorem d_LN_isVersion_13 : decode b_LN_isVersion 13 = .ok (.aload_n 0, 1) := by decide +kernel
theorem d_LN_isVersion_14 : decode b_LN_isVersion 14 = .ok (.getfield 9, 3) := by decide +kernel
theorem d_LN_isVersion_17 : decode b_LN_isVersion 17 = .ok (.iload_n 1, 1) := by decide +kernel
theorem d_LN_isVersion_18 : decode b_LN_isVersion 18 = .ok (.caload, 1) := by decide +kernel
theorem d_LN_isVersion_19 : decode b_LN_isVersion 19 = .ok (.invokestatic 85, 3) := by decide +kernel
theorem d_LN_isVersion_22 : decode b_LN_isVersion 22 = .ok (.ifCond .ne 5, 3) := by decide +kernel
theorem d_LN_isVersion_25 : decode b_LN_isVersion 25 = .ok (.iconst 0, 1) := by decide +kernel
theorem d_LN_isVersion_26 : decode b_LN_isVersion 26 = .ok (.ireturn, 1) := by decide +kernel
theorem d_LN_isVersion_27 : decode b_LN_isVersion 27 = .ok (.iconst 0, 1) := by decide +kernel
theorem d_LN_isVersion_28 : decode b_LN_isVersion 28 = .ok (.istore_n 3, 1) := by decide +kernel
theorem d_LN_isVersion_29 : decode b_LN_isVersion 29 = .ok (.iload_n 1, 1) := by decide +kernel
theorem d_LN_isVersion_30 : decode b_LN_isVersion 30 = .ok (.istore 4, 2) := by decide +kernel
theorem d_LN_isVersion_32 : decode b_LN_isVersion 32 = .ok (.iload 4, 2) := by decide +kernel
theorem d_LN_isVersion_34 : decode b_LN_isVersion 34 = .ok (.iload_n 2, 1) := by decide +kernel
theorem d_LN_isVersion_35 : decode b_LN_isVersion 35 = .ok (.if_icmp .ge 35, 3) := by decide +kernel
theorem d_LN_isVersion_38 : decode b_LN_isVersion 38 = .ok (.aload_n 0, 1) := by decide +kernel
theorem d_LN_isVersion_39 : decode b_LN_isVersion 39 = .ok (.getfield 9, 3) := by decide +kernel
theorem d_LN_isVersion_42 : decode b_LN_isVersion 42 = .ok (.iload 4, 2) := by decide +kernel
theorem d_LN_isVersion_44 : decode b_LN_isVersion 44 = .ok (.caload, 1) := by decide +kernel
theorem d_LN_isVersion_45 : decode b_LN_isVersion 45 = .ok (.invokestatic 88, 3) := by decide +kernel
theorem d_LN_isVersion_48 : decode b_LN_isVersion 48 = .ok (.istore 5, 2) := by decide +kernel
theorem d_LN_isVersion_50 : decode b_LN_isVersion 50 = .ok (.iload 5, 2) := by decide +kernel
theorem d_LN_isVersion_52 : decode b_LN_isVersion 52 = .ok (.ifCond .eq 9, 3) := by decide +kernel
theorem d_LN_isVersion_55 : decode b_LN_isVersion 55 = .ok (.iload_n 3, 1) := by decide +kernel
theorem d_LN_isVersion_56 : decode b_LN_isVersion 56 = .ok (.ifCond .eq 5, 3) := by decide +kernel
theorem d_LN_isVersion_59 : decode b_LN_isVersion 59 = .ok (.iconst 0, 1) := by decide +kernel
theorem d_LN_isVersion_60 : decode b_LN_isVersion 60 = .ok (.ireturn, 1) := by decide +kernel
theorem d_LN_isVersion_61 : decode b_LN_isVersion 61 = .ok (.iload 5, 2) := by decide +kernel
theorem d_LN_isVersion_63 : decode b_LN_isVersion 63 = .ok (.istore_n 3, 1) := by decide +kernel
theorem d_LN_isVersion_64 : decode b_LN_isVersion 64 = .ok (.iinc 4 1, 3) := by decide +kernel
theorem d_LN_isVersion_67 : decode b_LN_isVersion 67 = .ok (.goto (-35), 3) := by decide +kernel
theorem d_LN_isVersion_70 : decode b_LN_isVersion 70 = .ok (.iload_n 3, 1) := by decide +kernel
theorem d_LN_isVersion_71 : decode b_LN_isVersion 71 = .ok (.ifCond .ne 7, 3) := by decide +kernel
theorem d_LN_isVersion_74 : decode b_LN_isVersion 74 = .ok (.iconst 1, 1) := by decide +kernel
theorem d_LN_isVersion_75 : decode b_LN_isVersion 75 = .ok (.goto 4, 3) := by decide +kernel
theorem d_LN_isVersion_78 : decode b_LN_isVersion 78 = .ok (.iconst 0, 1) := by decide +kernel
theorem d_LN_isVersion_79 : decode b_LN_isVersion 79 = .ok (.ireturn, 1) := by decide +kernel
theorem d_VS_init_0 : decode b_VS_init 0 = .ok (.aload_n 0, 1) := by decide +kernel
theorem d_VS_init_1 : decode b_VS_init 1 = .ok (.invokespecial 3, 3) := by decide +kernel
theorem d_VS_init_4 : decode b_VS_init 4 = .ok (.aload_n 0, 1) := by decide +kernel
theorem d_VS_init_5 : decode b_VS_init 5 = .ok (.bipush 12, 2) := by decide +kernel
theorem d_VS_init_7 : decode b_VS_init 7 = .ok (.newarray .long, 2) := by decide +kernel
theorem d_VS_init_9 : decode b_VS_init 9 = .ok (.putfield 9, 3) := by decide +kernel
theorem d_VS_init_12 : decode b_VS_init 12 = .ok (.iconst (-1), 1) := by decide +kernel
theorem d_VS_init_13 : decode b_VS_init 13 = .ok (.istore 4, 2) := by decide +kernel
theorem d_VS_init_15 : decode b_VS_init 15 = .ok (.lconst 0, 1) := by decide +kernel
theorem d_VS_init_16 : decode b_VS_init 16 = .ok (.lstore 5, 2) := by decide +kernel
theorem d_VS_init_18 : decode b_VS_init 18 = .ok (.iload_n 2, 1) := by decide +kernel
theorem d_VS_init_19 : decode b_VS_init 19 = .ok (.istore 7, 2) := by decide +kernel
theorem d_VS_init_21 : decode b_VS_init 21 = .ok (.iload 7, 2) := by decide +kernel
theorem d_VS_init_23 : decode b_VS_init 23 = .ok (.iload_n 3, 1) := by decide +kernel
theorem d_VS_init_24 : decode b_VS_init 24 = .ok (.if_icmp .ge 158, 3) := by decide +kernel
theorem d_VS_init_27 : decode b_VS_init 27 = .ok (.iload 7, 2) := by decide +kernel
theorem d_VS_init_29 : decode b_VS_init 29 = .ok (.iload_n 2, 1) := by decide +kernel
theorem d_VS_init_30 : decode b_VS_init 30 = .ok (.isub, 1) := by decide +kernel
theorem d_VS_init_31 : decode b_VS_init 31 = .ok (.bipush 12, 2) := by decide +kernel
theorem d_VS_init_33 : decode b_VS_init 33 = .ok (.if_icmp .ge 149, 3) := by decide +kernel
theorem d_VS_init_36 : decode b_VS_init 36 = .ok (.aload_n 1, 1) := by decide +kernel
theorem d_VS_init_37 : decode b_VS_init 37 = .ok (.iload 7, 2) := by decide +kernel
theorem d_VS_init_39 : decode b_VS_init 39 = .ok (.caload, 1) := by decide +kernel
theorem d_VS_init_40 : decode b_VS_init 40 = .ok (.istore 8, 2) := by decide +kernel
theorem d_VS_init_42 : decode b_VS_init 42 = .ok (.iload 7, 2) := by decide +kernel
theorem d_VS_init_44 : decode b_VS_init 44 = .ok (.iload_n 2, 1) := by decide +kernel
theorem d_VS_init_45 : decode b_VS_init 45 = .ok (.if_icmp .ne 8, 3) := by decide +kernel
theorem d_VS_init_48 : decode b_VS_init 48 = .ok (.bipush 46, 2) := by decide +kernel
theorem d_VS_init_50 : decode b_VS_init 50 = .ok (.goto 9, 3) := by decide +kernel
theorem d_VS_init_53 : decode b_VS_init 53 = .ok (.aload_n 1, 1) := by decide +kernel
theorem d_VS_init_54 : decode b_VS_init 54 = .ok (.iload 7, 2) := by decide +kernel
theorem d_VS_init_56 : decode b_VS_init 56 = .ok (.iconst 1, 1) := by decide +kernel
theorem d_VS_init_57 : decode b_VS_init 57 = .ok (.isub, 1) := by decide +kernel
theorem d_VS_init_58 : decode b_VS_init 58 = .ok (.caload, 1) := by decide +kernel
theorem d_VS_init_59 : decode b_VS_init 59 = .ok (.istore 9, 2) := by decide +kernel
theorem d_VS_init_61 : decode b_VS_init 61 = .ok (.iload 8, 2) := by decide +kernel
theorem d_VS_init_63 : decode b_VS_init 63 = .ok (.invokestatic 15, 3) := by decide +kernel
theorem d_VS_init_66 : decode b_VS_init 66 = .ok (.ifCond .eq 49, 3) := by decide +kernel
theorem d_VS_init_69 : decode b_VS_init 69 = .ok (.iload 4, 2) := by decide +kernel
theorem d_VS_init_71 : decode b_VS_init 71 = .ok (.iload 9, 2) := by decide +kernel
theorem d_VS_init_73 : decode b_VS_init 73 = .ok (.invokestatic 15, 3) := by decide +kernel
theorem d_VS_init_76 : decode b_VS_init 76 = .ok (.ifCond .eq 7, 3) := by decide +kernel
theorem d_VS_init_79 : decode b_VS_init 79 = .ok (.iconst 0, 1) := by decide +kernel
theorem d_VS_init_80 : decode b_VS_init 80 = .ok (.goto 4, 3) := by decide +kernel
theorem d_VS_init_83 : decode b_VS_init 83 = .ok (.iconst 1, 1) := by decide +kernel
theorem d_VS_init_84 : decode b_VS_init 84 = .ok (.iadd, 1) := by decide +kernel
theorem d_VS_init_85 : decode b_VS_init 85 = .ok (.istore 4, 2) := by decide +kernel
theorem d_VS_init_87 : decode b_VS_init 87 = .ok (.aload_n 0, 1) := by decide +kernel
theorem d_VS_init_88 : decode b_VS_init 88 = .ok (.getfield 9, 3) := by decide +kernel
theorem d_VS_init_91 : decode b_VS_init 91 = .ok (.iload 4, 2) := by decide +kernel
theorem d_VS_init_93 : decode b_VS_init 93 = .ok (.aload_n 0, 1) := by decide +kernel
theorem d_VS_init_94 : decode b_VS_init 94 = .ok (.getfield 9, 3) := by decide +kernel
theorem d_VS_init_97 : decode b_VS_init 97 = .ok (.iload 4, 2) := by decide +kernel
theorem d_VS_init_99 : decode b_VS_init 99 = .ok (.laload, 1) := by decide +kernel
theorem d_VS_init_100 : decode b_VS_init 100 = .ok (.ldc2_w 19, 3) := by decide +kernel
theorem d_VS_init_103 : decode b_VS_init 103 = .ok (.lmul, 1) := by decide +kernel
theorem d_VS_init_104 : decode b_VS_init 104 = .ok (.iload 8, 2) := by decide +kernel
theorem d_VS_init_106 : decode b_VS_init 106 = .ok (.bipush 48, 2) := by decide +kernel
theorem d_VS_init_108 : decode b_VS_init 108 = .ok (.isub, 1) := by decide +kernel
theorem d_VS_init_109 : decode b_VS_init 109 = .ok (.i2l, 1) := by decide +kernel
theorem d_VS_init_110 : decode b_VS_init 110 = .ok (.ladd, 1) := by decide +kernel
theorem d_VS_init_111 : decode b_VS_init 111 = .ok (.lastore, 1) := by decide +kernel
theorem d_VS_init_112 : decode b_VS_init 112 = .ok (.goto 64, 3) := by decide +kernel
theorem d_VS_init_115 : decode b_VS_init 115 = .ok (.iload 8, 2) := by decide +kernel
theorem d_VS_init_117 : decode b_VS_init 117 = .ok (.invokestatic 21, 3) := by decide +kernel
theorem d_VS_init_120 : decode b_VS_init 120 = .ok (.ifCond .eq 56, 3) := by decide +kernel
theorem d_VS_init_123 : decode b_VS_init 123 = .ok (.iload 9, 2) := by decide +kernel
theorem d_VS_init_125 : decode b_VS_init 125 = .ok (.invokestatic 21, 3) := by decide +kernel
theorem d_VS_init_128 : decode b_VS_init 128 = .ok (.ifCond .ne 21, 3) := by decide +kernel
theorem d_VS_init_131 : decode b_VS_init 131 = .ok (.iinc 4 1, 3) := by decide +kernel
theorem d_VS_init_134 : decode b_VS_init 134 = .ok (.ldc2_w 24, 3) := by decide +kernel
theorem d_VS_init_137 : decode b_VS_init 137 = .ok (.lstore 5, 2) := by decide +kernel
theorem d_VS_init_139 : decode b_VS_init 139 = .ok (.aload_n 0, 1) := by decide +kernel
theorem d_VS_init_140 : decode b_VS_init 140 = .ok (.getfield 9, 3) := by decide +kernel
theorem d_VS_init_143 : decode b_VS_init 143 = .ok (.iload 4, 2) := by decide +kernel
theorem d_VS_init_145 : decode b_VS_init 145 = .ok (.ldc2_w 26, 3) := by decide +kernel
theorem d_VS_init_148 : decode b_VS_init 148 = .ok (.lastore, 1) := by decide +kernel
theorem d_VS_init_149 : decode b_VS_init 149 = .ok (.aload_n 0, 1) := by decide +kernel
theorem d_VS_init_150 : decode b_VS_init 150 = .ok (.getfield 9, 3) := by decide +kernel
theorem d_VS_init_153 : decode b_VS_init 153 = .ok (.iload 4, 2) := by decide +kernel
theorem d_VS_init_155 : decode b_VS_init 155 = .ok (.dup2, 1) := by decide +kernel
theorem d_VS_init_156 : decode b_VS_init 156 = .ok (.laload, 1) := by decide +kernel
theorem d_VS_init_157 : decode b_VS_init 157 = .ok (.iload 8, 2) := by decide +kernel
theorem d_VS_init_159 : decode b_VS_init 159 = .ok (.invokestatic 28, 3) := by decide +kernel
theorem d_VS_init_162 : decode b_VS_init 162 = .ok (.i2l, 1) := by decide +kernel
theorem d_VS_init_163 : decode b_VS_init 163 = .ok (.lload 5, 2) := by decide +kernel
theorem d_VS_init_165 : decode b_VS_init 165 = .ok (.lmul, 1) := by decide +kernel
theorem d_VS_init_166 : decode b_VS_init 166 = .ok (.ladd, 1) := by decide +kernel
theorem d_VS_init_167 : decode b_VS_init 167 = .ok (.lastore, 1) := by decide +kernel
theorem d_VS_init_168 : decode b_VS_init 168 = .ok (.lload 5, 2) := by decide +kernel
theorem d_VS_init_170 : decode b_VS_init 170 = .ok (.ldc2_w 32, 3) := by decide +kernel
theorem d_VS_init_173 : decode b_VS_init 173 = .ok (.ldiv, 1) := by decide +kernel
theorem d_VS_init_174 : decode b_VS_init 174 = .ok (.lstore 5, 2) := by decide +kernel
theorem d_VS_init_176 : decode b_VS_init 176 = .ok (.iinc 7 1, 3) := by decide +kernel
theorem d_VS_init_179 : decode b_VS_init 179 = .ok (.goto (-158), 3) := by decide +kernel
theorem d_VS_init_182 : decode b_VS_init 182 = .ok (.return_, 1) := by decide +kernel
theorem d_LN_takeVersion_0 : decode b_LN_takeVersion 0 = .ok (.aload_n 0, 1) := by decide +kernel
theorem d_LN_takeVersion_1 : decode b_LN_takeVersion 1 = .ok (.getfield 19, 3) := by decide +kernel
theorem d_LN_takeVersion_4 : decode b_LN_takeVersion 4 = .ok (.istore_n 1, 1) := by decide +kernel
theorem d_LN_takeVersion_5 : decode b_LN_takeVersion 5 = .ok (.aload_n 0, 1) := by decide +kernel
theorem d_LN_takeVersion_6 : decode b_LN_takeVersion 6 = .ok (.getfield 19, 3) := by decide +kernel
theorem d_LN_takeVersion_9 : decode b_LN_takeVersion 9 = .ok (.aload_n 0, 1) := by decide +kernel
theorem d_LN_takeVersion_10 : decode b_LN_takeVersion 10 = .ok (.getfield 15, 3) := by decide +kernel
theorem d_LN_takeVersion_13 : decode b_LN_takeVersion 13 = .ok (.if_icmp .ge 31, 3) := by decide +kernel
theorem d_LN_takeVersion_16 : decode b_LN_takeVersion 16 = .ok (.aload_n 0, 1) := by decide +kernel
theorem d_LN_takeVersion_17 : decode b_LN_takeVersion 17 = .ok (.getfield 9, 3) := by decide +kernel
theorem d_LN_takeVersion_20 : decode b_LN_takeVersion 20 = .ok (.aload_n 0, 1) := by decide +kernel
theorem d_LN_takeVersion_21 : decode b_LN_takeVersion 21 = .ok (.getfield 19, 3) := by decide +kernel
theorem d_LN_takeVersion_24 : decode b_LN_takeVersion 24 = .ok (.caload, 1) := by decide +kernel
theorem d_LN_takeVersion_25 : decode b_LN_takeVersion 25 = .ok (.invokestatic 57, 3) := by decide +kernel
theorem d_LN_takeVersion_28 : decode b_LN_takeVersion 28 = .ok (.ifCond .eq 16, 3) := by decide +kernel
theorem d_LN_takeVersion_31 : decode b_LN_takeVersion 31 = .ok (.aload_n 0, 1) := by decide +kernel
theorem d_LN_takeVersion_32 : decode b_LN_takeVersion 32 = .ok (.dup, 1) := by decide +kernel
theorem d_LN_takeVersion_33 : decode b_LN_takeVersion 33 = .ok (.getfield 19, 3) := by decide +kernel
theorem d_LN_takeVersion_36 : decode b_LN_takeVersion 36 = .ok (.iconst 1, 1) := by decide +kernel
theorem d_LN_takeVersion_37 : decode b_LN_takeVersion 37 = .ok (.iadd, 1) := by decide +kernel
theorem d_LN_takeVersion_38 : decode b_LN_takeVersion 38 = .ok (.putfield 19, 3) := by decide +kernel
theorem d_LN_takeVersion_41 : decode b_LN_takeVersion 41 = .ok (.goto (-36), 3) := by decide +kernel
theorem d_LN_takeVersion_44 : decode b_LN_takeVersion 44 = .ok (.aload_n 0, 1) := by decide +kernel
theorem d_LN_takeVersion_45 : decode b_LN_takeVersion 45 = .ok (.iload_n 1, 1) := by decide +kernel
theorem d_LN_takeVersion_46 : decode b_LN_takeVersion 46 = .ok (.aload_n 0, 1) := by decide +kernel
theorem d_LN_takeVersion_47 : decode b_LN_takeVersion 47 = .ok (.getfield 19, 3) := by decide +kernel
theorem d_LN_takeVersion_50 : decode b_LN_takeVersion 50 = .ok (.invokevirtual 60, 3) := by decide +kernel
theorem d_LN_takeVersion_53 : decode b_LN_takeVersion 53 = .ok (.ifCond .eq 22, 3) := by decide +kernel
theorem d_LN_takeVersion_56 : decode b_LN_takeVersion 56 = .ok (.new 64, 3) := by decide +kernel
theorem d_LN_takeVersion_59 : decode b_LN_takeVersion 59 = .ok (.dup, 1) := by decide +kernel
theorem d_LN_takeVersion_60 : decode b_LN_takeVersion 60 = .ok (.aload_n 0, 1) := by decide +kernel
theorem d_LN_takeVersion_61 : decode b_LN_takeVersion 61 = .ok (.getfield 9, 3) := by decide +kernel
theorem d_LN_takeVersion_64 : decode b_LN_takeVersion 64 = .ok (.iload_n 1, 1) := by decide +kernel
theorem d_LN_takeVersion_65 : decode b_LN_takeVersion 65 = .ok (.aload_n 0, 1) := by decide +kernel
theorem d_LN_takeVersion_66 : decode b_LN_takeVersion 66 = .ok (.getfield 19, 3) := by decide +kernel
theorem d_LN_takeVersion_69 : decode b_LN_takeVersion 69 = .ok (.invokespecial 66, 3) := by decide +kernel
theorem d_LN_takeVersion_72 : decode b_LN_takeVersion 72 = .ok (.goto 4, 3) := by decide +kernel
theorem d_LN_takeVersion_75 : decode b_LN_takeVersion 75 = .ok (.aconst_null, 1) := by decide +kernel
theorem d_LN_takeVersion_76 : decode b_LN_takeVersion 76 = .ok (.areturn, 1) := by decide +kernel
theorem d_LN_copy_0 : decode b_LN_copy 0 = .ok (.aload_n 0, 1) := by decide +kernel
theorem d_LN_copy_1 : decode b_LN_copy 1 = .ok (.getfield 15, 3) := by decide +kernel
theorem d_LN_copy_4 : decode b_LN_copy 4 = .ok (.newarray .char, 2) := by decide +kernel
theorem d_LN_copy_6 : decode b_LN_copy 6 = .ok (.astore_n 1, 1) := by decide +kernel
theorem d_LN_copy_7 : decode b_LN_copy 7 = .ok (.aload_n 0, 1) := by decide +kernel
theorem d_LN_copy_8 : decode b_LN_copy 8 = .ok (.getfield 9, 3) := by decide +kernel
theorem d_LN_copy_11 : decode b_LN_copy 11 = .ok (.iconst 0, 1) := by decide +kernel
theorem d_LN_copy_12 : decode b_LN_copy 12 = .ok (.aload_n 1, 1) := by decide +kernel
theorem d_LN_copy_13 : decode b_LN_copy 13 = .ok (.iconst 0, 1) := by decide +kernel
theorem d_LN_copy_14 : decode b_LN_copy 14 = .ok (.aload_n 0, 1) := by decide +kernel
theorem d_LN_copy_15 : decode b_LN_copy 15 = .ok (.getfield 15, 3) := by decide +kernel
theorem d_LN_copy_18 : decode b_LN_copy 18 = .ok (.invokestatic 22, 3) := by decide +kernel
theorem d_LN_copy_21 : decode b_LN_copy 21 = .ok (.aload_n 1, 1) := by decide +kernel
theorem d_LN_copy_22 : decode b_LN_copy 22 = .ok (.areturn, 1) := by decide +kernel
theorem d_LN_finishReading_0 : decode b_LN_finishReading 0 = .ok (.aload_n 0, 1) := by decide +kernel
theorem d_LN_finishReading_1 : decode b_LN_finishReading 1 = .ok (.getfield 19, 3) := by decide +kernel
theorem d_LN_finishReading_4 : decode b_LN_finishReading 4 = .ok (.aload_n 0, 1) := by decide +kernel
theorem d_LN_finishReading_5 : decode b_LN_finishReading 5 = .ok (.getfield 15, 3) := by decide +kernel
theorem d_LN_finishReading_8 : decode b_LN_finishReading 8 = .ok (.if_icmp .ne 7, 3) := by decide +kernel
theorem d_LN_finishReading_11 : decode b_LN_finishReading 11 = .ok (.iconst 1, 1) := by decide +kernel
theorem d_LN_finishReading_12 : decode b_LN_finishReading 12 = .ok (.goto 4, 3) := by decide +kernel
theorem d_LN_finishReading_15 : decode b_LN_finishReading 15 = .ok (.iconst 0, 1) := by decide +kernel
theorem d_LN_finishReading_16 : decode b_LN_finishReading 16 = .ok (.istore_n 1, 1) := by decide +kernel
theorem d_LN_finishReading_17 : decode b_LN_finishReading 17 = .ok (.aload_n 0, 1) := by decide +kernel
theorem d_LN_finishReading_18 : decode b_LN_finishReading 18 = .ok (.invokevirtual 28, 3) := by decide +kernel
theorem d_LN_finishReading_21 : decode b_LN_finishReading 21 = .ok (.iload_n 1, 1) := by decide +kernel
theorem d_LN_finishReading_22 : decode b_LN_finishReading 22 = .ok (.ireturn, 1) := by decide +kernel
theorem d_RG_init_0 : decode b_RG_init 0 = .ok (.aload_n 0, 1) := by decide +kernel
theorem d_RG_init_1 : decode b_RG_init 1 = .ok (.invokespecial 1, 3) := by decide +kernel
theorem d_RG_init_4 : decode b_RG_init 4 = .ok (.aload_n 0, 1) := by decide +kernel
theorem d_RG_init_5 : decode b_RG_init 5 = .ok (.iload_n 1, 1) := by decide +kernel
theorem d_RG_init_6 : decode b_RG_init 6 = .ok (.putfield 7, 3) := by decide +kernel
theorem d_RG_init_9 : decode b_RG_init 9 = .ok (.aload_n 0, 1) := by decide +kernel
theorem d_RG_init_10 : decode b_RG_init 10 = .ok (.aload_n 2, 1) := by decide +kernel
theorem d_RG_init_11 : decode b_RG_init 11 = .ok (.putfield 13, 3) := by decide +kernel
theorem d_RG_init_14 : decode b_RG_init 14 = .ok (.aload_n 0, 1) := by decide +kernel
theorem d_RG_init_15 : decode b_RG_init 15 = .ok (.iload_n 3, 1) := by decide +kernel
theorem d_RG_init_16 : decode b_RG_init 16 = .ok (.putfield 17, 3) := by decide +kernel
theorem d_RG_init_19 : decode b_RG_init 19 = .ok (.aload_n 0, 1) := by decide +kernel
theorem d_RG_init_20 : decode b_RG_init 20 = .ok (.aload 4, 2) := by decide +kernel
theorem d_RG_init_22 : decode b_RG_init 22 = .ok (.putfield 20, 3) := by decide +kernel
theorem d_RG_init_25 : decode b_RG_init 25 = .ok (.aload_n 0, 1) := by decide +kernel
theorem d_RG_init_26 : decode b_RG_init 26 = .ok (.iload 5, 2) := by decide +kernel
theorem d_RG_init_28 : decode b_RG_init 28 = .ok (.putfield 23, 3) := by decide +kernel
theorem d_RG_init_31 : decode b_RG_init 31 = .ok (.return_, 1) := by decide +kernel
theorem d_RG_exactly_0 : decode b_RG_exactly 0 = .ok (.new 8, 3) := by decide +kernel
theorem d_RG_exactly_3 : decode b_RG_exactly 3 = .ok (.dup, 1) := by decide +kernel
theorem d_RG_exactly_4 : decode b_RG_exactly 4 = .ok (.iload_n 1, 1) := by decide +kernel
theorem d_RG_exactly_5 : decode b_RG_exactly 5 = .ok (.aload_n 0, 1) := by decide +kernel
theorem d_RG_exactly_6 : decode b_RG_exactly 6 = .ok (.iconst 0, 1) := by decide +kernel
theorem d_RG_exactly_7 : decode b_RG_exactly 7 = .ok (.aload_n 0, 1) := by decide +kernel
theorem d_RG_exactly_8 : decode b_RG_exactly 8 = .ok (.iconst 0, 1) := by decide +kernel
theorem d_RG_exactly_9 : decode b_RG_exactly 9 = .ok (.invokespecial 26, 3) := by decide +kernel
theorem d_RG_exactly_12 : decode b_RG_exactly 12 = .ok (.areturn, 1) := by decide +kernel
theorem d_VS_orderAgainst_0 : decode b_VS_orderAgainst 0 = .ok (.iconst 0, 1) := by decide +kernel
theorem d_VS_orderAgainst_1 : decode b_VS_orderAgainst 1 = .ok (.istore_n 2, 1) := by decide +kernel
theorem d_VS_orderAgainst_2 : decode b_VS_orderAgainst 2 = .ok (.iload_n 2, 1) := by decide +kernel
theorem d_VS_orderAgainst_3 : decode b_VS_orderAgainst 3 = .ok (.bipush 12, 2) := by decide +kernel
theorem d_VS_orderAgainst_5 : decode b_VS_orderAgainst 5 = .ok (.if_icmp .ge 47, 3) := by decide +kernel
theorem d_VS_orderAgainst_8 : decode b_VS_orderAgainst 8 = .ok (.aload_n 0, 1) := by decide +kernel
theorem d_VS_orderAgainst_9 : decode b_VS_orderAgainst 9 = .ok (.getfield 9, 3) := by decide +kernel
theorem d_VS_orderAgainst_12 : decode b_VS_orderAgainst 12 = .ok (.iload_n 2, 1) := by decide +kernel
theorem d_VS_orderAgainst_13 : decode b_VS_orderAgainst 13 = .ok (.laload, 1) := by decide +kernel
theorem d_VS_orderAgainst_14 : decode b_VS_orderAgainst 14 = .ok (.aload_n 1, 1) := by decide +kernel
theorem d_VS_orderAgainst_15 : decode b_VS_orderAgainst 15 = .ok (.getfield 9, 3) := by decide +kernel
theorem d_VS_orderAgainst_18 : decode b_VS_orderAgainst 18 = .ok (.iload_n 2, 1) := by decide +kernel
theorem d_VS_orderAgainst_19 : decode b_VS_orderAgainst 19 = .ok (.laload, 1) := by decide +kernel
theorem d_VS_orderAgainst_20 : decode b_VS_orderAgainst 20 = .ok (.lcmp, 1) := by decide +kernel
theorem d_VS_orderAgainst_21 : decode b_VS_orderAgainst 21 = .ok (.ifCond .eq 25, 3) := by decide +kernel
theorem d_VS_orderAgainst_24 : decode b_VS_orderAgainst 24 = .ok (.aload_n 0, 1) := by decide +kernel
theorem d_VS_orderAgainst_25 : decode b_VS_orderAgainst 25 = .ok (.getfield 9, 3) := by decide +kernel
theorem d_VS_orderAgainst_28 : decode b_VS_orderAgainst 28 = .ok (.iload_n 2, 1) := by decide +kernel
theorem d_VS_orderAgainst_29 : decode b_VS_orderAgainst 29 = .ok (.laload, 1) := by decide +kernel
theorem d_VS_orderAgainst_30 : decode b_VS_orderAgainst 30 = .ok (.aload_n 1, 1) := by decide +kernel
theorem d_VS_orderAgainst_31 : decode b_VS_orderAgainst 31 = .ok (.getfield 9, 3) := by decide +kernel
theorem d_VS_orderAgainst_34 : decode b_VS_orderAgainst 34 = .ok (.iload_n 2, 1) := by decide +kernel
theorem d_VS_orderAgainst_35 : decode b_VS_orderAgainst 35 = .ok (.laload, 1) := by decide +kernel
theorem d_VS_orderAgainst_36 : decode b_VS_orderAgainst 36 = .ok (.lcmp, 1) := by decide +kernel
theorem d_VS_orderAgainst_37 : decode b_VS_orderAgainst 37 = .ok (.ifCond .ge 7, 3) := by decide +kernel
theorem d_VS_orderAgainst_40 : decode b_VS_orderAgainst 40 = .ok (.iconst (-1), 1) := by decide +kernel
theorem d_VS_orderAgainst_41 : decode b_VS_orderAgainst 41 = .ok (.goto 4, 3) := by decide +kernel
theorem d_VS_orderAgainst_44 : decode b_VS_orderAgainst 44 = .ok (.iconst 1, 1) := by decide +kernel
theorem d_VS_orderAgainst_45 : decode b_VS_orderAgainst 45 = .ok (.ireturn, 1) := by decide +kernel
theorem d_VS_orderAgainst_46 : decode b_VS_orderAgainst 46 = .ok (.iinc 2 1, 3) := by decide +kernel
theorem d_VS_orderAgainst_49 : decode b_VS_orderAgainst 49 = .ok (.goto (-47), 3) := by decide +kernel
theorem d_VS_orderAgainst_52 : decode b_VS_orderAgainst 52 = .ok (.iconst 0, 1) := by decide +kernel
theorem d_VS_orderAgainst_53 : decode b_VS_orderAgainst 53 = .ok (.ireturn, 1) := by decide +kernel
theorem d_RG_keepsLow_0 : decode b_RG_keepsLow 0 = .ok (.aload_n 0, 1) := by decide +kernel
theorem d_RG_keepsLow_1 : decode b_RG_keepsLow 1 = .ok (.getfield 13, 3) := by decide +kernel
theorem d_RG_keepsLow_4 : decode b_RG_keepsLow 4 = .ok (.ifnonnull 5, 3) := by decide +kernel
theorem d_RG_keepsLow_7 : decode b_RG_keepsLow 7 = .ok (.iconst 1, 1) := by decide +kernel
theorem d_RG_keepsLow_8 : decode b_RG_keepsLow 8 = .ok (.ireturn, 1) := by decide +kernel
theorem d_RG_keepsLow_9 : decode b_RG_keepsLow 9 = .ok (.aload_n 1, 1) := by decide +kernel
theorem d_RG_keepsLow_10 : decode b_RG_keepsLow 10 = .ok (.aload_n 0, 1) := by decide +kernel
theorem d_RG_keepsLow_11 : decode b_RG_keepsLow 11 = .ok (.getfield 13, 3) := by decide +kernel
theorem d_RG_keepsLow_14 : decode b_RG_keepsLow 14 = .ok (.invokevirtual 36, 3) := by decide +kernel
theorem d_RG_keepsLow_17 : decode b_RG_keepsLow 17 = .ok (.istore_n 2, 1) := by decide +kernel
theorem d_RG_keepsLow_18 : decode b_RG_keepsLow 18 = .ok (.iload_n 2, 1) := by decide +kernel
theorem d_RG_keepsLow_19 : decode b_RG_keepsLow 19 = .ok (.ifCond .gt 14, 3) := by decide +kernel
theorem d_RG_keepsLow_22 : decode b_RG_keepsLow 22 = .ok (.iload_n 2, 1) := by decide +kernel
theorem d_RG_keepsLow_23 : decode b_RG_keepsLow 23 = .ok (.ifCond .ne 14, 3) := by decide +kernel
theorem d_RG_keepsLow_26 : decode b_RG_keepsLow 26 = .ok (.aload_n 0, 1) := by decide +kernel
theorem d_RG_keepsLow_27 : decode b_RG_keepsLow 27 = .ok (.getfield 17, 3) := by decide +kernel
theorem d_RG_keepsLow_30 : decode b_RG_keepsLow 30 = .ok (.ifCond .ne 7, 3) := by decide +kernel
theorem d_RG_keepsLow_33 : decode b_RG_keepsLow 33 = .ok (.iconst 1, 1) := by decide +kernel
theorem d_RG_keepsLow_34 : decode b_RG_keepsLow 34 = .ok (.goto 4, 3) := by decide +kernel
theorem d_RG_keepsLow_37 : decode b_RG_keepsLow 37 = .ok (.iconst 0, 1) := by decide +kernel
theorem d_RG_keepsLow_38 : decode b_RG_keepsLow 38 = .ok (.ireturn, 1) := by decide +kernel
theorem d_RG_keepsHigh_0 : decode b_RG_keepsHigh 0 = .ok (.aload_n 0, 1) := by decide +kernel
theorem d_RG_keepsHigh_1 : decode b_RG_keepsHigh 1 = .ok (.getfield 20, 3) := by decide +kernel
theorem d_RG_keepsHigh_4 : decode b_RG_keepsHigh 4 = .ok (.ifnonnull 5, 3) := by decide +kernel
theorem d_RG_keepsHigh_7 : decode b_RG_keepsHigh 7 = .ok (.iconst 1, 1) := by decide +kernel
theorem d_RG_keepsHigh_8 : decode b_RG_keepsHigh 8 = .ok (.ireturn, 1) := by decide +kernel
theorem d_RG_keepsHigh_9 : decode b_RG_keepsHigh 9 = .ok (.aload_n 1, 1) := by decide +kernel
theorem d_RG_keepsHigh_10 : decode b_RG_keepsHigh 10 = .ok (.aload_n 0, 1) := by decide +kernel
theorem d_RG_keepsHigh_11 : decode b_RG_keepsHigh 11 = .ok (.getfield 20, 3) := by decide +kernel
theorem d_RG_keepsHigh_14 : decode b_RG_keepsHigh 14 = .ok (.invokevirtual 36, 3) := by decide +kernel
theorem d_RG_keepsHigh_17 : decode b_RG_keepsHigh 17 = .ok (.istore_n 2, 1) := by decide +kernel
theorem d_RG_keepsHigh_18 : decode b_RG_keepsHigh 18 = .ok (.iload_n 2, 1) := by decide +kernel
theorem d_RG_keepsHigh_19 : decode b_RG_keepsHigh 19 = .ok (.ifCond .lt 14, 3) := by decide +kernel
theorem d_RG_keepsHigh_22 : decode b_RG_keepsHigh 22 = .ok (.iload_n 2, 1) := by decide +kernel
theorem d_RG_keepsHigh_23 : decode b_RG_keepsHigh 23 = .ok (.ifCond .ne 14, 3) := by decide +kernel
theorem d_RG_keepsHigh_26 : decode b_RG_keepsHigh 26 = .ok (.aload_n 0, 1) := by decide +kernel
theorem d_RG_keepsHigh_27 : decode b_RG_keepsHigh 27 = .ok (.getfield 23, 3) := by decide +kernel
theorem d_RG_keepsHigh_30 : decode b_RG_keepsHigh 30 = .ok (.ifCond .ne 7, 3) := by decide +kernel
theorem d_RG_keepsHigh_33 : decode b_RG_keepsHigh 33 = .ok (.iconst 1, 1) := by decide +kernel
theorem d_RG_keepsHigh_34 : decode b_RG_keepsHigh 34 = .ok (.goto 4, 3) := by decide +kernel
theorem d_RG_keepsHigh_37 : decode b_RG_keepsHigh 37 = .ok (.iconst 0, 1) := by decide +kernel
theorem d_RG_keepsHigh_38 : decode b_RG_keepsHigh 38 = .ok (.ireturn, 1) := by decide +kernel
theorem d_RG_holds_0 : decode b_RG_holds 0 = .ok (.aload_n 0, 1) := by decide +kernel
theorem d_RG_holds_1 : decode b_RG_holds 1 = .ok (.aload_n 1, 1) := by decide +kernel
theorem d_RG_holds_2 : decode b_RG_holds 2 = .ok (.invokevirtual 29, 3) := by decide +kernel
theorem d_RG_holds_5 : decode b_RG_holds 5 = .ok (.ifCond .eq 15, 3) := by decide +kernel
theorem d_RG_holds_8 : decode b_RG_holds 8 = .ok (.aload_n 0, 1) := by decide +kernel
theorem d_RG_holds_9 : decode b_RG_holds 9 = .ok (.aload_n 1, 1) := by decide +kernel
theorem d_RG_holds_10 : decode b_RG_holds 10 = .ok (.invokevirtual 33, 3) := by decide +kernel
theorem d_RG_holds_13 : decode b_RG_holds 13 = .ok (.ifCond .eq 7, 3) := by decide +kernel
theorem d_RG_holds_16 : decode b_RG_holds 16 = .ok (.iconst 1, 1) := by decide +kernel
theorem d_RG_holds_17 : decode b_RG_holds 17 = .ok (.goto 4, 3) := by decide +kernel
theorem d_RG_holds_20 : decode b_RG_holds 20 = .ok (.iconst 0, 1) := by decide +kernel
theorem d_RG_holds_21 : decode b_RG_holds 21 = .ok (.ireturn, 1) := by decide +kernel
theorem d_LL_pickFor_0 : decode b_LL_pickFor 0 = .ok (.aconst_null, 1) := by decide +kernel
theorem d_LL_pickFor_1 : decode b_LL_pickFor 1 = .ok (.astore 4, 2) := by decide +kernel
theorem d_LL_pickFor_3 : decode b_LL_pickFor 3 = .ok (.iconst 0, 1) := by decide +kernel
theorem d_LL_pickFor_4 : decode b_LL_pickFor 4 = .ok (.istore 5, 2) := by decide +kernel
theorem d_LL_pickFor_6 : decode b_LL_pickFor 6 = .ok (.iload 5, 2) := by decide +kernel
theorem d_LL_pickFor_8 : decode b_LL_pickFor 8 = .ok (.aload_n 0, 1) := by decide +kernel
theorem d_LL_pickFor_9 : decode b_LL_pickFor 9 = .ok (.getfield 22, 3) := by decide +kernel
theorem d_LL_pickFor_12 : decode b_LL_pickFor 12 = .ok (.if_icmp .ge 85, 3) := by decide +kernel
theorem d_LL_pickFor_15 : decode b_LL_pickFor 15 = .ok (.aload_n 0, 1) := by decide +kernel
theorem d_LL_pickFor_16 : decode b_LL_pickFor 16 = .ok (.getfield 18, 3) := by decide +kernel
theorem d_LL_pickFor_19 : decode b_LL_pickFor 19 = .ok (.iload 5, 2) := by decide +kernel
theorem d_LL_pickFor_21 : decode b_LL_pickFor 21 = .ok (.aaload, 1) := by decide +kernel
theorem d_LL_pickFor_22 : decode b_LL_pickFor 22 = .ok (.astore 6, 2) := by decide +kernel
theorem d_LL_pickFor_24 : decode b_LL_pickFor 24 = .ok (.aload 6, 2) := by decide +kernel
theorem d_LL_pickFor_26 : decode b_LL_pickFor 26 = .ok (.getfield 120, 3) := by decide +kernel
theorem d_LL_pickFor_29 : decode b_LL_pickFor 29 = .ok (.ifCond .ne 29, 3) := by decide +kernel
theorem d_LL_pickFor_32 : decode b_LL_pickFor 32 = .ok (.aload 6, 2) := by decide +kernel
theorem d_LL_pickFor_34 : decode b_LL_pickFor 34 = .ok (.getfield 173, 3) := by decide +kernel
theorem d_LL_pickFor_37 : decode b_LL_pickFor 37 = .ok (.lload_n 1, 1) := by decide +kernel
theorem d_LL_pickFor_38 : decode b_LL_pickFor 38 = .ok (.lcmp, 1) := by decide +kernel
theorem d_LL_pickFor_39 : decode b_LL_pickFor 39 = .ok (.ifCond .ne 19, 3) := by decide +kernel
theorem d_LL_pickFor_42 : decode b_LL_pickFor 42 = .ok (.aload_n 3, 1) := by decide +kernel
theorem d_LL_pickFor_43 : decode b_LL_pickFor 43 = .ok (.aload 6, 2) := by decide +kernel
theorem d_LL_pickFor_45 : decode b_LL_pickFor 45 = .ok (.getfield 177, 3) := by decide +kernel
theorem d_LL_pickFor_48 : decode b_LL_pickFor 48 = .ok (.invokevirtual 181, 3) := by decide +kernel
theorem d_LL_pickFor_51 : decode b_LL_pickFor 51 = .ok (.ifCond .eq 7, 3) := by decide +kernel
theorem d_LL_pickFor_54 : decode b_LL_pickFor 54 = .ok (.iconst 1, 1) := by decide +kernel
theorem d_LL_pickFor_55 : decode b_LL_pickFor 55 = .ok (.goto 4, 3) := by decide +kernel
theorem d_LL_pickFor_58 : decode b_LL_pickFor 58 = .ok (.iconst 0, 1) := by decide +kernel
theorem d_LL_pickFor_59 : decode b_LL_pickFor 59 = .ok (.istore 7, 2) := by decide +kernel
theorem d_LL_pickFor_61 : decode b_LL_pickFor 61 = .ok (.iload 7, 2) := by decide +kernel
theorem d_LL_pickFor_63 : decode b_LL_pickFor 63 = .ok (.ifCond .eq 28, 3) := by decide +kernel
theorem d_LL_pickFor_66 : decode b_LL_pickFor 66 = .ok (.aload 4, 2) := by decide +kernel
theorem d_LL_pickFor_68 : decode b_LL_pickFor 68 = .ok (.ifnull 19, 3) := by decide +kernel
theorem d_LL_pickFor_71 : decode b_LL_pickFor 71 = .ok (.aload 6, 2) := by decide +kernel
theorem d_LL_pickFor_73 : decode b_LL_pickFor 73 = .ok (.getfield 177, 3) := by decide +kernel
theorem d_LL_pickFor_76 : decode b_LL_pickFor 76 = .ok (.aload 4, 2) := by decide +kernel
theorem d_LL_pickFor_78 : decode b_LL_pickFor 78 = .ok (.getfield 177, 3) := by decide +kernel
theorem d_LL_pickFor_81 : decode b_LL_pickFor 81 = .ok (.invokevirtual 128, 3) := by decide +kernel
theorem d_LL_pickFor_84 : decode b_LL_pickFor 84 = .ok (.ifCond .le 7, 3) := by decide +kernel
theorem d_LL_pickFor_87 : decode b_LL_pickFor 87 = .ok (.aload 6, 2) := by decide +kernel
theorem d_LL_pickFor_89 : decode b_LL_pickFor 89 = .ok (.astore 4, 2) := by decide +kernel
theorem d_LL_pickFor_91 : decode b_LL_pickFor 91 = .ok (.iinc 5 1, 3) := by decide +kernel
theorem d_LL_pickFor_94 : decode b_LL_pickFor 94 = .ok (.goto (-88), 3) := by decide +kernel
theorem d_LL_pickFor_97 : decode b_LL_pickFor 97 = .ok (.aload 4, 2) := by decide +kernel
theorem d_LL_pickFor_99 : decode b_LL_pickFor 99 = .ok (.areturn, 1) := by decide +kernel
theorem d_AR_init_0 : decode b_AR_init 0 = .ok (.aload_n 0, 1) := by decide +kernel
theorem d_AR_init_1 : decode b_AR_init 1 = .ok (.invokespecial 3, 3) := by decide +kernel
theorem d_AR_init_4 : decode b_AR_init 4 = .ok (.aload_n 0, 1) := by decide +kernel
theorem d_AR_init_5 : decode b_AR_init 5 = .ok (.bipush 6, 2) := by decide +kernel
theorem d_AR_init_7 : decode b_AR_init 7 = .ok (.anewarray 9, 3) := by decide +kernel
theorem d_AR_init_10 : decode b_AR_init 10 = .ok (.putfield 11, 3) := by decide +kernel
theorem d_AR_init_13 : decode b_AR_init 13 = .ok (.aload_n 0, 1) := by decide +kernel
theorem d_AR_init_14 : decode b_AR_init 14 = .ok (.iconst 0, 1) := by decide +kernel
theorem d_AR_init_15 : decode b_AR_init 15 = .ok (.putfield 17, 3) := by decide +kernel
theorem d_AR_init_18 : decode b_AR_init 18 = .ok (.aload_n 0, 1) := by decide +kernel
theorem d_AR_init_19 : decode b_AR_init 19 = .ok (.iconst 0, 1) := by decide +kernel
theorem d_AR_init_20 : decode b_AR_init 20 = .ok (.putfield 21, 3) := by decide +kernel
theorem d_AR_init_23 : decode b_AR_init 23 = .ok (.aload_n 0, 1) := by decide +kernel
theorem d_AR_init_24 : decode b_AR_init 24 = .ok (.iconst 0, 1) := by decide +kernel
theorem d_AR_init_25 : decode b_AR_init 25 = .ok (.putfield 24, 3) := by decide +kernel
theorem d_AR_init_28 : decode b_AR_init 28 = .ok (.aload_n 0, 1) := by decide +kernel
theorem d_AR_init_29 : decode b_AR_init 29 = .ok (.iload_n 1, 1) := by decide +kernel
theorem d_AR_init_30 : decode b_AR_init 30 = .ok (.putfield 28, 3) := by decide +kernel
theorem d_AR_init_33 : decode b_AR_init 33 = .ok (.aload_n 0, 1) := by decide +kernel
theorem d_AR_init_34 : decode b_AR_init 34 = .ok (.lload_n 2, 1) := by decide +kernel
theorem d_AR_init_35 : decode b_AR_init 35 = .ok (.putfield 31, 3) := by decide +kernel
theorem d_AR_init_38 : decode b_AR_init 38 = .ok (.aload_n 0, 1) := by decide +kernel
theorem d_AR_init_39 : decode b_AR_init 39 = .ok (.aload 4, 2) := by decide +kernel
theorem d_AR_init_41 : decode b_AR_init 41 = .ok (.putfield 35, 3) := by decide +kernel
theorem d_AR_init_44 : decode b_AR_init 44 = .ok (.aload_n 0, 1) := by decide +kernel
theorem d_AR_init_45 : decode b_AR_init 45 = .ok (.aload 5, 2) := by decide +kernel
theorem d_AR_init_47 : decode b_AR_init 47 = .ok (.putfield 39, 3) := by decide +kernel
theorem d_AR_init_50 : decode b_AR_init 50 = .ok (.return_, 1) := by decide +kernel
theorem d_LL_publish_0 : decode b_LL_publish 0 = .ok (.aload_n 0, 1) := by decide +kernel
theorem d_LL_publish_1 : decode b_LL_publish 1 = .ok (.getfield 10, 3) := by decide +kernel
theorem d_LL_publish_4 : decode b_LL_publish 4 = .ok (.invokevirtual 49, 3) := by decide +kernel
theorem d_LL_publish_7 : decode b_LL_publish 7 = .ok (.lstore_n 1, 1) := by decide +kernel
theorem d_LL_publish_8 : decode b_LL_publish 8 = .ok (.aload_n 0, 1) := by decide +kernel
theorem d_LL_publish_9 : decode b_LL_publish 9 = .ok (.getfield 10, 3) := by decide +kernel
theorem d_LL_publish_12 : decode b_LL_publish 12 = .ok (.invokevirtual 53, 3) := by decide +kernel
theorem d_LL_publish_15 : decode b_LL_publish 15 = .ok (.astore_n 3, 1) := by decide +kernel
theorem d_LL_publish_16 : decode b_LL_publish 16 = .ok (.aload_n 0, 1) := by decide +kernel
theorem d_LL_publish_17 : decode b_LL_publish 17 = .ok (.getfield 10, 3) := by decide +kernel
theorem d_LL_publish_20 : decode b_LL_publish 20 = .ok (.invokevirtual 57, 3) := by decide +kernel
theorem d_LL_publish_23 : decode b_LL_publish 23 = .ok (.astore 4, 2) := by decide +kernel
theorem d_LL_publish_25 : decode b_LL_publish 25 = .ok (.aload_n 0, 1) := by decide +kernel
theorem d_LL_publish_26 : decode b_LL_publish 26 = .ok (.getfield 10, 3) := by decide +kernel
theorem d_LL_publish_29 : decode b_LL_publish 29 = .ok (.invokevirtual 61, 3) := by decide +kernel
theorem d_LL_publish_32 : decode b_LL_publish 32 = .ok (.istore 5, 2) := by decide +kernel
theorem d_LL_publish_34 : decode b_LL_publish 34 = .ok (.lload_n 1, 1) := by decide +kernel
theorem d_LL_publish_35 : decode b_LL_publish 35 = .ok (.lconst 0, 1) := by decide +kernel
theorem d_LL_publish_36 : decode b_LL_publish 36 = .ok (.lcmp, 1) := by decide +kernel
theorem d_LL_publish_37 : decode b_LL_publish 37 = .ok (.ifCond .eq 12, 3) := by decide +kernel
theorem d_LL_publish_40 : decode b_LL_publish 40 = .ok (.aload_n 3, 1) := by decide +kernel
theorem d_LL_publish_41 : decode b_LL_publish 41 = .ok (.ifnull 8, 3) := by decide +kernel
theorem d_LL_publish_44 : decode b_LL_publish 44 = .ok (.iload 5, 2) := by decide +kernel
theorem d_LL_publish_46 : decode b_LL_publish 46 = .ok (.ifCond .ne 6, 3) := by decide +kernel
theorem d_LL_publish_49 : decode b_LL_publish 49 = .ok (.bipush (-3), 2) := by decide +kernel
theorem d_LL_publish_51 : decode b_LL_publish 51 = .ok (.ireturn, 1) := by decide +kernel
theorem d_LL_publish_52 : decode b_LL_publish 52 = .ok (.aload_n 0, 1) := by decide +kernel
theorem d_LL_publish_53 : decode b_LL_publish 53 = .ok (.lload_n 1, 1) := by decide +kernel
theorem d_LL_publish_54 : decode b_LL_publish 54 = .ok (.aload_n 3, 1) := by decide +kernel
theorem d_LL_publish_55 : decode b_LL_publish 55 = .ok (.iconst 1, 1) := by decide +kernel
theorem d_LL_publish_56 : decode b_LL_publish 56 = .ok (.invokestatic 65, 3) := by decide +kernel
theorem d_LL_publish_59 : decode b_LL_publish 59 = .ok (.invokevirtual 71, 3) := by decide +kernel
theorem d_LL_publish_62 : decode b_LL_publish 62 = .ok (.ifnull 5, 3) := by decide +kernel
theorem d_LL_publish_65 : decode b_LL_publish 65 = .ok (.iconst (-1), 1) := by decide +kernel
theorem d_LL_publish_66 : decode b_LL_publish 66 = .ok (.ireturn, 1) := by decide +kernel
theorem d_LL_publish_67 : decode b_LL_publish 67 = .ok (.aload_n 0, 1) := by decide +kernel
theorem d_LL_publish_68 : decode b_LL_publish 68 = .ok (.getfield 22, 3) := by decide +kernel
theorem d_LL_publish_71 : decode b_LL_publish 71 = .ok (.bipush 20, 2) := by decide +kernel
theorem d_LL_publish_73 : decode b_LL_publish 73 = .ok (.if_icmp .lt 6, 3) := by decide +kernel
theorem d_LL_publish_76 : decode b_LL_publish 76 = .ok (.bipush (-2), 2) := by decide +kernel
theorem d_LL_publish_78 : decode b_LL_publish 78 = .ok (.ireturn, 1) := by decide +kernel
theorem d_LL_publish_79 : decode b_LL_publish 79 = .ok (.aload_n 0, 1) := by decide +kernel
theorem d_LL_publish_80 : decode b_LL_publish 80 = .ok (.getfield 22, 3) := by decide +kernel
theorem d_LL_publish_83 : decode b_LL_publish 83 = .ok (.istore 6, 2) := by decide +kernel
theorem d_LL_publish_85 : decode b_LL_publish 85 = .ok (.aload_n 0, 1) := by decide +kernel
theorem d_LL_publish_86 : decode b_LL_publish 86 = .ok (.getfield 18, 3) := by decide +kernel
theorem d_LL_publish_89 : decode b_LL_publish 89 = .ok (.iload 6, 2) := by decide +kernel
