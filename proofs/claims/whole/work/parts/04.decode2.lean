theorem d_EL_has_17 : decode b_EL_has 17 = .ok (.ireturn, 1) := by decide +kernel
theorem d_LL_entry_0 : decode b_LL_entry 0 = .ok (.aload_n 0, 1) := by decide +kernel
theorem d_LL_entry_1 : decode b_LL_entry 1 = .ok (.getfield 29, 3) := by decide +kernel
theorem d_LL_entry_4 : decode b_LL_entry 4 = .ok (.iload_n 1, 1) := by decide +kernel
theorem d_LL_entry_5 : decode b_LL_entry 5 = .ok (.invokevirtual 141, 3) := by decide +kernel
theorem d_LL_entry_8 : decode b_LL_entry 8 = .ok (.ifCond .eq 18, 3) := by decide +kernel
theorem d_LL_entry_11 : decode b_LL_entry 11 = .ok (.aload_n 0, 1) := by decide +kernel
theorem d_LL_entry_12 : decode b_LL_entry 12 = .ok (.getfield 29, 3) := by decide +kernel
theorem d_LL_entry_15 : decode b_LL_entry 15 = .ok (.getfield 144, 3) := by decide +kernel
theorem d_LL_entry_18 : decode b_LL_entry 18 = .ok (.iload_n 1, 1) := by decide +kernel
theorem d_LL_entry_19 : decode b_LL_entry 19 = .ok (.aaload, 1) := by decide +kernel
theorem d_LL_entry_20 : decode b_LL_entry 20 = .ok (.getfield 145, 3) := by decide +kernel
theorem d_LL_entry_23 : decode b_LL_entry 23 = .ok (.goto 4, 3) := by decide +kernel
theorem d_LL_entry_26 : decode b_LL_entry 26 = .ok (.iconst (-1), 1) := by decide +kernel
theorem d_LL_entry_27 : decode b_LL_entry 27 = .ok (.ireturn, 1) := by decide +kernel
theorem d_LL_depth_0 : decode b_LL_depth 0 = .ok (.aload_n 0, 1) := by decide +kernel
theorem d_LL_depth_1 : decode b_LL_depth 1 = .ok (.getfield 29, 3) := by decide +kernel
theorem d_LL_depth_4 : decode b_LL_depth 4 = .ok (.iload_n 1, 1) := by decide +kernel
theorem d_LL_depth_5 : decode b_LL_depth 5 = .ok (.invokevirtual 141, 3) := by decide +kernel
theorem d_LL_depth_8 : decode b_LL_depth 8 = .ok (.ifCond .eq 15, 3) := by decide +kernel
theorem d_LL_depth_11 : decode b_LL_depth 11 = .ok (.aload_n 0, 1) := by decide +kernel
theorem d_LL_depth_12 : decode b_LL_depth 12 = .ok (.getfield 29, 3) := by decide +kernel
theorem d_LL_depth_15 : decode b_LL_depth 15 = .ok (.getfield 148, 3) := by decide +kernel
theorem d_LL_depth_18 : decode b_LL_depth 18 = .ok (.iload_n 1, 1) := by decide +kernel
theorem d_LL_depth_19 : decode b_LL_depth 19 = .ok (.iaload, 1) := by decide +kernel
theorem d_LL_depth_20 : decode b_LL_depth 20 = .ok (.goto 4, 3) := by decide +kernel
theorem d_LL_depth_23 : decode b_LL_depth 23 = .ok (.iconst (-1), 1) := by decide +kernel
theorem d_LL_depth_24 : decode b_LL_depth 24 = .ok (.ireturn, 1) := by decide +kernel
theorem d_LL_parent_0 : decode b_LL_parent 0 = .ok (.iload_n 1, 1) := by decide +kernel
theorem d_LL_parent_1 : decode b_LL_parent 1 = .ok (.ifCond .eq 26, 3) := by decide +kernel
theorem d_LL_parent_4 : decode b_LL_parent 4 = .ok (.aload_n 0, 1) := by decide +kernel
theorem d_LL_parent_5 : decode b_LL_parent 5 = .ok (.getfield 29, 3) := by decide +kernel
theorem d_LL_parent_8 : decode b_LL_parent 8 = .ok (.iload_n 1, 1) := by decide +kernel
theorem d_LL_parent_9 : decode b_LL_parent 9 = .ok (.invokevirtual 141, 3) := by decide +kernel
theorem d_LL_parent_12 : decode b_LL_parent 12 = .ok (.ifCond .eq 15, 3) := by decide +kernel
theorem d_LL_parent_15 : decode b_LL_parent 15 = .ok (.aload_n 0, 1) := by decide +kernel
theorem d_LL_parent_16 : decode b_LL_parent 16 = .ok (.getfield 29, 3) := by decide +kernel
theorem d_LL_parent_19 : decode b_LL_parent 19 = .ok (.getfield 152, 3) := by decide +kernel
theorem d_LL_parent_22 : decode b_LL_parent 22 = .ok (.iload_n 1, 1) := by decide +kernel
theorem d_LL_parent_23 : decode b_LL_parent 23 = .ok (.iaload, 1) := by decide +kernel
theorem d_LL_parent_24 : decode b_LL_parent 24 = .ok (.goto 4, 3) := by decide +kernel
theorem d_LL_parent_27 : decode b_LL_parent 27 = .ok (.iconst (-1), 1) := by decide +kernel
theorem d_LL_parent_28 : decode b_LL_parent 28 = .ok (.ireturn, 1) := by decide +kernel
theorem d_AR_hasClass_0 : decode b_AR_hasClass 0 = .ok (.aload_n 0, 1) := by decide +kernel
theorem d_AR_hasClass_1 : decode b_AR_hasClass 1 = .ok (.getfield 21, 3) := by decide +kernel
theorem d_AR_hasClass_4 : decode b_AR_hasClass 4 = .ok (.iconst 1, 1) := by decide +kernel
theorem d_AR_hasClass_5 : decode b_AR_hasClass 5 = .ok (.iload_n 1, 1) := by decide +kernel
theorem d_AR_hasClass_6 : decode b_AR_hasClass 6 = .ok (.ishl, 1) := by decide +kernel
theorem d_AR_hasClass_7 : decode b_AR_hasClass 7 = .ok (.iand, 1) := by decide +kernel
theorem d_AR_hasClass_8 : decode b_AR_hasClass 8 = .ok (.ifCond .eq 7, 3) := by decide +kernel
theorem d_AR_hasClass_11 : decode b_AR_hasClass 11 = .ok (.iconst 1, 1) := by decide +kernel
theorem d_AR_hasClass_12 : decode b_AR_hasClass 12 = .ok (.goto 4, 3) := by decide +kernel
theorem d_AR_hasClass_15 : decode b_AR_hasClass 15 = .ok (.iconst 0, 1) := by decide +kernel
theorem d_AR_hasClass_16 : decode b_AR_hasClass 16 = .ok (.ireturn, 1) := by decide +kernel
theorem d_EL_deepestGiver_0 : decode b_EL_deepestGiver 0 = .ok (.iconst (-1), 1) := by decide +kernel
theorem d_EL_deepestGiver_1 : decode b_EL_deepestGiver 1 = .ok (.istore_n 3, 1) := by decide +kernel
theorem d_EL_deepestGiver_2 : decode b_EL_deepestGiver 2 = .ok (.iconst 0, 1) := by decide +kernel
theorem d_EL_deepestGiver_3 : decode b_EL_deepestGiver 3 = .ok (.istore 4, 2) := by decide +kernel
theorem d_EL_deepestGiver_5 : decode b_EL_deepestGiver 5 = .ok (.iload 4, 2) := by decide +kernel
theorem d_EL_deepestGiver_7 : decode b_EL_deepestGiver 7 = .ok (.aload_n 0, 1) := by decide +kernel
theorem d_EL_deepestGiver_8 : decode b_EL_deepestGiver 8 = .ok (.getfield 30, 3) := by decide +kernel
theorem d_EL_deepestGiver_11 : decode b_EL_deepestGiver 11 = .ok (.if_icmp .ge 70, 3) := by decide +kernel
theorem d_EL_deepestGiver_14 : decode b_EL_deepestGiver 14 = .ok (.aload_n 0, 1) := by decide +kernel
theorem d_EL_deepestGiver_15 : decode b_EL_deepestGiver 15 = .ok (.getfield 17, 3) := by decide +kernel
theorem d_EL_deepestGiver_18 : decode b_EL_deepestGiver 18 = .ok (.iload 4, 2) := by decide +kernel
theorem d_EL_deepestGiver_20 : decode b_EL_deepestGiver 20 = .ok (.iaload, 1) := by decide +kernel
theorem d_EL_deepestGiver_21 : decode b_EL_deepestGiver 21 = .ok (.iload_n 1, 1) := by decide +kernel
theorem d_EL_deepestGiver_22 : decode b_EL_deepestGiver 22 = .ok (.if_icmp .lt 21, 3) := by decide +kernel
theorem d_EL_deepestGiver_25 : decode b_EL_deepestGiver 25 = .ok (.aload_n 0, 1) := by decide +kernel
theorem d_EL_deepestGiver_26 : decode b_EL_deepestGiver 26 = .ok (.getfield 11, 3) := by decide +kernel
theorem d_EL_deepestGiver_29 : decode b_EL_deepestGiver 29 = .ok (.iload 4, 2) := by decide +kernel
theorem d_EL_deepestGiver_31 : decode b_EL_deepestGiver 31 = .ok (.aaload, 1) := by decide +kernel
theorem d_EL_deepestGiver_32 : decode b_EL_deepestGiver 32 = .ok (.iload_n 2, 1) := by decide +kernel
theorem d_EL_deepestGiver_33 : decode b_EL_deepestGiver 33 = .ok (.invokevirtual 42, 3) := by decide +kernel
theorem d_EL_deepestGiver_36 : decode b_EL_deepestGiver 36 = .ok (.ifCond .eq 7, 3) := by decide +kernel
theorem d_EL_deepestGiver_39 : decode b_EL_deepestGiver 39 = .ok (.iconst 1, 1) := by decide +kernel
theorem d_EL_deepestGiver_40 : decode b_EL_deepestGiver 40 = .ok (.goto 4, 3) := by decide +kernel
theorem d_EL_deepestGiver_43 : decode b_EL_deepestGiver 43 = .ok (.iconst 0, 1) := by decide +kernel
theorem d_EL_deepestGiver_44 : decode b_EL_deepestGiver 44 = .ok (.istore 5, 2) := by decide +kernel
theorem d_EL_deepestGiver_46 : decode b_EL_deepestGiver 46 = .ok (.iload 5, 2) := by decide +kernel
theorem d_EL_deepestGiver_48 : decode b_EL_deepestGiver 48 = .ok (.ifCond .eq 27, 3) := by decide +kernel
theorem d_EL_deepestGiver_51 : decode b_EL_deepestGiver 51 = .ok (.iload_n 3, 1) := by decide +kernel
theorem d_EL_deepestGiver_52 : decode b_EL_deepestGiver 52 = .ok (.iconst (-1), 1) := by decide +kernel
theorem d_EL_deepestGiver_53 : decode b_EL_deepestGiver 53 = .ok (.if_icmp .eq 19, 3) := by decide +kernel
theorem d_EL_deepestGiver_56 : decode b_EL_deepestGiver 56 = .ok (.aload_n 0, 1) := by decide +kernel
theorem d_EL_deepestGiver_57 : decode b_EL_deepestGiver 57 = .ok (.getfield 17, 3) := by decide +kernel
theorem d_EL_deepestGiver_60 : decode b_EL_deepestGiver 60 = .ok (.iload 4, 2) := by decide +kernel
theorem d_EL_deepestGiver_62 : decode b_EL_deepestGiver 62 = .ok (.iaload, 1) := by decide +kernel
theorem d_EL_deepestGiver_63 : decode b_EL_deepestGiver 63 = .ok (.aload_n 0, 1) := by decide +kernel
theorem d_EL_deepestGiver_64 : decode b_EL_deepestGiver 64 = .ok (.getfield 17, 3) := by decide +kernel
theorem d_EL_deepestGiver_67 : decode b_EL_deepestGiver 67 = .ok (.iload_n 3, 1) := by decide +kernel
theorem d_EL_deepestGiver_68 : decode b_EL_deepestGiver 68 = .ok (.iaload, 1) := by decide +kernel
theorem d_EL_deepestGiver_69 : decode b_EL_deepestGiver 69 = .ok (.if_icmp .le 6, 3) := by decide +kernel
theorem d_EL_deepestGiver_72 : decode b_EL_deepestGiver 72 = .ok (.iload 4, 2) := by decide +kernel
theorem d_EL_deepestGiver_74 : decode b_EL_deepestGiver 74 = .ok (.istore_n 3, 1) := by decide +kernel
theorem d_EL_deepestGiver_75 : decode b_EL_deepestGiver 75 = .ok (.iinc 4 1, 3) := by decide +kernel
theorem d_EL_deepestGiver_78 : decode b_EL_deepestGiver 78 = .ok (.goto (-73), 3) := by decide +kernel
theorem d_EL_deepestGiver_81 : decode b_EL_deepestGiver 81 = .ok (.iload_n 3, 1) := by decide +kernel
theorem d_EL_deepestGiver_82 : decode b_EL_deepestGiver 82 = .ok (.ireturn, 1) := by decide +kernel
theorem d_LL_find_0 : decode b_LL_find 0 = .ok (.iload_n 1, 1) := by decide +kernel
theorem d_LL_find_1 : decode b_LL_find 1 = .ok (.ifCond .lt 10, 3) := by decide +kernel
theorem d_LL_find_4 : decode b_LL_find 4 = .ok (.iload_n 2, 1) := by decide +kernel
theorem d_LL_find_5 : decode b_LL_find 5 = .ok (.invokestatic 112, 3) := by decide +kernel
theorem d_LL_find_8 : decode b_LL_find 8 = .ok (.ifCond .ne 5, 3) := by decide +kernel
theorem d_LL_find_11 : decode b_LL_find 11 = .ok (.iconst (-1), 1) := by decide +kernel
theorem d_LL_find_12 : decode b_LL_find 12 = .ok (.ireturn, 1) := by decide +kernel
theorem d_LL_find_13 : decode b_LL_find 13 = .ok (.aload_n 0, 1) := by decide +kernel
theorem d_LL_find_14 : decode b_LL_find 14 = .ok (.getfield 29, 3) := by decide +kernel
theorem d_LL_find_17 : decode b_LL_find 17 = .ok (.iload_n 1, 1) := by decide +kernel
theorem d_LL_find_18 : decode b_LL_find 18 = .ok (.iload_n 2, 1) := by decide +kernel
theorem d_LL_find_19 : decode b_LL_find 19 = .ok (.invokevirtual 155, 3) := by decide +kernel
theorem d_LL_find_22 : decode b_LL_find 22 = .ok (.istore_n 3, 1) := by decide +kernel
theorem d_LL_find_23 : decode b_LL_find 23 = .ok (.iload_n 3, 1) := by decide +kernel
theorem d_LL_find_24 : decode b_LL_find 24 = .ok (.iconst (-1), 1) := by decide +kernel
theorem d_LL_find_25 : decode b_LL_find 25 = .ok (.if_icmp .ne 7, 3) := by decide +kernel
theorem d_LL_find_28 : decode b_LL_find 28 = .ok (.iconst (-1), 1) := by decide +kernel
theorem d_LL_find_29 : decode b_LL_find 29 = .ok (.goto 4, 3) := by decide +kernel
theorem d_LL_find_32 : decode b_LL_find 32 = .ok (.iload_n 3, 1) := by decide +kernel
theorem d_LL_find_33 : decode b_LL_find 33 = .ok (.ireturn, 1) := by decide +kernel
theorem d_LL_text_0 : decode b_LL_text 0 = .ok (.aload_n 0, 1) := by decide +kernel
theorem d_LL_text_1 : decode b_LL_text 1 = .ok (.iload_n 1, 1) := by decide +kernel
theorem d_LL_text_2 : decode b_LL_text 2 = .ok (.invokevirtual 82, 3) := by decide +kernel
theorem d_LL_text_5 : decode b_LL_text 5 = .ok (.astore_n 3, 1) := by decide +kernel
theorem d_LL_text_6 : decode b_LL_text 6 = .ok (.aload_n 3, 1) := by decide +kernel
theorem d_LL_text_7 : decode b_LL_text 7 = .ok (.ifnonnull 5, 3) := by decide +kernel
theorem d_LL_text_10 : decode b_LL_text 10 = .ok (.iconst (-1), 1) := by decide +kernel
theorem d_LL_text_11 : decode b_LL_text 11 = .ok (.ireturn, 1) := by decide +kernel
theorem d_LL_text_12 : decode b_LL_text 12 = .ok (.iload_n 2, 1) := by decide +kernel
theorem d_LL_text_13 : decode b_LL_text 13 = .ok (.iconst (-1), 1) := by decide +kernel
theorem d_LL_text_14 : decode b_LL_text 14 = .ok (.if_icmp .ne 9, 3) := by decide +kernel
theorem d_LL_text_17 : decode b_LL_text 17 = .ok (.aload_n 3, 1) := by decide +kernel
theorem d_LL_text_18 : decode b_LL_text 18 = .ok (.getfield 159, 3) := by decide +kernel
theorem d_LL_text_21 : decode b_LL_text 21 = .ok (.arraylength, 1) := by decide +kernel
theorem d_LL_text_22 : decode b_LL_text 22 = .ok (.ireturn, 1) := by decide +kernel
theorem d_LL_text_23 : decode b_LL_text 23 = .ok (.iload_n 2, 1) := by decide +kernel
theorem d_LL_text_24 : decode b_LL_text 24 = .ok (.ifCond .lt 12, 3) := by decide +kernel
theorem d_LL_text_27 : decode b_LL_text 27 = .ok (.iload_n 2, 1) := by decide +kernel
theorem d_LL_text_28 : decode b_LL_text 28 = .ok (.aload_n 3, 1) := by decide +kernel
theorem d_LL_text_29 : decode b_LL_text 29 = .ok (.getfield 159, 3) := by decide +kernel
theorem d_LL_text_32 : decode b_LL_text 32 = .ok (.arraylength, 1) := by decide +kernel
theorem d_LL_text_33 : decode b_LL_text 33 = .ok (.if_icmp .lt 5, 3) := by decide +kernel
theorem d_LL_text_36 : decode b_LL_text 36 = .ok (.iconst (-1), 1) := by decide +kernel
theorem d_LL_text_37 : decode b_LL_text 37 = .ok (.ireturn, 1) := by decide +kernel
theorem d_LL_text_38 : decode b_LL_text 38 = .ok (.aload_n 3, 1) := by decide +kernel
theorem d_LL_text_39 : decode b_LL_text 39 = .ok (.getfield 159, 3) := by decide +kernel
theorem d_LL_text_42 : decode b_LL_text 42 = .ok (.iload_n 2, 1) := by decide +kernel
theorem d_LL_text_43 : decode b_LL_text 43 = .ok (.caload, 1) := by decide +kernel
theorem d_LL_text_44 : decode b_LL_text 44 = .ok (.ireturn, 1) := by decide +kernel
theorem d_LL_retiredArtifacts_0 : decode b_LL_retiredArtifacts 0 = .ok (.iconst 0, 1) := by decide +kernel
theorem d_LL_retiredArtifacts_1 : decode b_LL_retiredArtifacts 1 = .ok (.istore_n 1, 1) := by decide +kernel
theorem d_LL_retiredArtifacts_2 : decode b_LL_retiredArtifacts 2 = .ok (.iconst 0, 1) := by decide +kernel
theorem d_LL_retiredArtifacts_3 : decode b_LL_retiredArtifacts 3 = .ok (.istore_n 2, 1) := by decide +kernel
theorem d_LL_retiredArtifacts_4 : decode b_LL_retiredArtifacts 4 = .ok (.iload_n 2, 1) := by decide +kernel
theorem d_LL_retiredArtifacts_5 : decode b_LL_retiredArtifacts 5 = .ok (.aload_n 0, 1) := by decide +kernel
theorem d_LL_retiredArtifacts_6 : decode b_LL_retiredArtifacts 6 = .ok (.getfield 22, 3) := by decide +kernel
theorem d_LL_retiredArtifacts_9 : decode b_LL_retiredArtifacts 9 = .ok (.if_icmp .ge 24, 3) := by decide +kernel
theorem d_LL_retiredArtifacts_12 : decode b_LL_retiredArtifacts 12 = .ok (.aload_n 0, 1) := by decide +kernel
theorem d_LL_retiredArtifacts_13 : decode b_LL_retiredArtifacts 13 = .ok (.getfield 18, 3) := by decide +kernel
theorem d_LL_retiredArtifacts_16 : decode b_LL_retiredArtifacts 16 = .ok (.iload_n 2, 1) := by decide +kernel
theorem d_LL_retiredArtifacts_17 : decode b_LL_retiredArtifacts 17 = .ok (.aaload, 1) := by decide +kernel
theorem d_LL_retiredArtifacts_18 : decode b_LL_retiredArtifacts 18 = .ok (.getfield 120, 3) := by decide +kernel
theorem d_LL_retiredArtifacts_21 : decode b_LL_retiredArtifacts 21 = .ok (.ifCond .eq 6, 3) := by decide +kernel
theorem d_LL_retiredArtifacts_24 : decode b_LL_retiredArtifacts 24 = .ok (.iinc 1 1, 3) := by decide +kernel
theorem d_LL_retiredArtifacts_27 : decode b_LL_retiredArtifacts 27 = .ok (.iinc 2 1, 3) := by decide +kernel
theorem d_LL_retiredArtifacts_30 : decode b_LL_retiredArtifacts 30 = .ok (.goto (-26), 3) := by decide +kernel
theorem d_LL_retiredArtifacts_33 : decode b_LL_retiredArtifacts 33 = .ok (.iload_n 1, 1) := by decide +kernel
theorem d_LL_retiredArtifacts_34 : decode b_LL_retiredArtifacts 34 = .ok (.ireturn, 1) := by decide +kernel
theorem d_JM_max_0 : decode b_JM_max 0 = .ok (.iload_n 0, 1) := by decide +kernel
theorem d_JM_max_1 : decode b_JM_max 1 = .ok (.iload_n 1, 1) := by decide +kernel
theorem d_JM_max_2 : decode b_JM_max 2 = .ok (.if_icmp .lt 7, 3) := by decide +kernel
theorem d_JM_max_5 : decode b_JM_max 5 = .ok (.iload_n 0, 1) := by decide +kernel
theorem d_JM_max_6 : decode b_JM_max 6 = .ok (.goto 4, 3) := by decide +kernel
theorem d_JM_max_9 : decode b_JM_max 9 = .ok (.iload_n 1, 1) := by decide +kernel
theorem d_JM_max_10 : decode b_JM_max 10 = .ok (.ireturn, 1) := by decide +kernel
theorem d_EL_greatestDepth_0 : decode b_EL_greatestDepth 0 = .ok (.iconst 0, 1) := by decide +kernel
theorem d_EL_greatestDepth_1 : decode b_EL_greatestDepth 1 = .ok (.istore_n 1, 1) := by decide +kernel
theorem d_EL_greatestDepth_2 : decode b_EL_greatestDepth 2 = .ok (.iconst 0, 1) := by decide +kernel
theorem d_EL_greatestDepth_3 : decode b_EL_greatestDepth 3 = .ok (.istore_n 2, 1) := by decide +kernel
theorem d_EL_greatestDepth_4 : decode b_EL_greatestDepth 4 = .ok (.iload_n 2, 1) := by decide +kernel
theorem d_EL_greatestDepth_5 : decode b_EL_greatestDepth 5 = .ok (.aload_n 0, 1) := by decide +kernel
theorem d_EL_greatestDepth_6 : decode b_EL_greatestDepth 6 = .ok (.getfield 30, 3) := by decide +kernel
theorem d_EL_greatestDepth_9 : decode b_EL_greatestDepth 9 = .ok (.if_icmp .ge 20, 3) := by decide +kernel
theorem d_EL_greatestDepth_12 : decode b_EL_greatestDepth 12 = .ok (.iload_n 1, 1) := by decide +kernel
theorem d_EL_greatestDepth_13 : decode b_EL_greatestDepth 13 = .ok (.aload_n 0, 1) := by decide +kernel
theorem d_EL_greatestDepth_14 : decode b_EL_greatestDepth 14 = .ok (.getfield 17, 3) := by decide +kernel
theorem d_EL_greatestDepth_17 : decode b_EL_greatestDepth 17 = .ok (.iload_n 2, 1) := by decide +kernel
theorem d_EL_greatestDepth_18 : decode b_EL_greatestDepth 18 = .ok (.iaload, 1) := by decide +kernel
theorem d_EL_greatestDepth_19 : decode b_EL_greatestDepth 19 = .ok (.invokestatic 46, 3) := by decide +kernel
theorem d_EL_greatestDepth_22 : decode b_EL_greatestDepth 22 = .ok (.istore_n 1, 1) := by decide +kernel
theorem d_EL_greatestDepth_23 : decode b_EL_greatestDepth 23 = .ok (.iinc 2 1, 3) := by decide +kernel
theorem d_EL_greatestDepth_26 : decode b_EL_greatestDepth 26 = .ok (.goto (-22), 3) := by decide +kernel
theorem d_EL_greatestDepth_29 : decode b_EL_greatestDepth 29 = .ok (.iload_n 1, 1) := by decide +kernel
theorem d_EL_greatestDepth_30 : decode b_EL_greatestDepth 30 = .ok (.ireturn, 1) := by decide +kernel
theorem d_JI_bitCount_0 : decode b_JI_bitCount 0 = .ok (.iload_n 0, 1) := by decide +kernel
theorem d_JI_bitCount_1 : decode b_JI_bitCount 1 = .ok (.iload_n 0, 1) := by decide +kernel
theorem d_JI_bitCount_2 : decode b_JI_bitCount 2 = .ok (.iconst 1, 1) := by decide +kernel
theorem d_JI_bitCount_3 : decode b_JI_bitCount 3 = .ok (.iushr, 1) := by decide +kernel
theorem d_JI_bitCount_4 : decode b_JI_bitCount 4 = .ok (.ldc_w 265, 3) := by decide +kernel
theorem d_JI_bitCount_7 : decode b_JI_bitCount 7 = .ok (.iand, 1) := by decide +kernel
theorem d_JI_bitCount_8 : decode b_JI_bitCount 8 = .ok (.isub, 1) := by decide +kernel
theorem d_JI_bitCount_9 : decode b_JI_bitCount 9 = .ok (.istore_n 0, 1) := by decide +kernel
theorem d_JI_bitCount_10 : decode b_JI_bitCount 10 = .ok (.iload_n 0, 1) := by decide +kernel
theorem d_JI_bitCount_11 : decode b_JI_bitCount 11 = .ok (.ldc_w 266, 3) := by decide +kernel
theorem d_JI_bitCount_14 : decode b_JI_bitCount 14 = .ok (.iand, 1) := by decide +kernel
theorem d_JI_bitCount_15 : decode b_JI_bitCount 15 = .ok (.iload_n 0, 1) := by decide +kernel
theorem d_JI_bitCount_16 : decode b_JI_bitCount 16 = .ok (.iconst 2, 1) := by decide +kernel
theorem d_JI_bitCount_17 : decode b_JI_bitCount 17 = .ok (.iushr, 1) := by decide +kernel
theorem d_JI_bitCount_18 : decode b_JI_bitCount 18 = .ok (.ldc_w 266, 3) := by decide +kernel
theorem d_JI_bitCount_21 : decode b_JI_bitCount 21 = .ok (.iand, 1) := by decide +kernel
theorem d_JI_bitCount_22 : decode b_JI_bitCount 22 = .ok (.iadd, 1) := by decide +kernel
theorem d_JI_bitCount_23 : decode b_JI_bitCount 23 = .ok (.istore_n 0, 1) := by decide +kernel
theorem d_JI_bitCount_24 : decode b_JI_bitCount 24 = .ok (.iload_n 0, 1) := by decide +kernel
theorem d_JI_bitCount_25 : decode b_JI_bitCount 25 = .ok (.iload_n 0, 1) := by decide +kernel
theorem d_JI_bitCount_26 : decode b_JI_bitCount 26 = .ok (.iconst 4, 1) := by decide +kernel
theorem d_JI_bitCount_27 : decode b_JI_bitCount 27 = .ok (.iushr, 1) := by decide +kernel
theorem d_JI_bitCount_28 : decode b_JI_bitCount 28 = .ok (.iadd, 1) := by decide +kernel
theorem d_JI_bitCount_29 : decode b_JI_bitCount 29 = .ok (.ldc_w 267, 3) := by decide +kernel
theorem d_JI_bitCount_32 : decode b_JI_bitCount 32 = .ok (.iand, 1) := by decide +kernel
theorem d_JI_bitCount_33 : decode b_JI_bitCount 33 = .ok (.istore_n 0, 1) := by decide +kernel
theorem d_JI_bitCount_34 : decode b_JI_bitCount 34 = .ok (.iload_n 0, 1) := by decide +kernel
theorem d_JI_bitCount_35 : decode b_JI_bitCount 35 = .ok (.iload_n 0, 1) := by decide +kernel
theorem d_JI_bitCount_36 : decode b_JI_bitCount 36 = .ok (.bipush 8, 2) := by decide +kernel
theorem d_JI_bitCount_38 : decode b_JI_bitCount 38 = .ok (.iushr, 1) := by decide +kernel
theorem d_JI_bitCount_39 : decode b_JI_bitCount 39 = .ok (.iadd, 1) := by decide +kernel
theorem d_JI_bitCount_40 : decode b_JI_bitCount 40 = .ok (.istore_n 0, 1) := by decide +kernel
theorem d_JI_bitCount_41 : decode b_JI_bitCount 41 = .ok (.iload_n 0, 1) := by decide +kernel
theorem d_JI_bitCount_42 : decode b_JI_bitCount 42 = .ok (.iload_n 0, 1) := by decide +kernel
theorem d_JI_bitCount_43 : decode b_JI_bitCount 43 = .ok (.bipush 16, 2) := by decide +kernel
theorem d_JI_bitCount_45 : decode b_JI_bitCount 45 = .ok (.iushr, 1) := by decide +kernel
theorem d_JI_bitCount_46 : decode b_JI_bitCount 46 = .ok (.iadd, 1) := by decide +kernel
theorem d_JI_bitCount_47 : decode b_JI_bitCount 47 = .ok (.istore_n 0, 1) := by decide +kernel
theorem d_JI_bitCount_48 : decode b_JI_bitCount 48 = .ok (.iload_n 0, 1) := by decide +kernel
theorem d_JI_bitCount_49 : decode b_JI_bitCount 49 = .ok (.bipush 63, 2) := by decide +kernel
theorem d_JI_bitCount_51 : decode b_JI_bitCount 51 = .ok (.iand, 1) := by decide +kernel
theorem d_JI_bitCount_52 : decode b_JI_bitCount 52 = .ok (.ireturn, 1) := by decide +kernel
theorem d_EL_sharedClasses_0 : decode b_EL_sharedClasses 0 = .ok (.iconst 0, 1) := by decide +kernel
theorem d_EL_sharedClasses_1 : decode b_EL_sharedClasses 1 = .ok (.istore_n 1, 1) := by decide +kernel
theorem d_EL_sharedClasses_2 : decode b_EL_sharedClasses 2 = .ok (.iconst 0, 1) := by decide +kernel
theorem d_EL_sharedClasses_3 : decode b_EL_sharedClasses 3 = .ok (.istore_n 2, 1) := by decide +kernel
theorem d_EL_sharedClasses_4 : decode b_EL_sharedClasses 4 = .ok (.iconst 0, 1) := by decide +kernel
theorem d_EL_sharedClasses_5 : decode b_EL_sharedClasses 5 = .ok (.istore_n 3, 1) := by decide +kernel
theorem d_EL_sharedClasses_6 : decode b_EL_sharedClasses 6 = .ok (.iload_n 3, 1) := by decide +kernel
theorem d_EL_sharedClasses_7 : decode b_EL_sharedClasses 7 = .ok (.aload_n 0, 1) := by decide +kernel
theorem d_EL_sharedClasses_8 : decode b_EL_sharedClasses 8 = .ok (.getfield 30, 3) := by decide +kernel
theorem d_EL_sharedClasses_11 : decode b_EL_sharedClasses 11 = .ok (.if_icmp .ge 35, 3) := by decide +kernel
theorem d_EL_sharedClasses_14 : decode b_EL_sharedClasses 14 = .ok (.iload_n 2, 1) := by decide +kernel
theorem d_EL_sharedClasses_15 : decode b_EL_sharedClasses 15 = .ok (.iload_n 1, 1) := by decide +kernel
theorem d_EL_sharedClasses_16 : decode b_EL_sharedClasses 16 = .ok (.aload_n 0, 1) := by decide +kernel
theorem d_EL_sharedClasses_17 : decode b_EL_sharedClasses 17 = .ok (.getfield 11, 3) := by decide +kernel
theorem d_EL_sharedClasses_20 : decode b_EL_sharedClasses 20 = .ok (.iload_n 3, 1) := by decide +kernel
theorem d_EL_sharedClasses_21 : decode b_EL_sharedClasses 21 = .ok (.aaload, 1) := by decide +kernel
theorem d_EL_sharedClasses_22 : decode b_EL_sharedClasses 22 = .ok (.getfield 52, 3) := by decide +kernel
theorem d_EL_sharedClasses_25 : decode b_EL_sharedClasses 25 = .ok (.iand, 1) := by decide +kernel
theorem d_EL_sharedClasses_26 : decode b_EL_sharedClasses 26 = .ok (.ior, 1) := by decide +kernel
theorem d_EL_sharedClasses_27 : decode b_EL_sharedClasses 27 = .ok (.istore_n 2, 1) := by decide +kernel
theorem d_EL_sharedClasses_28 : decode b_EL_sharedClasses 28 = .ok (.iload_n 1, 1) := by decide +kernel
theorem d_EL_sharedClasses_29 : decode b_EL_sharedClasses 29 = .ok (.aload_n 0, 1) := by decide +kernel
theorem d_EL_sharedClasses_30 : decode b_EL_sharedClasses 30 = .ok (.getfield 11, 3) := by decide +kernel
theorem d_EL_sharedClasses_33 : decode b_EL_sharedClasses 33 = .ok (.iload_n 3, 1) := by decide +kernel
theorem d_EL_sharedClasses_34 : decode b_EL_sharedClasses 34 = .ok (.aaload, 1) := by decide +kernel
theorem d_EL_sharedClasses_35 : decode b_EL_sharedClasses 35 = .ok (.getfield 52, 3) := by decide +kernel
theorem d_EL_sharedClasses_38 : decode b_EL_sharedClasses 38 = .ok (.ior, 1) := by decide +kernel
theorem d_EL_sharedClasses_39 : decode b_EL_sharedClasses 39 = .ok (.istore_n 1, 1) := by decide +kernel
theorem d_EL_sharedClasses_40 : decode b_EL_sharedClasses 40 = .ok (.iinc 3 1, 3) := by decide +kernel
theorem d_EL_sharedClasses_43 : decode b_EL_sharedClasses 43 = .ok (.goto (-37), 3) := by decide +kernel
theorem d_EL_sharedClasses_46 : decode b_EL_sharedClasses 46 = .ok (.iload_n 2, 1) := by decide +kernel
theorem d_EL_sharedClasses_47 : decode b_EL_sharedClasses 47 = .ok (.invokestatic 55, 3) := by decide +kernel
theorem d_EL_sharedClasses_50 : decode b_EL_sharedClasses 50 = .ok (.ireturn, 1) := by decide +kernel
theorem d_LL_count_0 : decode b_LL_count 0 = .ok (.iload_n 1, 1) := by decide +kernel
theorem d_LL_count_1 : decode b_LL_count 1 = .ok (.tableswitch 81 0 5 #[39, 44, 49, 57, 65, 73], 39) := by decide +kernel
theorem d_LL_count_40 : decode b_LL_count 40 = .ok (.aload_n 0, 1) := by decide +kernel
theorem d_LL_count_41 : decode b_LL_count 41 = .ok (.getfield 22, 3) := by decide +kernel
theorem d_LL_count_44 : decode b_LL_count 44 = .ok (.ireturn, 1) := by decide +kernel
theorem d_LL_count_45 : decode b_LL_count 45 = .ok (.aload_n 0, 1) := by decide +kernel
theorem d_LL_count_46 : decode b_LL_count 46 = .ok (.invokevirtual 163, 3) := by decide +kernel
theorem d_LL_count_49 : decode b_LL_count 49 = .ok (.ireturn, 1) := by decide +kernel
theorem d_LL_count_50 : decode b_LL_count 50 = .ok (.aload_n 0, 1) := by decide +kernel
theorem d_LL_count_51 : decode b_LL_count 51 = .ok (.getfield 10, 3) := by decide +kernel
theorem d_LL_count_54 : decode b_LL_count 54 = .ok (.getfield 39, 3) := by decide +kernel
theorem d_LL_count_57 : decode b_LL_count 57 = .ok (.ireturn, 1) := by decide +kernel
theorem d_LL_count_58 : decode b_LL_count 58 = .ok (.aload_n 0, 1) := by decide +kernel
theorem d_LL_count_59 : decode b_LL_count 59 = .ok (.getfield 29, 3) := by decide +kernel
theorem d_LL_count_62 : decode b_LL_count 62 = .ok (.getfield 138, 3) := by decide +kernel
theorem d_LL_count_65 : decode b_LL_count 65 = .ok (.ireturn, 1) := by decide +kernel
theorem d_LL_count_66 : decode b_LL_count 66 = .ok (.aload_n 0, 1) := by decide +kernel
theorem d_LL_count_67 : decode b_LL_count 67 = .ok (.getfield 29, 3) := by decide +kernel
theorem d_LL_count_70 : decode b_LL_count 70 = .ok (.invokevirtual 167, 3) := by decide +kernel
theorem d_LL_count_73 : decode b_LL_count 73 = .ok (.ireturn, 1) := by decide +kernel
theorem d_LL_count_74 : decode b_LL_count 74 = .ok (.aload_n 0, 1) := by decide +kernel
theorem d_LL_count_75 : decode b_LL_count 75 = .ok (.getfield 29, 3) := by decide +kernel
theorem d_LL_count_78 : decode b_LL_count 78 = .ok (.invokevirtual 170, 3) := by decide +kernel
theorem d_LL_count_81 : decode b_LL_count 81 = .ok (.ireturn, 1) := by decide +kernel
theorem d_LL_count_82 : decode b_LL_count 82 = .ok (.iconst (-1), 1) := by decide +kernel
theorem d_LL_count_83 : decode b_LL_count 83 = .ok (.ireturn, 1) := by decide +kernel
