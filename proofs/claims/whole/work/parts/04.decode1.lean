theorem d_LL_publish_91 : decode b_LL_publish 91 = .ok (.new 16, 3) := by decide +kernel
theorem d_LL_publish_94 : decode b_LL_publish 94 = .ok (.dup, 1) := by decide +kernel
theorem d_LL_publish_95 : decode b_LL_publish 95 = .ok (.iload 6, 2) := by decide +kernel
theorem d_LL_publish_97 : decode b_LL_publish 97 = .ok (.lload_n 1, 1) := by decide +kernel
theorem d_LL_publish_98 : decode b_LL_publish 98 = .ok (.aload_n 3, 1) := by decide +kernel
theorem d_LL_publish_99 : decode b_LL_publish 99 = .ok (.aload 4, 2) := by decide +kernel
theorem d_LL_publish_101 : decode b_LL_publish 101 = .ok (.invokespecial 75, 3) := by decide +kernel
theorem d_LL_publish_104 : decode b_LL_publish 104 = .ok (.aastore, 1) := by decide +kernel
theorem d_LL_publish_105 : decode b_LL_publish 105 = .ok (.aload_n 0, 1) := by decide +kernel
theorem d_LL_publish_106 : decode b_LL_publish 106 = .ok (.dup, 1) := by decide +kernel
theorem d_LL_publish_107 : decode b_LL_publish 107 = .ok (.getfield 22, 3) := by decide +kernel
theorem d_LL_publish_110 : decode b_LL_publish 110 = .ok (.iconst 1, 1) := by decide +kernel
theorem d_LL_publish_111 : decode b_LL_publish 111 = .ok (.iadd, 1) := by decide +kernel
theorem d_LL_publish_112 : decode b_LL_publish 112 = .ok (.putfield 22, 3) := by decide +kernel
theorem d_LL_publish_115 : decode b_LL_publish 115 = .ok (.iload 6, 2) := by decide +kernel
theorem d_LL_publish_117 : decode b_LL_publish 117 = .ok (.ireturn, 1) := by decide +kernel
theorem d_LN_takeRestOfRange_0 : decode b_LN_takeRestOfRange 0 = .ok (.aconst_null, 1) := by decide +kernel
theorem d_LN_takeRestOfRange_1 : decode b_LN_takeRestOfRange 1 = .ok (.astore_n 3, 1) := by decide +kernel
theorem d_LN_takeRestOfRange_2 : decode b_LN_takeRestOfRange 2 = .ok (.aload_n 0, 1) := by decide +kernel
theorem d_LN_takeRestOfRange_3 : decode b_LN_takeRestOfRange 3 = .ok (.bipush 93, 2) := by decide +kernel
theorem d_LN_takeRestOfRange_5 : decode b_LN_takeRestOfRange 5 = .ok (.invokevirtual 31, 3) := by decide +kernel
theorem d_LN_takeRestOfRange_8 : decode b_LN_takeRestOfRange 8 = .ok (.ifCond .ne 23, 3) := by decide +kernel
theorem d_LN_takeRestOfRange_11 : decode b_LN_takeRestOfRange 11 = .ok (.aload_n 0, 1) := by decide +kernel
theorem d_LN_takeRestOfRange_12 : decode b_LN_takeRestOfRange 12 = .ok (.bipush 41, 2) := by decide +kernel
theorem d_LN_takeRestOfRange_14 : decode b_LN_takeRestOfRange 14 = .ok (.invokevirtual 31, 3) := by decide +kernel
theorem d_LN_takeRestOfRange_17 : decode b_LN_takeRestOfRange 17 = .ok (.ifCond .ne 14, 3) := by decide +kernel
theorem d_LN_takeRestOfRange_20 : decode b_LN_takeRestOfRange 20 = .ok (.aload_n 0, 1) := by decide +kernel
theorem d_LN_takeRestOfRange_21 : decode b_LN_takeRestOfRange 21 = .ok (.invokevirtual 69, 3) := by decide +kernel
theorem d_LN_takeRestOfRange_24 : decode b_LN_takeRestOfRange 24 = .ok (.astore_n 3, 1) := by decide +kernel
theorem d_LN_takeRestOfRange_25 : decode b_LN_takeRestOfRange 25 = .ok (.aload_n 3, 1) := by decide +kernel
theorem d_LN_takeRestOfRange_26 : decode b_LN_takeRestOfRange 26 = .ok (.ifnonnull 5, 3) := by decide +kernel
theorem d_LN_takeRestOfRange_29 : decode b_LN_takeRestOfRange 29 = .ok (.aconst_null, 1) := by decide +kernel
theorem d_LN_takeRestOfRange_30 : decode b_LN_takeRestOfRange 30 = .ok (.areturn, 1) := by decide +kernel
theorem d_LN_takeRestOfRange_31 : decode b_LN_takeRestOfRange 31 = .ok (.aload_n 0, 1) := by decide +kernel
theorem d_LN_takeRestOfRange_32 : decode b_LN_takeRestOfRange 32 = .ok (.bipush 41, 2) := by decide +kernel
theorem d_LN_takeRestOfRange_34 : decode b_LN_takeRestOfRange 34 = .ok (.invokevirtual 54, 3) := by decide +kernel
theorem d_LN_takeRestOfRange_37 : decode b_LN_takeRestOfRange 37 = .ok (.istore 4, 2) := by decide +kernel
theorem d_LN_takeRestOfRange_39 : decode b_LN_takeRestOfRange 39 = .ok (.iload 4, 2) := by decide +kernel
theorem d_LN_takeRestOfRange_41 : decode b_LN_takeRestOfRange 41 = .ok (.ifCond .ne 14, 3) := by decide +kernel
theorem d_LN_takeRestOfRange_44 : decode b_LN_takeRestOfRange 44 = .ok (.aload_n 0, 1) := by decide +kernel
theorem d_LN_takeRestOfRange_45 : decode b_LN_takeRestOfRange 45 = .ok (.bipush 93, 2) := by decide +kernel
theorem d_LN_takeRestOfRange_47 : decode b_LN_takeRestOfRange 47 = .ok (.invokevirtual 54, 3) := by decide +kernel
theorem d_LN_takeRestOfRange_50 : decode b_LN_takeRestOfRange 50 = .ok (.ifCond .ne 5, 3) := by decide +kernel
theorem d_LN_takeRestOfRange_53 : decode b_LN_takeRestOfRange 53 = .ok (.aconst_null, 1) := by decide +kernel
theorem d_LN_takeRestOfRange_54 : decode b_LN_takeRestOfRange 54 = .ok (.areturn, 1) := by decide +kernel
theorem d_LN_takeRestOfRange_55 : decode b_LN_takeRestOfRange 55 = .ok (.new 74, 3) := by decide +kernel
theorem d_LN_takeRestOfRange_58 : decode b_LN_takeRestOfRange 58 = .ok (.dup, 1) := by decide +kernel
theorem d_LN_takeRestOfRange_59 : decode b_LN_takeRestOfRange 59 = .ok (.iconst 0, 1) := by decide +kernel
theorem d_LN_takeRestOfRange_60 : decode b_LN_takeRestOfRange 60 = .ok (.aload_n 1, 1) := by decide +kernel
theorem d_LN_takeRestOfRange_61 : decode b_LN_takeRestOfRange 61 = .ok (.iload_n 2, 1) := by decide +kernel
theorem d_LN_takeRestOfRange_62 : decode b_LN_takeRestOfRange 62 = .ok (.aload_n 3, 1) := by decide +kernel
theorem d_LN_takeRestOfRange_63 : decode b_LN_takeRestOfRange 63 = .ok (.iload 4, 2) := by decide +kernel
theorem d_LN_takeRestOfRange_65 : decode b_LN_takeRestOfRange 65 = .ok (.invokespecial 82, 3) := by decide +kernel
theorem d_LN_takeRestOfRange_68 : decode b_LN_takeRestOfRange 68 = .ok (.areturn, 1) := by decide +kernel
theorem d_LN_takeRange_0 : decode b_LN_takeRange 0 = .ok (.aload_n 0, 1) := by decide +kernel
theorem d_LN_takeRange_1 : decode b_LN_takeRange 1 = .ok (.bipush 91, 2) := by decide +kernel
theorem d_LN_takeRange_3 : decode b_LN_takeRange 3 = .ok (.invokevirtual 54, 3) := by decide +kernel
theorem d_LN_takeRange_6 : decode b_LN_takeRange 6 = .ok (.istore_n 1, 1) := by decide +kernel
theorem d_LN_takeRange_7 : decode b_LN_takeRange 7 = .ok (.iload_n 1, 1) := by decide +kernel
theorem d_LN_takeRange_8 : decode b_LN_takeRange 8 = .ok (.ifCond .ne 16, 3) := by decide +kernel
theorem d_LN_takeRange_11 : decode b_LN_takeRange 11 = .ok (.aload_n 0, 1) := by decide +kernel
theorem d_LN_takeRange_12 : decode b_LN_takeRange 12 = .ok (.bipush 40, 2) := by decide +kernel
theorem d_LN_takeRange_14 : decode b_LN_takeRange 14 = .ok (.invokevirtual 54, 3) := by decide +kernel
theorem d_LN_takeRange_17 : decode b_LN_takeRange 17 = .ok (.ifCond .eq 7, 3) := by decide +kernel
theorem d_LN_takeRange_20 : decode b_LN_takeRange 20 = .ok (.iconst 1, 1) := by decide +kernel
theorem d_LN_takeRange_21 : decode b_LN_takeRange 21 = .ok (.goto 4, 3) := by decide +kernel
theorem d_LN_takeRange_24 : decode b_LN_takeRange 24 = .ok (.iconst 0, 1) := by decide +kernel
theorem d_LN_takeRange_25 : decode b_LN_takeRange 25 = .ok (.istore_n 2, 1) := by decide +kernel
theorem d_LN_takeRange_26 : decode b_LN_takeRange 26 = .ok (.iload_n 1, 1) := by decide +kernel
theorem d_LN_takeRange_27 : decode b_LN_takeRange 27 = .ok (.ifCond .ne 26, 3) := by decide +kernel
theorem d_LN_takeRange_30 : decode b_LN_takeRange 30 = .ok (.iload_n 2, 1) := by decide +kernel
theorem d_LN_takeRange_31 : decode b_LN_takeRange 31 = .ok (.ifCond .ne 22, 3) := by decide +kernel
theorem d_LN_takeRange_34 : decode b_LN_takeRange 34 = .ok (.aload_n 0, 1) := by decide +kernel
theorem d_LN_takeRange_35 : decode b_LN_takeRange 35 = .ok (.invokevirtual 69, 3) := by decide +kernel
theorem d_LN_takeRange_38 : decode b_LN_takeRange 38 = .ok (.astore_n 3, 1) := by decide +kernel
theorem d_LN_takeRange_39 : decode b_LN_takeRange 39 = .ok (.aload_n 3, 1) := by decide +kernel
theorem d_LN_takeRange_40 : decode b_LN_takeRange 40 = .ok (.ifnonnull 7, 3) := by decide +kernel
theorem d_LN_takeRange_43 : decode b_LN_takeRange 43 = .ok (.aconst_null, 1) := by decide +kernel
theorem d_LN_takeRange_44 : decode b_LN_takeRange 44 = .ok (.goto 8, 3) := by decide +kernel
theorem d_LN_takeRange_47 : decode b_LN_takeRange 47 = .ok (.aload_n 3, 1) := by decide +kernel
theorem d_LN_takeRange_48 : decode b_LN_takeRange 48 = .ok (.iconst 1, 1) := by decide +kernel
theorem d_LN_takeRange_49 : decode b_LN_takeRange 49 = .ok (.invokestatic 73, 3) := by decide +kernel
theorem d_LN_takeRange_52 : decode b_LN_takeRange 52 = .ok (.areturn, 1) := by decide +kernel
theorem d_LN_takeRange_53 : decode b_LN_takeRange 53 = .ok (.aconst_null, 1) := by decide +kernel
theorem d_LN_takeRange_54 : decode b_LN_takeRange 54 = .ok (.astore_n 3, 1) := by decide +kernel
theorem d_LN_takeRange_55 : decode b_LN_takeRange 55 = .ok (.aload_n 0, 1) := by decide +kernel
theorem d_LN_takeRange_56 : decode b_LN_takeRange 56 = .ok (.bipush 44, 2) := by decide +kernel
theorem d_LN_takeRange_58 : decode b_LN_takeRange 58 = .ok (.invokevirtual 31, 3) := by decide +kernel
theorem d_LN_takeRange_61 : decode b_LN_takeRange 61 = .ok (.ifCond .ne 33, 3) := by decide +kernel
theorem d_LN_takeRange_64 : decode b_LN_takeRange 64 = .ok (.aload_n 0, 1) := by decide +kernel
theorem d_LN_takeRange_65 : decode b_LN_takeRange 65 = .ok (.invokevirtual 69, 3) := by decide +kernel
theorem d_LN_takeRange_68 : decode b_LN_takeRange 68 = .ok (.astore_n 3, 1) := by decide +kernel
theorem d_LN_takeRange_69 : decode b_LN_takeRange 69 = .ok (.aload_n 3, 1) := by decide +kernel
theorem d_LN_takeRange_70 : decode b_LN_takeRange 70 = .ok (.ifnonnull 5, 3) := by decide +kernel
theorem d_LN_takeRange_73 : decode b_LN_takeRange 73 = .ok (.aconst_null, 1) := by decide +kernel
theorem d_LN_takeRange_74 : decode b_LN_takeRange 74 = .ok (.areturn, 1) := by decide +kernel
theorem d_LN_takeRange_75 : decode b_LN_takeRange 75 = .ok (.iload_n 1, 1) := by decide +kernel
theorem d_LN_takeRange_76 : decode b_LN_takeRange 76 = .ok (.ifCond .eq 18, 3) := by decide +kernel
theorem d_LN_takeRange_79 : decode b_LN_takeRange 79 = .ok (.aload_n 0, 1) := by decide +kernel
theorem d_LN_takeRange_80 : decode b_LN_takeRange 80 = .ok (.bipush 93, 2) := by decide +kernel
theorem d_LN_takeRange_82 : decode b_LN_takeRange 82 = .ok (.invokevirtual 54, 3) := by decide +kernel
theorem d_LN_takeRange_85 : decode b_LN_takeRange 85 = .ok (.ifCond .eq 9, 3) := by decide +kernel
theorem d_LN_takeRange_88 : decode b_LN_takeRange 88 = .ok (.aload_n 3, 1) := by decide +kernel
theorem d_LN_takeRange_89 : decode b_LN_takeRange 89 = .ok (.iconst 0, 1) := by decide +kernel
theorem d_LN_takeRange_90 : decode b_LN_takeRange 90 = .ok (.invokestatic 73, 3) := by decide +kernel
theorem d_LN_takeRange_93 : decode b_LN_takeRange 93 = .ok (.areturn, 1) := by decide +kernel
theorem d_LN_takeRange_94 : decode b_LN_takeRange 94 = .ok (.aload_n 0, 1) := by decide +kernel
theorem d_LN_takeRange_95 : decode b_LN_takeRange 95 = .ok (.bipush 44, 2) := by decide +kernel
theorem d_LN_takeRange_97 : decode b_LN_takeRange 97 = .ok (.invokevirtual 54, 3) := by decide +kernel
theorem d_LN_takeRange_100 : decode b_LN_takeRange 100 = .ok (.ifCond .eq 12, 3) := by decide +kernel
theorem d_LN_takeRange_103 : decode b_LN_takeRange 103 = .ok (.aload_n 0, 1) := by decide +kernel
theorem d_LN_takeRange_104 : decode b_LN_takeRange 104 = .ok (.aload_n 3, 1) := by decide +kernel
theorem d_LN_takeRange_105 : decode b_LN_takeRange 105 = .ok (.iload_n 2, 1) := by decide +kernel
theorem d_LN_takeRange_106 : decode b_LN_takeRange 106 = .ok (.invokevirtual 79, 3) := by decide +kernel
theorem d_LN_takeRange_109 : decode b_LN_takeRange 109 = .ok (.goto 4, 3) := by decide +kernel
theorem d_LN_takeRange_112 : decode b_LN_takeRange 112 = .ok (.aconst_null, 1) := by decide +kernel
theorem d_LN_takeRange_113 : decode b_LN_takeRange 113 = .ok (.areturn, 1) := by decide +kernel
theorem d_LL_artifactAt_0 : decode b_LL_artifactAt 0 = .ok (.iload_n 1, 1) := by decide +kernel
theorem d_LL_artifactAt_1 : decode b_LL_artifactAt 1 = .ok (.ifCond .lt 20, 3) := by decide +kernel
theorem d_LL_artifactAt_4 : decode b_LL_artifactAt 4 = .ok (.iload_n 1, 1) := by decide +kernel
theorem d_LL_artifactAt_5 : decode b_LL_artifactAt 5 = .ok (.aload_n 0, 1) := by decide +kernel
theorem d_LL_artifactAt_6 : decode b_LL_artifactAt 6 = .ok (.getfield 22, 3) := by decide +kernel
theorem d_LL_artifactAt_9 : decode b_LL_artifactAt 9 = .ok (.if_icmp .ge 12, 3) := by decide +kernel
theorem d_LL_artifactAt_12 : decode b_LL_artifactAt 12 = .ok (.aload_n 0, 1) := by decide +kernel
theorem d_LL_artifactAt_13 : decode b_LL_artifactAt 13 = .ok (.getfield 18, 3) := by decide +kernel
theorem d_LL_artifactAt_16 : decode b_LL_artifactAt 16 = .ok (.iload_n 1, 1) := by decide +kernel
theorem d_LL_artifactAt_17 : decode b_LL_artifactAt 17 = .ok (.aaload, 1) := by decide +kernel
theorem d_LL_artifactAt_18 : decode b_LL_artifactAt 18 = .ok (.goto 4, 3) := by decide +kernel
theorem d_LL_artifactAt_21 : decode b_LL_artifactAt 21 = .ok (.aconst_null, 1) := by decide +kernel
theorem d_LL_artifactAt_22 : decode b_LL_artifactAt 22 = .ok (.areturn, 1) := by decide +kernel
theorem d_DP_init_0 : decode b_DP_init 0 = .ok (.aload_n 0, 1) := by decide +kernel
theorem d_DP_init_1 : decode b_DP_init 1 = .ok (.invokespecial 3, 3) := by decide +kernel
theorem d_DP_init_4 : decode b_DP_init 4 = .ok (.aload_n 0, 1) := by decide +kernel
theorem d_DP_init_5 : decode b_DP_init 5 = .ok (.iconst 3, 1) := by decide +kernel
theorem d_DP_init_6 : decode b_DP_init 6 = .ok (.newarray .long, 2) := by decide +kernel
theorem d_DP_init_8 : decode b_DP_init 8 = .ok (.putfield 9, 3) := by decide +kernel
theorem d_DP_init_11 : decode b_DP_init 11 = .ok (.aload_n 0, 1) := by decide +kernel
theorem d_DP_init_12 : decode b_DP_init 12 = .ok (.iconst 0, 1) := by decide +kernel
theorem d_DP_init_13 : decode b_DP_init 13 = .ok (.putfield 15, 3) := by decide +kernel
theorem d_DP_init_16 : decode b_DP_init 16 = .ok (.aload_n 0, 1) := by decide +kernel
theorem d_DP_init_17 : decode b_DP_init 17 = .ok (.lload_n 1, 1) := by decide +kernel
theorem d_DP_init_18 : decode b_DP_init 18 = .ok (.putfield 19, 3) := by decide +kernel
theorem d_DP_init_21 : decode b_DP_init 21 = .ok (.aload_n 0, 1) := by decide +kernel
theorem d_DP_init_22 : decode b_DP_init 22 = .ok (.aload_n 3, 1) := by decide +kernel
theorem d_DP_init_23 : decode b_DP_init 23 = .ok (.putfield 23, 3) := by decide +kernel
theorem d_DP_init_26 : decode b_DP_init 26 = .ok (.aload_n 0, 1) := by decide +kernel
theorem d_DP_init_27 : decode b_DP_init 27 = .ok (.iload 4, 2) := by decide +kernel
theorem d_DP_init_29 : decode b_DP_init 29 = .ok (.putfield 27, 3) := by decide +kernel
theorem d_DP_init_32 : decode b_DP_init 32 = .ok (.return_, 1) := by decide +kernel
theorem d_AR_addDependency_0 : decode b_AR_addDependency 0 = .ok (.aload_n 0, 1) := by decide +kernel
theorem d_AR_addDependency_1 : decode b_AR_addDependency 1 = .ok (.getfield 17, 3) := by decide +kernel
theorem d_AR_addDependency_4 : decode b_AR_addDependency 4 = .ok (.bipush 6, 2) := by decide +kernel
theorem d_AR_addDependency_6 : decode b_AR_addDependency 6 = .ok (.if_icmp .ge 23, 3) := by decide +kernel
theorem d_AR_addDependency_9 : decode b_AR_addDependency 9 = .ok (.aload_n 0, 1) := by decide +kernel
theorem d_AR_addDependency_10 : decode b_AR_addDependency 10 = .ok (.getfield 11, 3) := by decide +kernel
theorem d_AR_addDependency_13 : decode b_AR_addDependency 13 = .ok (.aload_n 0, 1) := by decide +kernel
theorem d_AR_addDependency_14 : decode b_AR_addDependency 14 = .ok (.getfield 17, 3) := by decide +kernel
theorem d_AR_addDependency_17 : decode b_AR_addDependency 17 = .ok (.aload_n 1, 1) := by decide +kernel
theorem d_AR_addDependency_18 : decode b_AR_addDependency 18 = .ok (.aastore, 1) := by decide +kernel
theorem d_AR_addDependency_19 : decode b_AR_addDependency 19 = .ok (.aload_n 0, 1) := by decide +kernel
theorem d_AR_addDependency_20 : decode b_AR_addDependency 20 = .ok (.dup, 1) := by decide +kernel
theorem d_AR_addDependency_21 : decode b_AR_addDependency 21 = .ok (.getfield 17, 3) := by decide +kernel
theorem d_AR_addDependency_24 : decode b_AR_addDependency 24 = .ok (.iconst 1, 1) := by decide +kernel
theorem d_AR_addDependency_25 : decode b_AR_addDependency 25 = .ok (.iadd, 1) := by decide +kernel
theorem d_AR_addDependency_26 : decode b_AR_addDependency 26 = .ok (.putfield 17, 3) := by decide +kernel
theorem d_AR_addDependency_29 : decode b_AR_addDependency 29 = .ok (.return_, 1) := by decide +kernel
theorem d_LL_depend_0 : decode b_LL_depend 0 = .ok (.aload_n 0, 1) := by decide +kernel
theorem d_LL_depend_1 : decode b_LL_depend 1 = .ok (.getfield 10, 3) := by decide +kernel
theorem d_LL_depend_4 : decode b_LL_depend 4 = .ok (.invokevirtual 49, 3) := by decide +kernel
theorem d_LL_depend_7 : decode b_LL_depend 7 = .ok (.lstore_n 3, 1) := by decide +kernel
theorem d_LL_depend_8 : decode b_LL_depend 8 = .ok (.aload_n 0, 1) := by decide +kernel
theorem d_LL_depend_9 : decode b_LL_depend 9 = .ok (.getfield 10, 3) := by decide +kernel
theorem d_LL_depend_12 : decode b_LL_depend 12 = .ok (.invokevirtual 78, 3) := by decide +kernel
theorem d_LL_depend_15 : decode b_LL_depend 15 = .ok (.astore 5, 2) := by decide +kernel
theorem d_LL_depend_17 : decode b_LL_depend 17 = .ok (.aload_n 0, 1) := by decide +kernel
theorem d_LL_depend_18 : decode b_LL_depend 18 = .ok (.getfield 10, 3) := by decide +kernel
theorem d_LL_depend_21 : decode b_LL_depend 21 = .ok (.invokevirtual 61, 3) := by decide +kernel
theorem d_LL_depend_24 : decode b_LL_depend 24 = .ok (.istore 6, 2) := by decide +kernel
theorem d_LL_depend_26 : decode b_LL_depend 26 = .ok (.aload_n 0, 1) := by decide +kernel
theorem d_LL_depend_27 : decode b_LL_depend 27 = .ok (.iload_n 1, 1) := by decide +kernel
theorem d_LL_depend_28 : decode b_LL_depend 28 = .ok (.invokevirtual 82, 3) := by decide +kernel
theorem d_LL_depend_31 : decode b_LL_depend 31 = .ok (.astore 7, 2) := by decide +kernel
theorem d_LL_depend_33 : decode b_LL_depend 33 = .ok (.aload 7, 2) := by decide +kernel
theorem d_LL_depend_35 : decode b_LL_depend 35 = .ok (.ifnonnull 5, 3) := by decide +kernel
theorem d_LL_depend_38 : decode b_LL_depend 38 = .ok (.iconst (-1), 1) := by decide +kernel
theorem d_LL_depend_39 : decode b_LL_depend 39 = .ok (.ireturn, 1) := by decide +kernel
theorem d_LL_depend_40 : decode b_LL_depend 40 = .ok (.lload_n 3, 1) := by decide +kernel
theorem d_LL_depend_41 : decode b_LL_depend 41 = .ok (.lconst 0, 1) := by decide +kernel
theorem d_LL_depend_42 : decode b_LL_depend 42 = .ok (.lcmp, 1) := by decide +kernel
theorem d_LL_depend_43 : decode b_LL_depend 43 = .ok (.ifCond .eq 13, 3) := by decide +kernel
theorem d_LL_depend_46 : decode b_LL_depend 46 = .ok (.aload 5, 2) := by decide +kernel
theorem d_LL_depend_48 : decode b_LL_depend 48 = .ok (.ifnull 8, 3) := by decide +kernel
theorem d_LL_depend_51 : decode b_LL_depend 51 = .ok (.iload 6, 2) := by decide +kernel
theorem d_LL_depend_53 : decode b_LL_depend 53 = .ok (.ifCond .ne 6, 3) := by decide +kernel
theorem d_LL_depend_56 : decode b_LL_depend 56 = .ok (.bipush (-3), 2) := by decide +kernel
theorem d_LL_depend_58 : decode b_LL_depend 58 = .ok (.ireturn, 1) := by decide +kernel
theorem d_LL_depend_59 : decode b_LL_depend 59 = .ok (.aload 7, 2) := by decide +kernel
theorem d_LL_depend_61 : decode b_LL_depend 61 = .ok (.getfield 86, 3) := by decide +kernel
theorem d_LL_depend_64 : decode b_LL_depend 64 = .ok (.bipush 6, 2) := by decide +kernel
theorem d_LL_depend_66 : decode b_LL_depend 66 = .ok (.if_icmp .lt 6, 3) := by decide +kernel
theorem d_LL_depend_69 : decode b_LL_depend 69 = .ok (.bipush (-2), 2) := by decide +kernel
theorem d_LL_depend_71 : decode b_LL_depend 71 = .ok (.ireturn, 1) := by decide +kernel
theorem d_LL_depend_72 : decode b_LL_depend 72 = .ok (.aload 7, 2) := by decide +kernel
theorem d_LL_depend_74 : decode b_LL_depend 74 = .ok (.new 89, 3) := by decide +kernel
theorem d_LL_depend_77 : decode b_LL_depend 77 = .ok (.dup, 1) := by decide +kernel
theorem d_LL_depend_78 : decode b_LL_depend 78 = .ok (.lload_n 3, 1) := by decide +kernel
theorem d_LL_depend_79 : decode b_LL_depend 79 = .ok (.aload 5, 2) := by decide +kernel
theorem d_LL_depend_81 : decode b_LL_depend 81 = .ok (.iload_n 2, 1) := by decide +kernel
theorem d_LL_depend_82 : decode b_LL_depend 82 = .ok (.invokespecial 91, 3) := by decide +kernel
theorem d_LL_depend_85 : decode b_LL_depend 85 = .ok (.invokevirtual 94, 3) := by decide +kernel
theorem d_LL_depend_88 : decode b_LL_depend 88 = .ok (.aload 7, 2) := by decide +kernel
theorem d_LL_depend_90 : decode b_LL_depend 90 = .ok (.getfield 86, 3) := by decide +kernel
theorem d_LL_depend_93 : decode b_LL_depend 93 = .ok (.iconst 1, 1) := by decide +kernel
theorem d_LL_depend_94 : decode b_LL_depend 94 = .ok (.isub, 1) := by decide +kernel
theorem d_LL_depend_95 : decode b_LL_depend 95 = .ok (.ireturn, 1) := by decide +kernel
theorem d_AR_lastDependency_0 : decode b_AR_lastDependency 0 = .ok (.aload_n 0, 1) := by decide +kernel
theorem d_AR_lastDependency_1 : decode b_AR_lastDependency 1 = .ok (.getfield 17, 3) := by decide +kernel
theorem d_AR_lastDependency_4 : decode b_AR_lastDependency 4 = .ok (.ifCond .ne 7, 3) := by decide +kernel
theorem d_AR_lastDependency_7 : decode b_AR_lastDependency 7 = .ok (.aconst_null, 1) := by decide +kernel
theorem d_AR_lastDependency_8 : decode b_AR_lastDependency 8 = .ok (.goto 14, 3) := by decide +kernel
theorem d_AR_lastDependency_11 : decode b_AR_lastDependency 11 = .ok (.aload_n 0, 1) := by decide +kernel
theorem d_AR_lastDependency_12 : decode b_AR_lastDependency 12 = .ok (.getfield 11, 3) := by decide +kernel
theorem d_AR_lastDependency_15 : decode b_AR_lastDependency 15 = .ok (.aload_n 0, 1) := by decide +kernel
theorem d_AR_lastDependency_16 : decode b_AR_lastDependency 16 = .ok (.getfield 17, 3) := by decide +kernel
theorem d_AR_lastDependency_19 : decode b_AR_lastDependency 19 = .ok (.iconst 1, 1) := by decide +kernel
theorem d_AR_lastDependency_20 : decode b_AR_lastDependency 20 = .ok (.isub, 1) := by decide +kernel
theorem d_AR_lastDependency_21 : decode b_AR_lastDependency 21 = .ok (.aaload, 1) := by decide +kernel
theorem d_AR_lastDependency_22 : decode b_AR_lastDependency 22 = .ok (.areturn, 1) := by decide +kernel
theorem d_DP_addExclusion_0 : decode b_DP_addExclusion 0 = .ok (.aload_n 0, 1) := by decide +kernel
theorem d_DP_addExclusion_1 : decode b_DP_addExclusion 1 = .ok (.getfield 15, 3) := by decide +kernel
theorem d_DP_addExclusion_4 : decode b_DP_addExclusion 4 = .ok (.iconst 3, 1) := by decide +kernel
theorem d_DP_addExclusion_5 : decode b_DP_addExclusion 5 = .ok (.if_icmp .ge 23, 3) := by decide +kernel
theorem d_DP_addExclusion_8 : decode b_DP_addExclusion 8 = .ok (.aload_n 0, 1) := by decide +kernel
theorem d_DP_addExclusion_9 : decode b_DP_addExclusion 9 = .ok (.getfield 9, 3) := by decide +kernel
theorem d_DP_addExclusion_12 : decode b_DP_addExclusion 12 = .ok (.aload_n 0, 1) := by decide +kernel
theorem d_DP_addExclusion_13 : decode b_DP_addExclusion 13 = .ok (.getfield 15, 3) := by decide +kernel
theorem d_DP_addExclusion_16 : decode b_DP_addExclusion 16 = .ok (.lload_n 1, 1) := by decide +kernel
theorem d_DP_addExclusion_17 : decode b_DP_addExclusion 17 = .ok (.lastore, 1) := by decide +kernel
theorem d_DP_addExclusion_18 : decode b_DP_addExclusion 18 = .ok (.aload_n 0, 1) := by decide +kernel
theorem d_DP_addExclusion_19 : decode b_DP_addExclusion 19 = .ok (.dup, 1) := by decide +kernel
theorem d_DP_addExclusion_20 : decode b_DP_addExclusion 20 = .ok (.getfield 15, 3) := by decide +kernel
theorem d_DP_addExclusion_23 : decode b_DP_addExclusion 23 = .ok (.iconst 1, 1) := by decide +kernel
theorem d_DP_addExclusion_24 : decode b_DP_addExclusion 24 = .ok (.iadd, 1) := by decide +kernel
theorem d_DP_addExclusion_25 : decode b_DP_addExclusion 25 = .ok (.putfield 15, 3) := by decide +kernel
theorem d_DP_addExclusion_28 : decode b_DP_addExclusion 28 = .ok (.return_, 1) := by decide +kernel
theorem d_LL_exclude_0 : decode b_LL_exclude 0 = .ok (.aload_n 0, 1) := by decide +kernel
theorem d_LL_exclude_1 : decode b_LL_exclude 1 = .ok (.getfield 10, 3) := by decide +kernel
theorem d_LL_exclude_4 : decode b_LL_exclude 4 = .ok (.invokevirtual 98, 3) := by decide +kernel
theorem d_LL_exclude_7 : decode b_LL_exclude 7 = .ok (.lstore_n 2, 1) := by decide +kernel
theorem d_LL_exclude_8 : decode b_LL_exclude 8 = .ok (.aload_n 0, 1) := by decide +kernel
theorem d_LL_exclude_9 : decode b_LL_exclude 9 = .ok (.getfield 10, 3) := by decide +kernel
theorem d_LL_exclude_12 : decode b_LL_exclude 12 = .ok (.invokevirtual 61, 3) := by decide +kernel
theorem d_LL_exclude_15 : decode b_LL_exclude 15 = .ok (.istore 4, 2) := by decide +kernel
theorem d_LL_exclude_17 : decode b_LL_exclude 17 = .ok (.aload_n 0, 1) := by decide +kernel
theorem d_LL_exclude_18 : decode b_LL_exclude 18 = .ok (.iload_n 1, 1) := by decide +kernel
theorem d_LL_exclude_19 : decode b_LL_exclude 19 = .ok (.invokevirtual 82, 3) := by decide +kernel
theorem d_LL_exclude_22 : decode b_LL_exclude 22 = .ok (.astore 5, 2) := by decide +kernel
theorem d_LL_exclude_24 : decode b_LL_exclude 24 = .ok (.aload 5, 2) := by decide +kernel
theorem d_LL_exclude_26 : decode b_LL_exclude 26 = .ok (.ifnonnull 7, 3) := by decide +kernel
theorem d_LL_exclude_29 : decode b_LL_exclude 29 = .ok (.aconst_null, 1) := by decide +kernel
theorem d_LL_exclude_30 : decode b_LL_exclude 30 = .ok (.goto 8, 3) := by decide +kernel
theorem d_LL_exclude_33 : decode b_LL_exclude 33 = .ok (.aload 5, 2) := by decide +kernel
theorem d_LL_exclude_35 : decode b_LL_exclude 35 = .ok (.invokevirtual 101, 3) := by decide +kernel
theorem d_LL_exclude_38 : decode b_LL_exclude 38 = .ok (.astore 6, 2) := by decide +kernel
theorem d_LL_exclude_40 : decode b_LL_exclude 40 = .ok (.aload 6, 2) := by decide +kernel
theorem d_LL_exclude_42 : decode b_LL_exclude 42 = .ok (.ifnonnull 5, 3) := by decide +kernel
theorem d_LL_exclude_45 : decode b_LL_exclude 45 = .ok (.iconst (-1), 1) := by decide +kernel
theorem d_LL_exclude_46 : decode b_LL_exclude 46 = .ok (.ireturn, 1) := by decide +kernel
theorem d_LL_exclude_47 : decode b_LL_exclude 47 = .ok (.lload_n 2, 1) := by decide +kernel
theorem d_LL_exclude_48 : decode b_LL_exclude 48 = .ok (.lconst 0, 1) := by decide +kernel
theorem d_LL_exclude_49 : decode b_LL_exclude 49 = .ok (.lcmp, 1) := by decide +kernel
theorem d_LL_exclude_50 : decode b_LL_exclude 50 = .ok (.ifCond .eq 8, 3) := by decide +kernel
theorem d_LL_exclude_53 : decode b_LL_exclude 53 = .ok (.iload 4, 2) := by decide +kernel
theorem d_LL_exclude_55 : decode b_LL_exclude 55 = .ok (.ifCond .ne 6, 3) := by decide +kernel
theorem d_LL_exclude_58 : decode b_LL_exclude 58 = .ok (.bipush (-3), 2) := by decide +kernel
theorem d_LL_exclude_60 : decode b_LL_exclude 60 = .ok (.ireturn, 1) := by decide +kernel
theorem d_LL_exclude_61 : decode b_LL_exclude 61 = .ok (.aload 6, 2) := by decide +kernel
theorem d_LL_exclude_63 : decode b_LL_exclude 63 = .ok (.getfield 105, 3) := by decide +kernel
theorem d_LL_exclude_66 : decode b_LL_exclude 66 = .ok (.iconst 3, 1) := by decide +kernel
theorem d_LL_exclude_67 : decode b_LL_exclude 67 = .ok (.if_icmp .lt 6, 3) := by decide +kernel
theorem d_LL_exclude_70 : decode b_LL_exclude 70 = .ok (.bipush (-2), 2) := by decide +kernel
theorem d_LL_exclude_72 : decode b_LL_exclude 72 = .ok (.ireturn, 1) := by decide +kernel
theorem d_LL_exclude_73 : decode b_LL_exclude 73 = .ok (.aload 6, 2) := by decide +kernel
theorem d_LL_exclude_75 : decode b_LL_exclude 75 = .ok (.lload_n 2, 1) := by decide +kernel
theorem d_LL_exclude_76 : decode b_LL_exclude 76 = .ok (.invokevirtual 108, 3) := by decide +kernel
theorem d_LL_exclude_79 : decode b_LL_exclude 79 = .ok (.iconst 0, 1) := by decide +kernel
theorem d_LL_exclude_80 : decode b_LL_exclude 80 = .ok (.ireturn, 1) := by decide +kernel
theorem d_LL_isClass_0 : decode b_LL_isClass 0 = .ok (.iload_n 0, 1) := by decide +kernel
theorem d_LL_isClass_1 : decode b_LL_isClass 1 = .ok (.ifCond .lt 13, 3) := by decide +kernel
theorem d_LL_isClass_4 : decode b_LL_isClass 4 = .ok (.iload_n 0, 1) := by decide +kernel
theorem d_LL_isClass_5 : decode b_LL_isClass 5 = .ok (.bipush 32, 2) := by decide +kernel
theorem d_LL_isClass_7 : decode b_LL_isClass 7 = .ok (.if_icmp .ge 7, 3) := by decide +kernel
theorem d_LL_isClass_10 : decode b_LL_isClass 10 = .ok (.iconst 1, 1) := by decide +kernel
theorem d_LL_isClass_11 : decode b_LL_isClass 11 = .ok (.goto 4, 3) := by decide +kernel
theorem d_LL_isClass_14 : decode b_LL_isClass 14 = .ok (.iconst 0, 1) := by decide +kernel
theorem d_LL_isClass_15 : decode b_LL_isClass 15 = .ok (.ireturn, 1) := by decide +kernel
theorem d_AR_setClass_0 : decode b_AR_setClass 0 = .ok (.aload_n 0, 1) := by decide +kernel
theorem d_AR_setClass_1 : decode b_AR_setClass 1 = .ok (.iload_n 2, 1) := by decide +kernel
theorem d_AR_setClass_2 : decode b_AR_setClass 2 = .ok (.ifCond .eq 14, 3) := by decide +kernel
theorem d_AR_setClass_5 : decode b_AR_setClass 5 = .ok (.aload_n 0, 1) := by decide +kernel
theorem d_AR_setClass_6 : decode b_AR_setClass 6 = .ok (.getfield 21, 3) := by decide +kernel
theorem d_AR_setClass_9 : decode b_AR_setClass 9 = .ok (.iconst 1, 1) := by decide +kernel
theorem d_AR_setClass_10 : decode b_AR_setClass 10 = .ok (.iload_n 1, 1) := by decide +kernel
theorem d_AR_setClass_11 : decode b_AR_setClass 11 = .ok (.ishl, 1) := by decide +kernel
theorem d_AR_setClass_12 : decode b_AR_setClass 12 = .ok (.ior, 1) := by decide +kernel
theorem d_AR_setClass_13 : decode b_AR_setClass 13 = .ok (.goto 13, 3) := by decide +kernel
theorem d_AR_setClass_16 : decode b_AR_setClass 16 = .ok (.aload_n 0, 1) := by decide +kernel
theorem d_AR_setClass_17 : decode b_AR_setClass 17 = .ok (.getfield 21, 3) := by decide +kernel
theorem d_AR_setClass_20 : decode b_AR_setClass 20 = .ok (.iconst 1, 1) := by decide +kernel
theorem d_AR_setClass_21 : decode b_AR_setClass 21 = .ok (.iload_n 1, 1) := by decide +kernel
theorem d_AR_setClass_22 : decode b_AR_setClass 22 = .ok (.ishl, 1) := by decide +kernel
theorem d_AR_setClass_23 : decode b_AR_setClass 23 = .ok (.iconst (-1), 1) := by decide +kernel
theorem d_AR_setClass_24 : decode b_AR_setClass 24 = .ok (.ixor, 1) := by decide +kernel
theorem d_AR_setClass_25 : decode b_AR_setClass 25 = .ok (.iand, 1) := by decide +kernel
theorem d_AR_setClass_26 : decode b_AR_setClass 26 = .ok (.putfield 21, 3) := by decide +kernel
theorem d_AR_setClass_29 : decode b_AR_setClass 29 = .ok (.return_, 1) := by decide +kernel
theorem d_LL_pack_0 : decode b_LL_pack 0 = .ok (.aload_n 0, 1) := by decide +kernel
theorem d_LL_pack_1 : decode b_LL_pack 1 = .ok (.iload_n 1, 1) := by decide +kernel
theorem d_LL_pack_2 : decode b_LL_pack 2 = .ok (.invokevirtual 82, 3) := by decide +kernel
theorem d_LL_pack_5 : decode b_LL_pack 5 = .ok (.astore 4, 2) := by decide +kernel
theorem d_LL_pack_7 : decode b_LL_pack 7 = .ok (.aload 4, 2) := by decide +kernel
theorem d_LL_pack_9 : decode b_LL_pack 9 = .ok (.ifnull 10, 3) := by decide +kernel
theorem d_LL_pack_12 : decode b_LL_pack 12 = .ok (.iload_n 2, 1) := by decide +kernel
theorem d_LL_pack_13 : decode b_LL_pack 13 = .ok (.invokestatic 112, 3) := by decide +kernel
theorem d_LL_pack_16 : decode b_LL_pack 16 = .ok (.ifCond .ne 5, 3) := by decide +kernel
theorem d_LL_pack_19 : decode b_LL_pack 19 = .ok (.iconst (-1), 1) := by decide +kernel
theorem d_LL_pack_20 : decode b_LL_pack 20 = .ok (.ireturn, 1) := by decide +kernel
theorem d_LL_pack_21 : decode b_LL_pack 21 = .ok (.aload 4, 2) := by decide +kernel
theorem d_LL_pack_23 : decode b_LL_pack 23 = .ok (.iload_n 2, 1) := by decide +kernel
theorem d_LL_pack_24 : decode b_LL_pack 24 = .ok (.iload_n 3, 1) := by decide +kernel
theorem d_LL_pack_25 : decode b_LL_pack 25 = .ok (.invokevirtual 116, 3) := by decide +kernel
theorem d_LL_pack_28 : decode b_LL_pack 28 = .ok (.iconst 0, 1) := by decide +kernel
theorem d_LL_pack_29 : decode b_LL_pack 29 = .ok (.ireturn, 1) := by decide +kernel
theorem d_LL_retire_0 : decode b_LL_retire 0 = .ok (.aload_n 0, 1) := by decide +kernel
theorem d_LL_retire_1 : decode b_LL_retire 1 = .ok (.iload_n 1, 1) := by decide +kernel
theorem d_LL_retire_2 : decode b_LL_retire 2 = .ok (.invokevirtual 82, 3) := by decide +kernel
theorem d_LL_retire_5 : decode b_LL_retire 5 = .ok (.astore_n 2, 1) := by decide +kernel
theorem d_LL_retire_6 : decode b_LL_retire 6 = .ok (.aload_n 2, 1) := by decide +kernel
theorem d_LL_retire_7 : decode b_LL_retire 7 = .ok (.ifnull 10, 3) := by decide +kernel
theorem d_LL_retire_10 : decode b_LL_retire 10 = .ok (.aload_n 2, 1) := by decide +kernel
theorem d_LL_retire_11 : decode b_LL_retire 11 = .ok (.getfield 120, 3) := by decide +kernel
theorem d_LL_retire_14 : decode b_LL_retire 14 = .ok (.ifCond .eq 5, 3) := by decide +kernel
theorem d_LL_retire_17 : decode b_LL_retire 17 = .ok (.iconst (-1), 1) := by decide +kernel
theorem d_LL_retire_18 : decode b_LL_retire 18 = .ok (.ireturn, 1) := by decide +kernel
theorem d_LL_retire_19 : decode b_LL_retire 19 = .ok (.aload_n 2, 1) := by decide +kernel
theorem d_LL_retire_20 : decode b_LL_retire 20 = .ok (.iconst 1, 1) := by decide +kernel
theorem d_LL_retire_21 : decode b_LL_retire 21 = .ok (.putfield 120, 3) := by decide +kernel
theorem d_LL_retire_24 : decode b_LL_retire 24 = .ok (.iconst 0, 1) := by decide +kernel
theorem d_LL_retire_25 : decode b_LL_retire 25 = .ok (.ireturn, 1) := by decide +kernel
theorem d_LL_compare_0 : decode b_LL_compare 0 = .ok (.aload_n 0, 1) := by decide +kernel
theorem d_LL_compare_1 : decode b_LL_compare 1 = .ok (.getfield 10, 3) := by decide +kernel
theorem d_LL_compare_4 : decode b_LL_compare 4 = .ok (.invokevirtual 53, 3) := by decide +kernel
theorem d_LL_compare_7 : decode b_LL_compare 7 = .ok (.astore_n 1, 1) := by decide +kernel
theorem d_LL_compare_8 : decode b_LL_compare 8 = .ok (.aload_n 0, 1) := by decide +kernel
theorem d_LL_compare_9 : decode b_LL_compare 9 = .ok (.getfield 10, 3) := by decide +kernel
theorem d_LL_compare_12 : decode b_LL_compare 12 = .ok (.bipush 58, 2) := by decide +kernel
theorem d_LL_compare_14 : decode b_LL_compare 14 = .ok (.invokevirtual 124, 3) := by decide +kernel
theorem d_LL_compare_17 : decode b_LL_compare 17 = .ok (.istore_n 2, 1) := by decide +kernel
theorem d_LL_compare_18 : decode b_LL_compare 18 = .ok (.aload_n 0, 1) := by decide +kernel
theorem d_LL_compare_19 : decode b_LL_compare 19 = .ok (.getfield 10, 3) := by decide +kernel
theorem d_LL_compare_22 : decode b_LL_compare 22 = .ok (.invokevirtual 53, 3) := by decide +kernel
theorem d_LL_compare_25 : decode b_LL_compare 25 = .ok (.astore_n 3, 1) := by decide +kernel
theorem d_LL_compare_26 : decode b_LL_compare 26 = .ok (.aload_n 0, 1) := by decide +kernel
theorem d_LL_compare_27 : decode b_LL_compare 27 = .ok (.getfield 10, 3) := by decide +kernel
theorem d_LL_compare_30 : decode b_LL_compare 30 = .ok (.invokevirtual 61, 3) := by decide +kernel
theorem d_LL_compare_33 : decode b_LL_compare 33 = .ok (.istore 4, 2) := by decide +kernel
theorem d_LL_compare_35 : decode b_LL_compare 35 = .ok (.aload_n 1, 1) := by decide +kernel
theorem d_LL_compare_36 : decode b_LL_compare 36 = .ok (.ifnull 16, 3) := by decide +kernel
theorem d_LL_compare_39 : decode b_LL_compare 39 = .ok (.iload_n 2, 1) := by decide +kernel
theorem d_LL_compare_40 : decode b_LL_compare 40 = .ok (.ifCond .eq 12, 3) := by decide +kernel
theorem d_LL_compare_43 : decode b_LL_compare 43 = .ok (.aload_n 3, 1) := by decide +kernel
theorem d_LL_compare_44 : decode b_LL_compare 44 = .ok (.ifnull 8, 3) := by decide +kernel
theorem d_LL_compare_47 : decode b_LL_compare 47 = .ok (.iload 4, 2) := by decide +kernel
theorem d_LL_compare_49 : decode b_LL_compare 49 = .ok (.ifCond .ne 6, 3) := by decide +kernel
theorem d_LL_compare_52 : decode b_LL_compare 52 = .ok (.bipush (-3), 2) := by decide +kernel
theorem d_LL_compare_54 : decode b_LL_compare 54 = .ok (.ireturn, 1) := by decide +kernel
theorem d_LL_compare_55 : decode b_LL_compare 55 = .ok (.iconst 3, 1) := by decide +kernel
theorem d_LL_compare_56 : decode b_LL_compare 56 = .ok (.aload_n 1, 1) := by decide +kernel
theorem d_LL_compare_57 : decode b_LL_compare 57 = .ok (.aload_n 3, 1) := by decide +kernel
theorem d_LL_compare_58 : decode b_LL_compare 58 = .ok (.invokevirtual 128, 3) := by decide +kernel
theorem d_LL_compare_61 : decode b_LL_compare 61 = .ok (.iadd, 1) := by decide +kernel
theorem d_LL_compare_62 : decode b_LL_compare 62 = .ok (.ireturn, 1) := by decide +kernel
theorem d_EL_begin_0 : decode b_EL_begin 0 = .ok (.aload_n 0, 1) := by decide +kernel
theorem d_EL_begin_1 : decode b_EL_begin 1 = .ok (.getfield 11, 3) := by decide +kernel
theorem d_EL_begin_4 : decode b_EL_begin 4 = .ok (.iconst 0, 1) := by decide +kernel
theorem d_EL_begin_5 : decode b_EL_begin 5 = .ok (.aload_n 1, 1) := by decide +kernel
theorem d_EL_begin_6 : decode b_EL_begin 6 = .ok (.aastore, 1) := by decide +kernel
theorem d_EL_begin_7 : decode b_EL_begin 7 = .ok (.aload_n 0, 1) := by decide +kernel
theorem d_EL_begin_8 : decode b_EL_begin 8 = .ok (.getfield 17, 3) := by decide +kernel
theorem d_EL_begin_11 : decode b_EL_begin 11 = .ok (.iconst 0, 1) := by decide +kernel
theorem d_EL_begin_12 : decode b_EL_begin 12 = .ok (.iconst 0, 1) := by decide +kernel
theorem d_EL_begin_13 : decode b_EL_begin 13 = .ok (.iastore, 1) := by decide +kernel
theorem d_EL_begin_14 : decode b_EL_begin 14 = .ok (.aload_n 0, 1) := by decide +kernel
theorem d_EL_begin_15 : decode b_EL_begin 15 = .ok (.getfield 21, 3) := by decide +kernel
theorem d_EL_begin_18 : decode b_EL_begin 18 = .ok (.iconst 0, 1) := by decide +kernel
theorem d_EL_begin_19 : decode b_EL_begin 19 = .ok (.iconst (-1), 1) := by decide +kernel
theorem d_EL_begin_20 : decode b_EL_begin 20 = .ok (.iastore, 1) := by decide +kernel
theorem d_EL_begin_21 : decode b_EL_begin 21 = .ok (.aload_n 0, 1) := by decide +kernel
theorem d_EL_begin_22 : decode b_EL_begin 22 = .ok (.getfield 26, 3) := by decide +kernel
theorem d_EL_begin_25 : decode b_EL_begin 25 = .ok (.iconst 0, 1) := by decide +kernel
theorem d_EL_begin_26 : decode b_EL_begin 26 = .ok (.aconst_null, 1) := by decide +kernel
theorem d_EL_begin_27 : decode b_EL_begin 27 = .ok (.aastore, 1) := by decide +kernel
theorem d_EL_begin_28 : decode b_EL_begin 28 = .ok (.aload_n 0, 1) := by decide +kernel
theorem d_EL_begin_29 : decode b_EL_begin 29 = .ok (.iconst 1, 1) := by decide +kernel
theorem d_EL_begin_30 : decode b_EL_begin 30 = .ok (.putfield 30, 3) := by decide +kernel
theorem d_EL_begin_33 : decode b_EL_begin 33 = .ok (.return_, 1) := by decide +kernel
theorem d_DP_excludes_0 : decode b_DP_excludes 0 = .ok (.iconst 0, 1) := by decide +kernel
theorem d_DP_excludes_1 : decode b_DP_excludes 1 = .ok (.istore_n 3, 1) := by decide +kernel
theorem d_DP_excludes_2 : decode b_DP_excludes 2 = .ok (.iload_n 3, 1) := by decide +kernel
theorem d_DP_excludes_3 : decode b_DP_excludes 3 = .ok (.aload_n 0, 1) := by decide +kernel
theorem d_DP_excludes_4 : decode b_DP_excludes 4 = .ok (.getfield 15, 3) := by decide +kernel
theorem d_DP_excludes_7 : decode b_DP_excludes 7 = .ok (.if_icmp .ge 22, 3) := by decide +kernel
theorem d_DP_excludes_10 : decode b_DP_excludes 10 = .ok (.aload_n 0, 1) := by decide +kernel
theorem d_DP_excludes_11 : decode b_DP_excludes 11 = .ok (.getfield 9, 3) := by decide +kernel
theorem d_DP_excludes_14 : decode b_DP_excludes 14 = .ok (.iload_n 3, 1) := by decide +kernel
theorem d_DP_excludes_15 : decode b_DP_excludes 15 = .ok (.laload, 1) := by decide +kernel
theorem d_DP_excludes_16 : decode b_DP_excludes 16 = .ok (.lload_n 1, 1) := by decide +kernel
theorem d_DP_excludes_17 : decode b_DP_excludes 17 = .ok (.lcmp, 1) := by decide +kernel
theorem d_DP_excludes_18 : decode b_DP_excludes 18 = .ok (.ifCond .ne 5, 3) := by decide +kernel
theorem d_DP_excludes_21 : decode b_DP_excludes 21 = .ok (.iconst 1, 1) := by decide +kernel
theorem d_DP_excludes_22 : decode b_DP_excludes 22 = .ok (.ireturn, 1) := by decide +kernel
theorem d_DP_excludes_23 : decode b_DP_excludes 23 = .ok (.iinc 3 1, 3) := by decide +kernel
theorem d_DP_excludes_26 : decode b_DP_excludes 26 = .ok (.goto (-24), 3) := by decide +kernel
theorem d_DP_excludes_29 : decode b_DP_excludes 29 = .ok (.iconst 0, 1) := by decide +kernel
theorem d_DP_excludes_30 : decode b_DP_excludes 30 = .ok (.ireturn, 1) := by decide +kernel
theorem d_EL_bars_0 : decode b_EL_bars 0 = .ok (.iload_n 1, 1) := by decide +kernel
theorem d_EL_bars_1 : decode b_EL_bars 1 = .ok (.istore 4, 2) := by decide +kernel
theorem d_EL_bars_3 : decode b_EL_bars 3 = .ok (.iconst 0, 1) := by decide +kernel
theorem d_EL_bars_4 : decode b_EL_bars 4 = .ok (.istore 5, 2) := by decide +kernel
theorem d_EL_bars_6 : decode b_EL_bars 6 = .ok (.iload 5, 2) := by decide +kernel
theorem d_EL_bars_8 : decode b_EL_bars 8 = .ok (.bipush 20, 2) := by decide +kernel
theorem d_EL_bars_10 : decode b_EL_bars 10 = .ok (.if_icmp .ge 39, 3) := by decide +kernel
theorem d_EL_bars_13 : decode b_EL_bars 13 = .ok (.iload 4, 2) := by decide +kernel
theorem d_EL_bars_15 : decode b_EL_bars 15 = .ok (.ifCond .le 34, 3) := by decide +kernel
theorem d_EL_bars_18 : decode b_EL_bars 18 = .ok (.aload_n 0, 1) := by decide +kernel
theorem d_EL_bars_19 : decode b_EL_bars 19 = .ok (.getfield 26, 3) := by decide +kernel
theorem d_EL_bars_22 : decode b_EL_bars 22 = .ok (.iload 4, 2) := by decide +kernel
theorem d_EL_bars_24 : decode b_EL_bars 24 = .ok (.aaload, 1) := by decide +kernel
theorem d_EL_bars_25 : decode b_EL_bars 25 = .ok (.lload_n 2, 1) := by decide +kernel
theorem d_EL_bars_26 : decode b_EL_bars 26 = .ok (.invokevirtual 34, 3) := by decide +kernel
theorem d_EL_bars_29 : decode b_EL_bars 29 = .ok (.ifCond .eq 5, 3) := by decide +kernel
theorem d_EL_bars_32 : decode b_EL_bars 32 = .ok (.iconst 1, 1) := by decide +kernel
theorem d_EL_bars_33 : decode b_EL_bars 33 = .ok (.ireturn, 1) := by decide +kernel
theorem d_EL_bars_34 : decode b_EL_bars 34 = .ok (.aload_n 0, 1) := by decide +kernel
theorem d_EL_bars_35 : decode b_EL_bars 35 = .ok (.getfield 21, 3) := by decide +kernel
theorem d_EL_bars_38 : decode b_EL_bars 38 = .ok (.iload 4, 2) := by decide +kernel
theorem d_EL_bars_40 : decode b_EL_bars 40 = .ok (.iaload, 1) := by decide +kernel
theorem d_EL_bars_41 : decode b_EL_bars 41 = .ok (.istore 4, 2) := by decide +kernel
theorem d_EL_bars_43 : decode b_EL_bars 43 = .ok (.iinc 5 1, 3) := by decide +kernel
theorem d_EL_bars_46 : decode b_EL_bars 46 = .ok (.goto (-40), 3) := by decide +kernel
theorem d_EL_bars_49 : decode b_EL_bars 49 = .ok (.iconst 0, 1) := by decide +kernel
theorem d_EL_bars_50 : decode b_EL_bars 50 = .ok (.ireturn, 1) := by decide +kernel
theorem d_EL_artifactNamed_0 : decode b_EL_artifactNamed 0 = .ok (.iconst 0, 1) := by decide +kernel
theorem d_EL_artifactNamed_1 : decode b_EL_artifactNamed 1 = .ok (.istore_n 3, 1) := by decide +kernel
theorem d_EL_artifactNamed_2 : decode b_EL_artifactNamed 2 = .ok (.iload_n 3, 1) := by decide +kernel
theorem d_EL_artifactNamed_3 : decode b_EL_artifactNamed 3 = .ok (.aload_n 0, 1) := by decide +kernel
theorem d_EL_artifactNamed_4 : decode b_EL_artifactNamed 4 = .ok (.getfield 30, 3) := by decide +kernel
theorem d_EL_artifactNamed_7 : decode b_EL_artifactNamed 7 = .ok (.if_icmp .ge 30, 3) := by decide +kernel
theorem d_EL_artifactNamed_10 : decode b_EL_artifactNamed 10 = .ok (.aload_n 0, 1) := by decide +kernel
theorem d_EL_artifactNamed_11 : decode b_EL_artifactNamed 11 = .ok (.getfield 11, 3) := by decide +kernel
theorem d_EL_artifactNamed_14 : decode b_EL_artifactNamed 14 = .ok (.iload_n 3, 1) := by decide +kernel
theorem d_EL_artifactNamed_15 : decode b_EL_artifactNamed 15 = .ok (.aaload, 1) := by decide +kernel
theorem d_EL_artifactNamed_16 : decode b_EL_artifactNamed 16 = .ok (.getfield 38, 3) := by decide +kernel
theorem d_EL_artifactNamed_19 : decode b_EL_artifactNamed 19 = .ok (.lload_n 1, 1) := by decide +kernel
theorem d_EL_artifactNamed_20 : decode b_EL_artifactNamed 20 = .ok (.lcmp, 1) := by decide +kernel
theorem d_EL_artifactNamed_21 : decode b_EL_artifactNamed 21 = .ok (.ifCond .ne 10, 3) := by decide +kernel
theorem d_EL_artifactNamed_24 : decode b_EL_artifactNamed 24 = .ok (.aload_n 0, 1) := by decide +kernel
theorem d_EL_artifactNamed_25 : decode b_EL_artifactNamed 25 = .ok (.getfield 11, 3) := by decide +kernel
theorem d_EL_artifactNamed_28 : decode b_EL_artifactNamed 28 = .ok (.iload_n 3, 1) := by decide +kernel
theorem d_EL_artifactNamed_29 : decode b_EL_artifactNamed 29 = .ok (.aaload, 1) := by decide +kernel
theorem d_EL_artifactNamed_30 : decode b_EL_artifactNamed 30 = .ok (.areturn, 1) := by decide +kernel
theorem d_EL_artifactNamed_31 : decode b_EL_artifactNamed 31 = .ok (.iinc 3 1, 3) := by decide +kernel
theorem d_EL_artifactNamed_34 : decode b_EL_artifactNamed 34 = .ok (.goto (-32), 3) := by decide +kernel
theorem d_EL_artifactNamed_37 : decode b_EL_artifactNamed 37 = .ok (.aconst_null, 1) := by decide +kernel
theorem d_EL_artifactNamed_38 : decode b_EL_artifactNamed 38 = .ok (.areturn, 1) := by decide +kernel
theorem d_EL_add_0 : decode b_EL_add 0 = .ok (.aload_n 0, 1) := by decide +kernel
theorem d_EL_add_1 : decode b_EL_add 1 = .ok (.getfield 30, 3) := by decide +kernel
theorem d_EL_add_4 : decode b_EL_add 4 = .ok (.bipush 20, 2) := by decide +kernel
theorem d_EL_add_6 : decode b_EL_add 6 = .ok (.if_icmp .ge 60, 3) := by decide +kernel
theorem d_EL_add_9 : decode b_EL_add 9 = .ok (.aload_n 0, 1) := by decide +kernel
theorem d_EL_add_10 : decode b_EL_add 10 = .ok (.getfield 11, 3) := by decide +kernel
theorem d_EL_add_13 : decode b_EL_add 13 = .ok (.aload_n 0, 1) := by decide +kernel
theorem d_EL_add_14 : decode b_EL_add 14 = .ok (.getfield 30, 3) := by decide +kernel
theorem d_EL_add_17 : decode b_EL_add 17 = .ok (.aload_n 1, 1) := by decide +kernel
theorem d_EL_add_18 : decode b_EL_add 18 = .ok (.aastore, 1) := by decide +kernel
theorem d_EL_add_19 : decode b_EL_add 19 = .ok (.aload_n 0, 1) := by decide +kernel
theorem d_EL_add_20 : decode b_EL_add 20 = .ok (.getfield 17, 3) := by decide +kernel
theorem d_EL_add_23 : decode b_EL_add 23 = .ok (.aload_n 0, 1) := by decide +kernel
theorem d_EL_add_24 : decode b_EL_add 24 = .ok (.getfield 30, 3) := by decide +kernel
theorem d_EL_add_27 : decode b_EL_add 27 = .ok (.aload_n 0, 1) := by decide +kernel
theorem d_EL_add_28 : decode b_EL_add 28 = .ok (.getfield 17, 3) := by decide +kernel
theorem d_EL_add_31 : decode b_EL_add 31 = .ok (.iload_n 2, 1) := by decide +kernel
theorem d_EL_add_32 : decode b_EL_add 32 = .ok (.iaload, 1) := by decide +kernel
theorem d_EL_add_33 : decode b_EL_add 33 = .ok (.iconst 1, 1) := by decide +kernel
theorem d_EL_add_34 : decode b_EL_add 34 = .ok (.iadd, 1) := by decide +kernel
theorem d_EL_add_35 : decode b_EL_add 35 = .ok (.iastore, 1) := by decide +kernel
theorem d_EL_add_36 : decode b_EL_add 36 = .ok (.aload_n 0, 1) := by decide +kernel
theorem d_EL_add_37 : decode b_EL_add 37 = .ok (.getfield 21, 3) := by decide +kernel
theorem d_EL_add_40 : decode b_EL_add 40 = .ok (.aload_n 0, 1) := by decide +kernel
theorem d_EL_add_41 : decode b_EL_add 41 = .ok (.getfield 30, 3) := by decide +kernel
theorem d_EL_add_44 : decode b_EL_add 44 = .ok (.iload_n 2, 1) := by decide +kernel
theorem d_EL_add_45 : decode b_EL_add 45 = .ok (.iastore, 1) := by decide +kernel
theorem d_EL_add_46 : decode b_EL_add 46 = .ok (.aload_n 0, 1) := by decide +kernel
theorem d_EL_add_47 : decode b_EL_add 47 = .ok (.getfield 26, 3) := by decide +kernel
theorem d_EL_add_50 : decode b_EL_add 50 = .ok (.aload_n 0, 1) := by decide +kernel
theorem d_EL_add_51 : decode b_EL_add 51 = .ok (.getfield 30, 3) := by decide +kernel
theorem d_EL_add_54 : decode b_EL_add 54 = .ok (.aload_n 3, 1) := by decide +kernel
theorem d_EL_add_55 : decode b_EL_add 55 = .ok (.aastore, 1) := by decide +kernel
theorem d_EL_add_56 : decode b_EL_add 56 = .ok (.aload_n 0, 1) := by decide +kernel
theorem d_EL_add_57 : decode b_EL_add 57 = .ok (.dup, 1) := by decide +kernel
theorem d_EL_add_58 : decode b_EL_add 58 = .ok (.getfield 30, 3) := by decide +kernel
theorem d_EL_add_61 : decode b_EL_add 61 = .ok (.iconst 1, 1) := by decide +kernel
theorem d_EL_add_62 : decode b_EL_add 62 = .ok (.iadd, 1) := by decide +kernel
theorem d_EL_add_63 : decode b_EL_add 63 = .ok (.putfield 30, 3) := by decide +kernel
theorem d_EL_add_66 : decode b_EL_add 66 = .ok (.return_, 1) := by decide +kernel
theorem d_LL_follow_0 : decode b_LL_follow 0 = .ok (.aload_n 2, 1) := by decide +kernel
theorem d_LL_follow_1 : decode b_LL_follow 1 = .ok (.getfield 197, 3) := by decide +kernel
theorem d_LL_follow_4 : decode b_LL_follow 4 = .ok (.ifCond .eq 15, 3) := by decide +kernel
theorem d_LL_follow_7 : decode b_LL_follow 7 = .ok (.aload_n 0, 1) := by decide +kernel
theorem d_LL_follow_8 : decode b_LL_follow 8 = .ok (.getfield 33, 3) := by decide +kernel
theorem d_LL_follow_11 : decode b_LL_follow 11 = .ok (.getfield 148, 3) := by decide +kernel
theorem d_LL_follow_14 : decode b_LL_follow 14 = .ok (.iload_n 1, 1) := by decide +kernel
theorem d_LL_follow_15 : decode b_LL_follow 15 = .ok (.iaload, 1) := by decide +kernel
theorem d_LL_follow_16 : decode b_LL_follow 16 = .ok (.ifCond .ne 18, 3) := by decide +kernel
theorem d_LL_follow_19 : decode b_LL_follow 19 = .ok (.aload_n 0, 1) := by decide +kernel
theorem d_LL_follow_20 : decode b_LL_follow 20 = .ok (.getfield 33, 3) := by decide +kernel
theorem d_LL_follow_23 : decode b_LL_follow 23 = .ok (.iload_n 1, 1) := by decide +kernel
theorem d_LL_follow_24 : decode b_LL_follow 24 = .ok (.aload_n 2, 1) := by decide +kernel
theorem d_LL_follow_25 : decode b_LL_follow 25 = .ok (.getfield 200, 3) := by decide +kernel
theorem d_LL_follow_28 : decode b_LL_follow 28 = .ok (.invokevirtual 201, 3) := by decide +kernel
theorem d_LL_follow_31 : decode b_LL_follow 31 = .ok (.ifCond .eq 5, 3) := by decide +kernel
theorem d_LL_follow_34 : decode b_LL_follow 34 = .ok (.iconst 0, 1) := by decide +kernel
theorem d_LL_follow_35 : decode b_LL_follow 35 = .ok (.ireturn, 1) := by decide +kernel
theorem d_LL_follow_36 : decode b_LL_follow 36 = .ok (.aload_n 0, 1) := by decide +kernel
theorem d_LL_follow_37 : decode b_LL_follow 37 = .ok (.getfield 33, 3) := by decide +kernel
theorem d_LL_follow_40 : decode b_LL_follow 40 = .ok (.aload_n 2, 1) := by decide +kernel
theorem d_LL_follow_41 : decode b_LL_follow 41 = .ok (.getfield 200, 3) := by decide +kernel
theorem d_LL_follow_44 : decode b_LL_follow 44 = .ok (.invokevirtual 205, 3) := by decide +kernel
theorem d_LL_follow_47 : decode b_LL_follow 47 = .ok (.astore_n 3, 1) := by decide +kernel
theorem d_LL_follow_48 : decode b_LL_follow 48 = .ok (.aload_n 3, 1) := by decide +kernel
theorem d_LL_follow_49 : decode b_LL_follow 49 = .ok (.ifnull 46, 3) := by decide +kernel
theorem d_LL_follow_52 : decode b_LL_follow 52 = .ok (.aload_n 2, 1) := by decide +kernel
theorem d_LL_follow_53 : decode b_LL_follow 53 = .ok (.getfield 209, 3) := by decide +kernel
theorem d_LL_follow_56 : decode b_LL_follow 56 = .ok (.getfield 213, 3) := by decide +kernel
theorem d_LL_follow_59 : decode b_LL_follow 59 = .ok (.ifCond .ne 17, 3) := by decide +kernel
theorem d_LL_follow_62 : decode b_LL_follow 62 = .ok (.aload_n 2, 1) := by decide +kernel
theorem d_LL_follow_63 : decode b_LL_follow 63 = .ok (.getfield 209, 3) := by decide +kernel
theorem d_LL_follow_66 : decode b_LL_follow 66 = .ok (.aload_n 3, 1) := by decide +kernel
theorem d_LL_follow_67 : decode b_LL_follow 67 = .ok (.getfield 177, 3) := by decide +kernel
theorem d_LL_follow_70 : decode b_LL_follow 70 = .ok (.invokevirtual 181, 3) := by decide +kernel
theorem d_LL_follow_73 : decode b_LL_follow 73 = .ok (.ifCond .eq 7, 3) := by decide +kernel
theorem d_LL_follow_76 : decode b_LL_follow 76 = .ok (.iconst 1, 1) := by decide +kernel
theorem d_LL_follow_77 : decode b_LL_follow 77 = .ok (.goto 4, 3) := by decide +kernel
theorem d_LL_follow_80 : decode b_LL_follow 80 = .ok (.iconst 0, 1) := by decide +kernel
theorem d_LL_follow_81 : decode b_LL_follow 81 = .ok (.istore 4, 2) := by decide +kernel
theorem d_LL_follow_83 : decode b_LL_follow 83 = .ok (.iload 4, 2) := by decide +kernel
theorem d_LL_follow_85 : decode b_LL_follow 85 = .ok (.ifCond .eq 7, 3) := by decide +kernel
theorem d_LL_follow_88 : decode b_LL_follow 88 = .ok (.iconst 0, 1) := by decide +kernel
theorem d_LL_follow_89 : decode b_LL_follow 89 = .ok (.goto 5, 3) := by decide +kernel
theorem d_LL_follow_92 : decode b_LL_follow 92 = .ok (.bipush (-5), 2) := by decide +kernel
theorem d_LL_follow_94 : decode b_LL_follow 94 = .ok (.ireturn, 1) := by decide +kernel
theorem d_LL_follow_95 : decode b_LL_follow 95 = .ok (.aload_n 0, 1) := by decide +kernel
theorem d_LL_follow_96 : decode b_LL_follow 96 = .ok (.aload_n 2, 1) := by decide +kernel
theorem d_LL_follow_97 : decode b_LL_follow 97 = .ok (.getfield 200, 3) := by decide +kernel
theorem d_LL_follow_100 : decode b_LL_follow 100 = .ok (.aload_n 2, 1) := by decide +kernel
theorem d_LL_follow_101 : decode b_LL_follow 101 = .ok (.getfield 209, 3) := by decide +kernel
theorem d_LL_follow_104 : decode b_LL_follow 104 = .ok (.invokevirtual 71, 3) := by decide +kernel
theorem d_LL_follow_107 : decode b_LL_follow 107 = .ok (.astore 4, 2) := by decide +kernel
theorem d_LL_follow_109 : decode b_LL_follow 109 = .ok (.aload 4, 2) := by decide +kernel
theorem d_LL_follow_111 : decode b_LL_follow 111 = .ok (.ifnonnull 6, 3) := by decide +kernel
theorem d_LL_follow_114 : decode b_LL_follow 114 = .ok (.bipush (-4), 2) := by decide +kernel
theorem d_LL_follow_116 : decode b_LL_follow 116 = .ok (.ireturn, 1) := by decide +kernel
theorem d_LL_follow_117 : decode b_LL_follow 117 = .ok (.aload_n 0, 1) := by decide +kernel
theorem d_LL_follow_118 : decode b_LL_follow 118 = .ok (.getfield 33, 3) := by decide +kernel
theorem d_LL_follow_121 : decode b_LL_follow 121 = .ok (.aload 4, 2) := by decide +kernel
theorem d_LL_follow_123 : decode b_LL_follow 123 = .ok (.iload_n 1, 1) := by decide +kernel
theorem d_LL_follow_124 : decode b_LL_follow 124 = .ok (.aload_n 2, 1) := by decide +kernel
theorem d_LL_follow_125 : decode b_LL_follow 125 = .ok (.invokevirtual 216, 3) := by decide +kernel
theorem d_LL_follow_128 : decode b_LL_follow 128 = .ok (.iconst 0, 1) := by decide +kernel
theorem d_LL_follow_129 : decode b_LL_follow 129 = .ok (.ireturn, 1) := by decide +kernel
theorem d_LL_fillDraft_0 : decode b_LL_fillDraft 0 = .ok (.aload_n 0, 1) := by decide +kernel
theorem d_LL_fillDraft_1 : decode b_LL_fillDraft 1 = .ok (.getfield 33, 3) := by decide +kernel
theorem d_LL_fillDraft_4 : decode b_LL_fillDraft 4 = .ok (.aload_n 1, 1) := by decide +kernel
theorem d_LL_fillDraft_5 : decode b_LL_fillDraft 5 = .ok (.invokevirtual 185, 3) := by decide +kernel
theorem d_LL_fillDraft_8 : decode b_LL_fillDraft 8 = .ok (.iconst 0, 1) := by decide +kernel
theorem d_LL_fillDraft_9 : decode b_LL_fillDraft 9 = .ok (.istore_n 2, 1) := by decide +kernel
theorem d_LL_fillDraft_10 : decode b_LL_fillDraft 10 = .ok (.iload_n 2, 1) := by decide +kernel
theorem d_LL_fillDraft_11 : decode b_LL_fillDraft 11 = .ok (.aload_n 0, 1) := by decide +kernel
theorem d_LL_fillDraft_12 : decode b_LL_fillDraft 12 = .ok (.getfield 33, 3) := by decide +kernel
theorem d_LL_fillDraft_15 : decode b_LL_fillDraft 15 = .ok (.getfield 138, 3) := by decide +kernel
theorem d_LL_fillDraft_18 : decode b_LL_fillDraft 18 = .ok (.if_icmp .ge 79, 3) := by decide +kernel
theorem d_LL_fillDraft_21 : decode b_LL_fillDraft 21 = .ok (.iload_n 2, 1) := by decide +kernel
theorem d_LL_fillDraft_22 : decode b_LL_fillDraft 22 = .ok (.bipush 20, 2) := by decide +kernel
theorem d_LL_fillDraft_24 : decode b_LL_fillDraft 24 = .ok (.if_icmp .ge 73, 3) := by decide +kernel
theorem d_LL_fillDraft_27 : decode b_LL_fillDraft 27 = .ok (.aload_n 0, 1) := by decide +kernel
theorem d_LL_fillDraft_28 : decode b_LL_fillDraft 28 = .ok (.getfield 33, 3) := by decide +kernel
theorem d_LL_fillDraft_31 : decode b_LL_fillDraft 31 = .ok (.getfield 144, 3) := by decide +kernel
theorem d_LL_fillDraft_34 : decode b_LL_fillDraft 34 = .ok (.iload_n 2, 1) := by decide +kernel
theorem d_LL_fillDraft_35 : decode b_LL_fillDraft 35 = .ok (.aaload, 1) := by decide +kernel
theorem d_LL_fillDraft_36 : decode b_LL_fillDraft 36 = .ok (.astore_n 3, 1) := by decide +kernel
theorem d_LL_fillDraft_37 : decode b_LL_fillDraft 37 = .ok (.iconst 0, 1) := by decide +kernel
theorem d_LL_fillDraft_38 : decode b_LL_fillDraft 38 = .ok (.istore 4, 2) := by decide +kernel
theorem d_LL_fillDraft_40 : decode b_LL_fillDraft 40 = .ok (.iload 4, 2) := by decide +kernel
theorem d_LL_fillDraft_42 : decode b_LL_fillDraft 42 = .ok (.aload_n 3, 1) := by decide +kernel
theorem d_LL_fillDraft_43 : decode b_LL_fillDraft 43 = .ok (.getfield 86, 3) := by decide +kernel
theorem d_LL_fillDraft_46 : decode b_LL_fillDraft 46 = .ok (.if_icmp .ge 45, 3) := by decide +kernel
theorem d_LL_fillDraft_49 : decode b_LL_fillDraft 49 = .ok (.aload_n 0, 1) := by decide +kernel
theorem d_LL_fillDraft_50 : decode b_LL_fillDraft 50 = .ok (.iload_n 2, 1) := by decide +kernel
theorem d_LL_fillDraft_51 : decode b_LL_fillDraft 51 = .ok (.aload_n 3, 1) := by decide +kernel
theorem d_LL_fillDraft_52 : decode b_LL_fillDraft 52 = .ok (.getfield 189, 3) := by decide +kernel
theorem d_LL_fillDraft_55 : decode b_LL_fillDraft 55 = .ok (.iload 4, 2) := by decide +kernel
theorem d_LL_fillDraft_57 : decode b_LL_fillDraft 57 = .ok (.aaload, 1) := by decide +kernel
theorem d_LL_fillDraft_58 : decode b_LL_fillDraft 58 = .ok (.invokevirtual 193, 3) := by decide +kernel
theorem d_LL_fillDraft_61 : decode b_LL_fillDraft 61 = .ok (.istore 5, 2) := by decide +kernel
theorem d_LL_fillDraft_63 : decode b_LL_fillDraft 63 = .ok (.iload 5, 2) := by decide +kernel
theorem d_LL_fillDraft_65 : decode b_LL_fillDraft 65 = .ok (.ifCond .eq 20, 3) := by decide +kernel
theorem d_LL_fillDraft_68 : decode b_LL_fillDraft 68 = .ok (.aload_n 0, 1) := by decide +kernel
theorem d_LL_fillDraft_69 : decode b_LL_fillDraft 69 = .ok (.bipush 8, 2) := by decide +kernel
theorem d_LL_fillDraft_71 : decode b_LL_fillDraft 71 = .ok (.aload_n 3, 1) := by decide +kernel
theorem d_LL_fillDraft_72 : decode b_LL_fillDraft 72 = .ok (.getfield 145, 3) := by decide +kernel
theorem d_LL_fillDraft_75 : decode b_LL_fillDraft 75 = .ok (.imul, 1) := by decide +kernel
theorem d_LL_fillDraft_76 : decode b_LL_fillDraft 76 = .ok (.iload 4, 2) := by decide +kernel
theorem d_LL_fillDraft_78 : decode b_LL_fillDraft 78 = .ok (.iadd, 1) := by decide +kernel
theorem d_LL_fillDraft_79 : decode b_LL_fillDraft 79 = .ok (.putfield 36, 3) := by decide +kernel
theorem d_LL_fillDraft_82 : decode b_LL_fillDraft 82 = .ok (.iload 5, 2) := by decide +kernel
theorem d_LL_fillDraft_84 : decode b_LL_fillDraft 84 = .ok (.ireturn, 1) := by decide +kernel
theorem d_LL_fillDraft_85 : decode b_LL_fillDraft 85 = .ok (.iinc 4 1, 3) := by decide +kernel
theorem d_LL_fillDraft_88 : decode b_LL_fillDraft 88 = .ok (.goto (-48), 3) := by decide +kernel
theorem d_LL_fillDraft_91 : decode b_LL_fillDraft 91 = .ok (.iinc 2 1, 3) := by decide +kernel
theorem d_LL_fillDraft_94 : decode b_LL_fillDraft 94 = .ok (.goto (-84), 3) := by decide +kernel
theorem d_LL_fillDraft_97 : decode b_LL_fillDraft 97 = .ok (.iconst 0, 1) := by decide +kernel
theorem d_LL_fillDraft_98 : decode b_LL_fillDraft 98 = .ok (.ireturn, 1) := by decide +kernel
theorem d_LL_resolve_0 : decode b_LL_resolve 0 = .ok (.aload_n 0, 1) := by decide +kernel
theorem d_LL_resolve_1 : decode b_LL_resolve 1 = .ok (.getfield 10, 3) := by decide +kernel
theorem d_LL_resolve_4 : decode b_LL_resolve 4 = .ok (.invokevirtual 49, 3) := by decide +kernel
theorem d_LL_resolve_7 : decode b_LL_resolve 7 = .ok (.lstore_n 1, 1) := by decide +kernel
theorem d_LL_resolve_8 : decode b_LL_resolve 8 = .ok (.aload_n 0, 1) := by decide +kernel
theorem d_LL_resolve_9 : decode b_LL_resolve 9 = .ok (.getfield 10, 3) := by decide +kernel
theorem d_LL_resolve_12 : decode b_LL_resolve 12 = .ok (.invokevirtual 78, 3) := by decide +kernel
theorem d_LL_resolve_15 : decode b_LL_resolve 15 = .ok (.astore_n 3, 1) := by decide +kernel
theorem d_LL_resolve_16 : decode b_LL_resolve 16 = .ok (.aload_n 0, 1) := by decide +kernel
theorem d_LL_resolve_17 : decode b_LL_resolve 17 = .ok (.getfield 10, 3) := by decide +kernel
theorem d_LL_resolve_20 : decode b_LL_resolve 20 = .ok (.invokevirtual 61, 3) := by decide +kernel
theorem d_LL_resolve_23 : decode b_LL_resolve 23 = .ok (.istore 4, 2) := by decide +kernel
theorem d_LL_resolve_25 : decode b_LL_resolve 25 = .ok (.lload_n 1, 1) := by decide +kernel
theorem d_LL_resolve_26 : decode b_LL_resolve 26 = .ok (.lconst 0, 1) := by decide +kernel
theorem d_LL_resolve_27 : decode b_LL_resolve 27 = .ok (.lcmp, 1) := by decide +kernel
theorem d_LL_resolve_28 : decode b_LL_resolve 28 = .ok (.ifCond .eq 12, 3) := by decide +kernel
theorem d_LL_resolve_31 : decode b_LL_resolve 31 = .ok (.aload_n 3, 1) := by decide +kernel
theorem d_LL_resolve_32 : decode b_LL_resolve 32 = .ok (.ifnull 8, 3) := by decide +kernel
theorem d_LL_resolve_35 : decode b_LL_resolve 35 = .ok (.iload 4, 2) := by decide +kernel
theorem d_LL_resolve_37 : decode b_LL_resolve 37 = .ok (.ifCond .ne 6, 3) := by decide +kernel
theorem d_LL_resolve_40 : decode b_LL_resolve 40 = .ok (.bipush (-3), 2) := by decide +kernel
theorem d_LL_resolve_42 : decode b_LL_resolve 42 = .ok (.ireturn, 1) := by decide +kernel
theorem d_LL_resolve_43 : decode b_LL_resolve 43 = .ok (.aload_n 0, 1) := by decide +kernel
theorem d_LL_resolve_44 : decode b_LL_resolve 44 = .ok (.iconst (-1), 1) := by decide +kernel
theorem d_LL_resolve_45 : decode b_LL_resolve 45 = .ok (.putfield 36, 3) := by decide +kernel
theorem d_LL_resolve_48 : decode b_LL_resolve 48 = .ok (.aload_n 0, 1) := by decide +kernel
theorem d_LL_resolve_49 : decode b_LL_resolve 49 = .ok (.lload_n 1, 1) := by decide +kernel
theorem d_LL_resolve_50 : decode b_LL_resolve 50 = .ok (.aload_n 3, 1) := by decide +kernel
theorem d_LL_resolve_51 : decode b_LL_resolve 51 = .ok (.invokevirtual 71, 3) := by decide +kernel
theorem d_LL_resolve_54 : decode b_LL_resolve 54 = .ok (.astore 5, 2) := by decide +kernel
theorem d_LL_resolve_56 : decode b_LL_resolve 56 = .ok (.aload 5, 2) := by decide +kernel
theorem d_LL_resolve_58 : decode b_LL_resolve 58 = .ok (.ifnonnull 6, 3) := by decide +kernel
theorem d_LL_resolve_61 : decode b_LL_resolve 61 = .ok (.bipush (-4), 2) := by decide +kernel
theorem d_LL_resolve_63 : decode b_LL_resolve 63 = .ok (.ireturn, 1) := by decide +kernel
theorem d_LL_resolve_64 : decode b_LL_resolve 64 = .ok (.aload_n 0, 1) := by decide +kernel
theorem d_LL_resolve_65 : decode b_LL_resolve 65 = .ok (.aload 5, 2) := by decide +kernel
theorem d_LL_resolve_67 : decode b_LL_resolve 67 = .ok (.invokevirtual 134, 3) := by decide +kernel
theorem d_LL_resolve_70 : decode b_LL_resolve 70 = .ok (.istore 6, 2) := by decide +kernel
theorem d_LL_resolve_72 : decode b_LL_resolve 72 = .ok (.iload 6, 2) := by decide +kernel
theorem d_LL_resolve_74 : decode b_LL_resolve 74 = .ok (.ifCond .eq 6, 3) := by decide +kernel
theorem d_LL_resolve_77 : decode b_LL_resolve 77 = .ok (.iload 6, 2) := by decide +kernel
theorem d_LL_resolve_79 : decode b_LL_resolve 79 = .ok (.ireturn, 1) := by decide +kernel
theorem d_LL_resolve_80 : decode b_LL_resolve 80 = .ok (.aload_n 0, 1) := by decide +kernel
theorem d_LL_resolve_81 : decode b_LL_resolve 81 = .ok (.getfield 29, 3) := by decide +kernel
theorem d_LL_resolve_84 : decode b_LL_resolve 84 = .ok (.astore 7, 2) := by decide +kernel
theorem d_LL_resolve_86 : decode b_LL_resolve 86 = .ok (.aload_n 0, 1) := by decide +kernel
theorem d_LL_resolve_87 : decode b_LL_resolve 87 = .ok (.aload_n 0, 1) := by decide +kernel
theorem d_LL_resolve_88 : decode b_LL_resolve 88 = .ok (.getfield 33, 3) := by decide +kernel
theorem d_LL_resolve_91 : decode b_LL_resolve 91 = .ok (.putfield 29, 3) := by decide +kernel
theorem d_LL_resolve_94 : decode b_LL_resolve 94 = .ok (.aload_n 0, 1) := by decide +kernel
theorem d_LL_resolve_95 : decode b_LL_resolve 95 = .ok (.aload 7, 2) := by decide +kernel
theorem d_LL_resolve_97 : decode b_LL_resolve 97 = .ok (.putfield 33, 3) := by decide +kernel
theorem d_LL_resolve_100 : decode b_LL_resolve 100 = .ok (.aload_n 0, 1) := by decide +kernel
theorem d_LL_resolve_101 : decode b_LL_resolve 101 = .ok (.getfield 29, 3) := by decide +kernel
theorem d_LL_resolve_104 : decode b_LL_resolve 104 = .ok (.getfield 138, 3) := by decide +kernel
theorem d_LL_resolve_107 : decode b_LL_resolve 107 = .ok (.ireturn, 1) := by decide +kernel
theorem d_LL_culprit_0 : decode b_LL_culprit 0 = .ok (.aload_n 0, 1) := by decide +kernel
theorem d_LL_culprit_1 : decode b_LL_culprit 1 = .ok (.getfield 36, 3) := by decide +kernel
theorem d_LL_culprit_4 : decode b_LL_culprit 4 = .ok (.ireturn, 1) := by decide +kernel
theorem d_EL_has_0 : decode b_EL_has 0 = .ok (.iload_n 1, 1) := by decide +kernel
theorem d_EL_has_1 : decode b_EL_has 1 = .ok (.ifCond .lt 15, 3) := by decide +kernel
theorem d_EL_has_4 : decode b_EL_has 4 = .ok (.iload_n 1, 1) := by decide +kernel
theorem d_EL_has_5 : decode b_EL_has 5 = .ok (.aload_n 0, 1) := by decide +kernel
theorem d_EL_has_6 : decode b_EL_has 6 = .ok (.getfield 30, 3) := by decide +kernel
theorem d_EL_has_9 : decode b_EL_has 9 = .ok (.if_icmp .ge 7, 3) := by decide +kernel
theorem d_EL_has_12 : decode b_EL_has 12 = .ok (.iconst 1, 1) := by decide +kernel
theorem d_EL_has_13 : decode b_EL_has 13 = .ok (.goto 4, 3) := by decide +kernel
theorem d_EL_has_16 : decode b_EL_has 16 = .ok (.iconst 0, 1) := by decide +kernel
