theorem d_MD_excluded_2 : decode b_MD_excluded 2 = .ok (.imul, 1) := by decide +kernel
theorem d_MD_excluded_3 : decode b_MD_excluded 3 = .ok (.istore_n 3, 1) := by decide +kernel
theorem d_MD_excluded_4 : decode b_MD_excluded 4 = .ok (.iload_n 3, 1) := by decide +kernel
theorem d_MD_excluded_5 : decode b_MD_excluded 5 = .ok (.iload_n 1, 1) := by decide +kernel
theorem d_MD_excluded_6 : decode b_MD_excluded 6 = .ok (.iconst 3, 1) := by decide +kernel
theorem d_MD_excluded_7 : decode b_MD_excluded 7 = .ok (.imul, 1) := by decide +kernel
theorem d_MD_excluded_8 : decode b_MD_excluded 8 = .ok (.aload_n 0, 1) := by decide +kernel
theorem d_MD_excluded_9 : decode b_MD_excluded 9 = .ok (.getfield 54, 3) := by decide +kernel
theorem d_MD_excluded_12 : decode b_MD_excluded 12 = .ok (.iload_n 1, 1) := by decide +kernel
theorem d_MD_excluded_13 : decode b_MD_excluded 13 = .ok (.iaload, 1) := by decide +kernel
theorem d_MD_excluded_14 : decode b_MD_excluded 14 = .ok (.iadd, 1) := by decide +kernel
theorem d_MD_excluded_15 : decode b_MD_excluded 15 = .ok (.if_icmp .ge 82, 3) := by decide +kernel
theorem d_MD_excluded_18 : decode b_MD_excluded 18 = .ok (.aload_n 0, 1) := by decide +kernel
theorem d_MD_excluded_19 : decode b_MD_excluded 19 = .ok (.getfield 57, 3) := by decide +kernel
theorem d_MD_excluded_22 : decode b_MD_excluded 22 = .ok (.iload_n 3, 1) := by decide +kernel
theorem d_MD_excluded_23 : decode b_MD_excluded 23 = .ok (.iaload, 1) := by decide +kernel
theorem d_MD_excluded_24 : decode b_MD_excluded 24 = .ok (.iload_n 2, 1) := by decide +kernel
theorem d_MD_excluded_25 : decode b_MD_excluded 25 = .ok (.if_icmp .ne 7, 3) := by decide +kernel
theorem d_MD_excluded_28 : decode b_MD_excluded 28 = .ok (.iconst 1, 1) := by decide +kernel
theorem d_MD_excluded_29 : decode b_MD_excluded 29 = .ok (.goto 4, 3) := by decide +kernel
theorem d_MD_excluded_32 : decode b_MD_excluded 32 = .ok (.iconst 0, 1) := by decide +kernel
theorem d_MD_excluded_33 : decode b_MD_excluded 33 = .ok (.istore 4, 2) := by decide +kernel
theorem d_MD_excluded_35 : decode b_MD_excluded 35 = .ok (.iconst 0, 1) := by decide +kernel
theorem d_MD_excluded_36 : decode b_MD_excluded 36 = .ok (.istore 5, 2) := by decide +kernel
theorem d_MD_excluded_38 : decode b_MD_excluded 38 = .ok (.iload 5, 2) := by decide +kernel
theorem d_MD_excluded_40 : decode b_MD_excluded 40 = .ok (.iload_n 2, 1) := by decide +kernel
theorem d_MD_excluded_41 : decode b_MD_excluded 41 = .ok (.if_icmp .ge 43, 3) := by decide +kernel
theorem d_MD_excluded_44 : decode b_MD_excluded 44 = .ok (.iload 4, 2) := by decide +kernel
theorem d_MD_excluded_46 : decode b_MD_excluded 46 = .ok (.ifCond .eq 38, 3) := by decide +kernel
theorem d_MD_excluded_49 : decode b_MD_excluded 49 = .ok (.aload_n 0, 1) := by decide +kernel
theorem d_MD_excluded_50 : decode b_MD_excluded 50 = .ok (.getfield 60, 3) := by decide +kernel
theorem d_MD_excluded_53 : decode b_MD_excluded 53 = .ok (.iload_n 3, 1) := by decide +kernel
theorem d_MD_excluded_54 : decode b_MD_excluded 54 = .ok (.bipush 8, 2) := by decide +kernel
theorem d_MD_excluded_56 : decode b_MD_excluded 56 = .ok (.imul, 1) := by decide +kernel
theorem d_MD_excluded_57 : decode b_MD_excluded 57 = .ok (.iload 5, 2) := by decide +kernel
theorem d_MD_excluded_59 : decode b_MD_excluded 59 = .ok (.iadd, 1) := by decide +kernel
theorem d_MD_excluded_60 : decode b_MD_excluded 60 = .ok (.iaload, 1) := by decide +kernel
theorem d_MD_excluded_61 : decode b_MD_excluded 61 = .ok (.aload_n 0, 1) := by decide +kernel
theorem d_MD_excluded_62 : decode b_MD_excluded 62 = .ok (.getfield 20, 3) := by decide +kernel
theorem d_MD_excluded_65 : decode b_MD_excluded 65 = .ok (.iload 5, 2) := by decide +kernel
theorem d_MD_excluded_67 : decode b_MD_excluded 67 = .ok (.iaload, 1) := by decide +kernel
theorem d_MD_excluded_68 : decode b_MD_excluded 68 = .ok (.if_icmp .ne 7, 3) := by decide +kernel
theorem d_MD_excluded_71 : decode b_MD_excluded 71 = .ok (.iconst 1, 1) := by decide +kernel
theorem d_MD_excluded_72 : decode b_MD_excluded 72 = .ok (.goto 4, 3) := by decide +kernel
theorem d_MD_excluded_75 : decode b_MD_excluded 75 = .ok (.iconst 0, 1) := by decide +kernel
theorem d_MD_excluded_76 : decode b_MD_excluded 76 = .ok (.istore 4, 2) := by decide +kernel
theorem d_MD_excluded_78 : decode b_MD_excluded 78 = .ok (.iinc 5 1, 3) := by decide +kernel
theorem d_MD_excluded_81 : decode b_MD_excluded 81 = .ok (.goto (-43), 3) := by decide +kernel
theorem d_MD_excluded_84 : decode b_MD_excluded 84 = .ok (.iload 4, 2) := by decide +kernel
theorem d_MD_excluded_86 : decode b_MD_excluded 86 = .ok (.ifCond .eq 5, 3) := by decide +kernel
theorem d_MD_excluded_89 : decode b_MD_excluded 89 = .ok (.iconst 1, 1) := by decide +kernel
theorem d_MD_excluded_90 : decode b_MD_excluded 90 = .ok (.ireturn, 1) := by decide +kernel
theorem d_MD_excluded_91 : decode b_MD_excluded 91 = .ok (.iinc 3 1, 3) := by decide +kernel
theorem d_MD_excluded_94 : decode b_MD_excluded 94 = .ok (.goto (-90), 3) := by decide +kernel
theorem d_MD_excluded_97 : decode b_MD_excluded 97 = .ok (.iconst 0, 1) := by decide +kernel
theorem d_MD_excluded_98 : decode b_MD_excluded 98 = .ok (.ireturn, 1) := by decide +kernel
theorem d_MD_barred_0 : decode b_MD_barred 0 = .ok (.iload_n 1, 1) := by decide +kernel
theorem d_MD_barred_1 : decode b_MD_barred 1 = .ok (.istore_n 3, 1) := by decide +kernel
theorem d_MD_barred_2 : decode b_MD_barred 2 = .ok (.iload_n 3, 1) := by decide +kernel
theorem d_MD_barred_3 : decode b_MD_barred 3 = .ok (.bipush 20, 2) := by decide +kernel
theorem d_MD_barred_5 : decode b_MD_barred 5 = .ok (.if_icmp .le 29, 3) := by decide +kernel
theorem d_MD_barred_8 : decode b_MD_barred 8 = .ok (.aload_n 0, 1) := by decide +kernel
theorem d_MD_barred_9 : decode b_MD_barred 9 = .ok (.aload_n 0, 1) := by decide +kernel
theorem d_MD_barred_10 : decode b_MD_barred 10 = .ok (.getfield 81, 3) := by decide +kernel
theorem d_MD_barred_13 : decode b_MD_barred 13 = .ok (.iload_n 3, 1) := by decide +kernel
theorem d_MD_barred_14 : decode b_MD_barred 14 = .ok (.iaload, 1) := by decide +kernel
theorem d_MD_barred_15 : decode b_MD_barred 15 = .ok (.iload_n 2, 1) := by decide +kernel
theorem d_MD_barred_16 : decode b_MD_barred 16 = .ok (.invokevirtual 170, 3) := by decide +kernel
theorem d_MD_barred_19 : decode b_MD_barred 19 = .ok (.ifCond .eq 5, 3) := by decide +kernel
theorem d_MD_barred_22 : decode b_MD_barred 22 = .ok (.iconst 1, 1) := by decide +kernel
theorem d_MD_barred_23 : decode b_MD_barred 23 = .ok (.ireturn, 1) := by decide +kernel
theorem d_MD_barred_24 : decode b_MD_barred 24 = .ok (.aload_n 0, 1) := by decide +kernel
theorem d_MD_barred_25 : decode b_MD_barred 25 = .ok (.getfield 78, 3) := by decide +kernel
theorem d_MD_barred_28 : decode b_MD_barred 28 = .ok (.iload_n 3, 1) := by decide +kernel
theorem d_MD_barred_29 : decode b_MD_barred 29 = .ok (.iaload, 1) := by decide +kernel
theorem d_MD_barred_30 : decode b_MD_barred 30 = .ok (.istore_n 3, 1) := by decide +kernel
theorem d_MD_barred_31 : decode b_MD_barred 31 = .ok (.goto (-29), 3) := by decide +kernel
theorem d_MD_barred_34 : decode b_MD_barred 34 = .ok (.iconst 0, 1) := by decide +kernel
theorem d_MD_barred_35 : decode b_MD_barred 35 = .ok (.ireturn, 1) := by decide +kernel
theorem d_MD_add_0 : decode b_MD_add 0 = .ok (.bipush 20, 2) := by decide +kernel
theorem d_MD_add_2 : decode b_MD_add 2 = .ok (.aload_n 0, 1) := by decide +kernel
theorem d_MD_add_3 : decode b_MD_add 3 = .ok (.getfield 69, 3) := by decide +kernel
theorem d_MD_add_6 : decode b_MD_add 6 = .ok (.iadd, 1) := by decide +kernel
theorem d_MD_add_7 : decode b_MD_add 7 = .ok (.istore 5, 2) := by decide +kernel
theorem d_MD_add_9 : decode b_MD_add 9 = .ok (.aload_n 0, 1) := by decide +kernel
theorem d_MD_add_10 : decode b_MD_add 10 = .ok (.getfield 72, 3) := by decide +kernel
theorem d_MD_add_13 : decode b_MD_add 13 = .ok (.iload 5, 2) := by decide +kernel
theorem d_MD_add_15 : decode b_MD_add 15 = .ok (.iload_n 1, 1) := by decide +kernel
theorem d_MD_add_16 : decode b_MD_add 16 = .ok (.iastore, 1) := by decide +kernel
theorem d_MD_add_17 : decode b_MD_add 17 = .ok (.aload_n 0, 1) := by decide +kernel
theorem d_MD_add_18 : decode b_MD_add 18 = .ok (.getfield 75, 3) := by decide +kernel
theorem d_MD_add_21 : decode b_MD_add 21 = .ok (.iload 5, 2) := by decide +kernel
theorem d_MD_add_23 : decode b_MD_add 23 = .ok (.iload_n 2, 1) := by decide +kernel
theorem d_MD_add_24 : decode b_MD_add 24 = .ok (.iastore, 1) := by decide +kernel
theorem d_MD_add_25 : decode b_MD_add 25 = .ok (.aload_n 0, 1) := by decide +kernel
theorem d_MD_add_26 : decode b_MD_add 26 = .ok (.getfield 78, 3) := by decide +kernel
theorem d_MD_add_29 : decode b_MD_add 29 = .ok (.iload 5, 2) := by decide +kernel
theorem d_MD_add_31 : decode b_MD_add 31 = .ok (.iload_n 3, 1) := by decide +kernel
theorem d_MD_add_32 : decode b_MD_add 32 = .ok (.iastore, 1) := by decide +kernel
theorem d_MD_add_33 : decode b_MD_add 33 = .ok (.aload_n 0, 1) := by decide +kernel
theorem d_MD_add_34 : decode b_MD_add 34 = .ok (.getfield 81, 3) := by decide +kernel
theorem d_MD_add_37 : decode b_MD_add 37 = .ok (.iload 5, 2) := by decide +kernel
theorem d_MD_add_39 : decode b_MD_add 39 = .ok (.iload 4, 2) := by decide +kernel
theorem d_MD_add_41 : decode b_MD_add 41 = .ok (.iastore, 1) := by decide +kernel
theorem d_MD_add_42 : decode b_MD_add 42 = .ok (.aload_n 0, 1) := by decide +kernel
theorem d_MD_add_43 : decode b_MD_add 43 = .ok (.dup, 1) := by decide +kernel
theorem d_MD_add_44 : decode b_MD_add 44 = .ok (.getfield 69, 3) := by decide +kernel
theorem d_MD_add_47 : decode b_MD_add 47 = .ok (.iconst 1, 1) := by decide +kernel
theorem d_MD_add_48 : decode b_MD_add 48 = .ok (.iadd, 1) := by decide +kernel
theorem d_MD_add_49 : decode b_MD_add 49 = .ok (.putfield 69, 3) := by decide +kernel
theorem d_MD_add_52 : decode b_MD_add 52 = .ok (.return_, 1) := by decide +kernel
theorem d_MD_need_0 : decode b_MD_need 0 = .ok (.aload_n 0, 1) := by decide +kernel
theorem d_MD_need_1 : decode b_MD_need 1 = .ok (.iload_n 2, 1) := by decide +kernel
theorem d_MD_need_2 : decode b_MD_need 2 = .ok (.invokevirtual 173, 3) := by decide +kernel
theorem d_MD_need_5 : decode b_MD_need 5 = .ok (.aload_n 0, 1) := by decide +kernel
theorem d_MD_need_6 : decode b_MD_need 6 = .ok (.invokevirtual 146, 3) := by decide +kernel
theorem d_MD_need_9 : decode b_MD_need 9 = .ok (.istore_n 3, 1) := by decide +kernel
theorem d_MD_need_10 : decode b_MD_need 10 = .ok (.aload_n 0, 1) := by decide +kernel
theorem d_MD_need_11 : decode b_MD_need 11 = .ok (.iload_n 1, 1) := by decide +kernel
theorem d_MD_need_12 : decode b_MD_need 12 = .ok (.iload_n 3, 1) := by decide +kernel
theorem d_MD_need_13 : decode b_MD_need 13 = .ok (.invokevirtual 176, 3) := by decide +kernel
theorem d_MD_need_16 : decode b_MD_need 16 = .ok (.ifCond .ne 21, 3) := by decide +kernel
theorem d_MD_need_19 : decode b_MD_need 19 = .ok (.aload_n 0, 1) := by decide +kernel
theorem d_MD_need_20 : decode b_MD_need 20 = .ok (.getfield 45, 3) := by decide +kernel
theorem d_MD_need_23 : decode b_MD_need 23 = .ok (.iload_n 2, 1) := by decide +kernel
theorem d_MD_need_24 : decode b_MD_need 24 = .ok (.baload, 1) := by decide +kernel
theorem d_MD_need_25 : decode b_MD_need 25 = .ok (.ifCond .eq 14, 3) := by decide +kernel
theorem d_MD_need_28 : decode b_MD_need 28 = .ok (.aload_n 0, 1) := by decide +kernel
theorem d_MD_need_29 : decode b_MD_need 29 = .ok (.getfield 75, 3) := by decide +kernel
theorem d_MD_need_32 : decode b_MD_need 32 = .ok (.iload_n 1, 1) := by decide +kernel
theorem d_MD_need_33 : decode b_MD_need 33 = .ok (.iaload, 1) := by decide +kernel
theorem d_MD_need_34 : decode b_MD_need 34 = .ok (.ifCond .le 5, 3) := by decide +kernel
theorem d_MD_need_37 : decode b_MD_need 37 = .ok (.iconst 0, 1) := by decide +kernel
theorem d_MD_need_38 : decode b_MD_need 38 = .ok (.ireturn, 1) := by decide +kernel
theorem d_MD_need_39 : decode b_MD_need 39 = .ok (.bipush 20, 2) := by decide +kernel
theorem d_MD_need_41 : decode b_MD_need 41 = .ok (.istore 4, 2) := by decide +kernel
theorem d_MD_need_43 : decode b_MD_need 43 = .ok (.iload 4, 2) := by decide +kernel
theorem d_MD_need_45 : decode b_MD_need 45 = .ok (.bipush 20, 2) := by decide +kernel
theorem d_MD_need_47 : decode b_MD_need 47 = .ok (.aload_n 0, 1) := by decide +kernel
theorem d_MD_need_48 : decode b_MD_need 48 = .ok (.getfield 69, 3) := by decide +kernel
theorem d_MD_need_51 : decode b_MD_need 51 = .ok (.iadd, 1) := by decide +kernel
theorem d_MD_need_52 : decode b_MD_need 52 = .ok (.if_icmp .ge 62, 3) := by decide +kernel
theorem d_MD_need_55 : decode b_MD_need 55 = .ok (.aload_n 0, 1) := by decide +kernel
theorem d_MD_need_56 : decode b_MD_need 56 = .ok (.aload_n 0, 1) := by decide +kernel
theorem d_MD_need_57 : decode b_MD_need 57 = .ok (.getfield 72, 3) := by decide +kernel
theorem d_MD_need_60 : decode b_MD_need 60 = .ok (.iload 4, 2) := by decide +kernel
theorem d_MD_need_62 : decode b_MD_need 62 = .ok (.iaload, 1) := by decide +kernel
theorem d_MD_need_63 : decode b_MD_need 63 = .ok (.iload_n 3, 1) := by decide +kernel
theorem d_MD_need_64 : decode b_MD_need 64 = .ok (.invokevirtual 149, 3) := by decide +kernel
theorem d_MD_need_67 : decode b_MD_need 67 = .ok (.ifCond .eq 41, 3) := by decide +kernel
theorem d_MD_need_70 : decode b_MD_need 70 = .ok (.aload_n 0, 1) := by decide +kernel
theorem d_MD_need_71 : decode b_MD_need 71 = .ok (.iload_n 3, 1) := by decide +kernel
theorem d_MD_need_72 : decode b_MD_need 72 = .ok (.iconst 1, 1) := by decide +kernel
theorem d_MD_need_73 : decode b_MD_need 73 = .ok (.iadd, 1) := by decide +kernel
theorem d_MD_need_74 : decode b_MD_need 74 = .ok (.aload_n 0, 1) := by decide +kernel
theorem d_MD_need_75 : decode b_MD_need 75 = .ok (.getfield 17, 3) := by decide +kernel
theorem d_MD_need_78 : decode b_MD_need 78 = .ok (.invokevirtual 106, 3) := by decide +kernel
theorem d_MD_need_81 : decode b_MD_need 81 = .ok (.ifCond .ne 20, 3) := by decide +kernel
theorem d_MD_need_84 : decode b_MD_need 84 = .ok (.aload_n 0, 1) := by decide +kernel
theorem d_MD_need_85 : decode b_MD_need 85 = .ok (.aload_n 0, 1) := by decide +kernel
theorem d_MD_need_86 : decode b_MD_need 86 = .ok (.getfield 72, 3) := by decide +kernel
theorem d_MD_need_89 : decode b_MD_need 89 = .ok (.iload 4, 2) := by decide +kernel
theorem d_MD_need_91 : decode b_MD_need 91 = .ok (.iaload, 1) := by decide +kernel
theorem d_MD_need_92 : decode b_MD_need 92 = .ok (.iload_n 3, 1) := by decide +kernel
theorem d_MD_need_93 : decode b_MD_need 93 = .ok (.iconst 1, 1) := by decide +kernel
theorem d_MD_need_94 : decode b_MD_need 94 = .ok (.iadd, 1) := by decide +kernel
theorem d_MD_need_95 : decode b_MD_need 95 = .ok (.invokevirtual 152, 3) := by decide +kernel
theorem d_MD_need_98 : decode b_MD_need 98 = .ok (.ifCond .eq 7, 3) := by decide +kernel
theorem d_MD_need_101 : decode b_MD_need 101 = .ok (.iconst 0, 1) := by decide +kernel
theorem d_MD_need_102 : decode b_MD_need 102 = .ok (.goto 5, 3) := by decide +kernel
theorem d_MD_need_105 : decode b_MD_need 105 = .ok (.bipush (-5), 2) := by decide +kernel
theorem d_MD_need_107 : decode b_MD_need 107 = .ok (.ireturn, 1) := by decide +kernel
theorem d_MD_need_108 : decode b_MD_need 108 = .ok (.iinc 4 1, 3) := by decide +kernel
theorem d_MD_need_111 : decode b_MD_need 111 = .ok (.goto (-68), 3) := by decide +kernel
theorem d_MD_need_114 : decode b_MD_need 114 = .ok (.aload_n 0, 1) := by decide +kernel
theorem d_MD_need_115 : decode b_MD_need 115 = .ok (.invokevirtual 179, 3) := by decide +kernel
theorem d_MD_need_118 : decode b_MD_need 118 = .ok (.istore 4, 2) := by decide +kernel
theorem d_MD_need_120 : decode b_MD_need 120 = .ok (.iload 4, 2) := by decide +kernel
theorem d_MD_need_122 : decode b_MD_need 122 = .ok (.ifCond .ge 6, 3) := by decide +kernel
theorem d_MD_need_125 : decode b_MD_need 125 = .ok (.bipush (-4), 2) := by decide +kernel
theorem d_MD_need_127 : decode b_MD_need 127 = .ok (.ireturn, 1) := by decide +kernel
theorem d_MD_need_128 : decode b_MD_need 128 = .ok (.aload_n 0, 1) := by decide +kernel
theorem d_MD_need_129 : decode b_MD_need 129 = .ok (.iload 4, 2) := by decide +kernel
theorem d_MD_need_131 : decode b_MD_need 131 = .ok (.aload_n 0, 1) := by decide +kernel
theorem d_MD_need_132 : decode b_MD_need 132 = .ok (.getfield 75, 3) := by decide +kernel
theorem d_MD_need_135 : decode b_MD_need 135 = .ok (.iload_n 1, 1) := by decide +kernel
theorem d_MD_need_136 : decode b_MD_need 136 = .ok (.iaload, 1) := by decide +kernel
theorem d_MD_need_137 : decode b_MD_need 137 = .ok (.iconst 1, 1) := by decide +kernel
theorem d_MD_need_138 : decode b_MD_need 138 = .ok (.iadd, 1) := by decide +kernel
theorem d_MD_need_139 : decode b_MD_need 139 = .ok (.iload_n 1, 1) := by decide +kernel
theorem d_MD_need_140 : decode b_MD_need 140 = .ok (.iload_n 2, 1) := by decide +kernel
theorem d_MD_need_141 : decode b_MD_need 141 = .ok (.invokevirtual 182, 3) := by decide +kernel
theorem d_MD_need_144 : decode b_MD_need 144 = .ok (.iconst 0, 1) := by decide +kernel
theorem d_MD_need_145 : decode b_MD_need 145 = .ok (.ireturn, 1) := by decide +kernel
theorem d_MD_resolve_0 : decode b_MD_resolve 0 = .ok (.aload_n 0, 1) := by decide +kernel
theorem d_MD_resolve_1 : decode b_MD_resolve 1 = .ok (.invokevirtual 158, 3) := by decide +kernel
theorem d_MD_resolve_4 : decode b_MD_resolve 4 = .ok (.aload_n 0, 1) := by decide +kernel
theorem d_MD_resolve_5 : decode b_MD_resolve 5 = .ok (.invokevirtual 146, 3) := by decide +kernel
theorem d_MD_resolve_8 : decode b_MD_resolve 8 = .ok (.istore_n 1, 1) := by decide +kernel
theorem d_MD_resolve_9 : decode b_MD_resolve 9 = .ok (.aload_n 0, 1) := by decide +kernel
theorem d_MD_resolve_10 : decode b_MD_resolve 10 = .ok (.iconst 0, 1) := by decide +kernel
theorem d_MD_resolve_11 : decode b_MD_resolve 11 = .ok (.iload_n 1, 1) := by decide +kernel
theorem d_MD_resolve_12 : decode b_MD_resolve 12 = .ok (.invokevirtual 161, 3) := by decide +kernel
theorem d_MD_resolve_15 : decode b_MD_resolve 15 = .ok (.ifCond .eq 25, 3) := by decide +kernel
theorem d_MD_resolve_18 : decode b_MD_resolve 18 = .ok (.iload_n 1, 1) := by decide +kernel
theorem d_MD_resolve_19 : decode b_MD_resolve 19 = .ok (.aload_n 0, 1) := by decide +kernel
theorem d_MD_resolve_20 : decode b_MD_resolve 20 = .ok (.getfield 17, 3) := by decide +kernel
theorem d_MD_resolve_23 : decode b_MD_resolve 23 = .ok (.if_icmp .eq 17, 3) := by decide +kernel
theorem d_MD_resolve_26 : decode b_MD_resolve 26 = .ok (.aload_n 0, 1) := by decide +kernel
theorem d_MD_resolve_27 : decode b_MD_resolve 27 = .ok (.iload_n 1, 1) := by decide +kernel
theorem d_MD_resolve_28 : decode b_MD_resolve 28 = .ok (.iconst 1, 1) := by decide +kernel
theorem d_MD_resolve_29 : decode b_MD_resolve 29 = .ok (.iadd, 1) := by decide +kernel
theorem d_MD_resolve_30 : decode b_MD_resolve 30 = .ok (.aload_n 0, 1) := by decide +kernel
theorem d_MD_resolve_31 : decode b_MD_resolve 31 = .ok (.getfield 17, 3) := by decide +kernel
theorem d_MD_resolve_34 : decode b_MD_resolve 34 = .ok (.invokevirtual 167, 3) := by decide +kernel
theorem d_MD_resolve_37 : decode b_MD_resolve 37 = .ok (.ifCond .ne 6, 3) := by decide +kernel
theorem d_MD_resolve_40 : decode b_MD_resolve 40 = .ok (.bipush (-3), 2) := by decide +kernel
theorem d_MD_resolve_42 : decode b_MD_resolve 42 = .ok (.ireturn, 1) := by decide +kernel
theorem d_MD_resolve_43 : decode b_MD_resolve 43 = .ok (.aload_n 0, 1) := by decide +kernel
theorem d_MD_resolve_44 : decode b_MD_resolve 44 = .ok (.iconst (-1), 1) := by decide +kernel
theorem d_MD_resolve_45 : decode b_MD_resolve 45 = .ok (.putfield 63, 3) := by decide +kernel
theorem d_MD_resolve_48 : decode b_MD_resolve 48 = .ok (.aload_n 0, 1) := by decide +kernel
theorem d_MD_resolve_49 : decode b_MD_resolve 49 = .ok (.invokevirtual 179, 3) := by decide +kernel
theorem d_MD_resolve_52 : decode b_MD_resolve 52 = .ok (.istore_n 2, 1) := by decide +kernel
theorem d_MD_resolve_53 : decode b_MD_resolve 53 = .ok (.iload_n 2, 1) := by decide +kernel
theorem d_MD_resolve_54 : decode b_MD_resolve 54 = .ok (.ifCond .ge 6, 3) := by decide +kernel
theorem d_MD_resolve_57 : decode b_MD_resolve 57 = .ok (.bipush (-4), 2) := by decide +kernel
theorem d_MD_resolve_59 : decode b_MD_resolve 59 = .ok (.ireturn, 1) := by decide +kernel
theorem d_MD_resolve_60 : decode b_MD_resolve 60 = .ok (.aload_n 0, 1) := by decide +kernel
theorem d_MD_resolve_61 : decode b_MD_resolve 61 = .ok (.iconst 0, 1) := by decide +kernel
theorem d_MD_resolve_62 : decode b_MD_resolve 62 = .ok (.putfield 69, 3) := by decide +kernel
theorem d_MD_resolve_65 : decode b_MD_resolve 65 = .ok (.aload_n 0, 1) := by decide +kernel
theorem d_MD_resolve_66 : decode b_MD_resolve 66 = .ok (.iload_n 2, 1) := by decide +kernel
theorem d_MD_resolve_67 : decode b_MD_resolve 67 = .ok (.iconst 0, 1) := by decide +kernel
theorem d_MD_resolve_68 : decode b_MD_resolve 68 = .ok (.iconst (-1), 1) := by decide +kernel
theorem d_MD_resolve_69 : decode b_MD_resolve 69 = .ok (.iconst (-1), 1) := by decide +kernel
theorem d_MD_resolve_70 : decode b_MD_resolve 70 = .ok (.invokevirtual 182, 3) := by decide +kernel
theorem d_MD_resolve_73 : decode b_MD_resolve 73 = .ok (.bipush 20, 2) := by decide +kernel
theorem d_MD_resolve_75 : decode b_MD_resolve 75 = .ok (.istore_n 3, 1) := by decide +kernel
theorem d_MD_resolve_76 : decode b_MD_resolve 76 = .ok (.iload_n 3, 1) := by decide +kernel
theorem d_MD_resolve_77 : decode b_MD_resolve 77 = .ok (.bipush 20, 2) := by decide +kernel
theorem d_MD_resolve_79 : decode b_MD_resolve 79 = .ok (.aload_n 0, 1) := by decide +kernel
theorem d_MD_resolve_80 : decode b_MD_resolve 80 = .ok (.getfield 69, 3) := by decide +kernel
theorem d_MD_resolve_83 : decode b_MD_resolve 83 = .ok (.iadd, 1) := by decide +kernel
theorem d_MD_resolve_84 : decode b_MD_resolve 84 = .ok (.if_icmp .ge 77, 3) := by decide +kernel
theorem d_MD_resolve_87 : decode b_MD_resolve 87 = .ok (.iconst 0, 1) := by decide +kernel
theorem d_MD_resolve_88 : decode b_MD_resolve 88 = .ok (.istore 4, 2) := by decide +kernel
theorem d_MD_resolve_90 : decode b_MD_resolve 90 = .ok (.iload 4, 2) := by decide +kernel
theorem d_MD_resolve_92 : decode b_MD_resolve 92 = .ok (.aload_n 0, 1) := by decide +kernel
theorem d_MD_resolve_93 : decode b_MD_resolve 93 = .ok (.getfield 42, 3) := by decide +kernel
theorem d_MD_resolve_96 : decode b_MD_resolve 96 = .ok (.aload_n 0, 1) := by decide +kernel
theorem d_MD_resolve_97 : decode b_MD_resolve 97 = .ok (.getfield 72, 3) := by decide +kernel
theorem d_MD_resolve_100 : decode b_MD_resolve 100 = .ok (.iload_n 3, 1) := by decide +kernel
theorem d_MD_resolve_101 : decode b_MD_resolve 101 = .ok (.iaload, 1) := by decide +kernel
theorem d_MD_resolve_102 : decode b_MD_resolve 102 = .ok (.iaload, 1) := by decide +kernel
theorem d_MD_resolve_103 : decode b_MD_resolve 103 = .ok (.if_icmp .ge 52, 3) := by decide +kernel
theorem d_MD_resolve_106 : decode b_MD_resolve 106 = .ok (.aload_n 0, 1) := by decide +kernel
theorem d_MD_resolve_107 : decode b_MD_resolve 107 = .ok (.iload_n 3, 1) := by decide +kernel
theorem d_MD_resolve_108 : decode b_MD_resolve 108 = .ok (.aload_n 0, 1) := by decide +kernel
theorem d_MD_resolve_109 : decode b_MD_resolve 109 = .ok (.getfield 72, 3) := by decide +kernel
theorem d_MD_resolve_112 : decode b_MD_resolve 112 = .ok (.iload_n 3, 1) := by decide +kernel
theorem d_MD_resolve_113 : decode b_MD_resolve 113 = .ok (.iaload, 1) := by decide +kernel
theorem d_MD_resolve_114 : decode b_MD_resolve 114 = .ok (.bipush 6, 2) := by decide +kernel
theorem d_MD_resolve_116 : decode b_MD_resolve 116 = .ok (.imul, 1) := by decide +kernel
theorem d_MD_resolve_117 : decode b_MD_resolve 117 = .ok (.iload 4, 2) := by decide +kernel
theorem d_MD_resolve_119 : decode b_MD_resolve 119 = .ok (.iadd, 1) := by decide +kernel
theorem d_MD_resolve_120 : decode b_MD_resolve 120 = .ok (.invokevirtual 186, 3) := by decide +kernel
theorem d_MD_resolve_123 : decode b_MD_resolve 123 = .ok (.istore 5, 2) := by decide +kernel
theorem d_MD_resolve_125 : decode b_MD_resolve 125 = .ok (.iload 5, 2) := by decide +kernel
theorem d_MD_resolve_127 : decode b_MD_resolve 127 = .ok (.ifCond .ge 22, 3) := by decide +kernel
theorem d_MD_resolve_130 : decode b_MD_resolve 130 = .ok (.aload_n 0, 1) := by decide +kernel
theorem d_MD_resolve_131 : decode b_MD_resolve 131 = .ok (.bipush 8, 2) := by decide +kernel
theorem d_MD_resolve_133 : decode b_MD_resolve 133 = .ok (.aload_n 0, 1) := by decide +kernel
theorem d_MD_resolve_134 : decode b_MD_resolve 134 = .ok (.getfield 72, 3) := by decide +kernel
theorem d_MD_resolve_137 : decode b_MD_resolve 137 = .ok (.iload_n 3, 1) := by decide +kernel
theorem d_MD_resolve_138 : decode b_MD_resolve 138 = .ok (.iaload, 1) := by decide +kernel
theorem d_MD_resolve_139 : decode b_MD_resolve 139 = .ok (.imul, 1) := by decide +kernel
theorem d_MD_resolve_140 : decode b_MD_resolve 140 = .ok (.iload 4, 2) := by decide +kernel
theorem d_MD_resolve_142 : decode b_MD_resolve 142 = .ok (.iadd, 1) := by decide +kernel
theorem d_MD_resolve_143 : decode b_MD_resolve 143 = .ok (.putfield 63, 3) := by decide +kernel
theorem d_MD_resolve_146 : decode b_MD_resolve 146 = .ok (.iload 5, 2) := by decide +kernel
theorem d_MD_resolve_148 : decode b_MD_resolve 148 = .ok (.ireturn, 1) := by decide +kernel
theorem d_MD_resolve_149 : decode b_MD_resolve 149 = .ok (.iinc 4 1, 3) := by decide +kernel
theorem d_MD_resolve_152 : decode b_MD_resolve 152 = .ok (.goto (-62), 3) := by decide +kernel
theorem d_MD_resolve_155 : decode b_MD_resolve 155 = .ok (.iinc 3 1, 3) := by decide +kernel
theorem d_MD_resolve_158 : decode b_MD_resolve 158 = .ok (.goto (-82), 3) := by decide +kernel
theorem d_MD_resolve_161 : decode b_MD_resolve 161 = .ok (.aload_n 0, 1) := by decide +kernel
theorem d_MD_resolve_162 : decode b_MD_resolve 162 = .ok (.aload_n 0, 1) := by decide +kernel
theorem d_MD_resolve_163 : decode b_MD_resolve 163 = .ok (.getfield 69, 3) := by decide +kernel
theorem d_MD_resolve_166 : decode b_MD_resolve 166 = .ok (.putfield 66, 3) := by decide +kernel
theorem d_MD_resolve_169 : decode b_MD_resolve 169 = .ok (.iconst 0, 1) := by decide +kernel
theorem d_MD_resolve_170 : decode b_MD_resolve 170 = .ok (.istore_n 3, 1) := by decide +kernel
theorem d_MD_resolve_171 : decode b_MD_resolve 171 = .ok (.iload_n 3, 1) := by decide +kernel
theorem d_MD_resolve_172 : decode b_MD_resolve 172 = .ok (.aload_n 0, 1) := by decide +kernel
theorem d_MD_resolve_173 : decode b_MD_resolve 173 = .ok (.getfield 66, 3) := by decide +kernel
theorem d_MD_resolve_176 : decode b_MD_resolve 176 = .ok (.if_icmp .ge 57, 3) := by decide +kernel
theorem d_MD_resolve_179 : decode b_MD_resolve 179 = .ok (.aload_n 0, 1) := by decide +kernel
theorem d_MD_resolve_180 : decode b_MD_resolve 180 = .ok (.getfield 72, 3) := by decide +kernel
theorem d_MD_resolve_183 : decode b_MD_resolve 183 = .ok (.iload_n 3, 1) := by decide +kernel
theorem d_MD_resolve_184 : decode b_MD_resolve 184 = .ok (.aload_n 0, 1) := by decide +kernel
theorem d_MD_resolve_185 : decode b_MD_resolve 185 = .ok (.getfield 72, 3) := by decide +kernel
theorem d_MD_resolve_188 : decode b_MD_resolve 188 = .ok (.iload_n 3, 1) := by decide +kernel
theorem d_MD_resolve_189 : decode b_MD_resolve 189 = .ok (.bipush 20, 2) := by decide +kernel
theorem d_MD_resolve_191 : decode b_MD_resolve 191 = .ok (.iadd, 1) := by decide +kernel
theorem d_MD_resolve_192 : decode b_MD_resolve 192 = .ok (.iaload, 1) := by decide +kernel
theorem d_MD_resolve_193 : decode b_MD_resolve 193 = .ok (.iastore, 1) := by decide +kernel
theorem d_MD_resolve_194 : decode b_MD_resolve 194 = .ok (.aload_n 0, 1) := by decide +kernel
theorem d_MD_resolve_195 : decode b_MD_resolve 195 = .ok (.getfield 75, 3) := by decide +kernel
theorem d_MD_resolve_198 : decode b_MD_resolve 198 = .ok (.iload_n 3, 1) := by decide +kernel
theorem d_MD_resolve_199 : decode b_MD_resolve 199 = .ok (.aload_n 0, 1) := by decide +kernel
theorem d_MD_resolve_200 : decode b_MD_resolve 200 = .ok (.getfield 75, 3) := by decide +kernel
theorem d_MD_resolve_203 : decode b_MD_resolve 203 = .ok (.iload_n 3, 1) := by decide +kernel
theorem d_MD_resolve_204 : decode b_MD_resolve 204 = .ok (.bipush 20, 2) := by decide +kernel
theorem d_MD_resolve_206 : decode b_MD_resolve 206 = .ok (.iadd, 1) := by decide +kernel
theorem d_MD_resolve_207 : decode b_MD_resolve 207 = .ok (.iaload, 1) := by decide +kernel
theorem d_MD_resolve_208 : decode b_MD_resolve 208 = .ok (.iastore, 1) := by decide +kernel
theorem d_MD_resolve_209 : decode b_MD_resolve 209 = .ok (.aload_n 0, 1) := by decide +kernel
theorem d_MD_resolve_210 : decode b_MD_resolve 210 = .ok (.getfield 78, 3) := by decide +kernel
theorem d_MD_resolve_213 : decode b_MD_resolve 213 = .ok (.iload_n 3, 1) := by decide +kernel
theorem d_MD_resolve_214 : decode b_MD_resolve 214 = .ok (.aload_n 0, 1) := by decide +kernel
theorem d_MD_resolve_215 : decode b_MD_resolve 215 = .ok (.getfield 78, 3) := by decide +kernel
theorem d_MD_resolve_218 : decode b_MD_resolve 218 = .ok (.iload_n 3, 1) := by decide +kernel
theorem d_MD_resolve_219 : decode b_MD_resolve 219 = .ok (.bipush 20, 2) := by decide +kernel
theorem d_MD_resolve_221 : decode b_MD_resolve 221 = .ok (.iadd, 1) := by decide +kernel
theorem d_MD_resolve_222 : decode b_MD_resolve 222 = .ok (.iaload, 1) := by decide +kernel
theorem d_MD_resolve_223 : decode b_MD_resolve 223 = .ok (.bipush 20, 2) := by decide +kernel
theorem d_MD_resolve_225 : decode b_MD_resolve 225 = .ok (.isub, 1) := by decide +kernel
theorem d_MD_resolve_226 : decode b_MD_resolve 226 = .ok (.iastore, 1) := by decide +kernel
theorem d_MD_resolve_227 : decode b_MD_resolve 227 = .ok (.iinc 3 1, 3) := by decide +kernel
theorem d_MD_resolve_230 : decode b_MD_resolve 230 = .ok (.goto (-59), 3) := by decide +kernel
theorem d_MD_resolve_233 : decode b_MD_resolve 233 = .ok (.aload_n 0, 1) := by decide +kernel
theorem d_MD_resolve_234 : decode b_MD_resolve 234 = .ok (.getfield 66, 3) := by decide +kernel
theorem d_MD_resolve_237 : decode b_MD_resolve 237 = .ok (.ireturn, 1) := by decide +kernel
theorem d_MD_culprit_0 : decode b_MD_culprit 0 = .ok (.aload_n 0, 1) := by decide +kernel
theorem d_MD_culprit_1 : decode b_MD_culprit 1 = .ok (.getfield 63, 3) := by decide +kernel
theorem d_MD_culprit_4 : decode b_MD_culprit 4 = .ok (.ireturn, 1) := by decide +kernel
theorem d_MD_entry_0 : decode b_MD_entry 0 = .ok (.iload_n 1, 1) := by decide +kernel
theorem d_MD_entry_1 : decode b_MD_entry 1 = .ok (.ifCond .lt 11, 3) := by decide +kernel
theorem d_MD_entry_4 : decode b_MD_entry 4 = .ok (.iload_n 1, 1) := by decide +kernel
theorem d_MD_entry_5 : decode b_MD_entry 5 = .ok (.aload_n 0, 1) := by decide +kernel
theorem d_MD_entry_6 : decode b_MD_entry 6 = .ok (.getfield 66, 3) := by decide +kernel
theorem d_MD_entry_9 : decode b_MD_entry 9 = .ok (.if_icmp .lt 7, 3) := by decide +kernel
theorem d_MD_entry_12 : decode b_MD_entry 12 = .ok (.iconst (-1), 1) := by decide +kernel
theorem d_MD_entry_13 : decode b_MD_entry 13 = .ok (.goto 9, 3) := by decide +kernel
theorem d_MD_entry_16 : decode b_MD_entry 16 = .ok (.aload_n 0, 1) := by decide +kernel
theorem d_MD_entry_17 : decode b_MD_entry 17 = .ok (.getfield 72, 3) := by decide +kernel
theorem d_MD_entry_20 : decode b_MD_entry 20 = .ok (.iload_n 1, 1) := by decide +kernel
theorem d_MD_entry_21 : decode b_MD_entry 21 = .ok (.iaload, 1) := by decide +kernel
theorem d_MD_entry_22 : decode b_MD_entry 22 = .ok (.ireturn, 1) := by decide +kernel
theorem d_MD_depth_0 : decode b_MD_depth 0 = .ok (.iload_n 1, 1) := by decide +kernel
theorem d_MD_depth_1 : decode b_MD_depth 1 = .ok (.ifCond .lt 11, 3) := by decide +kernel
theorem d_MD_depth_4 : decode b_MD_depth 4 = .ok (.iload_n 1, 1) := by decide +kernel
theorem d_MD_depth_5 : decode b_MD_depth 5 = .ok (.aload_n 0, 1) := by decide +kernel
theorem d_MD_depth_6 : decode b_MD_depth 6 = .ok (.getfield 66, 3) := by decide +kernel
theorem d_MD_depth_9 : decode b_MD_depth 9 = .ok (.if_icmp .lt 7, 3) := by decide +kernel
theorem d_MD_depth_12 : decode b_MD_depth 12 = .ok (.iconst (-1), 1) := by decide +kernel
theorem d_MD_depth_13 : decode b_MD_depth 13 = .ok (.goto 9, 3) := by decide +kernel
theorem d_MD_depth_16 : decode b_MD_depth 16 = .ok (.aload_n 0, 1) := by decide +kernel
theorem d_MD_depth_17 : decode b_MD_depth 17 = .ok (.getfield 75, 3) := by decide +kernel
theorem d_MD_depth_20 : decode b_MD_depth 20 = .ok (.iload_n 1, 1) := by decide +kernel
theorem d_MD_depth_21 : decode b_MD_depth 21 = .ok (.iaload, 1) := by decide +kernel
theorem d_MD_depth_22 : decode b_MD_depth 22 = .ok (.ireturn, 1) := by decide +kernel
theorem d_MD_parent_0 : decode b_MD_parent 0 = .ok (.iload_n 1, 1) := by decide +kernel
theorem d_MD_parent_1 : decode b_MD_parent 1 = .ok (.iconst 1, 1) := by decide +kernel
theorem d_MD_parent_2 : decode b_MD_parent 2 = .ok (.if_icmp .lt 11, 3) := by decide +kernel
theorem d_MD_parent_5 : decode b_MD_parent 5 = .ok (.iload_n 1, 1) := by decide +kernel
theorem d_MD_parent_6 : decode b_MD_parent 6 = .ok (.aload_n 0, 1) := by decide +kernel
theorem d_MD_parent_7 : decode b_MD_parent 7 = .ok (.getfield 66, 3) := by decide +kernel
theorem d_MD_parent_10 : decode b_MD_parent 10 = .ok (.if_icmp .lt 7, 3) := by decide +kernel
theorem d_MD_parent_13 : decode b_MD_parent 13 = .ok (.iconst (-1), 1) := by decide +kernel
theorem d_MD_parent_14 : decode b_MD_parent 14 = .ok (.goto 9, 3) := by decide +kernel
theorem d_MD_parent_17 : decode b_MD_parent 17 = .ok (.aload_n 0, 1) := by decide +kernel
theorem d_MD_parent_18 : decode b_MD_parent 18 = .ok (.getfield 78, 3) := by decide +kernel
theorem d_MD_parent_21 : decode b_MD_parent 21 = .ok (.iload_n 1, 1) := by decide +kernel
theorem d_MD_parent_22 : decode b_MD_parent 22 = .ok (.iaload, 1) := by decide +kernel
theorem d_MD_parent_23 : decode b_MD_parent 23 = .ok (.ireturn, 1) := by decide +kernel
theorem d_MD_find_0 : decode b_MD_find 0 = .ok (.iload_n 1, 1) := by decide +kernel
theorem d_MD_find_1 : decode b_MD_find 1 = .ok (.ifCond .lt 13, 3) := by decide +kernel
theorem d_MD_find_4 : decode b_MD_find 4 = .ok (.iload_n 2, 1) := by decide +kernel
theorem d_MD_find_5 : decode b_MD_find 5 = .ok (.ifCond .lt 9, 3) := by decide +kernel
theorem d_MD_find_8 : decode b_MD_find 8 = .ok (.iload_n 2, 1) := by decide +kernel
theorem d_MD_find_9 : decode b_MD_find 9 = .ok (.bipush 31, 2) := by decide +kernel
theorem d_MD_find_11 : decode b_MD_find 11 = .ok (.if_icmp .le 5, 3) := by decide +kernel
theorem d_MD_find_14 : decode b_MD_find 14 = .ok (.iconst (-1), 1) := by decide +kernel
theorem d_MD_find_15 : decode b_MD_find 15 = .ok (.ireturn, 1) := by decide +kernel
theorem d_MD_find_16 : decode b_MD_find 16 = .ok (.iconst (-1), 1) := by decide +kernel
theorem d_MD_find_17 : decode b_MD_find 17 = .ok (.istore_n 3, 1) := by decide +kernel
theorem d_MD_find_18 : decode b_MD_find 18 = .ok (.iconst 0, 1) := by decide +kernel
theorem d_MD_find_19 : decode b_MD_find 19 = .ok (.istore 4, 2) := by decide +kernel
theorem d_MD_find_21 : decode b_MD_find 21 = .ok (.iload 4, 2) := by decide +kernel
theorem d_MD_find_23 : decode b_MD_find 23 = .ok (.aload_n 0, 1) := by decide +kernel
theorem d_MD_find_24 : decode b_MD_find 24 = .ok (.getfield 66, 3) := by decide +kernel
theorem d_MD_find_27 : decode b_MD_find 27 = .ok (.if_icmp .ge 65, 3) := by decide +kernel
theorem d_MD_find_30 : decode b_MD_find 30 = .ok (.aload_n 0, 1) := by decide +kernel
theorem d_MD_find_31 : decode b_MD_find 31 = .ok (.getfield 75, 3) := by decide +kernel
theorem d_MD_find_34 : decode b_MD_find 34 = .ok (.iload 4, 2) := by decide +kernel
theorem d_MD_find_36 : decode b_MD_find 36 = .ok (.iaload, 1) := by decide +kernel
theorem d_MD_find_37 : decode b_MD_find 37 = .ok (.iload_n 1, 1) := by decide +kernel
theorem d_MD_find_38 : decode b_MD_find 38 = .ok (.if_icmp .lt 48, 3) := by decide +kernel
theorem d_MD_find_41 : decode b_MD_find 41 = .ok (.aload_n 0, 1) := by decide +kernel
theorem d_MD_find_42 : decode b_MD_find 42 = .ok (.getfield 39, 3) := by decide +kernel
theorem d_MD_find_45 : decode b_MD_find 45 = .ok (.aload_n 0, 1) := by decide +kernel
theorem d_MD_find_46 : decode b_MD_find 46 = .ok (.getfield 72, 3) := by decide +kernel
theorem d_MD_find_49 : decode b_MD_find 49 = .ok (.iload 4, 2) := by decide +kernel
theorem d_MD_find_51 : decode b_MD_find 51 = .ok (.iaload, 1) := by decide +kernel
theorem d_MD_find_52 : decode b_MD_find 52 = .ok (.iaload, 1) := by decide +kernel
theorem d_MD_find_53 : decode b_MD_find 53 = .ok (.iload_n 2, 1) := by decide +kernel
theorem d_MD_find_54 : decode b_MD_find 54 = .ok (.ishr, 1) := by decide +kernel
theorem d_MD_find_55 : decode b_MD_find 55 = .ok (.iconst 1, 1) := by decide +kernel
theorem d_MD_find_56 : decode b_MD_find 56 = .ok (.iand, 1) := by decide +kernel
theorem d_MD_find_57 : decode b_MD_find 57 = .ok (.ifCond .ne 6, 3) := by decide +kernel
theorem d_MD_find_60 : decode b_MD_find 60 = .ok (.goto 26, 3) := by decide +kernel
theorem d_MD_find_63 : decode b_MD_find 63 = .ok (.iload_n 3, 1) := by decide +kernel
theorem d_MD_find_64 : decode b_MD_find 64 = .ok (.ifCond .lt 19, 3) := by decide +kernel
theorem d_MD_find_67 : decode b_MD_find 67 = .ok (.aload_n 0, 1) := by decide +kernel
theorem d_MD_find_68 : decode b_MD_find 68 = .ok (.getfield 75, 3) := by decide +kernel
theorem d_MD_find_71 : decode b_MD_find 71 = .ok (.iload 4, 2) := by decide +kernel
theorem d_MD_find_73 : decode b_MD_find 73 = .ok (.iaload, 1) := by decide +kernel
theorem d_MD_find_74 : decode b_MD_find 74 = .ok (.aload_n 0, 1) := by decide +kernel
theorem d_MD_find_75 : decode b_MD_find 75 = .ok (.getfield 75, 3) := by decide +kernel
theorem d_MD_find_78 : decode b_MD_find 78 = .ok (.iload_n 3, 1) := by decide +kernel
theorem d_MD_find_79 : decode b_MD_find 79 = .ok (.iaload, 1) := by decide +kernel
theorem d_MD_find_80 : decode b_MD_find 80 = .ok (.if_icmp .le 6, 3) := by decide +kernel
theorem d_MD_find_83 : decode b_MD_find 83 = .ok (.iload 4, 2) := by decide +kernel
theorem d_MD_find_85 : decode b_MD_find 85 = .ok (.istore_n 3, 1) := by decide +kernel
theorem d_MD_find_86 : decode b_MD_find 86 = .ok (.iinc 4 1, 3) := by decide +kernel
theorem d_MD_find_89 : decode b_MD_find 89 = .ok (.goto (-68), 3) := by decide +kernel
theorem d_MD_find_92 : decode b_MD_find 92 = .ok (.iload_n 3, 1) := by decide +kernel
theorem d_MD_find_93 : decode b_MD_find 93 = .ok (.ireturn, 1) := by decide +kernel
theorem d_MD_text_0 : decode b_MD_text 0 = .ok (.aload_n 0, 1) := by decide +kernel
theorem d_MD_text_1 : decode b_MD_text 1 = .ok (.iload_n 1, 1) := by decide +kernel
theorem d_MD_text_2 : decode b_MD_text 2 = .ok (.invokevirtual 164, 3) := by decide +kernel
theorem d_MD_text_5 : decode b_MD_text 5 = .ok (.ifCond .ne 18, 3) := by decide +kernel
theorem d_MD_text_8 : decode b_MD_text 8 = .ok (.iload_n 2, 1) := by decide +kernel
theorem d_MD_text_9 : decode b_MD_text 9 = .ok (.iconst (-1), 1) := by decide +kernel
theorem d_MD_text_10 : decode b_MD_text 10 = .ok (.if_icmp .lt 13, 3) := by decide +kernel
theorem d_MD_text_13 : decode b_MD_text 13 = .ok (.iload_n 2, 1) := by decide +kernel
theorem d_MD_text_14 : decode b_MD_text 14 = .ok (.aload_n 0, 1) := by decide +kernel
theorem d_MD_text_15 : decode b_MD_text 15 = .ok (.getfield 26, 3) := by decide +kernel
theorem d_MD_text_18 : decode b_MD_text 18 = .ok (.iload_n 1, 1) := by decide +kernel
theorem d_MD_text_19 : decode b_MD_text 19 = .ok (.iaload, 1) := by decide +kernel
theorem d_MD_text_20 : decode b_MD_text 20 = .ok (.if_icmp .lt 5, 3) := by decide +kernel
theorem d_MD_text_23 : decode b_MD_text 23 = .ok (.iconst (-1), 1) := by decide +kernel
theorem d_MD_text_24 : decode b_MD_text 24 = .ok (.ireturn, 1) := by decide +kernel
theorem d_MD_text_25 : decode b_MD_text 25 = .ok (.iload_n 2, 1) := by decide +kernel
theorem d_MD_text_26 : decode b_MD_text 26 = .ok (.ifCond .ge 12, 3) := by decide +kernel
theorem d_MD_text_29 : decode b_MD_text 29 = .ok (.aload_n 0, 1) := by decide +kernel
theorem d_MD_text_30 : decode b_MD_text 30 = .ok (.getfield 26, 3) := by decide +kernel
theorem d_MD_text_33 : decode b_MD_text 33 = .ok (.iload_n 1, 1) := by decide +kernel
theorem d_MD_text_34 : decode b_MD_text 34 = .ok (.iaload, 1) := by decide +kernel
theorem d_MD_text_35 : decode b_MD_text 35 = .ok (.goto 14, 3) := by decide +kernel
theorem d_MD_text_38 : decode b_MD_text 38 = .ok (.aload_n 0, 1) := by decide +kernel
theorem d_MD_text_39 : decode b_MD_text 39 = .ok (.getfield 29, 3) := by decide +kernel
theorem d_MD_text_42 : decode b_MD_text 42 = .ok (.iload_n 1, 1) := by decide +kernel
theorem d_MD_text_43 : decode b_MD_text 43 = .ok (.bipush 21, 2) := by decide +kernel
theorem d_MD_text_45 : decode b_MD_text 45 = .ok (.imul, 1) := by decide +kernel
theorem d_MD_text_46 : decode b_MD_text 46 = .ok (.iload_n 2, 1) := by decide +kernel
theorem d_MD_text_47 : decode b_MD_text 47 = .ok (.iadd, 1) := by decide +kernel
theorem d_MD_text_48 : decode b_MD_text 48 = .ok (.iaload, 1) := by decide +kernel
theorem d_MD_text_49 : decode b_MD_text 49 = .ok (.ireturn, 1) := by decide +kernel
theorem d_MD_holders_0 : decode b_MD_holders 0 = .ok (.iconst 0, 1) := by decide +kernel
theorem d_MD_holders_1 : decode b_MD_holders 1 = .ok (.istore_n 2, 1) := by decide +kernel
theorem d_MD_holders_2 : decode b_MD_holders 2 = .ok (.iconst 0, 1) := by decide +kernel
theorem d_MD_holders_3 : decode b_MD_holders 3 = .ok (.istore_n 3, 1) := by decide +kernel
theorem d_MD_holders_4 : decode b_MD_holders 4 = .ok (.iload_n 3, 1) := by decide +kernel
theorem d_MD_holders_5 : decode b_MD_holders 5 = .ok (.aload_n 0, 1) := by decide +kernel
theorem d_MD_holders_6 : decode b_MD_holders 6 = .ok (.getfield 66, 3) := by decide +kernel
theorem d_MD_holders_9 : decode b_MD_holders 9 = .ok (.if_icmp .ge 27, 3) := by decide +kernel
theorem d_MD_holders_12 : decode b_MD_holders 12 = .ok (.iload_n 2, 1) := by decide +kernel
theorem d_MD_holders_13 : decode b_MD_holders 13 = .ok (.aload_n 0, 1) := by decide +kernel
theorem d_MD_holders_14 : decode b_MD_holders 14 = .ok (.getfield 39, 3) := by decide +kernel
theorem d_MD_holders_17 : decode b_MD_holders 17 = .ok (.aload_n 0, 1) := by decide +kernel
theorem d_MD_holders_18 : decode b_MD_holders 18 = .ok (.getfield 72, 3) := by decide +kernel
theorem d_MD_holders_21 : decode b_MD_holders 21 = .ok (.iload_n 3, 1) := by decide +kernel
theorem d_MD_holders_22 : decode b_MD_holders 22 = .ok (.iaload, 1) := by decide +kernel
theorem d_MD_holders_23 : decode b_MD_holders 23 = .ok (.iaload, 1) := by decide +kernel
theorem d_MD_holders_24 : decode b_MD_holders 24 = .ok (.iload_n 1, 1) := by decide +kernel
theorem d_MD_holders_25 : decode b_MD_holders 25 = .ok (.ishr, 1) := by decide +kernel
theorem d_MD_holders_26 : decode b_MD_holders 26 = .ok (.iconst 1, 1) := by decide +kernel
theorem d_MD_holders_27 : decode b_MD_holders 27 = .ok (.iand, 1) := by decide +kernel
theorem d_MD_holders_28 : decode b_MD_holders 28 = .ok (.iadd, 1) := by decide +kernel
theorem d_MD_holders_29 : decode b_MD_holders 29 = .ok (.istore_n 2, 1) := by decide +kernel
theorem d_MD_holders_30 : decode b_MD_holders 30 = .ok (.iinc 3 1, 3) := by decide +kernel
theorem d_MD_holders_33 : decode b_MD_holders 33 = .ok (.goto (-29), 3) := by decide +kernel
theorem d_MD_holders_36 : decode b_MD_holders 36 = .ok (.iload_n 2, 1) := by decide +kernel
theorem d_MD_holders_37 : decode b_MD_holders 37 = .ok (.ireturn, 1) := by decide +kernel
theorem d_MD_count_0 : decode b_MD_count 0 = .ok (.iconst 0, 1) := by decide +kernel
theorem d_MD_count_1 : decode b_MD_count 1 = .ok (.istore_n 2, 1) := by decide +kernel
theorem d_MD_count_2 : decode b_MD_count 2 = .ok (.iload_n 1, 1) := by decide +kernel
theorem d_MD_count_3 : decode b_MD_count 3 = .ok (.iconst 1, 1) := by decide +kernel
theorem d_MD_count_4 : decode b_MD_count 4 = .ok (.if_icmp .ne 31, 3) := by decide +kernel
theorem d_MD_count_7 : decode b_MD_count 7 = .ok (.iconst 0, 1) := by decide +kernel
theorem d_MD_count_8 : decode b_MD_count 8 = .ok (.istore_n 3, 1) := by decide +kernel
theorem d_MD_count_9 : decode b_MD_count 9 = .ok (.iload_n 3, 1) := by decide +kernel
theorem d_MD_count_10 : decode b_MD_count 10 = .ok (.aload_n 0, 1) := by decide +kernel
theorem d_MD_count_11 : decode b_MD_count 11 = .ok (.getfield 23, 3) := by decide +kernel
theorem d_MD_count_14 : decode b_MD_count 14 = .ok (.if_icmp .ge 21, 3) := by decide +kernel
theorem d_MD_count_17 : decode b_MD_count 17 = .ok (.aload_n 0, 1) := by decide +kernel
theorem d_MD_count_18 : decode b_MD_count 18 = .ok (.getfield 35, 3) := by decide +kernel
theorem d_MD_count_21 : decode b_MD_count 21 = .ok (.iload_n 3, 1) := by decide +kernel
theorem d_MD_count_22 : decode b_MD_count 22 = .ok (.baload, 1) := by decide +kernel
theorem d_MD_count_23 : decode b_MD_count 23 = .ok (.ifCond .eq 6, 3) := by decide +kernel
theorem d_MD_count_26 : decode b_MD_count 26 = .ok (.iinc 2 1, 3) := by decide +kernel
theorem d_MD_count_29 : decode b_MD_count 29 = .ok (.iinc 3 1, 3) := by decide +kernel
theorem d_MD_count_32 : decode b_MD_count 32 = .ok (.goto (-23), 3) := by decide +kernel
theorem d_MD_count_35 : decode b_MD_count 35 = .ok (.iload_n 1, 1) := by decide +kernel
theorem d_MD_count_36 : decode b_MD_count 36 = .ok (.iconst 4, 1) := by decide +kernel
theorem d_MD_count_37 : decode b_MD_count 37 = .ok (.if_icmp .ne 36, 3) := by decide +kernel
theorem d_MD_count_40 : decode b_MD_count 40 = .ok (.iconst 0, 1) := by decide +kernel
theorem d_MD_count_41 : decode b_MD_count 41 = .ok (.istore_n 3, 1) := by decide +kernel
theorem d_MD_count_42 : decode b_MD_count 42 = .ok (.iload_n 3, 1) := by decide +kernel
theorem d_MD_count_43 : decode b_MD_count 43 = .ok (.aload_n 0, 1) := by decide +kernel
theorem d_MD_count_44 : decode b_MD_count 44 = .ok (.getfield 66, 3) := by decide +kernel
theorem d_MD_count_47 : decode b_MD_count 47 = .ok (.if_icmp .ge 26, 3) := by decide +kernel
theorem d_MD_count_50 : decode b_MD_count 50 = .ok (.aload_n 0, 1) := by decide +kernel
theorem d_MD_count_51 : decode b_MD_count 51 = .ok (.getfield 75, 3) := by decide +kernel
theorem d_MD_count_54 : decode b_MD_count 54 = .ok (.iload_n 3, 1) := by decide +kernel
theorem d_MD_count_55 : decode b_MD_count 55 = .ok (.iaload, 1) := by decide +kernel
theorem d_MD_count_56 : decode b_MD_count 56 = .ok (.iload_n 2, 1) := by decide +kernel
theorem d_MD_count_57 : decode b_MD_count 57 = .ok (.if_icmp .le 10, 3) := by decide +kernel
theorem d_MD_count_60 : decode b_MD_count 60 = .ok (.aload_n 0, 1) := by decide +kernel
theorem d_MD_count_61 : decode b_MD_count 61 = .ok (.getfield 75, 3) := by decide +kernel
theorem d_MD_count_64 : decode b_MD_count 64 = .ok (.iload_n 3, 1) := by decide +kernel
theorem d_MD_count_65 : decode b_MD_count 65 = .ok (.iaload, 1) := by decide +kernel
theorem d_MD_count_66 : decode b_MD_count 66 = .ok (.istore_n 2, 1) := by decide +kernel
theorem d_MD_count_67 : decode b_MD_count 67 = .ok (.iinc 3 1, 3) := by decide +kernel
theorem d_MD_count_70 : decode b_MD_count 70 = .ok (.goto (-28), 3) := by decide +kernel
theorem d_MD_count_73 : decode b_MD_count 73 = .ok (.iload_n 1, 1) := by decide +kernel
theorem d_MD_count_74 : decode b_MD_count 74 = .ok (.iconst 5, 1) := by decide +kernel
theorem d_MD_count_75 : decode b_MD_count 75 = .ok (.if_icmp .ne 29, 3) := by decide +kernel
theorem d_MD_count_78 : decode b_MD_count 78 = .ok (.iconst 0, 1) := by decide +kernel
theorem d_MD_count_79 : decode b_MD_count 79 = .ok (.istore_n 3, 1) := by decide +kernel
theorem d_MD_count_80 : decode b_MD_count 80 = .ok (.iload_n 3, 1) := by decide +kernel
theorem d_MD_count_81 : decode b_MD_count 81 = .ok (.bipush 32, 2) := by decide +kernel
theorem d_MD_count_83 : decode b_MD_count 83 = .ok (.if_icmp .ge 21, 3) := by decide +kernel
theorem d_MD_count_86 : decode b_MD_count 86 = .ok (.aload_n 0, 1) := by decide +kernel
theorem d_MD_count_87 : decode b_MD_count 87 = .ok (.iload_n 3, 1) := by decide +kernel
theorem d_MD_count_88 : decode b_MD_count 88 = .ok (.invokevirtual 189, 3) := by decide +kernel
theorem d_MD_count_91 : decode b_MD_count 91 = .ok (.iconst 1, 1) := by decide +kernel
theorem d_MD_count_92 : decode b_MD_count 92 = .ok (.if_icmp .le 6, 3) := by decide +kernel
theorem d_MD_count_95 : decode b_MD_count 95 = .ok (.iinc 2 1, 3) := by decide +kernel
theorem d_MD_count_98 : decode b_MD_count 98 = .ok (.iinc 3 1, 3) := by decide +kernel
theorem d_MD_count_101 : decode b_MD_count 101 = .ok (.goto (-21), 3) := by decide +kernel
theorem d_MD_count_104 : decode b_MD_count 104 = .ok (.iload_n 1, 1) := by decide +kernel
theorem d_MD_count_105 : decode b_MD_count 105 = .ok (.ifCond .ne 10, 3) := by decide +kernel
theorem d_MD_count_108 : decode b_MD_count 108 = .ok (.aload_n 0, 1) := by decide +kernel
theorem d_MD_count_109 : decode b_MD_count 109 = .ok (.getfield 23, 3) := by decide +kernel
theorem d_MD_count_112 : decode b_MD_count 112 = .ok (.goto 47, 3) := by decide +kernel
theorem d_MD_count_115 : decode b_MD_count 115 = .ok (.iload_n 1, 1) := by decide +kernel
theorem d_MD_count_116 : decode b_MD_count 116 = .ok (.iconst 2, 1) := by decide +kernel
theorem d_MD_count_117 : decode b_MD_count 117 = .ok (.if_icmp .ne 10, 3) := by decide +kernel
theorem d_MD_count_120 : decode b_MD_count 120 = .ok (.aload_n 0, 1) := by decide +kernel
theorem d_MD_count_121 : decode b_MD_count 121 = .ok (.getfield 7, 3) := by decide +kernel
theorem d_MD_count_124 : decode b_MD_count 124 = .ok (.goto 35, 3) := by decide +kernel
theorem d_MD_count_127 : decode b_MD_count 127 = .ok (.iload_n 1, 1) := by decide +kernel
theorem d_MD_count_128 : decode b_MD_count 128 = .ok (.iconst 3, 1) := by decide +kernel
theorem d_MD_count_129 : decode b_MD_count 129 = .ok (.if_icmp .ne 10, 3) := by decide +kernel
theorem d_MD_count_132 : decode b_MD_count 132 = .ok (.aload_n 0, 1) := by decide +kernel
theorem d_MD_count_133 : decode b_MD_count 133 = .ok (.getfield 66, 3) := by decide +kernel
theorem d_MD_count_136 : decode b_MD_count 136 = .ok (.goto 23, 3) := by decide +kernel
theorem d_MD_count_139 : decode b_MD_count 139 = .ok (.iload_n 1, 1) := by decide +kernel
theorem d_MD_count_140 : decode b_MD_count 140 = .ok (.iconst 1, 1) := by decide +kernel
theorem d_MD_count_141 : decode b_MD_count 141 = .ok (.if_icmp .eq 13, 3) := by decide +kernel
theorem d_MD_count_144 : decode b_MD_count 144 = .ok (.iload_n 1, 1) := by decide +kernel
theorem d_MD_count_145 : decode b_MD_count 145 = .ok (.iconst 4, 1) := by decide +kernel
theorem d_MD_count_146 : decode b_MD_count 146 = .ok (.if_icmp .eq 8, 3) := by decide +kernel
theorem d_MD_count_149 : decode b_MD_count 149 = .ok (.iload_n 1, 1) := by decide +kernel
theorem d_MD_count_150 : decode b_MD_count 150 = .ok (.iconst 5, 1) := by decide +kernel
theorem d_MD_count_151 : decode b_MD_count 151 = .ok (.if_icmp .ne 7, 3) := by decide +kernel
theorem d_MD_count_154 : decode b_MD_count 154 = .ok (.iload_n 2, 1) := by decide +kernel
theorem d_MD_count_155 : decode b_MD_count 155 = .ok (.goto 4, 3) := by decide +kernel
theorem d_MD_count_158 : decode b_MD_count 158 = .ok (.iconst (-1), 1) := by decide +kernel
theorem d_MD_count_159 : decode b_MD_count 159 = .ok (.ireturn, 1) := by decide +kernel
