theorem d_MD_order_44 : decode b_MD_order 44 = .ok (.lconst 0, 1) := by decide +kernel
theorem d_MD_order_45 : decode b_MD_order 45 = .ok (.lcmp, 1) := by decide +kernel
theorem d_MD_order_46 : decode b_MD_order 46 = .ok (.ifCond .ge 18, 3) := by decide +kernel
theorem d_MD_order_49 : decode b_MD_order 49 = .ok (.aload_n 0, 1) := by decide +kernel
theorem d_MD_order_50 : decode b_MD_order 50 = .ok (.iload_n 1, 1) := by decide +kernel
theorem d_MD_order_51 : decode b_MD_order 51 = .ok (.invokevirtual 126, 3) := by decide +kernel
theorem d_MD_order_54 : decode b_MD_order 54 = .ok (.istore 6, 2) := by decide +kernel
theorem d_MD_order_56 : decode b_MD_order 56 = .ok (.iload 6, 2) := by decide +kernel
theorem d_MD_order_58 : decode b_MD_order 58 = .ok (.ifCond .eq 6, 3) := by decide +kernel
theorem d_MD_order_61 : decode b_MD_order 61 = .ok (.iload 6, 2) := by decide +kernel
theorem d_MD_order_63 : decode b_MD_order 63 = .ok (.ireturn, 1) := by decide +kernel
theorem d_MD_order_64 : decode b_MD_order 64 = .ok (.iinc 1 1, 3) := by decide +kernel
theorem d_MD_order_67 : decode b_MD_order 67 = .ok (.goto (-65), 3) := by decide +kernel
theorem d_MD_order_70 : decode b_MD_order 70 = .ok (.iconst 0, 1) := by decide +kernel
theorem d_MD_order_71 : decode b_MD_order 71 = .ok (.ireturn, 1) := by decide +kernel
theorem d_MD_firstIs_0 : decode b_MD_firstIs 0 = .ok (.aload_n 0, 1) := by decide +kernel
theorem d_MD_firstIs_1 : decode b_MD_firstIs 1 = .ok (.iconst 0, 1) := by decide +kernel
theorem d_MD_firstIs_2 : decode b_MD_firstIs 2 = .ok (.putfield 87, 3) := by decide +kernel
theorem d_MD_firstIs_5 : decode b_MD_firstIs 5 = .ok (.aload_n 0, 1) := by decide +kernel
theorem d_MD_firstIs_6 : decode b_MD_firstIs 6 = .ok (.getfield 32, 3) := by decide +kernel
theorem d_MD_firstIs_9 : decode b_MD_firstIs 9 = .ok (.iload_n 1, 1) := by decide +kernel
theorem d_MD_firstIs_10 : decode b_MD_firstIs 10 = .ok (.iaload, 1) := by decide +kernel
theorem d_MD_firstIs_11 : decode b_MD_firstIs 11 = .ok (.iconst 1, 1) := by decide +kernel
theorem d_MD_firstIs_12 : decode b_MD_firstIs 12 = .ok (.iadd, 1) := by decide +kernel
theorem d_MD_firstIs_13 : decode b_MD_firstIs 13 = .ok (.istore_n 2, 1) := by decide +kernel
theorem d_MD_firstIs_14 : decode b_MD_firstIs 14 = .ok (.iload_n 2, 1) := by decide +kernel
theorem d_MD_firstIs_15 : decode b_MD_firstIs 15 = .ok (.aload_n 0, 1) := by decide +kernel
theorem d_MD_firstIs_16 : decode b_MD_firstIs 16 = .ok (.getfield 26, 3) := by decide +kernel
theorem d_MD_firstIs_19 : decode b_MD_firstIs 19 = .ok (.iload_n 1, 1) := by decide +kernel
theorem d_MD_firstIs_20 : decode b_MD_firstIs 20 = .ok (.iaload, 1) := by decide +kernel
theorem d_MD_firstIs_21 : decode b_MD_firstIs 21 = .ok (.if_icmp .ge 39, 3) := by decide +kernel
theorem d_MD_firstIs_24 : decode b_MD_firstIs 24 = .ok (.aload_n 0, 1) := by decide +kernel
theorem d_MD_firstIs_25 : decode b_MD_firstIs 25 = .ok (.getfield 84, 3) := by decide +kernel
theorem d_MD_firstIs_28 : decode b_MD_firstIs 28 = .ok (.aload_n 0, 1) := by decide +kernel
theorem d_MD_firstIs_29 : decode b_MD_firstIs 29 = .ok (.getfield 87, 3) := by decide +kernel
theorem d_MD_firstIs_32 : decode b_MD_firstIs 32 = .ok (.aload_n 0, 1) := by decide +kernel
theorem d_MD_firstIs_33 : decode b_MD_firstIs 33 = .ok (.getfield 29, 3) := by decide +kernel
theorem d_MD_firstIs_36 : decode b_MD_firstIs 36 = .ok (.iload_n 1, 1) := by decide +kernel
theorem d_MD_firstIs_37 : decode b_MD_firstIs 37 = .ok (.bipush 21, 2) := by decide +kernel
theorem d_MD_firstIs_39 : decode b_MD_firstIs 39 = .ok (.imul, 1) := by decide +kernel
theorem d_MD_firstIs_40 : decode b_MD_firstIs 40 = .ok (.iload_n 2, 1) := by decide +kernel
theorem d_MD_firstIs_41 : decode b_MD_firstIs 41 = .ok (.iadd, 1) := by decide +kernel
theorem d_MD_firstIs_42 : decode b_MD_firstIs 42 = .ok (.iaload, 1) := by decide +kernel
theorem d_MD_firstIs_43 : decode b_MD_firstIs 43 = .ok (.iastore, 1) := by decide +kernel
theorem d_MD_firstIs_44 : decode b_MD_firstIs 44 = .ok (.aload_n 0, 1) := by decide +kernel
theorem d_MD_firstIs_45 : decode b_MD_firstIs 45 = .ok (.dup, 1) := by decide +kernel
theorem d_MD_firstIs_46 : decode b_MD_firstIs 46 = .ok (.getfield 87, 3) := by decide +kernel
theorem d_MD_firstIs_49 : decode b_MD_firstIs 49 = .ok (.iconst 1, 1) := by decide +kernel
theorem d_MD_firstIs_50 : decode b_MD_firstIs 50 = .ok (.iadd, 1) := by decide +kernel
theorem d_MD_firstIs_51 : decode b_MD_firstIs 51 = .ok (.putfield 87, 3) := by decide +kernel
theorem d_MD_firstIs_54 : decode b_MD_firstIs 54 = .ok (.iinc 2 1, 3) := by decide +kernel
theorem d_MD_firstIs_57 : decode b_MD_firstIs 57 = .ok (.goto (-43), 3) := by decide +kernel
theorem d_MD_firstIs_60 : decode b_MD_firstIs 60 = .ok (.return_, 1) := by decide +kernel
theorem d_MD_secondIs_0 : decode b_MD_secondIs 0 = .ok (.aload_n 0, 1) := by decide +kernel
theorem d_MD_secondIs_1 : decode b_MD_secondIs 1 = .ok (.iconst 0, 1) := by decide +kernel
theorem d_MD_secondIs_2 : decode b_MD_secondIs 2 = .ok (.putfield 93, 3) := by decide +kernel
theorem d_MD_secondIs_5 : decode b_MD_secondIs 5 = .ok (.iload_n 1, 1) := by decide +kernel
theorem d_MD_secondIs_6 : decode b_MD_secondIs 6 = .ok (.istore_n 3, 1) := by decide +kernel
theorem d_MD_secondIs_7 : decode b_MD_secondIs 7 = .ok (.iload_n 3, 1) := by decide +kernel
theorem d_MD_secondIs_8 : decode b_MD_secondIs 8 = .ok (.iload_n 2, 1) := by decide +kernel
theorem d_MD_secondIs_9 : decode b_MD_secondIs 9 = .ok (.if_icmp .ge 34, 3) := by decide +kernel
theorem d_MD_secondIs_12 : decode b_MD_secondIs 12 = .ok (.aload_n 0, 1) := by decide +kernel
theorem d_MD_secondIs_13 : decode b_MD_secondIs 13 = .ok (.getfield 90, 3) := by decide +kernel
theorem d_MD_secondIs_16 : decode b_MD_secondIs 16 = .ok (.aload_n 0, 1) := by decide +kernel
theorem d_MD_secondIs_17 : decode b_MD_secondIs 17 = .ok (.getfield 93, 3) := by decide +kernel
theorem d_MD_secondIs_20 : decode b_MD_secondIs 20 = .ok (.aload_n 0, 1) := by decide +kernel
theorem d_MD_secondIs_21 : decode b_MD_secondIs 21 = .ok (.getfield 20, 3) := by decide +kernel
theorem d_MD_secondIs_24 : decode b_MD_secondIs 24 = .ok (.iload_n 3, 1) := by decide +kernel
theorem d_MD_secondIs_25 : decode b_MD_secondIs 25 = .ok (.iaload, 1) := by decide +kernel
theorem d_MD_secondIs_26 : decode b_MD_secondIs 26 = .ok (.iastore, 1) := by decide +kernel
theorem d_MD_secondIs_27 : decode b_MD_secondIs 27 = .ok (.aload_n 0, 1) := by decide +kernel
theorem d_MD_secondIs_28 : decode b_MD_secondIs 28 = .ok (.dup, 1) := by decide +kernel
theorem d_MD_secondIs_29 : decode b_MD_secondIs 29 = .ok (.getfield 93, 3) := by decide +kernel
theorem d_MD_secondIs_32 : decode b_MD_secondIs 32 = .ok (.iconst 1, 1) := by decide +kernel
theorem d_MD_secondIs_33 : decode b_MD_secondIs 33 = .ok (.iadd, 1) := by decide +kernel
theorem d_MD_secondIs_34 : decode b_MD_secondIs 34 = .ok (.putfield 93, 3) := by decide +kernel
theorem d_MD_secondIs_37 : decode b_MD_secondIs 37 = .ok (.iinc 3 1, 3) := by decide +kernel
theorem d_MD_secondIs_40 : decode b_MD_secondIs 40 = .ok (.goto (-33), 3) := by decide +kernel
theorem d_MD_secondIs_43 : decode b_MD_secondIs 43 = .ok (.return_, 1) := by decide +kernel
theorem d_MD_orderTo_0 : decode b_MD_orderTo 0 = .ok (.aload_n 0, 1) := by decide +kernel
theorem d_MD_orderTo_1 : decode b_MD_orderTo 1 = .ok (.iload_n 1, 1) := by decide +kernel
theorem d_MD_orderTo_2 : decode b_MD_orderTo 2 = .ok (.invokevirtual 130, 3) := by decide +kernel
theorem d_MD_orderTo_5 : decode b_MD_orderTo 5 = .ok (.aload_n 0, 1) := by decide +kernel
theorem d_MD_orderTo_6 : decode b_MD_orderTo 6 = .ok (.iload_n 2, 1) := by decide +kernel
theorem d_MD_orderTo_7 : decode b_MD_orderTo 7 = .ok (.iload_n 3, 1) := by decide +kernel
theorem d_MD_orderTo_8 : decode b_MD_orderTo 8 = .ok (.invokevirtual 134, 3) := by decide +kernel
theorem d_MD_orderTo_11 : decode b_MD_orderTo 11 = .ok (.aload_n 0, 1) := by decide +kernel
theorem d_MD_orderTo_12 : decode b_MD_orderTo 12 = .ok (.invokevirtual 138, 3) := by decide +kernel
theorem d_MD_orderTo_15 : decode b_MD_orderTo 15 = .ok (.ireturn, 1) := by decide +kernel
theorem d_MD_holds_0 : decode b_MD_holds 0 = .ok (.aload_n 0, 1) := by decide +kernel
theorem d_MD_holds_1 : decode b_MD_holds 1 = .ok (.iload_n 2, 1) := by decide +kernel
theorem d_MD_holds_2 : decode b_MD_holds 2 = .ok (.aload_n 0, 1) := by decide +kernel
theorem d_MD_holds_3 : decode b_MD_holds 3 = .ok (.getfield 17, 3) := by decide +kernel
theorem d_MD_holds_6 : decode b_MD_holds 6 = .ok (.invokevirtual 106, 3) := by decide +kernel
theorem d_MD_holds_9 : decode b_MD_holds 9 = .ok (.ifCond .eq 22, 3) := by decide +kernel
theorem d_MD_holds_12 : decode b_MD_holds 12 = .ok (.aload_n 0, 1) := by decide +kernel
theorem d_MD_holds_13 : decode b_MD_holds 13 = .ok (.iload_n 1, 1) := by decide +kernel
theorem d_MD_holds_14 : decode b_MD_holds 14 = .ok (.iload_n 2, 1) := by decide +kernel
theorem d_MD_holds_15 : decode b_MD_holds 15 = .ok (.aload_n 0, 1) := by decide +kernel
theorem d_MD_holds_16 : decode b_MD_holds 16 = .ok (.getfield 17, 3) := by decide +kernel
theorem d_MD_holds_19 : decode b_MD_holds 19 = .ok (.invokevirtual 142, 3) := by decide +kernel
theorem d_MD_holds_22 : decode b_MD_holds 22 = .ok (.ifCond .ne 7, 3) := by decide +kernel
theorem d_MD_holds_25 : decode b_MD_holds 25 = .ok (.iconst 1, 1) := by decide +kernel
theorem d_MD_holds_26 : decode b_MD_holds 26 = .ok (.goto 4, 3) := by decide +kernel
theorem d_MD_holds_29 : decode b_MD_holds 29 = .ok (.iconst 0, 1) := by decide +kernel
theorem d_MD_holds_30 : decode b_MD_holds 30 = .ok (.ireturn, 1) := by decide +kernel
theorem d_MD_holds_31 : decode b_MD_holds 31 = .ok (.aload_n 0, 1) := by decide +kernel
theorem d_MD_holds_32 : decode b_MD_holds 32 = .ok (.iload_n 2, 1) := by decide +kernel
theorem d_MD_holds_33 : decode b_MD_holds 33 = .ok (.aload_n 0, 1) := by decide +kernel
theorem d_MD_holds_34 : decode b_MD_holds 34 = .ok (.getfield 17, 3) := by decide +kernel
theorem d_MD_holds_37 : decode b_MD_holds 37 = .ok (.invokevirtual 110, 3) := by decide +kernel
theorem d_MD_holds_40 : decode b_MD_holds 40 = .ok (.istore_n 3, 1) := by decide +kernel
theorem d_MD_holds_41 : decode b_MD_holds 41 = .ok (.iload_n 3, 1) := by decide +kernel
theorem d_MD_holds_42 : decode b_MD_holds 42 = .ok (.aload_n 0, 1) := by decide +kernel
theorem d_MD_holds_43 : decode b_MD_holds 43 = .ok (.getfield 17, 3) := by decide +kernel
theorem d_MD_holds_46 : decode b_MD_holds 46 = .ok (.if_icmp .ne 26, 3) := by decide +kernel
theorem d_MD_holds_49 : decode b_MD_holds 49 = .ok (.aload_n 0, 1) := by decide +kernel
theorem d_MD_holds_50 : decode b_MD_holds 50 = .ok (.iload_n 1, 1) := by decide +kernel
theorem d_MD_holds_51 : decode b_MD_holds 51 = .ok (.iload_n 2, 1) := by decide +kernel
theorem d_MD_holds_52 : decode b_MD_holds 52 = .ok (.iconst 1, 1) := by decide +kernel
theorem d_MD_holds_53 : decode b_MD_holds 53 = .ok (.iadd, 1) := by decide +kernel
theorem d_MD_holds_54 : decode b_MD_holds 54 = .ok (.aload_n 0, 1) := by decide +kernel
theorem d_MD_holds_55 : decode b_MD_holds 55 = .ok (.getfield 17, 3) := by decide +kernel
theorem d_MD_holds_58 : decode b_MD_holds 58 = .ok (.iconst 1, 1) := by decide +kernel
theorem d_MD_holds_59 : decode b_MD_holds 59 = .ok (.isub, 1) := by decide +kernel
theorem d_MD_holds_60 : decode b_MD_holds 60 = .ok (.invokevirtual 142, 3) := by decide +kernel
theorem d_MD_holds_63 : decode b_MD_holds 63 = .ok (.ifCond .ne 7, 3) := by decide +kernel
theorem d_MD_holds_66 : decode b_MD_holds 66 = .ok (.iconst 1, 1) := by decide +kernel
theorem d_MD_holds_67 : decode b_MD_holds 67 = .ok (.goto 4, 3) := by decide +kernel
theorem d_MD_holds_70 : decode b_MD_holds 70 = .ok (.iconst 0, 1) := by decide +kernel
theorem d_MD_holds_71 : decode b_MD_holds 71 = .ok (.ireturn, 1) := by decide +kernel
theorem d_MD_holds_72 : decode b_MD_holds 72 = .ok (.iload_n 3, 1) := by decide +kernel
theorem d_MD_holds_73 : decode b_MD_holds 73 = .ok (.iload_n 2, 1) := by decide +kernel
theorem d_MD_holds_74 : decode b_MD_holds 74 = .ok (.iconst 1, 1) := by decide +kernel
theorem d_MD_holds_75 : decode b_MD_holds 75 = .ok (.iadd, 1) := by decide +kernel
theorem d_MD_holds_76 : decode b_MD_holds 76 = .ok (.if_icmp .le 37, 3) := by decide +kernel
theorem d_MD_holds_79 : decode b_MD_holds 79 = .ok (.aload_n 0, 1) := by decide +kernel
theorem d_MD_holds_80 : decode b_MD_holds 80 = .ok (.iload_n 1, 1) := by decide +kernel
theorem d_MD_holds_81 : decode b_MD_holds 81 = .ok (.iload_n 2, 1) := by decide +kernel
theorem d_MD_holds_82 : decode b_MD_holds 82 = .ok (.iconst 1, 1) := by decide +kernel
theorem d_MD_holds_83 : decode b_MD_holds 83 = .ok (.iadd, 1) := by decide +kernel
theorem d_MD_holds_84 : decode b_MD_holds 84 = .ok (.iload_n 3, 1) := by decide +kernel
theorem d_MD_holds_85 : decode b_MD_holds 85 = .ok (.invokevirtual 142, 3) := by decide +kernel
theorem d_MD_holds_88 : decode b_MD_holds 88 = .ok (.istore 4, 2) := by decide +kernel
theorem d_MD_holds_90 : decode b_MD_holds 90 = .ok (.iload 4, 2) := by decide +kernel
theorem d_MD_holds_92 : decode b_MD_holds 92 = .ok (.ifCond .lt 19, 3) := by decide +kernel
theorem d_MD_holds_95 : decode b_MD_holds 95 = .ok (.iload 4, 2) := by decide +kernel
theorem d_MD_holds_97 : decode b_MD_holds 97 = .ok (.ifCond .ne 16, 3) := by decide +kernel
theorem d_MD_holds_100 : decode b_MD_holds 100 = .ok (.aload_n 0, 1) := by decide +kernel
theorem d_MD_holds_101 : decode b_MD_holds 101 = .ok (.getfield 20, 3) := by decide +kernel
theorem d_MD_holds_104 : decode b_MD_holds 104 = .ok (.iload_n 2, 1) := by decide +kernel
theorem d_MD_holds_105 : decode b_MD_holds 105 = .ok (.iaload, 1) := by decide +kernel
theorem d_MD_holds_106 : decode b_MD_holds 106 = .ok (.bipush 40, 2) := by decide +kernel
theorem d_MD_holds_108 : decode b_MD_holds 108 = .ok (.if_icmp .ne 5, 3) := by decide +kernel
theorem d_MD_holds_111 : decode b_MD_holds 111 = .ok (.iconst 0, 1) := by decide +kernel
theorem d_MD_holds_112 : decode b_MD_holds 112 = .ok (.ireturn, 1) := by decide +kernel
theorem d_MD_holds_113 : decode b_MD_holds 113 = .ok (.iload_n 3, 1) := by decide +kernel
theorem d_MD_holds_114 : decode b_MD_holds 114 = .ok (.aload_n 0, 1) := by decide +kernel
theorem d_MD_holds_115 : decode b_MD_holds 115 = .ok (.getfield 17, 3) := by decide +kernel
theorem d_MD_holds_118 : decode b_MD_holds 118 = .ok (.iconst 2, 1) := by decide +kernel
theorem d_MD_holds_119 : decode b_MD_holds 119 = .ok (.isub, 1) := by decide +kernel
theorem d_MD_holds_120 : decode b_MD_holds 120 = .ok (.if_icmp .ge 47, 3) := by decide +kernel
theorem d_MD_holds_123 : decode b_MD_holds 123 = .ok (.aload_n 0, 1) := by decide +kernel
theorem d_MD_holds_124 : decode b_MD_holds 124 = .ok (.iload_n 1, 1) := by decide +kernel
theorem d_MD_holds_125 : decode b_MD_holds 125 = .ok (.iload_n 3, 1) := by decide +kernel
theorem d_MD_holds_126 : decode b_MD_holds 126 = .ok (.iconst 1, 1) := by decide +kernel
theorem d_MD_holds_127 : decode b_MD_holds 127 = .ok (.iadd, 1) := by decide +kernel
theorem d_MD_holds_128 : decode b_MD_holds 128 = .ok (.aload_n 0, 1) := by decide +kernel
theorem d_MD_holds_129 : decode b_MD_holds 129 = .ok (.getfield 17, 3) := by decide +kernel
theorem d_MD_holds_132 : decode b_MD_holds 132 = .ok (.iconst 1, 1) := by decide +kernel
theorem d_MD_holds_133 : decode b_MD_holds 133 = .ok (.isub, 1) := by decide +kernel
theorem d_MD_holds_134 : decode b_MD_holds 134 = .ok (.invokevirtual 142, 3) := by decide +kernel
theorem d_MD_holds_137 : decode b_MD_holds 137 = .ok (.istore 4, 2) := by decide +kernel
theorem d_MD_holds_139 : decode b_MD_holds 139 = .ok (.iload 4, 2) := by decide +kernel
theorem d_MD_holds_141 : decode b_MD_holds 141 = .ok (.ifCond .gt 24, 3) := by decide +kernel
theorem d_MD_holds_144 : decode b_MD_holds 144 = .ok (.iload 4, 2) := by decide +kernel
theorem d_MD_holds_146 : decode b_MD_holds 146 = .ok (.ifCond .ne 21, 3) := by decide +kernel
theorem d_MD_holds_149 : decode b_MD_holds 149 = .ok (.aload_n 0, 1) := by decide +kernel
theorem d_MD_holds_150 : decode b_MD_holds 150 = .ok (.getfield 20, 3) := by decide +kernel
theorem d_MD_holds_153 : decode b_MD_holds 153 = .ok (.aload_n 0, 1) := by decide +kernel
theorem d_MD_holds_154 : decode b_MD_holds 154 = .ok (.getfield 17, 3) := by decide +kernel
theorem d_MD_holds_157 : decode b_MD_holds 157 = .ok (.iconst 1, 1) := by decide +kernel
theorem d_MD_holds_158 : decode b_MD_holds 158 = .ok (.isub, 1) := by decide +kernel
theorem d_MD_holds_159 : decode b_MD_holds 159 = .ok (.iaload, 1) := by decide +kernel
theorem d_MD_holds_160 : decode b_MD_holds 160 = .ok (.bipush 41, 2) := by decide +kernel
theorem d_MD_holds_162 : decode b_MD_holds 162 = .ok (.if_icmp .ne 5, 3) := by decide +kernel
theorem d_MD_holds_165 : decode b_MD_holds 165 = .ok (.iconst 0, 1) := by decide +kernel
theorem d_MD_holds_166 : decode b_MD_holds 166 = .ok (.ireturn, 1) := by decide +kernel
theorem d_MD_holds_167 : decode b_MD_holds 167 = .ok (.iconst 1, 1) := by decide +kernel
theorem d_MD_holds_168 : decode b_MD_holds 168 = .ok (.ireturn, 1) := by decide +kernel
theorem d_MD_hasName_0 : decode b_MD_hasName 0 = .ok (.aload_n 0, 1) := by decide +kernel
theorem d_MD_hasName_1 : decode b_MD_hasName 1 = .ok (.getfield 32, 3) := by decide +kernel
theorem d_MD_hasName_4 : decode b_MD_hasName 4 = .ok (.iload_n 1, 1) := by decide +kernel
theorem d_MD_hasName_5 : decode b_MD_hasName 5 = .ok (.iaload, 1) := by decide +kernel
theorem d_MD_hasName_6 : decode b_MD_hasName 6 = .ok (.iload_n 2, 1) := by decide +kernel
theorem d_MD_hasName_7 : decode b_MD_hasName 7 = .ok (.if_icmp .eq 5, 3) := by decide +kernel
theorem d_MD_hasName_10 : decode b_MD_hasName 10 = .ok (.iconst 0, 1) := by decide +kernel
theorem d_MD_hasName_11 : decode b_MD_hasName 11 = .ok (.ireturn, 1) := by decide +kernel
theorem d_MD_hasName_12 : decode b_MD_hasName 12 = .ok (.iconst 0, 1) := by decide +kernel
theorem d_MD_hasName_13 : decode b_MD_hasName 13 = .ok (.istore_n 3, 1) := by decide +kernel
theorem d_MD_hasName_14 : decode b_MD_hasName 14 = .ok (.iload_n 3, 1) := by decide +kernel
theorem d_MD_hasName_15 : decode b_MD_hasName 15 = .ok (.iload_n 2, 1) := by decide +kernel
theorem d_MD_hasName_16 : decode b_MD_hasName 16 = .ok (.if_icmp .ge 31, 3) := by decide +kernel
theorem d_MD_hasName_19 : decode b_MD_hasName 19 = .ok (.aload_n 0, 1) := by decide +kernel
theorem d_MD_hasName_20 : decode b_MD_hasName 20 = .ok (.getfield 29, 3) := by decide +kernel
theorem d_MD_hasName_23 : decode b_MD_hasName 23 = .ok (.iload_n 1, 1) := by decide +kernel
theorem d_MD_hasName_24 : decode b_MD_hasName 24 = .ok (.bipush 21, 2) := by decide +kernel
theorem d_MD_hasName_26 : decode b_MD_hasName 26 = .ok (.imul, 1) := by decide +kernel
theorem d_MD_hasName_27 : decode b_MD_hasName 27 = .ok (.iload_n 3, 1) := by decide +kernel
theorem d_MD_hasName_28 : decode b_MD_hasName 28 = .ok (.iadd, 1) := by decide +kernel
theorem d_MD_hasName_29 : decode b_MD_hasName 29 = .ok (.iaload, 1) := by decide +kernel
theorem d_MD_hasName_30 : decode b_MD_hasName 30 = .ok (.aload_n 0, 1) := by decide +kernel
theorem d_MD_hasName_31 : decode b_MD_hasName 31 = .ok (.getfield 20, 3) := by decide +kernel
theorem d_MD_hasName_34 : decode b_MD_hasName 34 = .ok (.iload_n 3, 1) := by decide +kernel
theorem d_MD_hasName_35 : decode b_MD_hasName 35 = .ok (.iaload, 1) := by decide +kernel
theorem d_MD_hasName_36 : decode b_MD_hasName 36 = .ok (.if_icmp .eq 5, 3) := by decide +kernel
theorem d_MD_hasName_39 : decode b_MD_hasName 39 = .ok (.iconst 0, 1) := by decide +kernel
theorem d_MD_hasName_40 : decode b_MD_hasName 40 = .ok (.ireturn, 1) := by decide +kernel
theorem d_MD_hasName_41 : decode b_MD_hasName 41 = .ok (.iinc 3 1, 3) := by decide +kernel
theorem d_MD_hasName_44 : decode b_MD_hasName 44 = .ok (.goto (-30), 3) := by decide +kernel
theorem d_MD_hasName_47 : decode b_MD_hasName 47 = .ok (.iconst 1, 1) := by decide +kernel
theorem d_MD_hasName_48 : decode b_MD_hasName 48 = .ok (.ireturn, 1) := by decide +kernel
theorem d_MD_isAbove_0 : decode b_MD_isAbove 0 = .ok (.aload_n 0, 1) := by decide +kernel
theorem d_MD_isAbove_1 : decode b_MD_isAbove 1 = .ok (.iload_n 2, 1) := by decide +kernel
theorem d_MD_isAbove_2 : decode b_MD_isAbove 2 = .ok (.invokevirtual 130, 3) := by decide +kernel
theorem d_MD_isAbove_5 : decode b_MD_isAbove 5 = .ok (.aload_n 0, 1) := by decide +kernel
theorem d_MD_isAbove_6 : decode b_MD_isAbove 6 = .ok (.aload_n 0, 1) := by decide +kernel
theorem d_MD_isAbove_7 : decode b_MD_isAbove 7 = .ok (.getfield 87, 3) := by decide +kernel
theorem d_MD_isAbove_10 : decode b_MD_isAbove 10 = .ok (.putfield 93, 3) := by decide +kernel
theorem d_MD_isAbove_13 : decode b_MD_isAbove 13 = .ok (.iconst 0, 1) := by decide +kernel
theorem d_MD_isAbove_14 : decode b_MD_isAbove 14 = .ok (.istore_n 3, 1) := by decide +kernel
theorem d_MD_isAbove_15 : decode b_MD_isAbove 15 = .ok (.iload_n 3, 1) := by decide +kernel
theorem d_MD_isAbove_16 : decode b_MD_isAbove 16 = .ok (.aload_n 0, 1) := by decide +kernel
theorem d_MD_isAbove_17 : decode b_MD_isAbove 17 = .ok (.getfield 87, 3) := by decide +kernel
theorem d_MD_isAbove_20 : decode b_MD_isAbove 20 = .ok (.if_icmp .ge 21, 3) := by decide +kernel
theorem d_MD_isAbove_23 : decode b_MD_isAbove 23 = .ok (.aload_n 0, 1) := by decide +kernel
theorem d_MD_isAbove_24 : decode b_MD_isAbove 24 = .ok (.getfield 90, 3) := by decide +kernel
theorem d_MD_isAbove_27 : decode b_MD_isAbove 27 = .ok (.iload_n 3, 1) := by decide +kernel
theorem d_MD_isAbove_28 : decode b_MD_isAbove 28 = .ok (.aload_n 0, 1) := by decide +kernel
theorem d_MD_isAbove_29 : decode b_MD_isAbove 29 = .ok (.getfield 84, 3) := by decide +kernel
theorem d_MD_isAbove_32 : decode b_MD_isAbove 32 = .ok (.iload_n 3, 1) := by decide +kernel
theorem d_MD_isAbove_33 : decode b_MD_isAbove 33 = .ok (.iaload, 1) := by decide +kernel
theorem d_MD_isAbove_34 : decode b_MD_isAbove 34 = .ok (.iastore, 1) := by decide +kernel
theorem d_MD_isAbove_35 : decode b_MD_isAbove 35 = .ok (.iinc 3 1, 3) := by decide +kernel
theorem d_MD_isAbove_38 : decode b_MD_isAbove 38 = .ok (.goto (-23), 3) := by decide +kernel
theorem d_MD_isAbove_41 : decode b_MD_isAbove 41 = .ok (.aload_n 0, 1) := by decide +kernel
theorem d_MD_isAbove_42 : decode b_MD_isAbove 42 = .ok (.iload_n 1, 1) := by decide +kernel
theorem d_MD_isAbove_43 : decode b_MD_isAbove 43 = .ok (.invokevirtual 130, 3) := by decide +kernel
theorem d_MD_isAbove_46 : decode b_MD_isAbove 46 = .ok (.aload_n 0, 1) := by decide +kernel
theorem d_MD_isAbove_47 : decode b_MD_isAbove 47 = .ok (.invokevirtual 138, 3) := by decide +kernel
theorem d_MD_isAbove_50 : decode b_MD_isAbove 50 = .ok (.ifCond .le 7, 3) := by decide +kernel
theorem d_MD_isAbove_53 : decode b_MD_isAbove 53 = .ok (.iconst 1, 1) := by decide +kernel
theorem d_MD_isAbove_54 : decode b_MD_isAbove 54 = .ok (.goto 4, 3) := by decide +kernel
theorem d_MD_isAbove_57 : decode b_MD_isAbove 57 = .ok (.iconst 0, 1) := by decide +kernel
theorem d_MD_isAbove_58 : decode b_MD_isAbove 58 = .ok (.ireturn, 1) := by decide +kernel
theorem d_MD_pick_0 : decode b_MD_pick 0 = .ok (.aload_n 0, 1) := by decide +kernel
theorem d_MD_pick_1 : decode b_MD_pick 1 = .ok (.invokevirtual 146, 3) := by decide +kernel
theorem d_MD_pick_4 : decode b_MD_pick 4 = .ok (.istore_n 1, 1) := by decide +kernel
theorem d_MD_pick_5 : decode b_MD_pick 5 = .ok (.iconst (-1), 1) := by decide +kernel
theorem d_MD_pick_6 : decode b_MD_pick 6 = .ok (.istore_n 2, 1) := by decide +kernel
theorem d_MD_pick_7 : decode b_MD_pick 7 = .ok (.iconst 0, 1) := by decide +kernel
theorem d_MD_pick_8 : decode b_MD_pick 8 = .ok (.istore_n 3, 1) := by decide +kernel
theorem d_MD_pick_9 : decode b_MD_pick 9 = .ok (.iload_n 3, 1) := by decide +kernel
theorem d_MD_pick_10 : decode b_MD_pick 10 = .ok (.aload_n 0, 1) := by decide +kernel
theorem d_MD_pick_11 : decode b_MD_pick 11 = .ok (.getfield 23, 3) := by decide +kernel
theorem d_MD_pick_14 : decode b_MD_pick 14 = .ok (.if_icmp .ge 56, 3) := by decide +kernel
theorem d_MD_pick_17 : decode b_MD_pick 17 = .ok (.aload_n 0, 1) := by decide +kernel
theorem d_MD_pick_18 : decode b_MD_pick 18 = .ok (.getfield 35, 3) := by decide +kernel
theorem d_MD_pick_21 : decode b_MD_pick 21 = .ok (.iload_n 3, 1) := by decide +kernel
theorem d_MD_pick_22 : decode b_MD_pick 22 = .ok (.baload, 1) := by decide +kernel
theorem d_MD_pick_23 : decode b_MD_pick 23 = .ok (.ifCond .ne 41, 3) := by decide +kernel
theorem d_MD_pick_26 : decode b_MD_pick 26 = .ok (.aload_n 0, 1) := by decide +kernel
theorem d_MD_pick_27 : decode b_MD_pick 27 = .ok (.iload_n 3, 1) := by decide +kernel
theorem d_MD_pick_28 : decode b_MD_pick 28 = .ok (.iload_n 1, 1) := by decide +kernel
theorem d_MD_pick_29 : decode b_MD_pick 29 = .ok (.invokevirtual 149, 3) := by decide +kernel
theorem d_MD_pick_32 : decode b_MD_pick 32 = .ok (.ifCond .eq 32, 3) := by decide +kernel
theorem d_MD_pick_35 : decode b_MD_pick 35 = .ok (.aload_n 0, 1) := by decide +kernel
theorem d_MD_pick_36 : decode b_MD_pick 36 = .ok (.iload_n 3, 1) := by decide +kernel
theorem d_MD_pick_37 : decode b_MD_pick 37 = .ok (.iload_n 1, 1) := by decide +kernel
theorem d_MD_pick_38 : decode b_MD_pick 38 = .ok (.iconst 1, 1) := by decide +kernel
theorem d_MD_pick_39 : decode b_MD_pick 39 = .ok (.iadd, 1) := by decide +kernel
theorem d_MD_pick_40 : decode b_MD_pick 40 = .ok (.invokevirtual 152, 3) := by decide +kernel
theorem d_MD_pick_43 : decode b_MD_pick 43 = .ok (.ifCond .ne 6, 3) := by decide +kernel
theorem d_MD_pick_46 : decode b_MD_pick 46 = .ok (.goto 18, 3) := by decide +kernel
theorem d_MD_pick_49 : decode b_MD_pick 49 = .ok (.iload_n 2, 1) := by decide +kernel
theorem d_MD_pick_50 : decode b_MD_pick 50 = .ok (.ifCond .lt 12, 3) := by decide +kernel
theorem d_MD_pick_53 : decode b_MD_pick 53 = .ok (.aload_n 0, 1) := by decide +kernel
theorem d_MD_pick_54 : decode b_MD_pick 54 = .ok (.iload_n 3, 1) := by decide +kernel
theorem d_MD_pick_55 : decode b_MD_pick 55 = .ok (.iload_n 2, 1) := by decide +kernel
theorem d_MD_pick_56 : decode b_MD_pick 56 = .ok (.invokevirtual 155, 3) := by decide +kernel
theorem d_MD_pick_59 : decode b_MD_pick 59 = .ok (.ifCond .eq 5, 3) := by decide +kernel
theorem d_MD_pick_62 : decode b_MD_pick 62 = .ok (.iload_n 3, 1) := by decide +kernel
theorem d_MD_pick_63 : decode b_MD_pick 63 = .ok (.istore_n 2, 1) := by decide +kernel
theorem d_MD_pick_64 : decode b_MD_pick 64 = .ok (.iinc 3 1, 3) := by decide +kernel
theorem d_MD_pick_67 : decode b_MD_pick 67 = .ok (.goto (-58), 3) := by decide +kernel
theorem d_MD_pick_70 : decode b_MD_pick 70 = .ok (.iload_n 2, 1) := by decide +kernel
theorem d_MD_pick_71 : decode b_MD_pick 71 = .ok (.ireturn, 1) := by decide +kernel
theorem d_MD_publish_0 : decode b_MD_publish 0 = .ok (.aload_n 0, 1) := by decide +kernel
theorem d_MD_publish_1 : decode b_MD_publish 1 = .ok (.invokevirtual 158, 3) := by decide +kernel
theorem d_MD_publish_4 : decode b_MD_publish 4 = .ok (.aload_n 0, 1) := by decide +kernel
theorem d_MD_publish_5 : decode b_MD_publish 5 = .ok (.invokevirtual 146, 3) := by decide +kernel
theorem d_MD_publish_8 : decode b_MD_publish 8 = .ok (.istore_n 1, 1) := by decide +kernel
theorem d_MD_publish_9 : decode b_MD_publish 9 = .ok (.aload_n 0, 1) := by decide +kernel
theorem d_MD_publish_10 : decode b_MD_publish 10 = .ok (.iconst 0, 1) := by decide +kernel
theorem d_MD_publish_11 : decode b_MD_publish 11 = .ok (.iload_n 1, 1) := by decide +kernel
theorem d_MD_publish_12 : decode b_MD_publish 12 = .ok (.invokevirtual 161, 3) := by decide +kernel
theorem d_MD_publish_15 : decode b_MD_publish 15 = .ok (.ifCond .eq 25, 3) := by decide +kernel
theorem d_MD_publish_18 : decode b_MD_publish 18 = .ok (.iload_n 1, 1) := by decide +kernel
theorem d_MD_publish_19 : decode b_MD_publish 19 = .ok (.aload_n 0, 1) := by decide +kernel
theorem d_MD_publish_20 : decode b_MD_publish 20 = .ok (.getfield 17, 3) := by decide +kernel
theorem d_MD_publish_23 : decode b_MD_publish 23 = .ok (.if_icmp .eq 17, 3) := by decide +kernel
theorem d_MD_publish_26 : decode b_MD_publish 26 = .ok (.aload_n 0, 1) := by decide +kernel
theorem d_MD_publish_27 : decode b_MD_publish 27 = .ok (.iload_n 1, 1) := by decide +kernel
theorem d_MD_publish_28 : decode b_MD_publish 28 = .ok (.iconst 1, 1) := by decide +kernel
theorem d_MD_publish_29 : decode b_MD_publish 29 = .ok (.iadd, 1) := by decide +kernel
theorem d_MD_publish_30 : decode b_MD_publish 30 = .ok (.aload_n 0, 1) := by decide +kernel
theorem d_MD_publish_31 : decode b_MD_publish 31 = .ok (.getfield 17, 3) := by decide +kernel
theorem d_MD_publish_34 : decode b_MD_publish 34 = .ok (.invokevirtual 106, 3) := by decide +kernel
theorem d_MD_publish_37 : decode b_MD_publish 37 = .ok (.ifCond .ne 6, 3) := by decide +kernel
theorem d_MD_publish_40 : decode b_MD_publish 40 = .ok (.bipush (-3), 2) := by decide +kernel
theorem d_MD_publish_42 : decode b_MD_publish 42 = .ok (.ireturn, 1) := by decide +kernel
theorem d_MD_publish_43 : decode b_MD_publish 43 = .ok (.iconst 0, 1) := by decide +kernel
theorem d_MD_publish_44 : decode b_MD_publish 44 = .ok (.istore_n 2, 1) := by decide +kernel
theorem d_MD_publish_45 : decode b_MD_publish 45 = .ok (.iload_n 2, 1) := by decide +kernel
theorem d_MD_publish_46 : decode b_MD_publish 46 = .ok (.aload_n 0, 1) := by decide +kernel
theorem d_MD_publish_47 : decode b_MD_publish 47 = .ok (.getfield 23, 3) := by decide +kernel
theorem d_MD_publish_50 : decode b_MD_publish 50 = .ok (.if_icmp .ge 44, 3) := by decide +kernel
theorem d_MD_publish_53 : decode b_MD_publish 53 = .ok (.aload_n 0, 1) := by decide +kernel
theorem d_MD_publish_54 : decode b_MD_publish 54 = .ok (.getfield 35, 3) := by decide +kernel
theorem d_MD_publish_57 : decode b_MD_publish 57 = .ok (.iload_n 2, 1) := by decide +kernel
theorem d_MD_publish_58 : decode b_MD_publish 58 = .ok (.baload, 1) := by decide +kernel
theorem d_MD_publish_59 : decode b_MD_publish 59 = .ok (.ifCond .ne 29, 3) := by decide +kernel
theorem d_MD_publish_62 : decode b_MD_publish 62 = .ok (.aload_n 0, 1) := by decide +kernel
theorem d_MD_publish_63 : decode b_MD_publish 63 = .ok (.iload_n 2, 1) := by decide +kernel
theorem d_MD_publish_64 : decode b_MD_publish 64 = .ok (.iload_n 1, 1) := by decide +kernel
theorem d_MD_publish_65 : decode b_MD_publish 65 = .ok (.invokevirtual 149, 3) := by decide +kernel
theorem d_MD_publish_68 : decode b_MD_publish 68 = .ok (.ifCond .eq 20, 3) := by decide +kernel
theorem d_MD_publish_71 : decode b_MD_publish 71 = .ok (.aload_n 0, 1) := by decide +kernel
theorem d_MD_publish_72 : decode b_MD_publish 72 = .ok (.iload_n 2, 1) := by decide +kernel
theorem d_MD_publish_73 : decode b_MD_publish 73 = .ok (.iload_n 1, 1) := by decide +kernel
theorem d_MD_publish_74 : decode b_MD_publish 74 = .ok (.iconst 1, 1) := by decide +kernel
theorem d_MD_publish_75 : decode b_MD_publish 75 = .ok (.iadd, 1) := by decide +kernel
theorem d_MD_publish_76 : decode b_MD_publish 76 = .ok (.aload_n 0, 1) := by decide +kernel
theorem d_MD_publish_77 : decode b_MD_publish 77 = .ok (.getfield 17, 3) := by decide +kernel
theorem d_MD_publish_80 : decode b_MD_publish 80 = .ok (.invokevirtual 142, 3) := by decide +kernel
theorem d_MD_publish_83 : decode b_MD_publish 83 = .ok (.ifCond .ne 5, 3) := by decide +kernel
theorem d_MD_publish_86 : decode b_MD_publish 86 = .ok (.iconst (-1), 1) := by decide +kernel
theorem d_MD_publish_87 : decode b_MD_publish 87 = .ok (.ireturn, 1) := by decide +kernel
theorem d_MD_publish_88 : decode b_MD_publish 88 = .ok (.iinc 2 1, 3) := by decide +kernel
theorem d_MD_publish_91 : decode b_MD_publish 91 = .ok (.goto (-46), 3) := by decide +kernel
theorem d_MD_publish_94 : decode b_MD_publish 94 = .ok (.aload_n 0, 1) := by decide +kernel
theorem d_MD_publish_95 : decode b_MD_publish 95 = .ok (.getfield 23, 3) := by decide +kernel
theorem d_MD_publish_98 : decode b_MD_publish 98 = .ok (.bipush 20, 2) := by decide +kernel
theorem d_MD_publish_100 : decode b_MD_publish 100 = .ok (.if_icmp .ne 6, 3) := by decide +kernel
theorem d_MD_publish_103 : decode b_MD_publish 103 = .ok (.bipush (-2), 2) := by decide +kernel
theorem d_MD_publish_105 : decode b_MD_publish 105 = .ok (.ireturn, 1) := by decide +kernel
theorem d_MD_publish_106 : decode b_MD_publish 106 = .ok (.iconst 0, 1) := by decide +kernel
theorem d_MD_publish_107 : decode b_MD_publish 107 = .ok (.istore_n 2, 1) := by decide +kernel
theorem d_MD_publish_108 : decode b_MD_publish 108 = .ok (.iload_n 2, 1) := by decide +kernel
theorem d_MD_publish_109 : decode b_MD_publish 109 = .ok (.aload_n 0, 1) := by decide +kernel
theorem d_MD_publish_110 : decode b_MD_publish 110 = .ok (.getfield 17, 3) := by decide +kernel
theorem d_MD_publish_113 : decode b_MD_publish 113 = .ok (.if_icmp .ge 29, 3) := by decide +kernel
theorem d_MD_publish_116 : decode b_MD_publish 116 = .ok (.aload_n 0, 1) := by decide +kernel
theorem d_MD_publish_117 : decode b_MD_publish 117 = .ok (.getfield 29, 3) := by decide +kernel
theorem d_MD_publish_120 : decode b_MD_publish 120 = .ok (.aload_n 0, 1) := by decide +kernel
theorem d_MD_publish_121 : decode b_MD_publish 121 = .ok (.getfield 23, 3) := by decide +kernel
theorem d_MD_publish_124 : decode b_MD_publish 124 = .ok (.bipush 21, 2) := by decide +kernel
theorem d_MD_publish_126 : decode b_MD_publish 126 = .ok (.imul, 1) := by decide +kernel
theorem d_MD_publish_127 : decode b_MD_publish 127 = .ok (.iload_n 2, 1) := by decide +kernel
theorem d_MD_publish_128 : decode b_MD_publish 128 = .ok (.iadd, 1) := by decide +kernel
theorem d_MD_publish_129 : decode b_MD_publish 129 = .ok (.aload_n 0, 1) := by decide +kernel
theorem d_MD_publish_130 : decode b_MD_publish 130 = .ok (.getfield 20, 3) := by decide +kernel
theorem d_MD_publish_133 : decode b_MD_publish 133 = .ok (.iload_n 2, 1) := by decide +kernel
theorem d_MD_publish_134 : decode b_MD_publish 134 = .ok (.iaload, 1) := by decide +kernel
theorem d_MD_publish_135 : decode b_MD_publish 135 = .ok (.iastore, 1) := by decide +kernel
theorem d_MD_publish_136 : decode b_MD_publish 136 = .ok (.iinc 2 1, 3) := by decide +kernel
theorem d_MD_publish_139 : decode b_MD_publish 139 = .ok (.goto (-31), 3) := by decide +kernel
theorem d_MD_publish_142 : decode b_MD_publish 142 = .ok (.aload_n 0, 1) := by decide +kernel
theorem d_MD_publish_143 : decode b_MD_publish 143 = .ok (.getfield 26, 3) := by decide +kernel
theorem d_MD_publish_146 : decode b_MD_publish 146 = .ok (.aload_n 0, 1) := by decide +kernel
theorem d_MD_publish_147 : decode b_MD_publish 147 = .ok (.getfield 23, 3) := by decide +kernel
theorem d_MD_publish_150 : decode b_MD_publish 150 = .ok (.aload_n 0, 1) := by decide +kernel
theorem d_MD_publish_151 : decode b_MD_publish 151 = .ok (.getfield 17, 3) := by decide +kernel
theorem d_MD_publish_154 : decode b_MD_publish 154 = .ok (.iastore, 1) := by decide +kernel
theorem d_MD_publish_155 : decode b_MD_publish 155 = .ok (.aload_n 0, 1) := by decide +kernel
theorem d_MD_publish_156 : decode b_MD_publish 156 = .ok (.getfield 32, 3) := by decide +kernel
theorem d_MD_publish_159 : decode b_MD_publish 159 = .ok (.aload_n 0, 1) := by decide +kernel
theorem d_MD_publish_160 : decode b_MD_publish 160 = .ok (.getfield 23, 3) := by decide +kernel
theorem d_MD_publish_163 : decode b_MD_publish 163 = .ok (.iload_n 1, 1) := by decide +kernel
theorem d_MD_publish_164 : decode b_MD_publish 164 = .ok (.iastore, 1) := by decide +kernel
theorem d_MD_publish_165 : decode b_MD_publish 165 = .ok (.aload_n 0, 1) := by decide +kernel
theorem d_MD_publish_166 : decode b_MD_publish 166 = .ok (.dup, 1) := by decide +kernel
theorem d_MD_publish_167 : decode b_MD_publish 167 = .ok (.getfield 23, 3) := by decide +kernel
theorem d_MD_publish_170 : decode b_MD_publish 170 = .ok (.iconst 1, 1) := by decide +kernel
theorem d_MD_publish_171 : decode b_MD_publish 171 = .ok (.iadd, 1) := by decide +kernel
theorem d_MD_publish_172 : decode b_MD_publish 172 = .ok (.putfield 23, 3) := by decide +kernel
theorem d_MD_publish_175 : decode b_MD_publish 175 = .ok (.aload_n 0, 1) := by decide +kernel
theorem d_MD_publish_176 : decode b_MD_publish 176 = .ok (.getfield 23, 3) := by decide +kernel
theorem d_MD_publish_179 : decode b_MD_publish 179 = .ok (.iconst 1, 1) := by decide +kernel
theorem d_MD_publish_180 : decode b_MD_publish 180 = .ok (.isub, 1) := by decide +kernel
theorem d_MD_publish_181 : decode b_MD_publish 181 = .ok (.ireturn, 1) := by decide +kernel
theorem d_MD_none_0 : decode b_MD_none 0 = .ok (.iload_n 1, 1) := by decide +kernel
theorem d_MD_none_1 : decode b_MD_none 1 = .ok (.ifCond .lt 11, 3) := by decide +kernel
theorem d_MD_none_4 : decode b_MD_none 4 = .ok (.iload_n 1, 1) := by decide +kernel
theorem d_MD_none_5 : decode b_MD_none 5 = .ok (.aload_n 0, 1) := by decide +kernel
theorem d_MD_none_6 : decode b_MD_none 6 = .ok (.getfield 23, 3) := by decide +kernel
theorem d_MD_none_9 : decode b_MD_none 9 = .ok (.if_icmp .lt 7, 3) := by decide +kernel
theorem d_MD_none_12 : decode b_MD_none 12 = .ok (.iconst 1, 1) := by decide +kernel
theorem d_MD_none_13 : decode b_MD_none 13 = .ok (.goto 4, 3) := by decide +kernel
theorem d_MD_none_16 : decode b_MD_none 16 = .ok (.iconst 0, 1) := by decide +kernel
theorem d_MD_none_17 : decode b_MD_none 17 = .ok (.ireturn, 1) := by decide +kernel
theorem d_MD_depend_0 : decode b_MD_depend 0 = .ok (.aload_n 0, 1) := by decide +kernel
theorem d_MD_depend_1 : decode b_MD_depend 1 = .ok (.invokevirtual 158, 3) := by decide +kernel
theorem d_MD_depend_4 : decode b_MD_depend 4 = .ok (.aload_n 0, 1) := by decide +kernel
theorem d_MD_depend_5 : decode b_MD_depend 5 = .ok (.iload_n 1, 1) := by decide +kernel
theorem d_MD_depend_6 : decode b_MD_depend 6 = .ok (.invokevirtual 164, 3) := by decide +kernel
theorem d_MD_depend_9 : decode b_MD_depend 9 = .ok (.ifCond .eq 5, 3) := by decide +kernel
theorem d_MD_depend_12 : decode b_MD_depend 12 = .ok (.iconst (-1), 1) := by decide +kernel
theorem d_MD_depend_13 : decode b_MD_depend 13 = .ok (.ireturn, 1) := by decide +kernel
theorem d_MD_depend_14 : decode b_MD_depend 14 = .ok (.aload_n 0, 1) := by decide +kernel
theorem d_MD_depend_15 : decode b_MD_depend 15 = .ok (.invokevirtual 146, 3) := by decide +kernel
theorem d_MD_depend_18 : decode b_MD_depend 18 = .ok (.istore_n 3, 1) := by decide +kernel
theorem d_MD_depend_19 : decode b_MD_depend 19 = .ok (.aload_n 0, 1) := by decide +kernel
theorem d_MD_depend_20 : decode b_MD_depend 20 = .ok (.iconst 0, 1) := by decide +kernel
theorem d_MD_depend_21 : decode b_MD_depend 21 = .ok (.iload_n 3, 1) := by decide +kernel
theorem d_MD_depend_22 : decode b_MD_depend 22 = .ok (.invokevirtual 161, 3) := by decide +kernel
theorem d_MD_depend_25 : decode b_MD_depend 25 = .ok (.ifCond .eq 25, 3) := by decide +kernel
theorem d_MD_depend_28 : decode b_MD_depend 28 = .ok (.iload_n 3, 1) := by decide +kernel
theorem d_MD_depend_29 : decode b_MD_depend 29 = .ok (.aload_n 0, 1) := by decide +kernel
theorem d_MD_depend_30 : decode b_MD_depend 30 = .ok (.getfield 17, 3) := by decide +kernel
theorem d_MD_depend_33 : decode b_MD_depend 33 = .ok (.if_icmp .eq 17, 3) := by decide +kernel
theorem d_MD_depend_36 : decode b_MD_depend 36 = .ok (.aload_n 0, 1) := by decide +kernel
theorem d_MD_depend_37 : decode b_MD_depend 37 = .ok (.iload_n 3, 1) := by decide +kernel
theorem d_MD_depend_38 : decode b_MD_depend 38 = .ok (.iconst 1, 1) := by decide +kernel
theorem d_MD_depend_39 : decode b_MD_depend 39 = .ok (.iadd, 1) := by decide +kernel
theorem d_MD_depend_40 : decode b_MD_depend 40 = .ok (.aload_n 0, 1) := by decide +kernel
theorem d_MD_depend_41 : decode b_MD_depend 41 = .ok (.getfield 17, 3) := by decide +kernel
theorem d_MD_depend_44 : decode b_MD_depend 44 = .ok (.invokevirtual 167, 3) := by decide +kernel
theorem d_MD_depend_47 : decode b_MD_depend 47 = .ok (.ifCond .ne 6, 3) := by decide +kernel
theorem d_MD_depend_50 : decode b_MD_depend 50 = .ok (.bipush (-3), 2) := by decide +kernel
theorem d_MD_depend_52 : decode b_MD_depend 52 = .ok (.ireturn, 1) := by decide +kernel
theorem d_MD_depend_53 : decode b_MD_depend 53 = .ok (.aload_n 0, 1) := by decide +kernel
theorem d_MD_depend_54 : decode b_MD_depend 54 = .ok (.getfield 42, 3) := by decide +kernel
theorem d_MD_depend_57 : decode b_MD_depend 57 = .ok (.iload_n 1, 1) := by decide +kernel
theorem d_MD_depend_58 : decode b_MD_depend 58 = .ok (.iaload, 1) := by decide +kernel
theorem d_MD_depend_59 : decode b_MD_depend 59 = .ok (.bipush 6, 2) := by decide +kernel
theorem d_MD_depend_61 : decode b_MD_depend 61 = .ok (.if_icmp .ne 6, 3) := by decide +kernel
theorem d_MD_depend_64 : decode b_MD_depend 64 = .ok (.bipush (-2), 2) := by decide +kernel
theorem d_MD_depend_66 : decode b_MD_depend 66 = .ok (.ireturn, 1) := by decide +kernel
theorem d_MD_depend_67 : decode b_MD_depend 67 = .ok (.iload_n 1, 1) := by decide +kernel
theorem d_MD_depend_68 : decode b_MD_depend 68 = .ok (.bipush 6, 2) := by decide +kernel
theorem d_MD_depend_70 : decode b_MD_depend 70 = .ok (.imul, 1) := by decide +kernel
theorem d_MD_depend_71 : decode b_MD_depend 71 = .ok (.aload_n 0, 1) := by decide +kernel
theorem d_MD_depend_72 : decode b_MD_depend 72 = .ok (.getfield 42, 3) := by decide +kernel
theorem d_MD_depend_75 : decode b_MD_depend 75 = .ok (.iload_n 1, 1) := by decide +kernel
theorem d_MD_depend_76 : decode b_MD_depend 76 = .ok (.iaload, 1) := by decide +kernel
theorem d_MD_depend_77 : decode b_MD_depend 77 = .ok (.iadd, 1) := by decide +kernel
theorem d_MD_depend_78 : decode b_MD_depend 78 = .ok (.istore 4, 2) := by decide +kernel
theorem d_MD_depend_80 : decode b_MD_depend 80 = .ok (.iconst 0, 1) := by decide +kernel
theorem d_MD_depend_81 : decode b_MD_depend 81 = .ok (.istore 5, 2) := by decide +kernel
theorem d_MD_depend_83 : decode b_MD_depend 83 = .ok (.iload 5, 2) := by decide +kernel
theorem d_MD_depend_85 : decode b_MD_depend 85 = .ok (.aload_n 0, 1) := by decide +kernel
theorem d_MD_depend_86 : decode b_MD_depend 86 = .ok (.getfield 17, 3) := by decide +kernel
theorem d_MD_depend_89 : decode b_MD_depend 89 = .ok (.if_icmp .ge 29, 3) := by decide +kernel
theorem d_MD_depend_92 : decode b_MD_depend 92 = .ok (.aload_n 0, 1) := by decide +kernel
theorem d_MD_depend_93 : decode b_MD_depend 93 = .ok (.getfield 51, 3) := by decide +kernel
theorem d_MD_depend_96 : decode b_MD_depend 96 = .ok (.iload 4, 2) := by decide +kernel
theorem d_MD_depend_98 : decode b_MD_depend 98 = .ok (.bipush 40, 2) := by decide +kernel
theorem d_MD_depend_100 : decode b_MD_depend 100 = .ok (.imul, 1) := by decide +kernel
theorem d_MD_depend_101 : decode b_MD_depend 101 = .ok (.iload 5, 2) := by decide +kernel
theorem d_MD_depend_103 : decode b_MD_depend 103 = .ok (.iadd, 1) := by decide +kernel
theorem d_MD_depend_104 : decode b_MD_depend 104 = .ok (.aload_n 0, 1) := by decide +kernel
theorem d_MD_depend_105 : decode b_MD_depend 105 = .ok (.getfield 20, 3) := by decide +kernel
theorem d_MD_depend_108 : decode b_MD_depend 108 = .ok (.iload 5, 2) := by decide +kernel
theorem d_MD_depend_110 : decode b_MD_depend 110 = .ok (.iaload, 1) := by decide +kernel
theorem d_MD_depend_111 : decode b_MD_depend 111 = .ok (.iastore, 1) := by decide +kernel
theorem d_MD_depend_112 : decode b_MD_depend 112 = .ok (.iinc 5 1, 3) := by decide +kernel
theorem d_MD_depend_115 : decode b_MD_depend 115 = .ok (.goto (-32), 3) := by decide +kernel
theorem d_MD_depend_118 : decode b_MD_depend 118 = .ok (.aload_n 0, 1) := by decide +kernel
theorem d_MD_depend_119 : decode b_MD_depend 119 = .ok (.getfield 48, 3) := by decide +kernel
theorem d_MD_depend_122 : decode b_MD_depend 122 = .ok (.iload 4, 2) := by decide +kernel
theorem d_MD_depend_124 : decode b_MD_depend 124 = .ok (.aload_n 0, 1) := by decide +kernel
theorem d_MD_depend_125 : decode b_MD_depend 125 = .ok (.getfield 17, 3) := by decide +kernel
theorem d_MD_depend_128 : decode b_MD_depend 128 = .ok (.iastore, 1) := by decide +kernel
theorem d_MD_depend_129 : decode b_MD_depend 129 = .ok (.aload_n 0, 1) := by decide +kernel
theorem d_MD_depend_130 : decode b_MD_depend 130 = .ok (.getfield 45, 3) := by decide +kernel
theorem d_MD_depend_133 : decode b_MD_depend 133 = .ok (.iload 4, 2) := by decide +kernel
theorem d_MD_depend_135 : decode b_MD_depend 135 = .ok (.iload_n 2, 1) := by decide +kernel
theorem d_MD_depend_136 : decode b_MD_depend 136 = .ok (.bastore, 1) := by decide +kernel
theorem d_MD_depend_137 : decode b_MD_depend 137 = .ok (.aload_n 0, 1) := by decide +kernel
theorem d_MD_depend_138 : decode b_MD_depend 138 = .ok (.getfield 42, 3) := by decide +kernel
theorem d_MD_depend_141 : decode b_MD_depend 141 = .ok (.iload_n 1, 1) := by decide +kernel
theorem d_MD_depend_142 : decode b_MD_depend 142 = .ok (.dup2, 1) := by decide +kernel
theorem d_MD_depend_143 : decode b_MD_depend 143 = .ok (.iaload, 1) := by decide +kernel
theorem d_MD_depend_144 : decode b_MD_depend 144 = .ok (.iconst 1, 1) := by decide +kernel
theorem d_MD_depend_145 : decode b_MD_depend 145 = .ok (.iadd, 1) := by decide +kernel
theorem d_MD_depend_146 : decode b_MD_depend 146 = .ok (.iastore, 1) := by decide +kernel
theorem d_MD_depend_147 : decode b_MD_depend 147 = .ok (.aload_n 0, 1) := by decide +kernel
theorem d_MD_depend_148 : decode b_MD_depend 148 = .ok (.getfield 42, 3) := by decide +kernel
theorem d_MD_depend_151 : decode b_MD_depend 151 = .ok (.iload_n 1, 1) := by decide +kernel
theorem d_MD_depend_152 : decode b_MD_depend 152 = .ok (.iaload, 1) := by decide +kernel
theorem d_MD_depend_153 : decode b_MD_depend 153 = .ok (.iconst 1, 1) := by decide +kernel
theorem d_MD_depend_154 : decode b_MD_depend 154 = .ok (.isub, 1) := by decide +kernel
theorem d_MD_depend_155 : decode b_MD_depend 155 = .ok (.ireturn, 1) := by decide +kernel
theorem d_MD_exclude_0 : decode b_MD_exclude 0 = .ok (.aload_n 0, 1) := by decide +kernel
theorem d_MD_exclude_1 : decode b_MD_exclude 1 = .ok (.invokevirtual 158, 3) := by decide +kernel
theorem d_MD_exclude_4 : decode b_MD_exclude 4 = .ok (.aload_n 0, 1) := by decide +kernel
theorem d_MD_exclude_5 : decode b_MD_exclude 5 = .ok (.iload_n 1, 1) := by decide +kernel
theorem d_MD_exclude_6 : decode b_MD_exclude 6 = .ok (.invokevirtual 164, 3) := by decide +kernel
theorem d_MD_exclude_9 : decode b_MD_exclude 9 = .ok (.ifCond .ne 12, 3) := by decide +kernel
theorem d_MD_exclude_12 : decode b_MD_exclude 12 = .ok (.aload_n 0, 1) := by decide +kernel
theorem d_MD_exclude_13 : decode b_MD_exclude 13 = .ok (.getfield 42, 3) := by decide +kernel
theorem d_MD_exclude_16 : decode b_MD_exclude 16 = .ok (.iload_n 1, 1) := by decide +kernel
theorem d_MD_exclude_17 : decode b_MD_exclude 17 = .ok (.iaload, 1) := by decide +kernel
theorem d_MD_exclude_18 : decode b_MD_exclude 18 = .ok (.ifCond .ne 5, 3) := by decide +kernel
theorem d_MD_exclude_21 : decode b_MD_exclude 21 = .ok (.iconst (-1), 1) := by decide +kernel
theorem d_MD_exclude_22 : decode b_MD_exclude 22 = .ok (.ireturn, 1) := by decide +kernel
theorem d_MD_exclude_23 : decode b_MD_exclude 23 = .ok (.aload_n 0, 1) := by decide +kernel
theorem d_MD_exclude_24 : decode b_MD_exclude 24 = .ok (.iconst 0, 1) := by decide +kernel
theorem d_MD_exclude_25 : decode b_MD_exclude 25 = .ok (.aload_n 0, 1) := by decide +kernel
theorem d_MD_exclude_26 : decode b_MD_exclude 26 = .ok (.getfield 17, 3) := by decide +kernel
theorem d_MD_exclude_29 : decode b_MD_exclude 29 = .ok (.invokevirtual 161, 3) := by decide +kernel
theorem d_MD_exclude_32 : decode b_MD_exclude 32 = .ok (.ifCond .ne 6, 3) := by decide +kernel
theorem d_MD_exclude_35 : decode b_MD_exclude 35 = .ok (.bipush (-3), 2) := by decide +kernel
theorem d_MD_exclude_37 : decode b_MD_exclude 37 = .ok (.ireturn, 1) := by decide +kernel
theorem d_MD_exclude_38 : decode b_MD_exclude 38 = .ok (.iload_n 1, 1) := by decide +kernel
theorem d_MD_exclude_39 : decode b_MD_exclude 39 = .ok (.bipush 6, 2) := by decide +kernel
theorem d_MD_exclude_41 : decode b_MD_exclude 41 = .ok (.imul, 1) := by decide +kernel
theorem d_MD_exclude_42 : decode b_MD_exclude 42 = .ok (.aload_n 0, 1) := by decide +kernel
theorem d_MD_exclude_43 : decode b_MD_exclude 43 = .ok (.getfield 42, 3) := by decide +kernel
theorem d_MD_exclude_46 : decode b_MD_exclude 46 = .ok (.iload_n 1, 1) := by decide +kernel
theorem d_MD_exclude_47 : decode b_MD_exclude 47 = .ok (.iaload, 1) := by decide +kernel
theorem d_MD_exclude_48 : decode b_MD_exclude 48 = .ok (.iadd, 1) := by decide +kernel
theorem d_MD_exclude_49 : decode b_MD_exclude 49 = .ok (.iconst 1, 1) := by decide +kernel
theorem d_MD_exclude_50 : decode b_MD_exclude 50 = .ok (.isub, 1) := by decide +kernel
theorem d_MD_exclude_51 : decode b_MD_exclude 51 = .ok (.istore_n 2, 1) := by decide +kernel
theorem d_MD_exclude_52 : decode b_MD_exclude 52 = .ok (.aload_n 0, 1) := by decide +kernel
theorem d_MD_exclude_53 : decode b_MD_exclude 53 = .ok (.getfield 54, 3) := by decide +kernel
theorem d_MD_exclude_56 : decode b_MD_exclude 56 = .ok (.iload_n 2, 1) := by decide +kernel
theorem d_MD_exclude_57 : decode b_MD_exclude 57 = .ok (.iaload, 1) := by decide +kernel
theorem d_MD_exclude_58 : decode b_MD_exclude 58 = .ok (.iconst 3, 1) := by decide +kernel
theorem d_MD_exclude_59 : decode b_MD_exclude 59 = .ok (.if_icmp .ne 6, 3) := by decide +kernel
theorem d_MD_exclude_62 : decode b_MD_exclude 62 = .ok (.bipush (-2), 2) := by decide +kernel
theorem d_MD_exclude_64 : decode b_MD_exclude 64 = .ok (.ireturn, 1) := by decide +kernel
theorem d_MD_exclude_65 : decode b_MD_exclude 65 = .ok (.iload_n 2, 1) := by decide +kernel
theorem d_MD_exclude_66 : decode b_MD_exclude 66 = .ok (.iconst 3, 1) := by decide +kernel
theorem d_MD_exclude_67 : decode b_MD_exclude 67 = .ok (.imul, 1) := by decide +kernel
theorem d_MD_exclude_68 : decode b_MD_exclude 68 = .ok (.aload_n 0, 1) := by decide +kernel
theorem d_MD_exclude_69 : decode b_MD_exclude 69 = .ok (.getfield 54, 3) := by decide +kernel
theorem d_MD_exclude_72 : decode b_MD_exclude 72 = .ok (.iload_n 2, 1) := by decide +kernel
theorem d_MD_exclude_73 : decode b_MD_exclude 73 = .ok (.iaload, 1) := by decide +kernel
theorem d_MD_exclude_74 : decode b_MD_exclude 74 = .ok (.iadd, 1) := by decide +kernel
theorem d_MD_exclude_75 : decode b_MD_exclude 75 = .ok (.istore_n 3, 1) := by decide +kernel
theorem d_MD_exclude_76 : decode b_MD_exclude 76 = .ok (.iconst 0, 1) := by decide +kernel
theorem d_MD_exclude_77 : decode b_MD_exclude 77 = .ok (.istore 4, 2) := by decide +kernel
theorem d_MD_exclude_79 : decode b_MD_exclude 79 = .ok (.iload 4, 2) := by decide +kernel
theorem d_MD_exclude_81 : decode b_MD_exclude 81 = .ok (.aload_n 0, 1) := by decide +kernel
theorem d_MD_exclude_82 : decode b_MD_exclude 82 = .ok (.getfield 17, 3) := by decide +kernel
theorem d_MD_exclude_85 : decode b_MD_exclude 85 = .ok (.if_icmp .ge 28, 3) := by decide +kernel
theorem d_MD_exclude_88 : decode b_MD_exclude 88 = .ok (.aload_n 0, 1) := by decide +kernel
theorem d_MD_exclude_89 : decode b_MD_exclude 89 = .ok (.getfield 60, 3) := by decide +kernel
theorem d_MD_exclude_92 : decode b_MD_exclude 92 = .ok (.iload_n 3, 1) := by decide +kernel
theorem d_MD_exclude_93 : decode b_MD_exclude 93 = .ok (.bipush 8, 2) := by decide +kernel
theorem d_MD_exclude_95 : decode b_MD_exclude 95 = .ok (.imul, 1) := by decide +kernel
theorem d_MD_exclude_96 : decode b_MD_exclude 96 = .ok (.iload 4, 2) := by decide +kernel
theorem d_MD_exclude_98 : decode b_MD_exclude 98 = .ok (.iadd, 1) := by decide +kernel
theorem d_MD_exclude_99 : decode b_MD_exclude 99 = .ok (.aload_n 0, 1) := by decide +kernel
theorem d_MD_exclude_100 : decode b_MD_exclude 100 = .ok (.getfield 20, 3) := by decide +kernel
theorem d_MD_exclude_103 : decode b_MD_exclude 103 = .ok (.iload 4, 2) := by decide +kernel
theorem d_MD_exclude_105 : decode b_MD_exclude 105 = .ok (.iaload, 1) := by decide +kernel
theorem d_MD_exclude_106 : decode b_MD_exclude 106 = .ok (.iastore, 1) := by decide +kernel
theorem d_MD_exclude_107 : decode b_MD_exclude 107 = .ok (.iinc 4 1, 3) := by decide +kernel
theorem d_MD_exclude_110 : decode b_MD_exclude 110 = .ok (.goto (-31), 3) := by decide +kernel
theorem d_MD_exclude_113 : decode b_MD_exclude 113 = .ok (.aload_n 0, 1) := by decide +kernel
theorem d_MD_exclude_114 : decode b_MD_exclude 114 = .ok (.getfield 57, 3) := by decide +kernel
theorem d_MD_exclude_117 : decode b_MD_exclude 117 = .ok (.iload_n 3, 1) := by decide +kernel
theorem d_MD_exclude_118 : decode b_MD_exclude 118 = .ok (.aload_n 0, 1) := by decide +kernel
theorem d_MD_exclude_119 : decode b_MD_exclude 119 = .ok (.getfield 17, 3) := by decide +kernel
theorem d_MD_exclude_122 : decode b_MD_exclude 122 = .ok (.iastore, 1) := by decide +kernel
theorem d_MD_exclude_123 : decode b_MD_exclude 123 = .ok (.aload_n 0, 1) := by decide +kernel
theorem d_MD_exclude_124 : decode b_MD_exclude 124 = .ok (.getfield 54, 3) := by decide +kernel
theorem d_MD_exclude_127 : decode b_MD_exclude 127 = .ok (.iload_n 2, 1) := by decide +kernel
theorem d_MD_exclude_128 : decode b_MD_exclude 128 = .ok (.dup2, 1) := by decide +kernel
theorem d_MD_exclude_129 : decode b_MD_exclude 129 = .ok (.iaload, 1) := by decide +kernel
theorem d_MD_exclude_130 : decode b_MD_exclude 130 = .ok (.iconst 1, 1) := by decide +kernel
theorem d_MD_exclude_131 : decode b_MD_exclude 131 = .ok (.iadd, 1) := by decide +kernel
theorem d_MD_exclude_132 : decode b_MD_exclude 132 = .ok (.iastore, 1) := by decide +kernel
theorem d_MD_exclude_133 : decode b_MD_exclude 133 = .ok (.iconst 0, 1) := by decide +kernel
theorem d_MD_exclude_134 : decode b_MD_exclude 134 = .ok (.ireturn, 1) := by decide +kernel
theorem d_MD_pack_0 : decode b_MD_pack 0 = .ok (.aload_n 0, 1) := by decide +kernel
theorem d_MD_pack_1 : decode b_MD_pack 1 = .ok (.iload_n 1, 1) := by decide +kernel
theorem d_MD_pack_2 : decode b_MD_pack 2 = .ok (.invokevirtual 164, 3) := by decide +kernel
theorem d_MD_pack_5 : decode b_MD_pack 5 = .ok (.ifCond .ne 13, 3) := by decide +kernel
theorem d_MD_pack_8 : decode b_MD_pack 8 = .ok (.iload_n 2, 1) := by decide +kernel
theorem d_MD_pack_9 : decode b_MD_pack 9 = .ok (.ifCond .lt 9, 3) := by decide +kernel
theorem d_MD_pack_12 : decode b_MD_pack 12 = .ok (.iload_n 2, 1) := by decide +kernel
theorem d_MD_pack_13 : decode b_MD_pack 13 = .ok (.bipush 31, 2) := by decide +kernel
theorem d_MD_pack_15 : decode b_MD_pack 15 = .ok (.if_icmp .le 5, 3) := by decide +kernel
theorem d_MD_pack_18 : decode b_MD_pack 18 = .ok (.iconst (-1), 1) := by decide +kernel
theorem d_MD_pack_19 : decode b_MD_pack 19 = .ok (.ireturn, 1) := by decide +kernel
theorem d_MD_pack_20 : decode b_MD_pack 20 = .ok (.aload_n 0, 1) := by decide +kernel
theorem d_MD_pack_21 : decode b_MD_pack 21 = .ok (.getfield 39, 3) := by decide +kernel
theorem d_MD_pack_24 : decode b_MD_pack 24 = .ok (.iload_n 1, 1) := by decide +kernel
theorem d_MD_pack_25 : decode b_MD_pack 25 = .ok (.iaload, 1) := by decide +kernel
theorem d_MD_pack_26 : decode b_MD_pack 26 = .ok (.iload_n 2, 1) := by decide +kernel
theorem d_MD_pack_27 : decode b_MD_pack 27 = .ok (.ishr, 1) := by decide +kernel
theorem d_MD_pack_28 : decode b_MD_pack 28 = .ok (.iconst 1, 1) := by decide +kernel
theorem d_MD_pack_29 : decode b_MD_pack 29 = .ok (.iand, 1) := by decide +kernel
theorem d_MD_pack_30 : decode b_MD_pack 30 = .ok (.ifCond .eq 7, 3) := by decide +kernel
theorem d_MD_pack_33 : decode b_MD_pack 33 = .ok (.iconst 1, 1) := by decide +kernel
theorem d_MD_pack_34 : decode b_MD_pack 34 = .ok (.goto 4, 3) := by decide +kernel
theorem d_MD_pack_37 : decode b_MD_pack 37 = .ok (.iconst 0, 1) := by decide +kernel
theorem d_MD_pack_38 : decode b_MD_pack 38 = .ok (.iload_n 3, 1) := by decide +kernel
theorem d_MD_pack_39 : decode b_MD_pack 39 = .ok (.if_icmp .eq 15, 3) := by decide +kernel
theorem d_MD_pack_42 : decode b_MD_pack 42 = .ok (.aload_n 0, 1) := by decide +kernel
theorem d_MD_pack_43 : decode b_MD_pack 43 = .ok (.getfield 39, 3) := by decide +kernel
theorem d_MD_pack_46 : decode b_MD_pack 46 = .ok (.iload_n 1, 1) := by decide +kernel
theorem d_MD_pack_47 : decode b_MD_pack 47 = .ok (.dup2, 1) := by decide +kernel
theorem d_MD_pack_48 : decode b_MD_pack 48 = .ok (.iaload, 1) := by decide +kernel
theorem d_MD_pack_49 : decode b_MD_pack 49 = .ok (.iconst 1, 1) := by decide +kernel
theorem d_MD_pack_50 : decode b_MD_pack 50 = .ok (.iload_n 2, 1) := by decide +kernel
theorem d_MD_pack_51 : decode b_MD_pack 51 = .ok (.ishl, 1) := by decide +kernel
theorem d_MD_pack_52 : decode b_MD_pack 52 = .ok (.ixor, 1) := by decide +kernel
theorem d_MD_pack_53 : decode b_MD_pack 53 = .ok (.iastore, 1) := by decide +kernel
theorem d_MD_pack_54 : decode b_MD_pack 54 = .ok (.iconst 0, 1) := by decide +kernel
theorem d_MD_pack_55 : decode b_MD_pack 55 = .ok (.ireturn, 1) := by decide +kernel
theorem d_MD_retire_0 : decode b_MD_retire 0 = .ok (.aload_n 0, 1) := by decide +kernel
theorem d_MD_retire_1 : decode b_MD_retire 1 = .ok (.iload_n 1, 1) := by decide +kernel
theorem d_MD_retire_2 : decode b_MD_retire 2 = .ok (.invokevirtual 164, 3) := by decide +kernel
theorem d_MD_retire_5 : decode b_MD_retire 5 = .ok (.ifCond .ne 12, 3) := by decide +kernel
theorem d_MD_retire_8 : decode b_MD_retire 8 = .ok (.aload_n 0, 1) := by decide +kernel
theorem d_MD_retire_9 : decode b_MD_retire 9 = .ok (.getfield 35, 3) := by decide +kernel
theorem d_MD_retire_12 : decode b_MD_retire 12 = .ok (.iload_n 1, 1) := by decide +kernel
theorem d_MD_retire_13 : decode b_MD_retire 13 = .ok (.baload, 1) := by decide +kernel
theorem d_MD_retire_14 : decode b_MD_retire 14 = .ok (.ifCond .eq 5, 3) := by decide +kernel
theorem d_MD_retire_17 : decode b_MD_retire 17 = .ok (.iconst (-1), 1) := by decide +kernel
theorem d_MD_retire_18 : decode b_MD_retire 18 = .ok (.ireturn, 1) := by decide +kernel
theorem d_MD_retire_19 : decode b_MD_retire 19 = .ok (.aload_n 0, 1) := by decide +kernel
theorem d_MD_retire_20 : decode b_MD_retire 20 = .ok (.getfield 35, 3) := by decide +kernel
theorem d_MD_retire_23 : decode b_MD_retire 23 = .ok (.iload_n 1, 1) := by decide +kernel
theorem d_MD_retire_24 : decode b_MD_retire 24 = .ok (.iconst 1, 1) := by decide +kernel
theorem d_MD_retire_25 : decode b_MD_retire 25 = .ok (.bastore, 1) := by decide +kernel
theorem d_MD_retire_26 : decode b_MD_retire 26 = .ok (.iconst 0, 1) := by decide +kernel
theorem d_MD_retire_27 : decode b_MD_retire 27 = .ok (.ireturn, 1) := by decide +kernel
theorem d_MD_compare_0 : decode b_MD_compare 0 = .ok (.aload_n 0, 1) := by decide +kernel
theorem d_MD_compare_1 : decode b_MD_compare 1 = .ok (.invokevirtual 158, 3) := by decide +kernel
theorem d_MD_compare_4 : decode b_MD_compare 4 = .ok (.aload_n 0, 1) := by decide +kernel
theorem d_MD_compare_5 : decode b_MD_compare 5 = .ok (.invokevirtual 146, 3) := by decide +kernel
theorem d_MD_compare_8 : decode b_MD_compare 8 = .ok (.istore_n 1, 1) := by decide +kernel
theorem d_MD_compare_9 : decode b_MD_compare 9 = .ok (.iload_n 1, 1) := by decide +kernel
theorem d_MD_compare_10 : decode b_MD_compare 10 = .ok (.aload_n 0, 1) := by decide +kernel
theorem d_MD_compare_11 : decode b_MD_compare 11 = .ok (.getfield 17, 3) := by decide +kernel
theorem d_MD_compare_14 : decode b_MD_compare 14 = .ok (.if_icmp .eq 26, 3) := by decide +kernel
theorem d_MD_compare_17 : decode b_MD_compare 17 = .ok (.aload_n 0, 1) := by decide +kernel
theorem d_MD_compare_18 : decode b_MD_compare 18 = .ok (.iconst 0, 1) := by decide +kernel
theorem d_MD_compare_19 : decode b_MD_compare 19 = .ok (.iload_n 1, 1) := by decide +kernel
theorem d_MD_compare_20 : decode b_MD_compare 20 = .ok (.invokevirtual 106, 3) := by decide +kernel
theorem d_MD_compare_23 : decode b_MD_compare 23 = .ok (.ifCond .eq 17, 3) := by decide +kernel
theorem d_MD_compare_26 : decode b_MD_compare 26 = .ok (.aload_n 0, 1) := by decide +kernel
theorem d_MD_compare_27 : decode b_MD_compare 27 = .ok (.iload_n 1, 1) := by decide +kernel
theorem d_MD_compare_28 : decode b_MD_compare 28 = .ok (.iconst 1, 1) := by decide +kernel
theorem d_MD_compare_29 : decode b_MD_compare 29 = .ok (.iadd, 1) := by decide +kernel
theorem d_MD_compare_30 : decode b_MD_compare 30 = .ok (.aload_n 0, 1) := by decide +kernel
theorem d_MD_compare_31 : decode b_MD_compare 31 = .ok (.getfield 17, 3) := by decide +kernel
theorem d_MD_compare_34 : decode b_MD_compare 34 = .ok (.invokevirtual 106, 3) := by decide +kernel
theorem d_MD_compare_37 : decode b_MD_compare 37 = .ok (.ifCond .ne 6, 3) := by decide +kernel
theorem d_MD_compare_40 : decode b_MD_compare 40 = .ok (.bipush (-3), 2) := by decide +kernel
theorem d_MD_compare_42 : decode b_MD_compare 42 = .ok (.ireturn, 1) := by decide +kernel
theorem d_MD_compare_43 : decode b_MD_compare 43 = .ok (.aload_n 0, 1) := by decide +kernel
theorem d_MD_compare_44 : decode b_MD_compare 44 = .ok (.iload_n 1, 1) := by decide +kernel
theorem d_MD_compare_45 : decode b_MD_compare 45 = .ok (.putfield 87, 3) := by decide +kernel
theorem d_MD_compare_48 : decode b_MD_compare 48 = .ok (.iconst 0, 1) := by decide +kernel
theorem d_MD_compare_49 : decode b_MD_compare 49 = .ok (.istore_n 2, 1) := by decide +kernel
theorem d_MD_compare_50 : decode b_MD_compare 50 = .ok (.iload_n 2, 1) := by decide +kernel
theorem d_MD_compare_51 : decode b_MD_compare 51 = .ok (.iload_n 1, 1) := by decide +kernel
theorem d_MD_compare_52 : decode b_MD_compare 52 = .ok (.if_icmp .ge 21, 3) := by decide +kernel
theorem d_MD_compare_55 : decode b_MD_compare 55 = .ok (.aload_n 0, 1) := by decide +kernel
theorem d_MD_compare_56 : decode b_MD_compare 56 = .ok (.getfield 84, 3) := by decide +kernel
theorem d_MD_compare_59 : decode b_MD_compare 59 = .ok (.iload_n 2, 1) := by decide +kernel
theorem d_MD_compare_60 : decode b_MD_compare 60 = .ok (.aload_n 0, 1) := by decide +kernel
theorem d_MD_compare_61 : decode b_MD_compare 61 = .ok (.getfield 20, 3) := by decide +kernel
theorem d_MD_compare_64 : decode b_MD_compare 64 = .ok (.iload_n 2, 1) := by decide +kernel
theorem d_MD_compare_65 : decode b_MD_compare 65 = .ok (.iaload, 1) := by decide +kernel
theorem d_MD_compare_66 : decode b_MD_compare 66 = .ok (.iastore, 1) := by decide +kernel
theorem d_MD_compare_67 : decode b_MD_compare 67 = .ok (.iinc 2 1, 3) := by decide +kernel
theorem d_MD_compare_70 : decode b_MD_compare 70 = .ok (.goto (-20), 3) := by decide +kernel
theorem d_MD_compare_73 : decode b_MD_compare 73 = .ok (.aload_n 0, 1) := by decide +kernel
theorem d_MD_compare_74 : decode b_MD_compare 74 = .ok (.iload_n 1, 1) := by decide +kernel
theorem d_MD_compare_75 : decode b_MD_compare 75 = .ok (.iconst 1, 1) := by decide +kernel
theorem d_MD_compare_76 : decode b_MD_compare 76 = .ok (.iadd, 1) := by decide +kernel
theorem d_MD_compare_77 : decode b_MD_compare 77 = .ok (.aload_n 0, 1) := by decide +kernel
theorem d_MD_compare_78 : decode b_MD_compare 78 = .ok (.getfield 17, 3) := by decide +kernel
theorem d_MD_compare_81 : decode b_MD_compare 81 = .ok (.invokevirtual 134, 3) := by decide +kernel
theorem d_MD_compare_84 : decode b_MD_compare 84 = .ok (.iconst 3, 1) := by decide +kernel
theorem d_MD_compare_85 : decode b_MD_compare 85 = .ok (.aload_n 0, 1) := by decide +kernel
theorem d_MD_compare_86 : decode b_MD_compare 86 = .ok (.invokevirtual 138, 3) := by decide +kernel
theorem d_MD_compare_89 : decode b_MD_compare 89 = .ok (.iadd, 1) := by decide +kernel
theorem d_MD_compare_90 : decode b_MD_compare 90 = .ok (.ireturn, 1) := by decide +kernel
theorem d_MD_excluded_0 : decode b_MD_excluded 0 = .ok (.iload_n 1, 1) := by decide +kernel
theorem d_MD_excluded_1 : decode b_MD_excluded 1 = .ok (.iconst 3, 1) := by decide +kernel
