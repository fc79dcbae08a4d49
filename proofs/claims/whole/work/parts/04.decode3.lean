theorem d_MD_init_0 : decode b_MD_init 0 = .ok (.aload_n 0, 1) := by decide +kernel
theorem d_MD_init_1 : decode b_MD_init 1 = .ok (.invokespecial 1, 3) := by decide +kernel
theorem d_MD_init_4 : decode b_MD_init 4 = .ok (.aload_n 0, 1) := by decide +kernel
theorem d_MD_init_5 : decode b_MD_init 5 = .ok (.iconst 0, 1) := by decide +kernel
theorem d_MD_init_6 : decode b_MD_init 6 = .ok (.putfield 7, 3) := by decide +kernel
theorem d_MD_init_9 : decode b_MD_init 9 = .ok (.aload_n 0, 1) := by decide +kernel
theorem d_MD_init_10 : decode b_MD_init 10 = .ok (.bipush 40, 2) := by decide +kernel
theorem d_MD_init_12 : decode b_MD_init 12 = .ok (.newarray .int, 2) := by decide +kernel
theorem d_MD_init_14 : decode b_MD_init 14 = .ok (.putfield 13, 3) := by decide +kernel
theorem d_MD_init_17 : decode b_MD_init 17 = .ok (.aload_n 0, 1) := by decide +kernel
theorem d_MD_init_18 : decode b_MD_init 18 = .ok (.iconst 0, 1) := by decide +kernel
theorem d_MD_init_19 : decode b_MD_init 19 = .ok (.putfield 17, 3) := by decide +kernel
theorem d_MD_init_22 : decode b_MD_init 22 = .ok (.aload_n 0, 1) := by decide +kernel
theorem d_MD_init_23 : decode b_MD_init 23 = .ok (.bipush 40, 2) := by decide +kernel
theorem d_MD_init_25 : decode b_MD_init 25 = .ok (.newarray .int, 2) := by decide +kernel
theorem d_MD_init_27 : decode b_MD_init 27 = .ok (.putfield 20, 3) := by decide +kernel
theorem d_MD_init_30 : decode b_MD_init 30 = .ok (.aload_n 0, 1) := by decide +kernel
theorem d_MD_init_31 : decode b_MD_init 31 = .ok (.iconst 0, 1) := by decide +kernel
theorem d_MD_init_32 : decode b_MD_init 32 = .ok (.putfield 23, 3) := by decide +kernel
theorem d_MD_init_35 : decode b_MD_init 35 = .ok (.aload_n 0, 1) := by decide +kernel
theorem d_MD_init_36 : decode b_MD_init 36 = .ok (.bipush 20, 2) := by decide +kernel
theorem d_MD_init_38 : decode b_MD_init 38 = .ok (.newarray .int, 2) := by decide +kernel
theorem d_MD_init_40 : decode b_MD_init 40 = .ok (.putfield 26, 3) := by decide +kernel
theorem d_MD_init_43 : decode b_MD_init 43 = .ok (.aload_n 0, 1) := by decide +kernel
theorem d_MD_init_44 : decode b_MD_init 44 = .ok (.sipush 420, 3) := by decide +kernel
theorem d_MD_init_47 : decode b_MD_init 47 = .ok (.newarray .int, 2) := by decide +kernel
theorem d_MD_init_49 : decode b_MD_init 49 = .ok (.putfield 29, 3) := by decide +kernel
theorem d_MD_init_52 : decode b_MD_init 52 = .ok (.aload_n 0, 1) := by decide +kernel
theorem d_MD_init_53 : decode b_MD_init 53 = .ok (.bipush 20, 2) := by decide +kernel
theorem d_MD_init_55 : decode b_MD_init 55 = .ok (.newarray .int, 2) := by decide +kernel
theorem d_MD_init_57 : decode b_MD_init 57 = .ok (.putfield 32, 3) := by decide +kernel
theorem d_MD_init_60 : decode b_MD_init 60 = .ok (.aload_n 0, 1) := by decide +kernel
theorem d_MD_init_61 : decode b_MD_init 61 = .ok (.bipush 20, 2) := by decide +kernel
theorem d_MD_init_63 : decode b_MD_init 63 = .ok (.newarray .boolean, 2) := by decide +kernel
theorem d_MD_init_65 : decode b_MD_init 65 = .ok (.putfield 35, 3) := by decide +kernel
theorem d_MD_init_68 : decode b_MD_init 68 = .ok (.aload_n 0, 1) := by decide +kernel
theorem d_MD_init_69 : decode b_MD_init 69 = .ok (.bipush 20, 2) := by decide +kernel
theorem d_MD_init_71 : decode b_MD_init 71 = .ok (.newarray .int, 2) := by decide +kernel
theorem d_MD_init_73 : decode b_MD_init 73 = .ok (.putfield 39, 3) := by decide +kernel
theorem d_MD_init_76 : decode b_MD_init 76 = .ok (.aload_n 0, 1) := by decide +kernel
theorem d_MD_init_77 : decode b_MD_init 77 = .ok (.bipush 20, 2) := by decide +kernel
theorem d_MD_init_79 : decode b_MD_init 79 = .ok (.newarray .int, 2) := by decide +kernel
theorem d_MD_init_81 : decode b_MD_init 81 = .ok (.putfield 42, 3) := by decide +kernel
theorem d_MD_init_84 : decode b_MD_init 84 = .ok (.aload_n 0, 1) := by decide +kernel
theorem d_MD_init_85 : decode b_MD_init 85 = .ok (.bipush 120, 2) := by decide +kernel
theorem d_MD_init_87 : decode b_MD_init 87 = .ok (.newarray .boolean, 2) := by decide +kernel
theorem d_MD_init_89 : decode b_MD_init 89 = .ok (.putfield 45, 3) := by decide +kernel
theorem d_MD_init_92 : decode b_MD_init 92 = .ok (.aload_n 0, 1) := by decide +kernel
theorem d_MD_init_93 : decode b_MD_init 93 = .ok (.bipush 120, 2) := by decide +kernel
theorem d_MD_init_95 : decode b_MD_init 95 = .ok (.newarray .int, 2) := by decide +kernel
theorem d_MD_init_97 : decode b_MD_init 97 = .ok (.putfield 48, 3) := by decide +kernel
theorem d_MD_init_100 : decode b_MD_init 100 = .ok (.aload_n 0, 1) := by decide +kernel
theorem d_MD_init_101 : decode b_MD_init 101 = .ok (.sipush 4800, 3) := by decide +kernel
theorem d_MD_init_104 : decode b_MD_init 104 = .ok (.newarray .int, 2) := by decide +kernel
theorem d_MD_init_106 : decode b_MD_init 106 = .ok (.putfield 51, 3) := by decide +kernel
theorem d_MD_init_109 : decode b_MD_init 109 = .ok (.aload_n 0, 1) := by decide +kernel
theorem d_MD_init_110 : decode b_MD_init 110 = .ok (.bipush 120, 2) := by decide +kernel
theorem d_MD_init_112 : decode b_MD_init 112 = .ok (.newarray .int, 2) := by decide +kernel
theorem d_MD_init_114 : decode b_MD_init 114 = .ok (.putfield 54, 3) := by decide +kernel
theorem d_MD_init_117 : decode b_MD_init 117 = .ok (.aload_n 0, 1) := by decide +kernel
theorem d_MD_init_118 : decode b_MD_init 118 = .ok (.sipush 360, 3) := by decide +kernel
theorem d_MD_init_121 : decode b_MD_init 121 = .ok (.newarray .int, 2) := by decide +kernel
theorem d_MD_init_123 : decode b_MD_init 123 = .ok (.putfield 57, 3) := by decide +kernel
theorem d_MD_init_126 : decode b_MD_init 126 = .ok (.aload_n 0, 1) := by decide +kernel
theorem d_MD_init_127 : decode b_MD_init 127 = .ok (.sipush 2880, 3) := by decide +kernel
theorem d_MD_init_130 : decode b_MD_init 130 = .ok (.newarray .int, 2) := by decide +kernel
theorem d_MD_init_132 : decode b_MD_init 132 = .ok (.putfield 60, 3) := by decide +kernel
theorem d_MD_init_135 : decode b_MD_init 135 = .ok (.aload_n 0, 1) := by decide +kernel
theorem d_MD_init_136 : decode b_MD_init 136 = .ok (.iconst (-1), 1) := by decide +kernel
theorem d_MD_init_137 : decode b_MD_init 137 = .ok (.putfield 63, 3) := by decide +kernel
theorem d_MD_init_140 : decode b_MD_init 140 = .ok (.aload_n 0, 1) := by decide +kernel
theorem d_MD_init_141 : decode b_MD_init 141 = .ok (.iconst 0, 1) := by decide +kernel
theorem d_MD_init_142 : decode b_MD_init 142 = .ok (.putfield 66, 3) := by decide +kernel
theorem d_MD_init_145 : decode b_MD_init 145 = .ok (.aload_n 0, 1) := by decide +kernel
theorem d_MD_init_146 : decode b_MD_init 146 = .ok (.iconst 0, 1) := by decide +kernel
theorem d_MD_init_147 : decode b_MD_init 147 = .ok (.putfield 69, 3) := by decide +kernel
theorem d_MD_init_150 : decode b_MD_init 150 = .ok (.aload_n 0, 1) := by decide +kernel
theorem d_MD_init_151 : decode b_MD_init 151 = .ok (.bipush 40, 2) := by decide +kernel
theorem d_MD_init_153 : decode b_MD_init 153 = .ok (.newarray .int, 2) := by decide +kernel
theorem d_MD_init_155 : decode b_MD_init 155 = .ok (.putfield 72, 3) := by decide +kernel
theorem d_MD_init_158 : decode b_MD_init 158 = .ok (.aload_n 0, 1) := by decide +kernel
theorem d_MD_init_159 : decode b_MD_init 159 = .ok (.bipush 40, 2) := by decide +kernel
theorem d_MD_init_161 : decode b_MD_init 161 = .ok (.newarray .int, 2) := by decide +kernel
theorem d_MD_init_163 : decode b_MD_init 163 = .ok (.putfield 75, 3) := by decide +kernel
theorem d_MD_init_166 : decode b_MD_init 166 = .ok (.aload_n 0, 1) := by decide +kernel
theorem d_MD_init_167 : decode b_MD_init 167 = .ok (.bipush 40, 2) := by decide +kernel
theorem d_MD_init_169 : decode b_MD_init 169 = .ok (.newarray .int, 2) := by decide +kernel
theorem d_MD_init_171 : decode b_MD_init 171 = .ok (.putfield 78, 3) := by decide +kernel
theorem d_MD_init_174 : decode b_MD_init 174 = .ok (.aload_n 0, 1) := by decide +kernel
theorem d_MD_init_175 : decode b_MD_init 175 = .ok (.bipush 40, 2) := by decide +kernel
theorem d_MD_init_177 : decode b_MD_init 177 = .ok (.newarray .int, 2) := by decide +kernel
theorem d_MD_init_179 : decode b_MD_init 179 = .ok (.putfield 81, 3) := by decide +kernel
theorem d_MD_init_182 : decode b_MD_init 182 = .ok (.aload_n 0, 1) := by decide +kernel
theorem d_MD_init_183 : decode b_MD_init 183 = .ok (.bipush 40, 2) := by decide +kernel
theorem d_MD_init_185 : decode b_MD_init 185 = .ok (.newarray .int, 2) := by decide +kernel
theorem d_MD_init_187 : decode b_MD_init 187 = .ok (.putfield 84, 3) := by decide +kernel
theorem d_MD_init_190 : decode b_MD_init 190 = .ok (.aload_n 0, 1) := by decide +kernel
theorem d_MD_init_191 : decode b_MD_init 191 = .ok (.iconst 0, 1) := by decide +kernel
theorem d_MD_init_192 : decode b_MD_init 192 = .ok (.putfield 87, 3) := by decide +kernel
theorem d_MD_init_195 : decode b_MD_init 195 = .ok (.aload_n 0, 1) := by decide +kernel
theorem d_MD_init_196 : decode b_MD_init 196 = .ok (.bipush 40, 2) := by decide +kernel
theorem d_MD_init_198 : decode b_MD_init 198 = .ok (.newarray .int, 2) := by decide +kernel
theorem d_MD_init_200 : decode b_MD_init 200 = .ok (.putfield 90, 3) := by decide +kernel
theorem d_MD_init_203 : decode b_MD_init 203 = .ok (.aload_n 0, 1) := by decide +kernel
theorem d_MD_init_204 : decode b_MD_init 204 = .ok (.iconst 0, 1) := by decide +kernel
theorem d_MD_init_205 : decode b_MD_init 205 = .ok (.putfield 93, 3) := by decide +kernel
theorem d_MD_init_208 : decode b_MD_init 208 = .ok (.aload_n 0, 1) := by decide +kernel
theorem d_MD_init_209 : decode b_MD_init 209 = .ok (.iconst 0, 1) := by decide +kernel
theorem d_MD_init_210 : decode b_MD_init 210 = .ok (.putfield 96, 3) := by decide +kernel
theorem d_MD_init_213 : decode b_MD_init 213 = .ok (.return_, 1) := by decide +kernel
theorem d_MD_type_0 : decode b_MD_type 0 = .ok (.iload_n 1, 1) := by decide +kernel
theorem d_MD_type_1 : decode b_MD_type 1 = .ok (.ifCond .lt 10, 3) := by decide +kernel
theorem d_MD_type_4 : decode b_MD_type 4 = .ok (.iload_n 1, 1) := by decide +kernel
theorem d_MD_type_5 : decode b_MD_type 5 = .ok (.sipush 255, 3) := by decide +kernel
theorem d_MD_type_8 : decode b_MD_type 8 = .ok (.if_icmp .le 5, 3) := by decide +kernel
theorem d_MD_type_11 : decode b_MD_type 11 = .ok (.iconst (-1), 1) := by decide +kernel
theorem d_MD_type_12 : decode b_MD_type 12 = .ok (.ireturn, 1) := by decide +kernel
theorem d_MD_type_13 : decode b_MD_type 13 = .ok (.aload_n 0, 1) := by decide +kernel
theorem d_MD_type_14 : decode b_MD_type 14 = .ok (.getfield 7, 3) := by decide +kernel
theorem d_MD_type_17 : decode b_MD_type 17 = .ok (.bipush 40, 2) := by decide +kernel
theorem d_MD_type_19 : decode b_MD_type 19 = .ok (.if_icmp .ne 6, 3) := by decide +kernel
theorem d_MD_type_22 : decode b_MD_type 22 = .ok (.bipush (-2), 2) := by decide +kernel
theorem d_MD_type_24 : decode b_MD_type 24 = .ok (.ireturn, 1) := by decide +kernel
theorem d_MD_type_25 : decode b_MD_type 25 = .ok (.aload_n 0, 1) := by decide +kernel
theorem d_MD_type_26 : decode b_MD_type 26 = .ok (.getfield 13, 3) := by decide +kernel
theorem d_MD_type_29 : decode b_MD_type 29 = .ok (.aload_n 0, 1) := by decide +kernel
theorem d_MD_type_30 : decode b_MD_type 30 = .ok (.getfield 7, 3) := by decide +kernel
theorem d_MD_type_33 : decode b_MD_type 33 = .ok (.iload_n 1, 1) := by decide +kernel
theorem d_MD_type_34 : decode b_MD_type 34 = .ok (.iastore, 1) := by decide +kernel
theorem d_MD_type_35 : decode b_MD_type 35 = .ok (.aload_n 0, 1) := by decide +kernel
theorem d_MD_type_36 : decode b_MD_type 36 = .ok (.dup, 1) := by decide +kernel
theorem d_MD_type_37 : decode b_MD_type 37 = .ok (.getfield 7, 3) := by decide +kernel
theorem d_MD_type_40 : decode b_MD_type 40 = .ok (.iconst 1, 1) := by decide +kernel
theorem d_MD_type_41 : decode b_MD_type 41 = .ok (.iadd, 1) := by decide +kernel
theorem d_MD_type_42 : decode b_MD_type 42 = .ok (.putfield 7, 3) := by decide +kernel
theorem d_MD_type_45 : decode b_MD_type 45 = .ok (.aload_n 0, 1) := by decide +kernel
theorem d_MD_type_46 : decode b_MD_type 46 = .ok (.getfield 7, 3) := by decide +kernel
theorem d_MD_type_49 : decode b_MD_type 49 = .ok (.ireturn, 1) := by decide +kernel
theorem d_MD_wipe_0 : decode b_MD_wipe 0 = .ok (.aload_n 0, 1) := by decide +kernel
theorem d_MD_wipe_1 : decode b_MD_wipe 1 = .ok (.getfield 7, 3) := by decide +kernel
theorem d_MD_wipe_4 : decode b_MD_wipe 4 = .ok (.istore_n 1, 1) := by decide +kernel
theorem d_MD_wipe_5 : decode b_MD_wipe 5 = .ok (.aload_n 0, 1) := by decide +kernel
theorem d_MD_wipe_6 : decode b_MD_wipe 6 = .ok (.iconst 0, 1) := by decide +kernel
theorem d_MD_wipe_7 : decode b_MD_wipe 7 = .ok (.putfield 7, 3) := by decide +kernel
theorem d_MD_wipe_10 : decode b_MD_wipe 10 = .ok (.iload_n 1, 1) := by decide +kernel
theorem d_MD_wipe_11 : decode b_MD_wipe 11 = .ok (.ireturn, 1) := by decide +kernel
theorem d_MD_take_0 : decode b_MD_take 0 = .ok (.aload_n 0, 1) := by decide +kernel
theorem d_MD_take_1 : decode b_MD_take 1 = .ok (.aload_n 0, 1) := by decide +kernel
theorem d_MD_take_2 : decode b_MD_take 2 = .ok (.getfield 7, 3) := by decide +kernel
theorem d_MD_take_5 : decode b_MD_take 5 = .ok (.putfield 17, 3) := by decide +kernel
theorem d_MD_take_8 : decode b_MD_take 8 = .ok (.iconst 0, 1) := by decide +kernel
theorem d_MD_take_9 : decode b_MD_take 9 = .ok (.istore_n 1, 1) := by decide +kernel
theorem d_MD_take_10 : decode b_MD_take 10 = .ok (.iload_n 1, 1) := by decide +kernel
theorem d_MD_take_11 : decode b_MD_take 11 = .ok (.aload_n 0, 1) := by decide +kernel
theorem d_MD_take_12 : decode b_MD_take 12 = .ok (.getfield 17, 3) := by decide +kernel
theorem d_MD_take_15 : decode b_MD_take 15 = .ok (.if_icmp .ge 21, 3) := by decide +kernel
theorem d_MD_take_18 : decode b_MD_take 18 = .ok (.aload_n 0, 1) := by decide +kernel
theorem d_MD_take_19 : decode b_MD_take 19 = .ok (.getfield 20, 3) := by decide +kernel
theorem d_MD_take_22 : decode b_MD_take 22 = .ok (.iload_n 1, 1) := by decide +kernel
theorem d_MD_take_23 : decode b_MD_take 23 = .ok (.aload_n 0, 1) := by decide +kernel
theorem d_MD_take_24 : decode b_MD_take 24 = .ok (.getfield 13, 3) := by decide +kernel
theorem d_MD_take_27 : decode b_MD_take 27 = .ok (.iload_n 1, 1) := by decide +kernel
theorem d_MD_take_28 : decode b_MD_take 28 = .ok (.iaload, 1) := by decide +kernel
theorem d_MD_take_29 : decode b_MD_take 29 = .ok (.iastore, 1) := by decide +kernel
theorem d_MD_take_30 : decode b_MD_take 30 = .ok (.iinc 1 1, 3) := by decide +kernel
theorem d_MD_take_33 : decode b_MD_take 33 = .ok (.goto (-23), 3) := by decide +kernel
theorem d_MD_take_36 : decode b_MD_take 36 = .ok (.aload_n 0, 1) := by decide +kernel
theorem d_MD_take_37 : decode b_MD_take 37 = .ok (.iconst 0, 1) := by decide +kernel
theorem d_MD_take_38 : decode b_MD_take 38 = .ok (.putfield 7, 3) := by decide +kernel
theorem d_MD_take_41 : decode b_MD_take 41 = .ok (.return_, 1) := by decide +kernel
theorem d_MD_takeDependency_0 : decode b_MD_takeDependency 0 = .ok (.aload_n 0, 1) := by decide +kernel
theorem d_MD_takeDependency_1 : decode b_MD_takeDependency 1 = .ok (.aload_n 0, 1) := by decide +kernel
theorem d_MD_takeDependency_2 : decode b_MD_takeDependency 2 = .ok (.getfield 48, 3) := by decide +kernel
theorem d_MD_takeDependency_5 : decode b_MD_takeDependency 5 = .ok (.iload_n 1, 1) := by decide +kernel
theorem d_MD_takeDependency_6 : decode b_MD_takeDependency 6 = .ok (.iaload, 1) := by decide +kernel
theorem d_MD_takeDependency_7 : decode b_MD_takeDependency 7 = .ok (.putfield 17, 3) := by decide +kernel
theorem d_MD_takeDependency_10 : decode b_MD_takeDependency 10 = .ok (.iconst 0, 1) := by decide +kernel
theorem d_MD_takeDependency_11 : decode b_MD_takeDependency 11 = .ok (.istore_n 2, 1) := by decide +kernel
theorem d_MD_takeDependency_12 : decode b_MD_takeDependency 12 = .ok (.iload_n 2, 1) := by decide +kernel
theorem d_MD_takeDependency_13 : decode b_MD_takeDependency 13 = .ok (.aload_n 0, 1) := by decide +kernel
theorem d_MD_takeDependency_14 : decode b_MD_takeDependency 14 = .ok (.getfield 17, 3) := by decide +kernel
theorem d_MD_takeDependency_17 : decode b_MD_takeDependency 17 = .ok (.if_icmp .ge 26, 3) := by decide +kernel
theorem d_MD_takeDependency_20 : decode b_MD_takeDependency 20 = .ok (.aload_n 0, 1) := by decide +kernel
theorem d_MD_takeDependency_21 : decode b_MD_takeDependency 21 = .ok (.getfield 20, 3) := by decide +kernel
theorem d_MD_takeDependency_24 : decode b_MD_takeDependency 24 = .ok (.iload_n 2, 1) := by decide +kernel
theorem d_MD_takeDependency_25 : decode b_MD_takeDependency 25 = .ok (.aload_n 0, 1) := by decide +kernel
theorem d_MD_takeDependency_26 : decode b_MD_takeDependency 26 = .ok (.getfield 51, 3) := by decide +kernel
theorem d_MD_takeDependency_29 : decode b_MD_takeDependency 29 = .ok (.iload_n 1, 1) := by decide +kernel
theorem d_MD_takeDependency_30 : decode b_MD_takeDependency 30 = .ok (.bipush 40, 2) := by decide +kernel
theorem d_MD_takeDependency_32 : decode b_MD_takeDependency 32 = .ok (.imul, 1) := by decide +kernel
theorem d_MD_takeDependency_33 : decode b_MD_takeDependency 33 = .ok (.iload_n 2, 1) := by decide +kernel
theorem d_MD_takeDependency_34 : decode b_MD_takeDependency 34 = .ok (.iadd, 1) := by decide +kernel
theorem d_MD_takeDependency_35 : decode b_MD_takeDependency 35 = .ok (.iaload, 1) := by decide +kernel
theorem d_MD_takeDependency_36 : decode b_MD_takeDependency 36 = .ok (.iastore, 1) := by decide +kernel
theorem d_MD_takeDependency_37 : decode b_MD_takeDependency 37 = .ok (.iinc 2 1, 3) := by decide +kernel
theorem d_MD_takeDependency_40 : decode b_MD_takeDependency 40 = .ok (.goto (-28), 3) := by decide +kernel
theorem d_MD_takeDependency_43 : decode b_MD_takeDependency 43 = .ok (.return_, 1) := by decide +kernel
theorem d_MD_colonAt_0 : decode b_MD_colonAt 0 = .ok (.iconst 0, 1) := by decide +kernel
theorem d_MD_colonAt_1 : decode b_MD_colonAt 1 = .ok (.istore_n 1, 1) := by decide +kernel
theorem d_MD_colonAt_2 : decode b_MD_colonAt 2 = .ok (.iload_n 1, 1) := by decide +kernel
theorem d_MD_colonAt_3 : decode b_MD_colonAt 3 = .ok (.aload_n 0, 1) := by decide +kernel
theorem d_MD_colonAt_4 : decode b_MD_colonAt 4 = .ok (.getfield 17, 3) := by decide +kernel
theorem d_MD_colonAt_7 : decode b_MD_colonAt 7 = .ok (.if_icmp .ge 20, 3) := by decide +kernel
theorem d_MD_colonAt_10 : decode b_MD_colonAt 10 = .ok (.aload_n 0, 1) := by decide +kernel
theorem d_MD_colonAt_11 : decode b_MD_colonAt 11 = .ok (.getfield 20, 3) := by decide +kernel
theorem d_MD_colonAt_14 : decode b_MD_colonAt 14 = .ok (.iload_n 1, 1) := by decide +kernel
theorem d_MD_colonAt_15 : decode b_MD_colonAt 15 = .ok (.iaload, 1) := by decide +kernel
theorem d_MD_colonAt_16 : decode b_MD_colonAt 16 = .ok (.bipush 58, 2) := by decide +kernel
theorem d_MD_colonAt_18 : decode b_MD_colonAt 18 = .ok (.if_icmp .eq 9, 3) := by decide +kernel
theorem d_MD_colonAt_21 : decode b_MD_colonAt 21 = .ok (.iinc 1 1, 3) := by decide +kernel
theorem d_MD_colonAt_24 : decode b_MD_colonAt 24 = .ok (.goto (-22), 3) := by decide +kernel
theorem d_MD_colonAt_27 : decode b_MD_colonAt 27 = .ok (.iload_n 1, 1) := by decide +kernel
theorem d_MD_colonAt_28 : decode b_MD_colonAt 28 = .ok (.ireturn, 1) := by decide +kernel
theorem d_MD_isName_0 : decode b_MD_isName 0 = .ok (.iload_n 1, 1) := by decide +kernel
theorem d_MD_isName_1 : decode b_MD_isName 1 = .ok (.istore_n 3, 1) := by decide +kernel
theorem d_MD_isName_2 : decode b_MD_isName 2 = .ok (.iload_n 3, 1) := by decide +kernel
theorem d_MD_isName_3 : decode b_MD_isName 3 = .ok (.iload_n 2, 1) := by decide +kernel
theorem d_MD_isName_4 : decode b_MD_isName 4 = .ok (.if_icmp .ge 33, 3) := by decide +kernel
theorem d_MD_isName_7 : decode b_MD_isName 7 = .ok (.aload_n 0, 1) := by decide +kernel
theorem d_MD_isName_8 : decode b_MD_isName 8 = .ok (.getfield 20, 3) := by decide +kernel
theorem d_MD_isName_11 : decode b_MD_isName 11 = .ok (.iload_n 3, 1) := by decide +kernel
theorem d_MD_isName_12 : decode b_MD_isName 12 = .ok (.iaload, 1) := by decide +kernel
theorem d_MD_isName_13 : decode b_MD_isName 13 = .ok (.bipush 97, 2) := by decide +kernel
theorem d_MD_isName_15 : decode b_MD_isName 15 = .ok (.if_icmp .lt 14, 3) := by decide +kernel
theorem d_MD_isName_18 : decode b_MD_isName 18 = .ok (.aload_n 0, 1) := by decide +kernel
theorem d_MD_isName_19 : decode b_MD_isName 19 = .ok (.getfield 20, 3) := by decide +kernel
theorem d_MD_isName_22 : decode b_MD_isName 22 = .ok (.iload_n 3, 1) := by decide +kernel
theorem d_MD_isName_23 : decode b_MD_isName 23 = .ok (.iaload, 1) := by decide +kernel
theorem d_MD_isName_24 : decode b_MD_isName 24 = .ok (.bipush 122, 2) := by decide +kernel
theorem d_MD_isName_26 : decode b_MD_isName 26 = .ok (.if_icmp .le 5, 3) := by decide +kernel
theorem d_MD_isName_29 : decode b_MD_isName 29 = .ok (.iconst 0, 1) := by decide +kernel
theorem d_MD_isName_30 : decode b_MD_isName 30 = .ok (.ireturn, 1) := by decide +kernel
theorem d_MD_isName_31 : decode b_MD_isName 31 = .ok (.iinc 3 1, 3) := by decide +kernel
theorem d_MD_isName_34 : decode b_MD_isName 34 = .ok (.goto (-32), 3) := by decide +kernel
theorem d_MD_isName_37 : decode b_MD_isName 37 = .ok (.iload_n 2, 1) := by decide +kernel
theorem d_MD_isName_38 : decode b_MD_isName 38 = .ok (.iload_n 1, 1) := by decide +kernel
theorem d_MD_isName_39 : decode b_MD_isName 39 = .ok (.if_icmp .le 15, 3) := by decide +kernel
theorem d_MD_isName_42 : decode b_MD_isName 42 = .ok (.iload_n 2, 1) := by decide +kernel
theorem d_MD_isName_43 : decode b_MD_isName 43 = .ok (.iload_n 1, 1) := by decide +kernel
theorem d_MD_isName_44 : decode b_MD_isName 44 = .ok (.isub, 1) := by decide +kernel
theorem d_MD_isName_45 : decode b_MD_isName 45 = .ok (.bipush 8, 2) := by decide +kernel
theorem d_MD_isName_47 : decode b_MD_isName 47 = .ok (.if_icmp .gt 7, 3) := by decide +kernel
theorem d_MD_isName_50 : decode b_MD_isName 50 = .ok (.iconst 1, 1) := by decide +kernel
theorem d_MD_isName_51 : decode b_MD_isName 51 = .ok (.goto 4, 3) := by decide +kernel
theorem d_MD_isName_54 : decode b_MD_isName 54 = .ok (.iconst 0, 1) := by decide +kernel
theorem d_MD_isName_55 : decode b_MD_isName 55 = .ok (.ireturn, 1) := by decide +kernel
theorem d_MD_isDigit_0 : decode b_MD_isDigit 0 = .ok (.iload_n 1, 1) := by decide +kernel
theorem d_MD_isDigit_1 : decode b_MD_isDigit 1 = .ok (.bipush 48, 2) := by decide +kernel
theorem d_MD_isDigit_3 : decode b_MD_isDigit 3 = .ok (.if_icmp .lt 13, 3) := by decide +kernel
theorem d_MD_isDigit_6 : decode b_MD_isDigit 6 = .ok (.iload_n 1, 1) := by decide +kernel
theorem d_MD_isDigit_7 : decode b_MD_isDigit 7 = .ok (.bipush 57, 2) := by decide +kernel
theorem d_MD_isDigit_9 : decode b_MD_isDigit 9 = .ok (.if_icmp .gt 7, 3) := by decide +kernel
theorem d_MD_isDigit_12 : decode b_MD_isDigit 12 = .ok (.iconst 1, 1) := by decide +kernel
theorem d_MD_isDigit_13 : decode b_MD_isDigit 13 = .ok (.goto 4, 3) := by decide +kernel
theorem d_MD_isDigit_16 : decode b_MD_isDigit 16 = .ok (.iconst 0, 1) := by decide +kernel
theorem d_MD_isDigit_17 : decode b_MD_isDigit 17 = .ok (.ireturn, 1) := by decide +kernel
theorem d_MD_isMark_0 : decode b_MD_isMark 0 = .ok (.iload_n 1, 1) := by decide +kernel
theorem d_MD_isMark_1 : decode b_MD_isMark 1 = .ok (.bipush 46, 2) := by decide +kernel
theorem d_MD_isMark_3 : decode b_MD_isMark 3 = .ok (.if_icmp .eq 9, 3) := by decide +kernel
theorem d_MD_isMark_6 : decode b_MD_isMark 6 = .ok (.iload_n 1, 1) := by decide +kernel
theorem d_MD_isMark_7 : decode b_MD_isMark 7 = .ok (.bipush 45, 2) := by decide +kernel
theorem d_MD_isMark_9 : decode b_MD_isMark 9 = .ok (.if_icmp .ne 7, 3) := by decide +kernel
theorem d_MD_isMark_12 : decode b_MD_isMark 12 = .ok (.iconst 1, 1) := by decide +kernel
theorem d_MD_isMark_13 : decode b_MD_isMark 13 = .ok (.goto 4, 3) := by decide +kernel
theorem d_MD_isMark_16 : decode b_MD_isMark 16 = .ok (.iconst 0, 1) := by decide +kernel
theorem d_MD_isMark_17 : decode b_MD_isMark 17 = .ok (.ireturn, 1) := by decide +kernel
theorem d_MD_isVersion_0 : decode b_MD_isVersion 0 = .ok (.iload_n 2, 1) := by decide +kernel
theorem d_MD_isVersion_1 : decode b_MD_isVersion 1 = .ok (.iload_n 1, 1) := by decide +kernel
theorem d_MD_isVersion_2 : decode b_MD_isVersion 2 = .ok (.if_icmp .le 24, 3) := by decide +kernel
theorem d_MD_isVersion_5 : decode b_MD_isVersion 5 = .ok (.iload_n 2, 1) := by decide +kernel
theorem d_MD_isVersion_6 : decode b_MD_isVersion 6 = .ok (.iload_n 1, 1) := by decide +kernel
theorem d_MD_isVersion_7 : decode b_MD_isVersion 7 = .ok (.isub, 1) := by decide +kernel
theorem d_MD_isVersion_8 : decode b_MD_isVersion 8 = .ok (.bipush 12, 2) := by decide +kernel
theorem d_MD_isVersion_10 : decode b_MD_isVersion 10 = .ok (.if_icmp .gt 16, 3) := by decide +kernel
theorem d_MD_isVersion_13 : decode b_MD_isVersion 13 = .ok (.aload_n 0, 1) := by decide +kernel
theorem d_MD_isVersion_14 : decode b_MD_isVersion 14 = .ok (.aload_n 0, 1) := by decide +kernel
theorem d_MD_isVersion_15 : decode b_MD_isVersion 15 = .ok (.getfield 20, 3) := by decide +kernel
theorem d_MD_isVersion_18 : decode b_MD_isVersion 18 = .ok (.iload_n 1, 1) := by decide +kernel
theorem d_MD_isVersion_19 : decode b_MD_isVersion 19 = .ok (.iaload, 1) := by decide +kernel
theorem d_MD_isVersion_20 : decode b_MD_isVersion 20 = .ok (.invokevirtual 99, 3) := by decide +kernel
theorem d_MD_isVersion_23 : decode b_MD_isVersion 23 = .ok (.ifCond .ne 5, 3) := by decide +kernel
theorem d_MD_isVersion_26 : decode b_MD_isVersion 26 = .ok (.iconst 0, 1) := by decide +kernel
theorem d_MD_isVersion_27 : decode b_MD_isVersion 27 = .ok (.ireturn, 1) := by decide +kernel
theorem d_MD_isVersion_28 : decode b_MD_isVersion 28 = .ok (.iload_n 1, 1) := by decide +kernel
theorem d_MD_isVersion_29 : decode b_MD_isVersion 29 = .ok (.istore_n 3, 1) := by decide +kernel
theorem d_MD_isVersion_30 : decode b_MD_isVersion 30 = .ok (.iload_n 3, 1) := by decide +kernel
theorem d_MD_isVersion_31 : decode b_MD_isVersion 31 = .ok (.iload_n 2, 1) := by decide +kernel
theorem d_MD_isVersion_32 : decode b_MD_isVersion 32 = .ok (.if_icmp .ge 108, 3) := by decide +kernel
theorem d_MD_isVersion_35 : decode b_MD_isVersion 35 = .ok (.aload_n 0, 1) := by decide +kernel
theorem d_MD_isVersion_36 : decode b_MD_isVersion 36 = .ok (.getfield 20, 3) := by decide +kernel
theorem d_MD_isVersion_39 : decode b_MD_isVersion 39 = .ok (.iload_n 3, 1) := by decide +kernel
theorem d_MD_isVersion_40 : decode b_MD_isVersion 40 = .ok (.iaload, 1) := by decide +kernel
theorem d_MD_isVersion_41 : decode b_MD_isVersion 41 = .ok (.bipush 97, 2) := by decide +kernel
theorem d_MD_isVersion_43 : decode b_MD_isVersion 43 = .ok (.if_icmp .lt 18, 3) := by decide +kernel
theorem d_MD_isVersion_46 : decode b_MD_isVersion 46 = .ok (.aload_n 0, 1) := by decide +kernel
theorem d_MD_isVersion_47 : decode b_MD_isVersion 47 = .ok (.getfield 20, 3) := by decide +kernel
theorem d_MD_isVersion_50 : decode b_MD_isVersion 50 = .ok (.iload_n 3, 1) := by decide +kernel
theorem d_MD_isVersion_51 : decode b_MD_isVersion 51 = .ok (.iaload, 1) := by decide +kernel
theorem d_MD_isVersion_52 : decode b_MD_isVersion 52 = .ok (.bipush 122, 2) := by decide +kernel
theorem d_MD_isVersion_54 : decode b_MD_isVersion 54 = .ok (.if_icmp .gt 7, 3) := by decide +kernel
theorem d_MD_isVersion_57 : decode b_MD_isVersion 57 = .ok (.iconst 1, 1) := by decide +kernel
theorem d_MD_isVersion_58 : decode b_MD_isVersion 58 = .ok (.goto 4, 3) := by decide +kernel
theorem d_MD_isVersion_61 : decode b_MD_isVersion 61 = .ok (.iconst 0, 1) := by decide +kernel
theorem d_MD_isVersion_62 : decode b_MD_isVersion 62 = .ok (.istore 4, 2) := by decide +kernel
theorem d_MD_isVersion_64 : decode b_MD_isVersion 64 = .ok (.iload 4, 2) := by decide +kernel
theorem d_MD_isVersion_66 : decode b_MD_isVersion 66 = .ok (.ifCond .ne 31, 3) := by decide +kernel
theorem d_MD_isVersion_69 : decode b_MD_isVersion 69 = .ok (.aload_n 0, 1) := by decide +kernel
theorem d_MD_isVersion_70 : decode b_MD_isVersion 70 = .ok (.aload_n 0, 1) := by decide +kernel
theorem d_MD_isVersion_71 : decode b_MD_isVersion 71 = .ok (.getfield 20, 3) := by decide +kernel
theorem d_MD_isVersion_74 : decode b_MD_isVersion 74 = .ok (.iload_n 3, 1) := by decide +kernel
theorem d_MD_isVersion_75 : decode b_MD_isVersion 75 = .ok (.iaload, 1) := by decide +kernel
theorem d_MD_isVersion_76 : decode b_MD_isVersion 76 = .ok (.invokevirtual 99, 3) := by decide +kernel
theorem d_MD_isVersion_79 : decode b_MD_isVersion 79 = .ok (.ifCond .ne 18, 3) := by decide +kernel
theorem d_MD_isVersion_82 : decode b_MD_isVersion 82 = .ok (.aload_n 0, 1) := by decide +kernel
theorem d_MD_isVersion_83 : decode b_MD_isVersion 83 = .ok (.aload_n 0, 1) := by decide +kernel
theorem d_MD_isVersion_84 : decode b_MD_isVersion 84 = .ok (.getfield 20, 3) := by decide +kernel
theorem d_MD_isVersion_87 : decode b_MD_isVersion 87 = .ok (.iload_n 3, 1) := by decide +kernel
theorem d_MD_isVersion_88 : decode b_MD_isVersion 88 = .ok (.iaload, 1) := by decide +kernel
theorem d_MD_isVersion_89 : decode b_MD_isVersion 89 = .ok (.invokevirtual 103, 3) := by decide +kernel
theorem d_MD_isVersion_92 : decode b_MD_isVersion 92 = .ok (.ifCond .ne 5, 3) := by decide +kernel
theorem d_MD_isVersion_95 : decode b_MD_isVersion 95 = .ok (.iconst 0, 1) := by decide +kernel
theorem d_MD_isVersion_96 : decode b_MD_isVersion 96 = .ok (.ireturn, 1) := by decide +kernel
theorem d_MD_isVersion_97 : decode b_MD_isVersion 97 = .ok (.aload_n 0, 1) := by decide +kernel
theorem d_MD_isVersion_98 : decode b_MD_isVersion 98 = .ok (.aload_n 0, 1) := by decide +kernel
theorem d_MD_isVersion_99 : decode b_MD_isVersion 99 = .ok (.getfield 20, 3) := by decide +kernel
theorem d_MD_isVersion_102 : decode b_MD_isVersion 102 = .ok (.iload_n 3, 1) := by decide +kernel
theorem d_MD_isVersion_103 : decode b_MD_isVersion 103 = .ok (.iaload, 1) := by decide +kernel
theorem d_MD_isVersion_104 : decode b_MD_isVersion 104 = .ok (.invokevirtual 103, 3) := by decide +kernel
theorem d_MD_isVersion_107 : decode b_MD_isVersion 107 = .ok (.ifCond .eq 27, 3) := by decide +kernel
theorem d_MD_isVersion_110 : decode b_MD_isVersion 110 = .ok (.iload_n 3, 1) := by decide +kernel
theorem d_MD_isVersion_111 : decode b_MD_isVersion 111 = .ok (.iconst 1, 1) := by decide +kernel
theorem d_MD_isVersion_112 : decode b_MD_isVersion 112 = .ok (.iadd, 1) := by decide +kernel
theorem d_MD_isVersion_113 : decode b_MD_isVersion 113 = .ok (.iload_n 2, 1) := by decide +kernel
theorem d_MD_isVersion_114 : decode b_MD_isVersion 114 = .ok (.if_icmp .eq 18, 3) := by decide +kernel
theorem d_MD_isVersion_117 : decode b_MD_isVersion 117 = .ok (.aload_n 0, 1) := by decide +kernel
theorem d_MD_isVersion_118 : decode b_MD_isVersion 118 = .ok (.aload_n 0, 1) := by decide +kernel
theorem d_MD_isVersion_119 : decode b_MD_isVersion 119 = .ok (.getfield 20, 3) := by decide +kernel
theorem d_MD_isVersion_122 : decode b_MD_isVersion 122 = .ok (.iload_n 3, 1) := by decide +kernel
theorem d_MD_isVersion_123 : decode b_MD_isVersion 123 = .ok (.iconst 1, 1) := by decide +kernel
theorem d_MD_isVersion_124 : decode b_MD_isVersion 124 = .ok (.iadd, 1) := by decide +kernel
theorem d_MD_isVersion_125 : decode b_MD_isVersion 125 = .ok (.iaload, 1) := by decide +kernel
theorem d_MD_isVersion_126 : decode b_MD_isVersion 126 = .ok (.invokevirtual 103, 3) := by decide +kernel
theorem d_MD_isVersion_129 : decode b_MD_isVersion 129 = .ok (.ifCond .eq 5, 3) := by decide +kernel
theorem d_MD_isVersion_132 : decode b_MD_isVersion 132 = .ok (.iconst 0, 1) := by decide +kernel
theorem d_MD_isVersion_133 : decode b_MD_isVersion 133 = .ok (.ireturn, 1) := by decide +kernel
theorem d_MD_isVersion_134 : decode b_MD_isVersion 134 = .ok (.iinc 3 1, 3) := by decide +kernel
theorem d_MD_isVersion_137 : decode b_MD_isVersion 137 = .ok (.goto (-107), 3) := by decide +kernel
theorem d_MD_isVersion_140 : decode b_MD_isVersion 140 = .ok (.iconst 1, 1) := by decide +kernel
theorem d_MD_isVersion_141 : decode b_MD_isVersion 141 = .ok (.ireturn, 1) := by decide +kernel
theorem d_MD_commaIn_0 : decode b_MD_commaIn 0 = .ok (.iload_n 1, 1) := by decide +kernel
theorem d_MD_commaIn_1 : decode b_MD_commaIn 1 = .ok (.istore_n 3, 1) := by decide +kernel
theorem d_MD_commaIn_2 : decode b_MD_commaIn 2 = .ok (.iload_n 3, 1) := by decide +kernel
theorem d_MD_commaIn_3 : decode b_MD_commaIn 3 = .ok (.iload_n 2, 1) := by decide +kernel
theorem d_MD_commaIn_4 : decode b_MD_commaIn 4 = .ok (.if_icmp .ge 20, 3) := by decide +kernel
theorem d_MD_commaIn_7 : decode b_MD_commaIn 7 = .ok (.aload_n 0, 1) := by decide +kernel
theorem d_MD_commaIn_8 : decode b_MD_commaIn 8 = .ok (.getfield 20, 3) := by decide +kernel
theorem d_MD_commaIn_11 : decode b_MD_commaIn 11 = .ok (.iload_n 3, 1) := by decide +kernel
theorem d_MD_commaIn_12 : decode b_MD_commaIn 12 = .ok (.iaload, 1) := by decide +kernel
theorem d_MD_commaIn_13 : decode b_MD_commaIn 13 = .ok (.bipush 44, 2) := by decide +kernel
theorem d_MD_commaIn_15 : decode b_MD_commaIn 15 = .ok (.if_icmp .eq 9, 3) := by decide +kernel
theorem d_MD_commaIn_18 : decode b_MD_commaIn 18 = .ok (.iinc 3 1, 3) := by decide +kernel
theorem d_MD_commaIn_21 : decode b_MD_commaIn 21 = .ok (.goto (-19), 3) := by decide +kernel
theorem d_MD_commaIn_24 : decode b_MD_commaIn 24 = .ok (.iload_n 3, 1) := by decide +kernel
theorem d_MD_commaIn_25 : decode b_MD_commaIn 25 = .ok (.ireturn, 1) := by decide +kernel
theorem d_MD_isRange_0 : decode b_MD_isRange 0 = .ok (.aload_n 0, 1) := by decide +kernel
theorem d_MD_isRange_1 : decode b_MD_isRange 1 = .ok (.iload_n 1, 1) := by decide +kernel
theorem d_MD_isRange_2 : decode b_MD_isRange 2 = .ok (.iload_n 2, 1) := by decide +kernel
theorem d_MD_isRange_3 : decode b_MD_isRange 3 = .ok (.invokevirtual 106, 3) := by decide +kernel
theorem d_MD_isRange_6 : decode b_MD_isRange 6 = .ok (.ifCond .eq 5, 3) := by decide +kernel
theorem d_MD_isRange_9 : decode b_MD_isRange 9 = .ok (.iconst 1, 1) := by decide +kernel
theorem d_MD_isRange_10 : decode b_MD_isRange 10 = .ok (.ireturn, 1) := by decide +kernel
theorem d_MD_isRange_11 : decode b_MD_isRange 11 = .ok (.iload_n 2, 1) := by decide +kernel
theorem d_MD_isRange_12 : decode b_MD_isRange 12 = .ok (.iload_n 1, 1) := by decide +kernel
theorem d_MD_isRange_13 : decode b_MD_isRange 13 = .ok (.isub, 1) := by decide +kernel
theorem d_MD_isRange_14 : decode b_MD_isRange 14 = .ok (.iconst 3, 1) := by decide +kernel
theorem d_MD_isRange_15 : decode b_MD_isRange 15 = .ok (.if_icmp .lt 51, 3) := by decide +kernel
theorem d_MD_isRange_18 : decode b_MD_isRange 18 = .ok (.aload_n 0, 1) := by decide +kernel
theorem d_MD_isRange_19 : decode b_MD_isRange 19 = .ok (.getfield 20, 3) := by decide +kernel
theorem d_MD_isRange_22 : decode b_MD_isRange 22 = .ok (.iload_n 1, 1) := by decide +kernel
theorem d_MD_isRange_23 : decode b_MD_isRange 23 = .ok (.iaload, 1) := by decide +kernel
theorem d_MD_isRange_24 : decode b_MD_isRange 24 = .ok (.bipush 91, 2) := by decide +kernel
theorem d_MD_isRange_26 : decode b_MD_isRange 26 = .ok (.if_icmp .eq 14, 3) := by decide +kernel
theorem d_MD_isRange_29 : decode b_MD_isRange 29 = .ok (.aload_n 0, 1) := by decide +kernel
theorem d_MD_isRange_30 : decode b_MD_isRange 30 = .ok (.getfield 20, 3) := by decide +kernel
theorem d_MD_isRange_33 : decode b_MD_isRange 33 = .ok (.iload_n 1, 1) := by decide +kernel
theorem d_MD_isRange_34 : decode b_MD_isRange 34 = .ok (.iaload, 1) := by decide +kernel
theorem d_MD_isRange_35 : decode b_MD_isRange 35 = .ok (.bipush 40, 2) := by decide +kernel
theorem d_MD_isRange_37 : decode b_MD_isRange 37 = .ok (.if_icmp .ne 29, 3) := by decide +kernel
theorem d_MD_isRange_40 : decode b_MD_isRange 40 = .ok (.aload_n 0, 1) := by decide +kernel
theorem d_MD_isRange_41 : decode b_MD_isRange 41 = .ok (.getfield 20, 3) := by decide +kernel
theorem d_MD_isRange_44 : decode b_MD_isRange 44 = .ok (.iload_n 2, 1) := by decide +kernel
theorem d_MD_isRange_45 : decode b_MD_isRange 45 = .ok (.iconst 1, 1) := by decide +kernel
theorem d_MD_isRange_46 : decode b_MD_isRange 46 = .ok (.isub, 1) := by decide +kernel
theorem d_MD_isRange_47 : decode b_MD_isRange 47 = .ok (.iaload, 1) := by decide +kernel
theorem d_MD_isRange_48 : decode b_MD_isRange 48 = .ok (.bipush 93, 2) := by decide +kernel
theorem d_MD_isRange_50 : decode b_MD_isRange 50 = .ok (.if_icmp .eq 18, 3) := by decide +kernel
theorem d_MD_isRange_53 : decode b_MD_isRange 53 = .ok (.aload_n 0, 1) := by decide +kernel
theorem d_MD_isRange_54 : decode b_MD_isRange 54 = .ok (.getfield 20, 3) := by decide +kernel
theorem d_MD_isRange_57 : decode b_MD_isRange 57 = .ok (.iload_n 2, 1) := by decide +kernel
theorem d_MD_isRange_58 : decode b_MD_isRange 58 = .ok (.iconst 1, 1) := by decide +kernel
theorem d_MD_isRange_59 : decode b_MD_isRange 59 = .ok (.isub, 1) := by decide +kernel
theorem d_MD_isRange_60 : decode b_MD_isRange 60 = .ok (.iaload, 1) := by decide +kernel
theorem d_MD_isRange_61 : decode b_MD_isRange 61 = .ok (.bipush 41, 2) := by decide +kernel
theorem d_MD_isRange_63 : decode b_MD_isRange 63 = .ok (.if_icmp .eq 5, 3) := by decide +kernel
theorem d_MD_isRange_66 : decode b_MD_isRange 66 = .ok (.iconst 0, 1) := by decide +kernel
theorem d_MD_isRange_67 : decode b_MD_isRange 67 = .ok (.ireturn, 1) := by decide +kernel
theorem d_MD_isRange_68 : decode b_MD_isRange 68 = .ok (.aload_n 0, 1) := by decide +kernel
theorem d_MD_isRange_69 : decode b_MD_isRange 69 = .ok (.iload_n 1, 1) := by decide +kernel
theorem d_MD_isRange_70 : decode b_MD_isRange 70 = .ok (.iload_n 2, 1) := by decide +kernel
theorem d_MD_isRange_71 : decode b_MD_isRange 71 = .ok (.invokevirtual 110, 3) := by decide +kernel
theorem d_MD_isRange_74 : decode b_MD_isRange 74 = .ok (.istore_n 3, 1) := by decide +kernel
theorem d_MD_isRange_75 : decode b_MD_isRange 75 = .ok (.iload_n 3, 1) := by decide +kernel
theorem d_MD_isRange_76 : decode b_MD_isRange 76 = .ok (.iload_n 2, 1) := by decide +kernel
theorem d_MD_isRange_77 : decode b_MD_isRange 77 = .ok (.if_icmp .ne 46, 3) := by decide +kernel
theorem d_MD_isRange_80 : decode b_MD_isRange 80 = .ok (.aload_n 0, 1) := by decide +kernel
theorem d_MD_isRange_81 : decode b_MD_isRange 81 = .ok (.getfield 20, 3) := by decide +kernel
theorem d_MD_isRange_84 : decode b_MD_isRange 84 = .ok (.iload_n 1, 1) := by decide +kernel
theorem d_MD_isRange_85 : decode b_MD_isRange 85 = .ok (.iaload, 1) := by decide +kernel
theorem d_MD_isRange_86 : decode b_MD_isRange 86 = .ok (.bipush 91, 2) := by decide +kernel
theorem d_MD_isRange_88 : decode b_MD_isRange 88 = .ok (.if_icmp .ne 33, 3) := by decide +kernel
theorem d_MD_isRange_91 : decode b_MD_isRange 91 = .ok (.aload_n 0, 1) := by decide +kernel
theorem d_MD_isRange_92 : decode b_MD_isRange 92 = .ok (.getfield 20, 3) := by decide +kernel
theorem d_MD_isRange_95 : decode b_MD_isRange 95 = .ok (.iload_n 2, 1) := by decide +kernel
theorem d_MD_isRange_96 : decode b_MD_isRange 96 = .ok (.iconst 1, 1) := by decide +kernel
theorem d_MD_isRange_97 : decode b_MD_isRange 97 = .ok (.isub, 1) := by decide +kernel
theorem d_MD_isRange_98 : decode b_MD_isRange 98 = .ok (.iaload, 1) := by decide +kernel
theorem d_MD_isRange_99 : decode b_MD_isRange 99 = .ok (.bipush 93, 2) := by decide +kernel
theorem d_MD_isRange_101 : decode b_MD_isRange 101 = .ok (.if_icmp .ne 20, 3) := by decide +kernel
theorem d_MD_isRange_104 : decode b_MD_isRange 104 = .ok (.aload_n 0, 1) := by decide +kernel
theorem d_MD_isRange_105 : decode b_MD_isRange 105 = .ok (.iload_n 1, 1) := by decide +kernel
theorem d_MD_isRange_106 : decode b_MD_isRange 106 = .ok (.iconst 1, 1) := by decide +kernel
theorem d_MD_isRange_107 : decode b_MD_isRange 107 = .ok (.iadd, 1) := by decide +kernel
theorem d_MD_isRange_108 : decode b_MD_isRange 108 = .ok (.iload_n 2, 1) := by decide +kernel
theorem d_MD_isRange_109 : decode b_MD_isRange 109 = .ok (.iconst 1, 1) := by decide +kernel
theorem d_MD_isRange_110 : decode b_MD_isRange 110 = .ok (.isub, 1) := by decide +kernel
theorem d_MD_isRange_111 : decode b_MD_isRange 111 = .ok (.invokevirtual 106, 3) := by decide +kernel
theorem d_MD_isRange_114 : decode b_MD_isRange 114 = .ok (.ifCond .eq 7, 3) := by decide +kernel
theorem d_MD_isRange_117 : decode b_MD_isRange 117 = .ok (.iconst 1, 1) := by decide +kernel
theorem d_MD_isRange_118 : decode b_MD_isRange 118 = .ok (.goto 4, 3) := by decide +kernel
theorem d_MD_isRange_121 : decode b_MD_isRange 121 = .ok (.iconst 0, 1) := by decide +kernel
theorem d_MD_isRange_122 : decode b_MD_isRange 122 = .ok (.ireturn, 1) := by decide +kernel
theorem d_MD_isRange_123 : decode b_MD_isRange 123 = .ok (.iload_n 3, 1) := by decide +kernel
theorem d_MD_isRange_124 : decode b_MD_isRange 124 = .ok (.iload_n 1, 1) := by decide +kernel
theorem d_MD_isRange_125 : decode b_MD_isRange 125 = .ok (.iconst 1, 1) := by decide +kernel
theorem d_MD_isRange_126 : decode b_MD_isRange 126 = .ok (.iadd, 1) := by decide +kernel
theorem d_MD_isRange_127 : decode b_MD_isRange 127 = .ok (.if_icmp .eq 14, 3) := by decide +kernel
theorem d_MD_isRange_130 : decode b_MD_isRange 130 = .ok (.aload_n 0, 1) := by decide +kernel
theorem d_MD_isRange_131 : decode b_MD_isRange 131 = .ok (.iload_n 1, 1) := by decide +kernel
theorem d_MD_isRange_132 : decode b_MD_isRange 132 = .ok (.iconst 1, 1) := by decide +kernel
theorem d_MD_isRange_133 : decode b_MD_isRange 133 = .ok (.iadd, 1) := by decide +kernel
theorem d_MD_isRange_134 : decode b_MD_isRange 134 = .ok (.iload_n 3, 1) := by decide +kernel
theorem d_MD_isRange_135 : decode b_MD_isRange 135 = .ok (.invokevirtual 106, 3) := by decide +kernel
theorem d_MD_isRange_138 : decode b_MD_isRange 138 = .ok (.ifCond .eq 27, 3) := by decide +kernel
theorem d_MD_isRange_141 : decode b_MD_isRange 141 = .ok (.iload_n 3, 1) := by decide +kernel
theorem d_MD_isRange_142 : decode b_MD_isRange 142 = .ok (.iload_n 2, 1) := by decide +kernel
theorem d_MD_isRange_143 : decode b_MD_isRange 143 = .ok (.iconst 2, 1) := by decide +kernel
theorem d_MD_isRange_144 : decode b_MD_isRange 144 = .ok (.isub, 1) := by decide +kernel
theorem d_MD_isRange_145 : decode b_MD_isRange 145 = .ok (.if_icmp .eq 16, 3) := by decide +kernel
theorem d_MD_isRange_148 : decode b_MD_isRange 148 = .ok (.aload_n 0, 1) := by decide +kernel
theorem d_MD_isRange_149 : decode b_MD_isRange 149 = .ok (.iload_n 3, 1) := by decide +kernel
theorem d_MD_isRange_150 : decode b_MD_isRange 150 = .ok (.iconst 1, 1) := by decide +kernel
theorem d_MD_isRange_151 : decode b_MD_isRange 151 = .ok (.iadd, 1) := by decide +kernel
theorem d_MD_isRange_152 : decode b_MD_isRange 152 = .ok (.iload_n 2, 1) := by decide +kernel
theorem d_MD_isRange_153 : decode b_MD_isRange 153 = .ok (.iconst 1, 1) := by decide +kernel
theorem d_MD_isRange_154 : decode b_MD_isRange 154 = .ok (.isub, 1) := by decide +kernel
theorem d_MD_isRange_155 : decode b_MD_isRange 155 = .ok (.invokevirtual 106, 3) := by decide +kernel
theorem d_MD_isRange_158 : decode b_MD_isRange 158 = .ok (.ifCond .eq 7, 3) := by decide +kernel
theorem d_MD_isRange_161 : decode b_MD_isRange 161 = .ok (.iconst 1, 1) := by decide +kernel
theorem d_MD_isRange_162 : decode b_MD_isRange 162 = .ok (.goto 4, 3) := by decide +kernel
theorem d_MD_isRange_165 : decode b_MD_isRange 165 = .ok (.iconst 0, 1) := by decide +kernel
theorem d_MD_isRange_166 : decode b_MD_isRange 166 = .ok (.ireturn, 1) := by decide +kernel
theorem d_MD_part_0 : decode b_MD_part 0 = .ok (.iload_n 1, 1) := by decide +kernel
theorem d_MD_part_1 : decode b_MD_part 1 = .ok (.ifCond .eq 10, 3) := by decide +kernel
theorem d_MD_part_4 : decode b_MD_part 4 = .ok (.aload_n 0, 1) := by decide +kernel
theorem d_MD_part_5 : decode b_MD_part 5 = .ok (.getfield 87, 3) := by decide +kernel
theorem d_MD_part_8 : decode b_MD_part 8 = .ok (.goto 7, 3) := by decide +kernel
theorem d_MD_part_11 : decode b_MD_part 11 = .ok (.aload_n 0, 1) := by decide +kernel
theorem d_MD_part_12 : decode b_MD_part 12 = .ok (.getfield 93, 3) := by decide +kernel
theorem d_MD_part_15 : decode b_MD_part 15 = .ok (.istore_n 3, 1) := by decide +kernel
theorem d_MD_part_16 : decode b_MD_part 16 = .ok (.iconst 0, 1) := by decide +kernel
theorem d_MD_part_17 : decode b_MD_part 17 = .ok (.istore 4, 2) := by decide +kernel
theorem d_MD_part_19 : decode b_MD_part 19 = .ok (.iconst (-1), 1) := by decide +kernel
theorem d_MD_part_20 : decode b_MD_part 20 = .ok (.istore 5, 2) := by decide +kernel
theorem d_MD_part_22 : decode b_MD_part 22 = .ok (.iload 4, 2) := by decide +kernel
theorem d_MD_part_24 : decode b_MD_part 24 = .ok (.iload_n 3, 1) := by decide +kernel
theorem d_MD_part_25 : decode b_MD_part 25 = .ok (.if_icmp .ge 159, 3) := by decide +kernel
theorem d_MD_part_28 : decode b_MD_part 28 = .ok (.iload_n 1, 1) := by decide +kernel
theorem d_MD_part_29 : decode b_MD_part 29 = .ok (.ifCond .eq 13, 3) := by decide +kernel
theorem d_MD_part_32 : decode b_MD_part 32 = .ok (.aload_n 0, 1) := by decide +kernel
theorem d_MD_part_33 : decode b_MD_part 33 = .ok (.getfield 84, 3) := by decide +kernel
theorem d_MD_part_36 : decode b_MD_part 36 = .ok (.iload 4, 2) := by decide +kernel
theorem d_MD_part_38 : decode b_MD_part 38 = .ok (.iaload, 1) := by decide +kernel
theorem d_MD_part_39 : decode b_MD_part 39 = .ok (.goto 10, 3) := by decide +kernel
theorem d_MD_part_42 : decode b_MD_part 42 = .ok (.aload_n 0, 1) := by decide +kernel
theorem d_MD_part_43 : decode b_MD_part 43 = .ok (.getfield 90, 3) := by decide +kernel
theorem d_MD_part_46 : decode b_MD_part 46 = .ok (.iload 4, 2) := by decide +kernel
theorem d_MD_part_48 : decode b_MD_part 48 = .ok (.iaload, 1) := by decide +kernel
theorem d_MD_part_49 : decode b_MD_part 49 = .ok (.istore 6, 2) := by decide +kernel
theorem d_MD_part_51 : decode b_MD_part 51 = .ok (.iload 4, 2) := by decide +kernel
theorem d_MD_part_53 : decode b_MD_part 53 = .ok (.istore 7, 2) := by decide +kernel
theorem d_MD_part_55 : decode b_MD_part 55 = .ok (.aload_n 0, 1) := by decide +kernel
theorem d_MD_part_56 : decode b_MD_part 56 = .ok (.iload 6, 2) := by decide +kernel
theorem d_MD_part_58 : decode b_MD_part 58 = .ok (.invokevirtual 99, 3) := by decide +kernel
theorem d_MD_part_61 : decode b_MD_part 61 = .ok (.istore 8, 2) := by decide +kernel
theorem d_MD_part_63 : decode b_MD_part 63 = .ok (.aload_n 0, 1) := by decide +kernel
theorem d_MD_part_64 : decode b_MD_part 64 = .ok (.iload 6, 2) := by decide +kernel
theorem d_MD_part_66 : decode b_MD_part 66 = .ok (.invokevirtual 103, 3) := by decide +kernel
theorem d_MD_part_69 : decode b_MD_part 69 = .ok (.ifCond .ne 6, 3) := by decide +kernel
theorem d_MD_part_72 : decode b_MD_part 72 = .ok (.iinc 5 1, 3) := by decide +kernel
theorem d_MD_part_75 : decode b_MD_part 75 = .ok (.iinc 4 1, 3) := by decide +kernel
theorem d_MD_part_78 : decode b_MD_part 78 = .ok (.iload 4, 2) := by decide +kernel
theorem d_MD_part_80 : decode b_MD_part 80 = .ok (.iload_n 3, 1) := by decide +kernel
theorem d_MD_part_81 : decode b_MD_part 81 = .ok (.if_icmp .ge 76, 3) := by decide +kernel
theorem d_MD_part_84 : decode b_MD_part 84 = .ok (.aload_n 0, 1) := by decide +kernel
theorem d_MD_part_85 : decode b_MD_part 85 = .ok (.iload 6, 2) := by decide +kernel
theorem d_MD_part_87 : decode b_MD_part 87 = .ok (.invokevirtual 103, 3) := by decide +kernel
theorem d_MD_part_90 : decode b_MD_part 90 = .ok (.ifCond .ne 67, 3) := by decide +kernel
theorem d_MD_part_93 : decode b_MD_part 93 = .ok (.aload_n 0, 1) := by decide +kernel
theorem d_MD_part_94 : decode b_MD_part 94 = .ok (.iload_n 1, 1) := by decide +kernel
theorem d_MD_part_95 : decode b_MD_part 95 = .ok (.ifCond .eq 13, 3) := by decide +kernel
theorem d_MD_part_98 : decode b_MD_part 98 = .ok (.aload_n 0, 1) := by decide +kernel
theorem d_MD_part_99 : decode b_MD_part 99 = .ok (.getfield 84, 3) := by decide +kernel
theorem d_MD_part_102 : decode b_MD_part 102 = .ok (.iload 4, 2) := by decide +kernel
theorem d_MD_part_104 : decode b_MD_part 104 = .ok (.iaload, 1) := by decide +kernel
theorem d_MD_part_105 : decode b_MD_part 105 = .ok (.goto 10, 3) := by decide +kernel
theorem d_MD_part_108 : decode b_MD_part 108 = .ok (.aload_n 0, 1) := by decide +kernel
theorem d_MD_part_109 : decode b_MD_part 109 = .ok (.getfield 90, 3) := by decide +kernel
theorem d_MD_part_112 : decode b_MD_part 112 = .ok (.iload 4, 2) := by decide +kernel
theorem d_MD_part_114 : decode b_MD_part 114 = .ok (.iaload, 1) := by decide +kernel
theorem d_MD_part_115 : decode b_MD_part 115 = .ok (.invokevirtual 103, 3) := by decide +kernel
theorem d_MD_part_118 : decode b_MD_part 118 = .ok (.ifCond .ne 39, 3) := by decide +kernel
theorem d_MD_part_121 : decode b_MD_part 121 = .ok (.aload_n 0, 1) := by decide +kernel
theorem d_MD_part_122 : decode b_MD_part 122 = .ok (.iload_n 1, 1) := by decide +kernel
theorem d_MD_part_123 : decode b_MD_part 123 = .ok (.ifCond .eq 13, 3) := by decide +kernel
theorem d_MD_part_126 : decode b_MD_part 126 = .ok (.aload_n 0, 1) := by decide +kernel
theorem d_MD_part_127 : decode b_MD_part 127 = .ok (.getfield 84, 3) := by decide +kernel
theorem d_MD_part_130 : decode b_MD_part 130 = .ok (.iload 4, 2) := by decide +kernel
theorem d_MD_part_132 : decode b_MD_part 132 = .ok (.iaload, 1) := by decide +kernel
theorem d_MD_part_133 : decode b_MD_part 133 = .ok (.goto 10, 3) := by decide +kernel
theorem d_MD_part_136 : decode b_MD_part 136 = .ok (.aload_n 0, 1) := by decide +kernel
theorem d_MD_part_137 : decode b_MD_part 137 = .ok (.getfield 90, 3) := by decide +kernel
theorem d_MD_part_140 : decode b_MD_part 140 = .ok (.iload 4, 2) := by decide +kernel
theorem d_MD_part_142 : decode b_MD_part 142 = .ok (.iaload, 1) := by decide +kernel
theorem d_MD_part_143 : decode b_MD_part 143 = .ok (.invokevirtual 99, 3) := by decide +kernel
theorem d_MD_part_146 : decode b_MD_part 146 = .ok (.iload 8, 2) := by decide +kernel
theorem d_MD_part_148 : decode b_MD_part 148 = .ok (.if_icmp .ne 9, 3) := by decide +kernel
theorem d_MD_part_151 : decode b_MD_part 151 = .ok (.iinc 4 1, 3) := by decide +kernel
theorem d_MD_part_154 : decode b_MD_part 154 = .ok (.goto (-76), 3) := by decide +kernel
theorem d_MD_part_157 : decode b_MD_part 157 = .ok (.aload_n 0, 1) := by decide +kernel
theorem d_MD_part_158 : decode b_MD_part 158 = .ok (.iload 6, 2) := by decide +kernel
theorem d_MD_part_160 : decode b_MD_part 160 = .ok (.invokevirtual 103, 3) := by decide +kernel
theorem d_MD_part_163 : decode b_MD_part 163 = .ok (.ifCond .ne 18, 3) := by decide +kernel
theorem d_MD_part_166 : decode b_MD_part 166 = .ok (.iload 5, 2) := by decide +kernel
theorem d_MD_part_168 : decode b_MD_part 168 = .ok (.iload_n 2, 1) := by decide +kernel
theorem d_MD_part_169 : decode b_MD_part 169 = .ok (.if_icmp .ne 12, 3) := by decide +kernel
theorem d_MD_part_172 : decode b_MD_part 172 = .ok (.aload_n 0, 1) := by decide +kernel
theorem d_MD_part_173 : decode b_MD_part 173 = .ok (.iload 4, 2) := by decide +kernel
theorem d_MD_part_175 : decode b_MD_part 175 = .ok (.putfield 96, 3) := by decide +kernel
theorem d_MD_part_178 : decode b_MD_part 178 = .ok (.iload 7, 2) := by decide +kernel
theorem d_MD_part_180 : decode b_MD_part 180 = .ok (.ireturn, 1) := by decide +kernel
theorem d_MD_part_181 : decode b_MD_part 181 = .ok (.goto (-159), 3) := by decide +kernel
theorem d_MD_part_184 : decode b_MD_part 184 = .ok (.iconst (-1), 1) := by decide +kernel
theorem d_MD_part_185 : decode b_MD_part 185 = .ok (.ireturn, 1) := by decide +kernel
theorem d_MD_number_0 : decode b_MD_number 0 = .ok (.aload_n 0, 1) := by decide +kernel
theorem d_MD_number_1 : decode b_MD_number 1 = .ok (.iload_n 1, 1) := by decide +kernel
theorem d_MD_number_2 : decode b_MD_number 2 = .ok (.iload_n 2, 1) := by decide +kernel
theorem d_MD_number_3 : decode b_MD_number 3 = .ok (.invokevirtual 114, 3) := by decide +kernel
theorem d_MD_number_6 : decode b_MD_number 6 = .ok (.istore_n 3, 1) := by decide +kernel
theorem d_MD_number_7 : decode b_MD_number 7 = .ok (.iload_n 3, 1) := by decide +kernel
theorem d_MD_number_8 : decode b_MD_number 8 = .ok (.ifCond .ge 5, 3) := by decide +kernel
theorem d_MD_number_11 : decode b_MD_number 11 = .ok (.lconst 0, 1) := by decide +kernel
theorem d_MD_number_12 : decode b_MD_number 12 = .ok (.lreturn, 1) := by decide +kernel
theorem d_MD_number_13 : decode b_MD_number 13 = .ok (.lconst 0, 1) := by decide +kernel
theorem d_MD_number_14 : decode b_MD_number 14 = .ok (.lstore 4, 2) := by decide +kernel
theorem d_MD_number_16 : decode b_MD_number 16 = .ok (.iload_n 3, 1) := by decide +kernel
theorem d_MD_number_17 : decode b_MD_number 17 = .ok (.istore 6, 2) := by decide +kernel
theorem d_MD_number_19 : decode b_MD_number 19 = .ok (.iload 6, 2) := by decide +kernel
theorem d_MD_number_21 : decode b_MD_number 21 = .ok (.aload_n 0, 1) := by decide +kernel
theorem d_MD_number_22 : decode b_MD_number 22 = .ok (.getfield 96, 3) := by decide +kernel
theorem d_MD_number_25 : decode b_MD_number 25 = .ok (.if_icmp .ge 60, 3) := by decide +kernel
theorem d_MD_number_28 : decode b_MD_number 28 = .ok (.iload_n 1, 1) := by decide +kernel
theorem d_MD_number_29 : decode b_MD_number 29 = .ok (.ifCond .eq 13, 3) := by decide +kernel
theorem d_MD_number_32 : decode b_MD_number 32 = .ok (.aload_n 0, 1) := by decide +kernel
theorem d_MD_number_33 : decode b_MD_number 33 = .ok (.getfield 84, 3) := by decide +kernel
theorem d_MD_number_36 : decode b_MD_number 36 = .ok (.iload 6, 2) := by decide +kernel
theorem d_MD_number_38 : decode b_MD_number 38 = .ok (.iaload, 1) := by decide +kernel
theorem d_MD_number_39 : decode b_MD_number 39 = .ok (.goto 10, 3) := by decide +kernel
theorem d_MD_number_42 : decode b_MD_number 42 = .ok (.aload_n 0, 1) := by decide +kernel
theorem d_MD_number_43 : decode b_MD_number 43 = .ok (.getfield 90, 3) := by decide +kernel
theorem d_MD_number_46 : decode b_MD_number 46 = .ok (.iload 6, 2) := by decide +kernel
theorem d_MD_number_48 : decode b_MD_number 48 = .ok (.iaload, 1) := by decide +kernel
theorem d_MD_number_49 : decode b_MD_number 49 = .ok (.istore 7, 2) := by decide +kernel
theorem d_MD_number_51 : decode b_MD_number 51 = .ok (.aload_n 0, 1) := by decide +kernel
theorem d_MD_number_52 : decode b_MD_number 52 = .ok (.iload 7, 2) := by decide +kernel
theorem d_MD_number_54 : decode b_MD_number 54 = .ok (.invokevirtual 99, 3) := by decide +kernel
theorem d_MD_number_57 : decode b_MD_number 57 = .ok (.ifCond .ne 7, 3) := by decide +kernel
theorem d_MD_number_60 : decode b_MD_number 60 = .ok (.ldc2_w 118, 3) := by decide +kernel
theorem d_MD_number_63 : decode b_MD_number 63 = .ok (.lreturn, 1) := by decide +kernel
theorem d_MD_number_64 : decode b_MD_number 64 = .ok (.ldc2_w 120, 3) := by decide +kernel
theorem d_MD_number_67 : decode b_MD_number 67 = .ok (.lload 4, 2) := by decide +kernel
theorem d_MD_number_69 : decode b_MD_number 69 = .ok (.lmul, 1) := by decide +kernel
theorem d_MD_number_70 : decode b_MD_number 70 = .ok (.iload 7, 2) := by decide +kernel
theorem d_MD_number_72 : decode b_MD_number 72 = .ok (.bipush 48, 2) := by decide +kernel
theorem d_MD_number_74 : decode b_MD_number 74 = .ok (.isub, 1) := by decide +kernel
theorem d_MD_number_75 : decode b_MD_number 75 = .ok (.i2l, 1) := by decide +kernel
theorem d_MD_number_76 : decode b_MD_number 76 = .ok (.ladd, 1) := by decide +kernel
theorem d_MD_number_77 : decode b_MD_number 77 = .ok (.lstore 4, 2) := by decide +kernel
theorem d_MD_number_79 : decode b_MD_number 79 = .ok (.iinc 6 1, 3) := by decide +kernel
theorem d_MD_number_82 : decode b_MD_number 82 = .ok (.goto (-63), 3) := by decide +kernel
theorem d_MD_number_85 : decode b_MD_number 85 = .ok (.lload 4, 2) := by decide +kernel
theorem d_MD_number_87 : decode b_MD_number 87 = .ok (.lreturn, 1) := by decide +kernel
theorem d_MD_orderOfWords_0 : decode b_MD_orderOfWords 0 = .ok (.aload_n 0, 1) := by decide +kernel
theorem d_MD_orderOfWords_1 : decode b_MD_orderOfWords 1 = .ok (.iconst 1, 1) := by decide +kernel
theorem d_MD_orderOfWords_2 : decode b_MD_orderOfWords 2 = .ok (.iload_n 1, 1) := by decide +kernel
theorem d_MD_orderOfWords_3 : decode b_MD_orderOfWords 3 = .ok (.invokevirtual 114, 3) := by decide +kernel
theorem d_MD_orderOfWords_6 : decode b_MD_orderOfWords 6 = .ok (.istore_n 2, 1) := by decide +kernel
theorem d_MD_orderOfWords_7 : decode b_MD_orderOfWords 7 = .ok (.aload_n 0, 1) := by decide +kernel
theorem d_MD_orderOfWords_8 : decode b_MD_orderOfWords 8 = .ok (.getfield 96, 3) := by decide +kernel
theorem d_MD_orderOfWords_11 : decode b_MD_orderOfWords 11 = .ok (.istore_n 3, 1) := by decide +kernel
theorem d_MD_orderOfWords_12 : decode b_MD_orderOfWords 12 = .ok (.aload_n 0, 1) := by decide +kernel
theorem d_MD_orderOfWords_13 : decode b_MD_orderOfWords 13 = .ok (.iconst 0, 1) := by decide +kernel
theorem d_MD_orderOfWords_14 : decode b_MD_orderOfWords 14 = .ok (.iload_n 1, 1) := by decide +kernel
theorem d_MD_orderOfWords_15 : decode b_MD_orderOfWords 15 = .ok (.invokevirtual 114, 3) := by decide +kernel
theorem d_MD_orderOfWords_18 : decode b_MD_orderOfWords 18 = .ok (.istore 4, 2) := by decide +kernel
theorem d_MD_orderOfWords_20 : decode b_MD_orderOfWords 20 = .ok (.iconst 0, 1) := by decide +kernel
theorem d_MD_orderOfWords_21 : decode b_MD_orderOfWords 21 = .ok (.istore 5, 2) := by decide +kernel
theorem d_MD_orderOfWords_23 : decode b_MD_orderOfWords 23 = .ok (.iload 5, 2) := by decide +kernel
theorem d_MD_orderOfWords_25 : decode b_MD_orderOfWords 25 = .ok (.bipush 12, 2) := by decide +kernel
theorem d_MD_orderOfWords_27 : decode b_MD_orderOfWords 27 = .ok (.if_icmp .ge 80, 3) := by decide +kernel
theorem d_MD_orderOfWords_30 : decode b_MD_orderOfWords 30 = .ok (.iload_n 2, 1) := by decide +kernel
theorem d_MD_orderOfWords_31 : decode b_MD_orderOfWords 31 = .ok (.iload 5, 2) := by decide +kernel
theorem d_MD_orderOfWords_33 : decode b_MD_orderOfWords 33 = .ok (.iadd, 1) := by decide +kernel
theorem d_MD_orderOfWords_34 : decode b_MD_orderOfWords 34 = .ok (.iload_n 3, 1) := by decide +kernel
theorem d_MD_orderOfWords_35 : decode b_MD_orderOfWords 35 = .ok (.if_icmp .ge 15, 3) := by decide +kernel
theorem d_MD_orderOfWords_38 : decode b_MD_orderOfWords 38 = .ok (.aload_n 0, 1) := by decide +kernel
theorem d_MD_orderOfWords_39 : decode b_MD_orderOfWords 39 = .ok (.getfield 84, 3) := by decide +kernel
theorem d_MD_orderOfWords_42 : decode b_MD_orderOfWords 42 = .ok (.iload_n 2, 1) := by decide +kernel
theorem d_MD_orderOfWords_43 : decode b_MD_orderOfWords 43 = .ok (.iload 5, 2) := by decide +kernel
theorem d_MD_orderOfWords_45 : decode b_MD_orderOfWords 45 = .ok (.iadd, 1) := by decide +kernel
theorem d_MD_orderOfWords_46 : decode b_MD_orderOfWords 46 = .ok (.iaload, 1) := by decide +kernel
theorem d_MD_orderOfWords_47 : decode b_MD_orderOfWords 47 = .ok (.goto 4, 3) := by decide +kernel
theorem d_MD_orderOfWords_50 : decode b_MD_orderOfWords 50 = .ok (.iconst 0, 1) := by decide +kernel
theorem d_MD_orderOfWords_51 : decode b_MD_orderOfWords 51 = .ok (.istore 6, 2) := by decide +kernel
theorem d_MD_orderOfWords_53 : decode b_MD_orderOfWords 53 = .ok (.iload 4, 2) := by decide +kernel
theorem d_MD_orderOfWords_55 : decode b_MD_orderOfWords 55 = .ok (.iload 5, 2) := by decide +kernel
theorem d_MD_orderOfWords_57 : decode b_MD_orderOfWords 57 = .ok (.iadd, 1) := by decide +kernel
theorem d_MD_orderOfWords_58 : decode b_MD_orderOfWords 58 = .ok (.aload_n 0, 1) := by decide +kernel
theorem d_MD_orderOfWords_59 : decode b_MD_orderOfWords 59 = .ok (.getfield 96, 3) := by decide +kernel
theorem d_MD_orderOfWords_62 : decode b_MD_orderOfWords 62 = .ok (.if_icmp .ge 16, 3) := by decide +kernel
theorem d_MD_orderOfWords_65 : decode b_MD_orderOfWords 65 = .ok (.aload_n 0, 1) := by decide +kernel
theorem d_MD_orderOfWords_66 : decode b_MD_orderOfWords 66 = .ok (.getfield 90, 3) := by decide +kernel
theorem d_MD_orderOfWords_69 : decode b_MD_orderOfWords 69 = .ok (.iload 4, 2) := by decide +kernel
theorem d_MD_orderOfWords_71 : decode b_MD_orderOfWords 71 = .ok (.iload 5, 2) := by decide +kernel
theorem d_MD_orderOfWords_73 : decode b_MD_orderOfWords 73 = .ok (.iadd, 1) := by decide +kernel
theorem d_MD_orderOfWords_74 : decode b_MD_orderOfWords 74 = .ok (.iaload, 1) := by decide +kernel
theorem d_MD_orderOfWords_75 : decode b_MD_orderOfWords 75 = .ok (.goto 4, 3) := by decide +kernel
theorem d_MD_orderOfWords_78 : decode b_MD_orderOfWords 78 = .ok (.iconst 0, 1) := by decide +kernel
theorem d_MD_orderOfWords_79 : decode b_MD_orderOfWords 79 = .ok (.istore 7, 2) := by decide +kernel
theorem d_MD_orderOfWords_81 : decode b_MD_orderOfWords 81 = .ok (.iload 6, 2) := by decide +kernel
theorem d_MD_orderOfWords_83 : decode b_MD_orderOfWords 83 = .ok (.iload 7, 2) := by decide +kernel
theorem d_MD_orderOfWords_85 : decode b_MD_orderOfWords 85 = .ok (.if_icmp .eq 16, 3) := by decide +kernel
theorem d_MD_orderOfWords_88 : decode b_MD_orderOfWords 88 = .ok (.iload 6, 2) := by decide +kernel
theorem d_MD_orderOfWords_90 : decode b_MD_orderOfWords 90 = .ok (.iload 7, 2) := by decide +kernel
theorem d_MD_orderOfWords_92 : decode b_MD_orderOfWords 92 = .ok (.if_icmp .ge 7, 3) := by decide +kernel
theorem d_MD_orderOfWords_95 : decode b_MD_orderOfWords 95 = .ok (.iconst (-1), 1) := by decide +kernel
theorem d_MD_orderOfWords_96 : decode b_MD_orderOfWords 96 = .ok (.goto 4, 3) := by decide +kernel
theorem d_MD_orderOfWords_99 : decode b_MD_orderOfWords 99 = .ok (.iconst 1, 1) := by decide +kernel
theorem d_MD_orderOfWords_100 : decode b_MD_orderOfWords 100 = .ok (.ireturn, 1) := by decide +kernel
theorem d_MD_orderOfWords_101 : decode b_MD_orderOfWords 101 = .ok (.iinc 5 1, 3) := by decide +kernel
theorem d_MD_orderOfWords_104 : decode b_MD_orderOfWords 104 = .ok (.goto (-81), 3) := by decide +kernel
theorem d_MD_orderOfWords_107 : decode b_MD_orderOfWords 107 = .ok (.iconst 0, 1) := by decide +kernel
theorem d_MD_orderOfWords_108 : decode b_MD_orderOfWords 108 = .ok (.ireturn, 1) := by decide +kernel
theorem d_MD_order_0 : decode b_MD_order 0 = .ok (.iconst 0, 1) := by decide +kernel
theorem d_MD_order_1 : decode b_MD_order 1 = .ok (.istore_n 1, 1) := by decide +kernel
theorem d_MD_order_2 : decode b_MD_order 2 = .ok (.iload_n 1, 1) := by decide +kernel
theorem d_MD_order_3 : decode b_MD_order 3 = .ok (.bipush 12, 2) := by decide +kernel
theorem d_MD_order_5 : decode b_MD_order 5 = .ok (.if_icmp .ge 65, 3) := by decide +kernel
theorem d_MD_order_8 : decode b_MD_order 8 = .ok (.aload_n 0, 1) := by decide +kernel
theorem d_MD_order_9 : decode b_MD_order 9 = .ok (.iconst 1, 1) := by decide +kernel
theorem d_MD_order_10 : decode b_MD_order 10 = .ok (.iload_n 1, 1) := by decide +kernel
theorem d_MD_order_11 : decode b_MD_order 11 = .ok (.invokevirtual 122, 3) := by decide +kernel
theorem d_MD_order_14 : decode b_MD_order 14 = .ok (.lstore_n 2, 1) := by decide +kernel
theorem d_MD_order_15 : decode b_MD_order 15 = .ok (.aload_n 0, 1) := by decide +kernel
theorem d_MD_order_16 : decode b_MD_order 16 = .ok (.iconst 0, 1) := by decide +kernel
theorem d_MD_order_17 : decode b_MD_order 17 = .ok (.iload_n 1, 1) := by decide +kernel
theorem d_MD_order_18 : decode b_MD_order 18 = .ok (.invokevirtual 122, 3) := by decide +kernel
theorem d_MD_order_21 : decode b_MD_order 21 = .ok (.lstore 4, 2) := by decide +kernel
theorem d_MD_order_23 : decode b_MD_order 23 = .ok (.lload_n 2, 1) := by decide +kernel
theorem d_MD_order_24 : decode b_MD_order 24 = .ok (.lload 4, 2) := by decide +kernel
theorem d_MD_order_26 : decode b_MD_order 26 = .ok (.lcmp, 1) := by decide +kernel
theorem d_MD_order_27 : decode b_MD_order 27 = .ok (.ifCond .eq 16, 3) := by decide +kernel
theorem d_MD_order_30 : decode b_MD_order 30 = .ok (.lload_n 2, 1) := by decide +kernel
theorem d_MD_order_31 : decode b_MD_order 31 = .ok (.lload 4, 2) := by decide +kernel
theorem d_MD_order_33 : decode b_MD_order 33 = .ok (.lcmp, 1) := by decide +kernel
theorem d_MD_order_34 : decode b_MD_order 34 = .ok (.ifCond .ge 7, 3) := by decide +kernel
theorem d_MD_order_37 : decode b_MD_order 37 = .ok (.iconst (-1), 1) := by decide +kernel
theorem d_MD_order_38 : decode b_MD_order 38 = .ok (.goto 4, 3) := by decide +kernel
theorem d_MD_order_41 : decode b_MD_order 41 = .ok (.iconst 1, 1) := by decide +kernel
theorem d_MD_order_42 : decode b_MD_order 42 = .ok (.ireturn, 1) := by decide +kernel
theorem d_MD_order_43 : decode b_MD_order 43 = .ok (.lload_n 2, 1) := by decide +kernel
