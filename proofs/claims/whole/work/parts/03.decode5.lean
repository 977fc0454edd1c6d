theorem d_Y_stretchOne_84 : decode b_Y_stretchOne 84 = .ok (.iastore, 1) := by decide +kernel
theorem d_Y_stretchOne_85 : decode b_Y_stretchOne 85 = .ok (.aload_n 0, 1) := by decide +kernel
theorem d_Y_stretchOne_86 : decode b_Y_stretchOne 86 = .ok (.getfield 23, 3) := by decide +kernel
theorem d_Y_stretchOne_89 : decode b_Y_stretchOne 89 = .ok (.iload_n 1, 1) := by decide +kernel
theorem d_Y_stretchOne_90 : decode b_Y_stretchOne 90 = .ok (.iload 4, 2) := by decide +kernel
theorem d_Y_stretchOne_92 : decode b_Y_stretchOne 92 = .ok (.iconst 1, 1) := by decide +kernel
theorem d_Y_stretchOne_93 : decode b_Y_stretchOne 93 = .ok (.iadd, 1) := by decide +kernel
theorem d_Y_stretchOne_94 : decode b_Y_stretchOne 94 = .ok (.iastore, 1) := by decide +kernel
theorem d_Y_stretchOne_95 : decode b_Y_stretchOne 95 = .ok (.return_, 1) := by decide +kernel
theorem d_Y_stretch_0 : decode b_Y_stretch 0 = .ok (.aload_n 0, 1) := by decide +kernel
theorem d_Y_stretch_1 : decode b_Y_stretch 1 = .ok (.invokevirtual 141, 3) := by decide +kernel
theorem d_Y_stretch_4 : decode b_Y_stretch 4 = .ok (.ifCond .eq 18, 3) := by decide +kernel
theorem d_Y_stretch_7 : decode b_Y_stretch 7 = .ok (.aload_n 0, 1) := by decide +kernel
theorem d_Y_stretch_8 : decode b_Y_stretch 8 = .ok (.getfield 66, 3) := by decide +kernel
theorem d_Y_stretch_11 : decode b_Y_stretch 11 = .ok (.ifCond .ne 11, 3) := by decide +kernel
theorem d_Y_stretch_14 : decode b_Y_stretch 14 = .ok (.aload_n 0, 1) := by decide +kernel
theorem d_Y_stretch_15 : decode b_Y_stretch 15 = .ok (.invokevirtual 148, 3) := by decide +kernel
theorem d_Y_stretch_18 : decode b_Y_stretch 18 = .ok (.iconst 1, 1) := by decide +kernel
theorem d_Y_stretch_19 : decode b_Y_stretch 19 = .ok (.if_icmp .eq 9, 3) := by decide +kernel
theorem d_Y_stretch_22 : decode b_Y_stretch 22 = .ok (.aload_n 0, 1) := by decide +kernel
theorem d_Y_stretch_23 : decode b_Y_stretch 23 = .ok (.iconst 1, 1) := by decide +kernel
theorem d_Y_stretch_24 : decode b_Y_stretch 24 = .ok (.invokevirtual 145, 3) := by decide +kernel
theorem d_Y_stretch_27 : decode b_Y_stretch 27 = .ok (.ireturn, 1) := by decide +kernel
theorem d_Y_stretch_28 : decode b_Y_stretch 28 = .ok (.aload_n 0, 1) := by decide +kernel
theorem d_Y_stretch_29 : decode b_Y_stretch 29 = .ok (.iconst 0, 1) := by decide +kernel
theorem d_Y_stretch_30 : decode b_Y_stretch 30 = .ok (.putfield 62, 3) := by decide +kernel
theorem d_Y_stretch_33 : decode b_Y_stretch 33 = .ok (.iconst 0, 1) := by decide +kernel
theorem d_Y_stretch_34 : decode b_Y_stretch 34 = .ok (.istore_n 1, 1) := by decide +kernel
theorem d_Y_stretch_35 : decode b_Y_stretch 35 = .ok (.iconst 0, 1) := by decide +kernel
theorem d_Y_stretch_36 : decode b_Y_stretch 36 = .ok (.istore_n 2, 1) := by decide +kernel
theorem d_Y_stretch_37 : decode b_Y_stretch 37 = .ok (.iconst (-1), 1) := by decide +kernel
theorem d_Y_stretch_38 : decode b_Y_stretch 38 = .ok (.istore_n 3, 1) := by decide +kernel
theorem d_Y_stretch_39 : decode b_Y_stretch 39 = .ok (.aload_n 0, 1) := by decide +kernel
theorem d_Y_stretch_40 : decode b_Y_stretch 40 = .ok (.bipush 100, 2) := by decide +kernel
theorem d_Y_stretch_42 : decode b_Y_stretch 42 = .ok (.invokevirtual 134, 3) := by decide +kernel
theorem d_Y_stretch_45 : decode b_Y_stretch 45 = .ok (.istore 4, 2) := by decide +kernel
theorem d_Y_stretch_47 : decode b_Y_stretch 47 = .ok (.iload 4, 2) := by decide +kernel
theorem d_Y_stretch_49 : decode b_Y_stretch 49 = .ok (.ifCond .eq 98, 3) := by decide +kernel
theorem d_Y_stretch_52 : decode b_Y_stretch 52 = .ok (.aload_n 0, 1) := by decide +kernel
theorem d_Y_stretch_53 : decode b_Y_stretch 53 = .ok (.iload 4, 2) := by decide +kernel
theorem d_Y_stretch_55 : decode b_Y_stretch 55 = .ok (.invokevirtual 100, 3) := by decide +kernel
theorem d_Y_stretch_58 : decode b_Y_stretch 58 = .ok (.istore 5, 2) := by decide +kernel
theorem d_Y_stretch_60 : decode b_Y_stretch 60 = .ok (.iload_n 1, 1) := by decide +kernel
theorem d_Y_stretch_61 : decode b_Y_stretch 61 = .ok (.aload_n 0, 1) := by decide +kernel
theorem d_Y_stretch_62 : decode b_Y_stretch 62 = .ok (.getfield 23, 3) := by decide +kernel
theorem d_Y_stretch_65 : decode b_Y_stretch 65 = .ok (.iload 4, 2) := by decide +kernel
theorem d_Y_stretch_67 : decode b_Y_stretch 67 = .ok (.iaload, 1) := by decide +kernel
theorem d_Y_stretch_68 : decode b_Y_stretch 68 = .ok (.iadd, 1) := by decide +kernel
theorem d_Y_stretch_69 : decode b_Y_stretch 69 = .ok (.istore_n 1, 1) := by decide +kernel
theorem d_Y_stretch_70 : decode b_Y_stretch 70 = .ok (.aload_n 0, 1) := by decide +kernel
theorem d_Y_stretch_71 : decode b_Y_stretch 71 = .ok (.iload 4, 2) := by decide +kernel
theorem d_Y_stretch_73 : decode b_Y_stretch 73 = .ok (.iload_n 3, 1) := by decide +kernel
theorem d_Y_stretch_74 : decode b_Y_stretch 74 = .ok (.iconst (-1), 1) := by decide +kernel
theorem d_Y_stretch_75 : decode b_Y_stretch 75 = .ok (.if_icmp .eq 9, 3) := by decide +kernel
theorem d_Y_stretch_78 : decode b_Y_stretch 78 = .ok (.iload_n 3, 1) := by decide +kernel
theorem d_Y_stretch_79 : decode b_Y_stretch 79 = .ok (.iload 5, 2) := by decide +kernel
theorem d_Y_stretch_81 : decode b_Y_stretch 81 = .ok (.if_icmp .le 8, 3) := by decide +kernel
theorem d_Y_stretch_84 : decode b_Y_stretch 84 = .ok (.iload 5, 2) := by decide +kernel
theorem d_Y_stretch_86 : decode b_Y_stretch 86 = .ok (.goto 4, 3) := by decide +kernel
theorem d_Y_stretch_89 : decode b_Y_stretch 89 = .ok (.iload_n 3, 1) := by decide +kernel
theorem d_Y_stretch_90 : decode b_Y_stretch 90 = .ok (.invokevirtual 158, 3) := by decide +kernel
theorem d_Y_stretch_93 : decode b_Y_stretch 93 = .ok (.iload_n 2, 1) := by decide +kernel
theorem d_Y_stretch_94 : decode b_Y_stretch 94 = .ok (.aload_n 0, 1) := by decide +kernel
theorem d_Y_stretch_95 : decode b_Y_stretch 95 = .ok (.getfield 23, 3) := by decide +kernel
theorem d_Y_stretch_98 : decode b_Y_stretch 98 = .ok (.iload 4, 2) := by decide +kernel
theorem d_Y_stretch_100 : decode b_Y_stretch 100 = .ok (.iaload, 1) := by decide +kernel
theorem d_Y_stretch_101 : decode b_Y_stretch 101 = .ok (.iadd, 1) := by decide +kernel
theorem d_Y_stretch_102 : decode b_Y_stretch 102 = .ok (.istore_n 2, 1) := by decide +kernel
theorem d_Y_stretch_103 : decode b_Y_stretch 103 = .ok (.aload_n 0, 1) := by decide +kernel
theorem d_Y_stretch_104 : decode b_Y_stretch 104 = .ok (.iload 4, 2) := by decide +kernel
theorem d_Y_stretch_106 : decode b_Y_stretch 106 = .ok (.invokevirtual 155, 3) := by decide +kernel
theorem d_Y_stretch_109 : decode b_Y_stretch 109 = .ok (.iconst 1, 1) := by decide +kernel
theorem d_Y_stretch_110 : decode b_Y_stretch 110 = .ok (.iadd, 1) := by decide +kernel
theorem d_Y_stretch_111 : decode b_Y_stretch 111 = .ok (.istore 6, 2) := by decide +kernel
theorem d_Y_stretch_113 : decode b_Y_stretch 113 = .ok (.iload_n 3, 1) := by decide +kernel
theorem d_Y_stretch_114 : decode b_Y_stretch 114 = .ok (.iconst (-1), 1) := by decide +kernel
theorem d_Y_stretch_115 : decode b_Y_stretch 115 = .ok (.if_icmp .eq 9, 3) := by decide +kernel
theorem d_Y_stretch_118 : decode b_Y_stretch 118 = .ok (.iload 6, 2) := by decide +kernel
theorem d_Y_stretch_120 : decode b_Y_stretch 120 = .ok (.iload_n 3, 1) := by decide +kernel
theorem d_Y_stretch_121 : decode b_Y_stretch 121 = .ok (.if_icmp .ge 8, 3) := by decide +kernel
theorem d_Y_stretch_124 : decode b_Y_stretch 124 = .ok (.iload 6, 2) := by decide +kernel
theorem d_Y_stretch_126 : decode b_Y_stretch 126 = .ok (.goto 4, 3) := by decide +kernel
theorem d_Y_stretch_129 : decode b_Y_stretch 129 = .ok (.iload_n 3, 1) := by decide +kernel
theorem d_Y_stretch_130 : decode b_Y_stretch 130 = .ok (.istore_n 3, 1) := by decide +kernel
theorem d_Y_stretch_131 : decode b_Y_stretch 131 = .ok (.aload_n 0, 1) := by decide +kernel
theorem d_Y_stretch_132 : decode b_Y_stretch 132 = .ok (.aload_n 0, 1) := by decide +kernel
theorem d_Y_stretch_133 : decode b_Y_stretch 133 = .ok (.getfield 20, 3) := by decide +kernel
theorem d_Y_stretch_136 : decode b_Y_stretch 136 = .ok (.iload 4, 2) := by decide +kernel
theorem d_Y_stretch_138 : decode b_Y_stretch 138 = .ok (.iaload, 1) := by decide +kernel
theorem d_Y_stretch_139 : decode b_Y_stretch 139 = .ok (.invokevirtual 134, 3) := by decide +kernel
theorem d_Y_stretch_142 : decode b_Y_stretch 142 = .ok (.istore 4, 2) := by decide +kernel
theorem d_Y_stretch_144 : decode b_Y_stretch 144 = .ok (.goto (-97), 3) := by decide +kernel
theorem d_Y_stretch_147 : decode b_Y_stretch 147 = .ok (.iload_n 1, 1) := by decide +kernel
theorem d_Y_stretch_148 : decode b_Y_stretch 148 = .ok (.iload_n 2, 1) := by decide +kernel
theorem d_Y_stretch_149 : decode b_Y_stretch 149 = .ok (.isub, 1) := by decide +kernel
theorem d_Y_stretch_150 : decode b_Y_stretch 150 = .ok (.ireturn, 1) := by decide +kernel
theorem d_Y_scenario_0 : decode b_Y_scenario 0 = .ok (.aload_n 0, 1) := by decide +kernel
theorem d_Y_scenario_1 : decode b_Y_scenario 1 = .ok (.iload_n 1, 1) := by decide +kernel
theorem d_Y_scenario_2 : decode b_Y_scenario 2 = .ok (.invokevirtual 152, 3) := by decide +kernel
theorem d_Y_scenario_5 : decode b_Y_scenario 5 = .ok (.ifCond .ne 5, 3) := by decide +kernel
theorem d_Y_scenario_8 : decode b_Y_scenario 8 = .ok (.iconst 0, 1) := by decide +kernel
theorem d_Y_scenario_9 : decode b_Y_scenario 9 = .ok (.ireturn, 1) := by decide +kernel
theorem d_Y_scenario_10 : decode b_Y_scenario 10 = .ok (.iload_n 2, 1) := by decide +kernel
theorem d_Y_scenario_11 : decode b_Y_scenario 11 = .ok (.ifCond .lt 12, 3) := by decide +kernel
theorem d_Y_scenario_14 : decode b_Y_scenario 14 = .ok (.iload_n 3, 1) := by decide +kernel
theorem d_Y_scenario_15 : decode b_Y_scenario 15 = .ok (.ifCond .lt 8, 3) := by decide +kernel
theorem d_Y_scenario_18 : decode b_Y_scenario 18 = .ok (.iload_n 3, 1) := by decide +kernel
theorem d_Y_scenario_19 : decode b_Y_scenario 19 = .ok (.iconst 1, 1) := by decide +kernel
theorem d_Y_scenario_20 : decode b_Y_scenario 20 = .ok (.if_icmp .le 5, 3) := by decide +kernel
theorem d_Y_scenario_23 : decode b_Y_scenario 23 = .ok (.iconst (-1), 1) := by decide +kernel
theorem d_Y_scenario_24 : decode b_Y_scenario 24 = .ok (.ireturn, 1) := by decide +kernel
theorem d_Y_scenario_25 : decode b_Y_scenario 25 = .ok (.aload_n 0, 1) := by decide +kernel
theorem d_Y_scenario_26 : decode b_Y_scenario 26 = .ok (.iload_n 1, 1) := by decide +kernel
theorem d_Y_scenario_27 : decode b_Y_scenario 27 = .ok (.invokevirtual 103, 3) := by decide +kernel
theorem d_Y_scenario_30 : decode b_Y_scenario 30 = .ok (.istore 4, 2) := by decide +kernel
theorem d_Y_scenario_32 : decode b_Y_scenario 32 = .ok (.iconst 0, 1) := by decide +kernel
theorem d_Y_scenario_33 : decode b_Y_scenario 33 = .ok (.istore 5, 2) := by decide +kernel
theorem d_Y_scenario_35 : decode b_Y_scenario 35 = .ok (.iconst 0, 1) := by decide +kernel
theorem d_Y_scenario_36 : decode b_Y_scenario 36 = .ok (.istore 6, 2) := by decide +kernel
theorem d_Y_scenario_38 : decode b_Y_scenario 38 = .ok (.iload 4, 2) := by decide +kernel
theorem d_Y_scenario_40 : decode b_Y_scenario 40 = .ok (.ifCond .le 85, 3) := by decide +kernel
theorem d_Y_scenario_43 : decode b_Y_scenario 43 = .ok (.aload_n 0, 1) := by decide +kernel
theorem d_Y_scenario_44 : decode b_Y_scenario 44 = .ok (.aload_n 0, 1) := by decide +kernel
theorem d_Y_scenario_45 : decode b_Y_scenario 45 = .ok (.getfield 20, 3) := by decide +kernel
theorem d_Y_scenario_48 : decode b_Y_scenario 48 = .ok (.iload_n 1, 1) := by decide +kernel
theorem d_Y_scenario_49 : decode b_Y_scenario 49 = .ok (.iaload, 1) := by decide +kernel
theorem d_Y_scenario_50 : decode b_Y_scenario 50 = .ok (.invokevirtual 134, 3) := by decide +kernel
theorem d_Y_scenario_53 : decode b_Y_scenario 53 = .ok (.istore 6, 2) := by decide +kernel
theorem d_Y_scenario_55 : decode b_Y_scenario 55 = .ok (.aload_n 0, 1) := by decide +kernel
theorem d_Y_scenario_56 : decode b_Y_scenario 56 = .ok (.iload 6, 2) := by decide +kernel
theorem d_Y_scenario_58 : decode b_Y_scenario 58 = .ok (.invokevirtual 93, 3) := by decide +kernel
theorem d_Y_scenario_61 : decode b_Y_scenario 61 = .ok (.iload 4, 2) := by decide +kernel
theorem d_Y_scenario_63 : decode b_Y_scenario 63 = .ok (.iconst 1, 1) := by decide +kernel
theorem d_Y_scenario_64 : decode b_Y_scenario 64 = .ok (.iadd, 1) := by decide +kernel
theorem d_Y_scenario_65 : decode b_Y_scenario 65 = .ok (.if_icmp .eq 19, 3) := by decide +kernel
theorem d_Y_scenario_68 : decode b_Y_scenario 68 = .ok (.aload_n 0, 1) := by decide +kernel
theorem d_Y_scenario_69 : decode b_Y_scenario 69 = .ok (.aload_n 0, 1) := by decide +kernel
theorem d_Y_scenario_70 : decode b_Y_scenario 70 = .ok (.getfield 20, 3) := by decide +kernel
theorem d_Y_scenario_73 : decode b_Y_scenario 73 = .ok (.iload 6, 2) := by decide +kernel
theorem d_Y_scenario_75 : decode b_Y_scenario 75 = .ok (.iaload, 1) := by decide +kernel
theorem d_Y_scenario_76 : decode b_Y_scenario 76 = .ok (.invokevirtual 134, 3) := by decide +kernel
theorem d_Y_scenario_79 : decode b_Y_scenario 79 = .ok (.istore 6, 2) := by decide +kernel
theorem d_Y_scenario_81 : decode b_Y_scenario 81 = .ok (.goto (-26), 3) := by decide +kernel
theorem d_Y_scenario_84 : decode b_Y_scenario 84 = .ok (.iconst 0, 1) := by decide +kernel
theorem d_Y_scenario_85 : decode b_Y_scenario 85 = .ok (.istore 7, 2) := by decide +kernel
theorem d_Y_scenario_87 : decode b_Y_scenario 87 = .ok (.aload_n 0, 1) := by decide +kernel
theorem d_Y_scenario_88 : decode b_Y_scenario 88 = .ok (.getfield 26, 3) := by decide +kernel
theorem d_Y_scenario_91 : decode b_Y_scenario 91 = .ok (.bipush 8, 2) := by decide +kernel
theorem d_Y_scenario_93 : decode b_Y_scenario 93 = .ok (.iload 6, 2) := by decide +kernel
theorem d_Y_scenario_95 : decode b_Y_scenario 95 = .ok (.imul, 1) := by decide +kernel
theorem d_Y_scenario_96 : decode b_Y_scenario 96 = .ok (.iload 7, 2) := by decide +kernel
theorem d_Y_scenario_98 : decode b_Y_scenario 98 = .ok (.iadd, 1) := by decide +kernel
theorem d_Y_scenario_99 : decode b_Y_scenario 99 = .ok (.iaload, 1) := by decide +kernel
theorem d_Y_scenario_100 : decode b_Y_scenario 100 = .ok (.iload 4, 2) := by decide +kernel
theorem d_Y_scenario_102 : decode b_Y_scenario 102 = .ok (.iconst 1, 1) := by decide +kernel
theorem d_Y_scenario_103 : decode b_Y_scenario 103 = .ok (.iadd, 1) := by decide +kernel
theorem d_Y_scenario_104 : decode b_Y_scenario 104 = .ok (.if_icmp .eq 9, 3) := by decide +kernel
theorem d_Y_scenario_107 : decode b_Y_scenario 107 = .ok (.iinc 7 1, 3) := by decide +kernel
theorem d_Y_scenario_110 : decode b_Y_scenario 110 = .ok (.goto (-23), 3) := by decide +kernel
theorem d_Y_scenario_113 : decode b_Y_scenario 113 = .ok (.iconst 1, 1) := by decide +kernel
theorem d_Y_scenario_114 : decode b_Y_scenario 114 = .ok (.aload_n 0, 1) := by decide +kernel
theorem d_Y_scenario_115 : decode b_Y_scenario 115 = .ok (.iload 6, 2) := by decide +kernel
theorem d_Y_scenario_117 : decode b_Y_scenario 117 = .ok (.iload 7, 2) := by decide +kernel
theorem d_Y_scenario_119 : decode b_Y_scenario 119 = .ok (.invokevirtual 89, 3) := by decide +kernel
theorem d_Y_scenario_122 : decode b_Y_scenario 122 = .ok (.iadd, 1) := by decide +kernel
theorem d_Y_scenario_123 : decode b_Y_scenario 123 = .ok (.istore 5, 2) := by decide +kernel
theorem d_Y_scenario_125 : decode b_Y_scenario 125 = .ok (.iload 4, 2) := by decide +kernel
theorem d_Y_scenario_127 : decode b_Y_scenario 127 = .ok (.ifCond .le 18, 3) := by decide +kernel
theorem d_Y_scenario_130 : decode b_Y_scenario 130 = .ok (.iload_n 2, 1) := by decide +kernel
theorem d_Y_scenario_131 : decode b_Y_scenario 131 = .ok (.ifCond .ne 14, 3) := by decide +kernel
theorem d_Y_scenario_134 : decode b_Y_scenario 134 = .ok (.iload_n 3, 1) := by decide +kernel
theorem d_Y_scenario_135 : decode b_Y_scenario 135 = .ok (.ifCond .ne 7, 3) := by decide +kernel
theorem d_Y_scenario_138 : decode b_Y_scenario 138 = .ok (.iconst 0, 1) := by decide +kernel
theorem d_Y_scenario_139 : decode b_Y_scenario 139 = .ok (.goto 5, 3) := by decide +kernel
theorem d_Y_scenario_142 : decode b_Y_scenario 142 = .ok (.iload 6, 2) := by decide +kernel
theorem d_Y_scenario_144 : decode b_Y_scenario 144 = .ok (.ireturn, 1) := by decide +kernel
theorem d_Y_scenario_145 : decode b_Y_scenario 145 = .ok (.iload 4, 2) := by decide +kernel
theorem d_Y_scenario_147 : decode b_Y_scenario 147 = .ok (.ifCond .le 7, 3) := by decide +kernel
theorem d_Y_scenario_150 : decode b_Y_scenario 150 = .ok (.iconst 1, 1) := by decide +kernel
theorem d_Y_scenario_151 : decode b_Y_scenario 151 = .ok (.goto 4, 3) := by decide +kernel
theorem d_Y_scenario_154 : decode b_Y_scenario 154 = .ok (.iconst 0, 1) := by decide +kernel
theorem d_Y_scenario_155 : decode b_Y_scenario 155 = .ok (.istore 7, 2) := by decide +kernel
theorem d_Y_scenario_157 : decode b_Y_scenario 157 = .ok (.aload_n 0, 1) := by decide +kernel
theorem d_Y_scenario_158 : decode b_Y_scenario 158 = .ok (.getfield 116, 3) := by decide +kernel
theorem d_Y_scenario_161 : decode b_Y_scenario 161 = .ok (.aload_n 0, 1) := by decide +kernel
theorem d_Y_scenario_162 : decode b_Y_scenario 162 = .ok (.getfield 13, 3) := by decide +kernel
theorem d_Y_scenario_165 : decode b_Y_scenario 165 = .ok (.iload_n 1, 1) := by decide +kernel
theorem d_Y_scenario_166 : decode b_Y_scenario 166 = .ok (.iaload, 1) := by decide +kernel
theorem d_Y_scenario_167 : decode b_Y_scenario 167 = .ok (.imul, 1) := by decide +kernel
theorem d_Y_scenario_168 : decode b_Y_scenario 168 = .ok (.aload_n 0, 1) := by decide +kernel
theorem d_Y_scenario_169 : decode b_Y_scenario 169 = .ok (.getfield 113, 3) := by decide +kernel
theorem d_Y_scenario_172 : decode b_Y_scenario 172 = .ok (.iadd, 1) := by decide +kernel
theorem d_Y_scenario_173 : decode b_Y_scenario 173 = .ok (.istore 8, 2) := by decide +kernel
theorem d_Y_scenario_175 : decode b_Y_scenario 175 = .ok (.iconst 0, 1) := by decide +kernel
theorem d_Y_scenario_176 : decode b_Y_scenario 176 = .ok (.istore 9, 2) := by decide +kernel
theorem d_Y_scenario_178 : decode b_Y_scenario 178 = .ok (.iload 9, 2) := by decide +kernel
theorem d_Y_scenario_180 : decode b_Y_scenario 180 = .ok (.iload 8, 2) := by decide +kernel
theorem d_Y_scenario_182 : decode b_Y_scenario 182 = .ok (.if_icmp .ge 117, 3) := by decide +kernel
theorem d_Y_scenario_185 : decode b_Y_scenario 185 = .ok (.aload_n 0, 1) := by decide +kernel
theorem d_Y_scenario_186 : decode b_Y_scenario 186 = .ok (.bipush 100, 2) := by decide +kernel
theorem d_Y_scenario_188 : decode b_Y_scenario 188 = .ok (.invokevirtual 134, 3) := by decide +kernel
theorem d_Y_scenario_191 : decode b_Y_scenario 191 = .ok (.istore 10, 2) := by decide +kernel
theorem d_Y_scenario_193 : decode b_Y_scenario 193 = .ok (.iload 10, 2) := by decide +kernel
theorem d_Y_scenario_195 : decode b_Y_scenario 195 = .ok (.ifCond .eq 98, 3) := by decide +kernel
theorem d_Y_scenario_198 : decode b_Y_scenario 198 = .ok (.aload_n 0, 1) := by decide +kernel
theorem d_Y_scenario_199 : decode b_Y_scenario 199 = .ok (.getfield 20, 3) := by decide +kernel
theorem d_Y_scenario_202 : decode b_Y_scenario 202 = .ok (.iload 10, 2) := by decide +kernel
theorem d_Y_scenario_204 : decode b_Y_scenario 204 = .ok (.iaload, 1) := by decide +kernel
theorem d_Y_scenario_205 : decode b_Y_scenario 205 = .ok (.aload_n 0, 1) := by decide +kernel
theorem d_Y_scenario_206 : decode b_Y_scenario 206 = .ok (.getfield 20, 3) := by decide +kernel
theorem d_Y_scenario_209 : decode b_Y_scenario 209 = .ok (.iload_n 1, 1) := by decide +kernel
theorem d_Y_scenario_210 : decode b_Y_scenario 210 = .ok (.iaload, 1) := by decide +kernel
theorem d_Y_scenario_211 : decode b_Y_scenario 211 = .ok (.if_icmp .lt 82, 3) := by decide +kernel
theorem d_Y_scenario_214 : decode b_Y_scenario 214 = .ok (.iload 9, 2) := by decide +kernel
theorem d_Y_scenario_216 : decode b_Y_scenario 216 = .ok (.aload_n 0, 1) := by decide +kernel
theorem d_Y_scenario_217 : decode b_Y_scenario 217 = .ok (.getfield 13, 3) := by decide +kernel
theorem d_Y_scenario_220 : decode b_Y_scenario 220 = .ok (.iload 10, 2) := by decide +kernel
theorem d_Y_scenario_222 : decode b_Y_scenario 222 = .ok (.iaload, 1) := by decide +kernel
theorem d_Y_scenario_223 : decode b_Y_scenario 223 = .ok (.irem, 1) := by decide +kernel
theorem d_Y_scenario_224 : decode b_Y_scenario 224 = .ok (.ifCond .ne 53, 3) := by decide +kernel
theorem d_Y_scenario_227 : decode b_Y_scenario 227 = .ok (.iload 10, 2) := by decide +kernel
theorem d_Y_scenario_229 : decode b_Y_scenario 229 = .ok (.iload_n 1, 1) := by decide +kernel
theorem d_Y_scenario_230 : decode b_Y_scenario 230 = .ok (.if_icmp .ne 23, 3) := by decide +kernel
theorem d_Y_scenario_233 : decode b_Y_scenario 233 = .ok (.iload 9, 2) := by decide +kernel
theorem d_Y_scenario_235 : decode b_Y_scenario 235 = .ok (.aload_n 0, 1) := by decide +kernel
theorem d_Y_scenario_236 : decode b_Y_scenario 236 = .ok (.getfield 13, 3) := by decide +kernel
theorem d_Y_scenario_239 : decode b_Y_scenario 239 = .ok (.iload 10, 2) := by decide +kernel
theorem d_Y_scenario_241 : decode b_Y_scenario 241 = .ok (.iaload, 1) := by decide +kernel
theorem d_Y_scenario_242 : decode b_Y_scenario 242 = .ok (.idiv, 1) := by decide +kernel
theorem d_Y_scenario_243 : decode b_Y_scenario 243 = .ok (.aload_n 0, 1) := by decide +kernel
theorem d_Y_scenario_244 : decode b_Y_scenario 244 = .ok (.getfield 116, 3) := by decide +kernel
theorem d_Y_scenario_247 : decode b_Y_scenario 247 = .ok (.if_icmp .le 6, 3) := by decide +kernel
theorem d_Y_scenario_250 : decode b_Y_scenario 250 = .ok (.goto 27, 3) := by decide +kernel
theorem d_Y_scenario_253 : decode b_Y_scenario 253 = .ok (.iload 7, 2) := by decide +kernel
theorem d_Y_scenario_255 : decode b_Y_scenario 255 = .ok (.iload_n 2, 1) := by decide +kernel
theorem d_Y_scenario_256 : decode b_Y_scenario 256 = .ok (.if_icmp .ne 18, 3) := by decide +kernel
theorem d_Y_scenario_259 : decode b_Y_scenario 259 = .ok (.iload_n 3, 1) := by decide +kernel
theorem d_Y_scenario_260 : decode b_Y_scenario 260 = .ok (.ifCond .ne 11, 3) := by decide +kernel
theorem d_Y_scenario_263 : decode b_Y_scenario 263 = .ok (.iload 5, 2) := by decide +kernel
theorem d_Y_scenario_265 : decode b_Y_scenario 265 = .ok (.iload 9, 2) := by decide +kernel
theorem d_Y_scenario_267 : decode b_Y_scenario 267 = .ok (.iadd, 1) := by decide +kernel
theorem d_Y_scenario_268 : decode b_Y_scenario 268 = .ok (.goto 5, 3) := by decide +kernel
theorem d_Y_scenario_271 : decode b_Y_scenario 271 = .ok (.iload 10, 2) := by decide +kernel
theorem d_Y_scenario_273 : decode b_Y_scenario 273 = .ok (.ireturn, 1) := by decide +kernel
theorem d_Y_scenario_274 : decode b_Y_scenario 274 = .ok (.iinc 7 1, 3) := by decide +kernel
theorem d_Y_scenario_277 : decode b_Y_scenario 277 = .ok (.aload_n 0, 1) := by decide +kernel
theorem d_Y_scenario_278 : decode b_Y_scenario 278 = .ok (.aload_n 0, 1) := by decide +kernel
theorem d_Y_scenario_279 : decode b_Y_scenario 279 = .ok (.getfield 20, 3) := by decide +kernel
theorem d_Y_scenario_282 : decode b_Y_scenario 282 = .ok (.iload 10, 2) := by decide +kernel
theorem d_Y_scenario_284 : decode b_Y_scenario 284 = .ok (.iaload, 1) := by decide +kernel
theorem d_Y_scenario_285 : decode b_Y_scenario 285 = .ok (.invokevirtual 134, 3) := by decide +kernel
theorem d_Y_scenario_288 : decode b_Y_scenario 288 = .ok (.istore 10, 2) := by decide +kernel
theorem d_Y_scenario_290 : decode b_Y_scenario 290 = .ok (.goto (-97), 3) := by decide +kernel
theorem d_Y_scenario_293 : decode b_Y_scenario 293 = .ok (.iinc 9 1, 3) := by decide +kernel
theorem d_Y_scenario_296 : decode b_Y_scenario 296 = .ok (.goto (-118), 3) := by decide +kernel
theorem d_Y_scenario_299 : decode b_Y_scenario 299 = .ok (.iconst (-1), 1) := by decide +kernel
theorem d_Y_scenario_300 : decode b_Y_scenario 300 = .ok (.ireturn, 1) := by decide +kernel
theorem d_Y_arrive_0 : decode b_Y_arrive 0 = .ok (.aload_n 0, 1) := by decide +kernel
theorem d_Y_arrive_1 : decode b_Y_arrive 1 = .ok (.iconst 0, 1) := by decide +kernel
theorem d_Y_arrive_2 : decode b_Y_arrive 2 = .ok (.putfield 62, 3) := by decide +kernel
theorem d_Y_arrive_5 : decode b_Y_arrive 5 = .ok (.aload_n 0, 1) := by decide +kernel
theorem d_Y_arrive_6 : decode b_Y_arrive 6 = .ok (.iload_n 1, 1) := by decide +kernel
theorem d_Y_arrive_7 : decode b_Y_arrive 7 = .ok (.invokevirtual 70, 3) := by decide +kernel
theorem d_Y_arrive_10 : decode b_Y_arrive 10 = .ok (.ifCond .eq 57, 3) := by decide +kernel
theorem d_Y_arrive_13 : decode b_Y_arrive 13 = .ok (.aload_n 0, 1) := by decide +kernel
theorem d_Y_arrive_14 : decode b_Y_arrive 14 = .ok (.invokevirtual 141, 3) := by decide +kernel
theorem d_Y_arrive_17 : decode b_Y_arrive 17 = .ok (.ifCond .eq 50, 3) := by decide +kernel
theorem d_Y_arrive_20 : decode b_Y_arrive 20 = .ok (.aload_n 0, 1) := by decide +kernel
theorem d_Y_arrive_21 : decode b_Y_arrive 21 = .ok (.getfield 35, 3) := by decide +kernel
theorem d_Y_arrive_24 : decode b_Y_arrive 24 = .ok (.iload_n 1, 1) := by decide +kernel
theorem d_Y_arrive_25 : decode b_Y_arrive 25 = .ok (.iaload, 1) := by decide +kernel
theorem d_Y_arrive_26 : decode b_Y_arrive 26 = .ok (.ifCond .le 23, 3) := by decide +kernel
theorem d_Y_arrive_29 : decode b_Y_arrive 29 = .ok (.aload_n 0, 1) := by decide +kernel
theorem d_Y_arrive_30 : decode b_Y_arrive 30 = .ok (.getfield 74, 3) := by decide +kernel
theorem d_Y_arrive_33 : decode b_Y_arrive 33 = .ok (.aload_n 0, 1) := by decide +kernel
theorem d_Y_arrive_34 : decode b_Y_arrive 34 = .ok (.getfield 41, 3) := by decide +kernel
theorem d_Y_arrive_37 : decode b_Y_arrive 37 = .ok (.iload_n 1, 1) := by decide +kernel
theorem d_Y_arrive_38 : decode b_Y_arrive 38 = .ok (.iaload, 1) := by decide +kernel
theorem d_Y_arrive_39 : decode b_Y_arrive 39 = .ok (.isub, 1) := by decide +kernel
theorem d_Y_arrive_40 : decode b_Y_arrive 40 = .ok (.aload_n 0, 1) := by decide +kernel
theorem d_Y_arrive_41 : decode b_Y_arrive 41 = .ok (.getfield 13, 3) := by decide +kernel
theorem d_Y_arrive_44 : decode b_Y_arrive 44 = .ok (.iload_n 1, 1) := by decide +kernel
theorem d_Y_arrive_45 : decode b_Y_arrive 45 = .ok (.iaload, 1) := by decide +kernel
theorem d_Y_arrive_46 : decode b_Y_arrive 46 = .ok (.if_icmp .lt 21, 3) := by decide +kernel
theorem d_Y_arrive_49 : decode b_Y_arrive 49 = .ok (.aload_n 0, 1) := by decide +kernel
theorem d_Y_arrive_50 : decode b_Y_arrive 50 = .ok (.getfield 35, 3) := by decide +kernel
theorem d_Y_arrive_53 : decode b_Y_arrive 53 = .ok (.iload_n 1, 1) := by decide +kernel
theorem d_Y_arrive_54 : decode b_Y_arrive 54 = .ok (.iaload, 1) := by decide +kernel
theorem d_Y_arrive_55 : decode b_Y_arrive 55 = .ok (.aload_n 0, 1) := by decide +kernel
theorem d_Y_arrive_56 : decode b_Y_arrive 56 = .ok (.getfield 38, 3) := by decide +kernel
theorem d_Y_arrive_59 : decode b_Y_arrive 59 = .ok (.iload_n 1, 1) := by decide +kernel
theorem d_Y_arrive_60 : decode b_Y_arrive 60 = .ok (.iaload, 1) := by decide +kernel
theorem d_Y_arrive_61 : decode b_Y_arrive 61 = .ok (.isub, 1) := by decide +kernel
theorem d_Y_arrive_62 : decode b_Y_arrive 62 = .ok (.bipush 9, 2) := by decide +kernel
theorem d_Y_arrive_64 : decode b_Y_arrive 64 = .ok (.if_icmp .ne 5, 3) := by decide +kernel
theorem d_Y_arrive_67 : decode b_Y_arrive 67 = .ok (.iconst 0, 1) := by decide +kernel
theorem d_Y_arrive_68 : decode b_Y_arrive 68 = .ok (.ireturn, 1) := by decide +kernel
theorem d_Y_arrive_69 : decode b_Y_arrive 69 = .ok (.aload_n 0, 1) := by decide +kernel
theorem d_Y_arrive_70 : decode b_Y_arrive 70 = .ok (.getfield 44, 3) := by decide +kernel
theorem d_Y_arrive_73 : decode b_Y_arrive 73 = .ok (.bipush 9, 2) := by decide +kernel
theorem d_Y_arrive_75 : decode b_Y_arrive 75 = .ok (.iload_n 1, 1) := by decide +kernel
theorem d_Y_arrive_76 : decode b_Y_arrive 76 = .ok (.imul, 1) := by decide +kernel
theorem d_Y_arrive_77 : decode b_Y_arrive 77 = .ok (.aload_n 0, 1) := by decide +kernel
theorem d_Y_arrive_78 : decode b_Y_arrive 78 = .ok (.getfield 35, 3) := by decide +kernel
theorem d_Y_arrive_81 : decode b_Y_arrive 81 = .ok (.iload_n 1, 1) := by decide +kernel
theorem d_Y_arrive_82 : decode b_Y_arrive 82 = .ok (.iaload, 1) := by decide +kernel
theorem d_Y_arrive_83 : decode b_Y_arrive 83 = .ok (.bipush 9, 2) := by decide +kernel
theorem d_Y_arrive_85 : decode b_Y_arrive 85 = .ok (.irem, 1) := by decide +kernel
theorem d_Y_arrive_86 : decode b_Y_arrive 86 = .ok (.iadd, 1) := by decide +kernel
theorem d_Y_arrive_87 : decode b_Y_arrive 87 = .ok (.aload_n 0, 1) := by decide +kernel
theorem d_Y_arrive_88 : decode b_Y_arrive 88 = .ok (.getfield 74, 3) := by decide +kernel
theorem d_Y_arrive_91 : decode b_Y_arrive 91 = .ok (.iastore, 1) := by decide +kernel
theorem d_Y_arrive_92 : decode b_Y_arrive 92 = .ok (.aload_n 0, 1) := by decide +kernel
theorem d_Y_arrive_93 : decode b_Y_arrive 93 = .ok (.getfield 41, 3) := by decide +kernel
theorem d_Y_arrive_96 : decode b_Y_arrive 96 = .ok (.iload_n 1, 1) := by decide +kernel
theorem d_Y_arrive_97 : decode b_Y_arrive 97 = .ok (.aload_n 0, 1) := by decide +kernel
theorem d_Y_arrive_98 : decode b_Y_arrive 98 = .ok (.getfield 74, 3) := by decide +kernel
theorem d_Y_arrive_101 : decode b_Y_arrive 101 = .ok (.iastore, 1) := by decide +kernel
theorem d_Y_arrive_102 : decode b_Y_arrive 102 = .ok (.aload_n 0, 1) := by decide +kernel
theorem d_Y_arrive_103 : decode b_Y_arrive 103 = .ok (.getfield 35, 3) := by decide +kernel
theorem d_Y_arrive_106 : decode b_Y_arrive 106 = .ok (.iload_n 1, 1) := by decide +kernel
theorem d_Y_arrive_107 : decode b_Y_arrive 107 = .ok (.dup2, 1) := by decide +kernel
theorem d_Y_arrive_108 : decode b_Y_arrive 108 = .ok (.iaload, 1) := by decide +kernel
theorem d_Y_arrive_109 : decode b_Y_arrive 109 = .ok (.iconst 1, 1) := by decide +kernel
theorem d_Y_arrive_110 : decode b_Y_arrive 110 = .ok (.iadd, 1) := by decide +kernel
theorem d_Y_arrive_111 : decode b_Y_arrive 111 = .ok (.iastore, 1) := by decide +kernel
theorem d_Y_arrive_112 : decode b_Y_arrive 112 = .ok (.aload_n 0, 1) := by decide +kernel
theorem d_Y_arrive_113 : decode b_Y_arrive 113 = .ok (.iconst 1, 1) := by decide +kernel
theorem d_Y_arrive_114 : decode b_Y_arrive 114 = .ok (.putfield 66, 3) := by decide +kernel
theorem d_Y_arrive_117 : decode b_Y_arrive 117 = .ok (.iconst 1, 1) := by decide +kernel
theorem d_Y_arrive_118 : decode b_Y_arrive 118 = .ok (.ireturn, 1) := by decide +kernel
theorem d_Y_waiting_0 : decode b_Y_waiting 0 = .ok (.iconst 0, 1) := by decide +kernel
theorem d_Y_waiting_1 : decode b_Y_waiting 1 = .ok (.istore_n 1, 1) := by decide +kernel
theorem d_Y_waiting_2 : decode b_Y_waiting 2 = .ok (.iconst 1, 1) := by decide +kernel
theorem d_Y_waiting_3 : decode b_Y_waiting 3 = .ok (.istore_n 2, 1) := by decide +kernel
theorem d_Y_waiting_4 : decode b_Y_waiting 4 = .ok (.iload_n 2, 1) := by decide +kernel
theorem d_Y_waiting_5 : decode b_Y_waiting 5 = .ok (.bipush 8, 2) := by decide +kernel
theorem d_Y_waiting_7 : decode b_Y_waiting 7 = .ok (.if_icmp .gt 54, 3) := by decide +kernel
theorem d_Y_waiting_10 : decode b_Y_waiting 10 = .ok (.aload_n 0, 1) := by decide +kernel
theorem d_Y_waiting_11 : decode b_Y_waiting 11 = .ok (.getfield 7, 3) := by decide +kernel
theorem d_Y_waiting_14 : decode b_Y_waiting 14 = .ok (.iload_n 2, 1) := by decide +kernel
theorem d_Y_waiting_15 : decode b_Y_waiting 15 = .ok (.baload, 1) := by decide +kernel
theorem d_Y_waiting_16 : decode b_Y_waiting 16 = .ok (.ifCond .eq 39, 3) := by decide +kernel
theorem d_Y_waiting_19 : decode b_Y_waiting 19 = .ok (.aload_n 0, 1) := by decide +kernel
theorem d_Y_waiting_20 : decode b_Y_waiting 20 = .ok (.getfield 35, 3) := by decide +kernel
theorem d_Y_waiting_23 : decode b_Y_waiting 23 = .ok (.iload_n 2, 1) := by decide +kernel
theorem d_Y_waiting_24 : decode b_Y_waiting 24 = .ok (.iaload, 1) := by decide +kernel
theorem d_Y_waiting_25 : decode b_Y_waiting 25 = .ok (.aload_n 0, 1) := by decide +kernel
theorem d_Y_waiting_26 : decode b_Y_waiting 26 = .ok (.getfield 38, 3) := by decide +kernel
theorem d_Y_waiting_29 : decode b_Y_waiting 29 = .ok (.iload_n 2, 1) := by decide +kernel
theorem d_Y_waiting_30 : decode b_Y_waiting 30 = .ok (.iaload, 1) := by decide +kernel
theorem d_Y_waiting_31 : decode b_Y_waiting 31 = .ok (.if_icmp .le 24, 3) := by decide +kernel
theorem d_Y_waiting_34 : decode b_Y_waiting 34 = .ok (.iload_n 1, 1) := by decide +kernel
theorem d_Y_waiting_35 : decode b_Y_waiting 35 = .ok (.ifCond .eq 18, 3) := by decide +kernel
theorem d_Y_waiting_38 : decode b_Y_waiting 38 = .ok (.aload_n 0, 1) := by decide +kernel
theorem d_Y_waiting_39 : decode b_Y_waiting 39 = .ok (.getfield 20, 3) := by decide +kernel
theorem d_Y_waiting_42 : decode b_Y_waiting 42 = .ok (.iload_n 2, 1) := by decide +kernel
theorem d_Y_waiting_43 : decode b_Y_waiting 43 = .ok (.iaload, 1) := by decide +kernel
theorem d_Y_waiting_44 : decode b_Y_waiting 44 = .ok (.aload_n 0, 1) := by decide +kernel
theorem d_Y_waiting_45 : decode b_Y_waiting 45 = .ok (.getfield 20, 3) := by decide +kernel
theorem d_Y_waiting_48 : decode b_Y_waiting 48 = .ok (.iload_n 1, 1) := by decide +kernel
theorem d_Y_waiting_49 : decode b_Y_waiting 49 = .ok (.iaload, 1) := by decide +kernel
theorem d_Y_waiting_50 : decode b_Y_waiting 50 = .ok (.if_icmp .le 5, 3) := by decide +kernel
theorem d_Y_waiting_53 : decode b_Y_waiting 53 = .ok (.iload_n 2, 1) := by decide +kernel
theorem d_Y_waiting_54 : decode b_Y_waiting 54 = .ok (.istore_n 1, 1) := by decide +kernel
theorem d_Y_waiting_55 : decode b_Y_waiting 55 = .ok (.iinc 2 1, 3) := by decide +kernel
theorem d_Y_waiting_58 : decode b_Y_waiting 58 = .ok (.goto (-54), 3) := by decide +kernel
theorem d_Y_waiting_61 : decode b_Y_waiting 61 = .ok (.iload_n 1, 1) := by decide +kernel
theorem d_Y_waiting_62 : decode b_Y_waiting 62 = .ok (.ireturn, 1) := by decide +kernel
theorem d_Y_begin_0 : decode b_Y_begin 0 = .ok (.aload_n 0, 1) := by decide +kernel
theorem d_Y_begin_1 : decode b_Y_begin 1 = .ok (.invokevirtual 161, 3) := by decide +kernel
theorem d_Y_begin_4 : decode b_Y_begin 4 = .ok (.istore_n 1, 1) := by decide +kernel
theorem d_Y_begin_5 : decode b_Y_begin 5 = .ok (.iload_n 1, 1) := by decide +kernel
theorem d_Y_begin_6 : decode b_Y_begin 6 = .ok (.ifCond .ne 4, 3) := by decide +kernel
theorem d_Y_begin_9 : decode b_Y_begin 9 = .ok (.return_, 1) := by decide +kernel
theorem d_Y_begin_10 : decode b_Y_begin 10 = .ok (.aload_n 0, 1) := by decide +kernel
theorem d_Y_begin_11 : decode b_Y_begin 11 = .ok (.getfield 83, 3) := by decide +kernel
theorem d_Y_begin_14 : decode b_Y_begin 14 = .ok (.ifCond .eq 24, 3) := by decide +kernel
theorem d_Y_begin_17 : decode b_Y_begin 17 = .ok (.aload_n 0, 1) := by decide +kernel
theorem d_Y_begin_18 : decode b_Y_begin 18 = .ok (.getfield 83, 3) := by decide +kernel
theorem d_Y_begin_21 : decode b_Y_begin 21 = .ok (.iload_n 1, 1) := by decide +kernel
theorem d_Y_begin_22 : decode b_Y_begin 22 = .ok (.if_icmp .eq 16, 3) := by decide +kernel
theorem d_Y_begin_25 : decode b_Y_begin 25 = .ok (.aload_n 0, 1) := by decide +kernel
theorem d_Y_begin_26 : decode b_Y_begin 26 = .ok (.getfield 53, 3) := by decide +kernel
theorem d_Y_begin_29 : decode b_Y_begin 29 = .ok (.aload_n 0, 1) := by decide +kernel
theorem d_Y_begin_30 : decode b_Y_begin 30 = .ok (.getfield 83, 3) := by decide +kernel
theorem d_Y_begin_33 : decode b_Y_begin 33 = .ok (.dup2, 1) := by decide +kernel
theorem d_Y_begin_34 : decode b_Y_begin 34 = .ok (.iaload, 1) := by decide +kernel
theorem d_Y_begin_35 : decode b_Y_begin 35 = .ok (.iconst 1, 1) := by decide +kernel
theorem d_Y_begin_36 : decode b_Y_begin 36 = .ok (.iadd, 1) := by decide +kernel
theorem d_Y_begin_37 : decode b_Y_begin 37 = .ok (.iastore, 1) := by decide +kernel
theorem d_Y_begin_38 : decode b_Y_begin 38 = .ok (.aload_n 0, 1) := by decide +kernel
theorem d_Y_begin_39 : decode b_Y_begin 39 = .ok (.iconst 0, 1) := by decide +kernel
theorem d_Y_begin_40 : decode b_Y_begin 40 = .ok (.putfield 83, 3) := by decide +kernel
theorem d_Y_begin_43 : decode b_Y_begin 43 = .ok (.aload_n 0, 1) := by decide +kernel
theorem d_Y_begin_44 : decode b_Y_begin 44 = .ok (.iload_n 1, 1) := by decide +kernel
theorem d_Y_begin_45 : decode b_Y_begin 45 = .ok (.putfield 77, 3) := by decide +kernel
theorem d_Y_begin_48 : decode b_Y_begin 48 = .ok (.aload_n 0, 1) := by decide +kernel
theorem d_Y_begin_49 : decode b_Y_begin 49 = .ok (.aload_n 0, 1) := by decide +kernel
theorem d_Y_begin_50 : decode b_Y_begin 50 = .ok (.getfield 26, 3) := by decide +kernel
theorem d_Y_begin_53 : decode b_Y_begin 53 = .ok (.bipush 8, 2) := by decide +kernel
theorem d_Y_begin_55 : decode b_Y_begin 55 = .ok (.iload_n 1, 1) := by decide +kernel
theorem d_Y_begin_56 : decode b_Y_begin 56 = .ok (.imul, 1) := by decide +kernel
theorem d_Y_begin_57 : decode b_Y_begin 57 = .ok (.aload_n 0, 1) := by decide +kernel
theorem d_Y_begin_58 : decode b_Y_begin 58 = .ok (.getfield 47, 3) := by decide +kernel
theorem d_Y_begin_61 : decode b_Y_begin 61 = .ok (.iload_n 1, 1) := by decide +kernel
theorem d_Y_begin_62 : decode b_Y_begin 62 = .ok (.iaload, 1) := by decide +kernel
theorem d_Y_begin_63 : decode b_Y_begin 63 = .ok (.iadd, 1) := by decide +kernel
theorem d_Y_begin_64 : decode b_Y_begin 64 = .ok (.iaload, 1) := by decide +kernel
theorem d_Y_begin_65 : decode b_Y_begin 65 = .ok (.putfield 80, 3) := by decide +kernel
theorem d_Y_begin_68 : decode b_Y_begin 68 = .ok (.aload_n 0, 1) := by decide +kernel
theorem d_Y_begin_69 : decode b_Y_begin 69 = .ok (.getfield 47, 3) := by decide +kernel
theorem d_Y_begin_72 : decode b_Y_begin 72 = .ok (.iload_n 1, 1) := by decide +kernel
theorem d_Y_begin_73 : decode b_Y_begin 73 = .ok (.dup2, 1) := by decide +kernel
theorem d_Y_begin_74 : decode b_Y_begin 74 = .ok (.iaload, 1) := by decide +kernel
theorem d_Y_begin_75 : decode b_Y_begin 75 = .ok (.iconst 1, 1) := by decide +kernel
theorem d_Y_begin_76 : decode b_Y_begin 76 = .ok (.iadd, 1) := by decide +kernel
theorem d_Y_begin_77 : decode b_Y_begin 77 = .ok (.iastore, 1) := by decide +kernel
theorem d_Y_begin_78 : decode b_Y_begin 78 = .ok (.return_, 1) := by decide +kernel
theorem d_Y_finish_0 : decode b_Y_finish 0 = .ok (.aload_n 0, 1) := by decide +kernel
theorem d_Y_finish_1 : decode b_Y_finish 1 = .ok (.getfield 74, 3) := by decide +kernel
theorem d_Y_finish_4 : decode b_Y_finish 4 = .ok (.aload_n 0, 1) := by decide +kernel
theorem d_Y_finish_5 : decode b_Y_finish 5 = .ok (.getfield 44, 3) := by decide +kernel
theorem d_Y_finish_8 : decode b_Y_finish 8 = .ok (.bipush 9, 2) := by decide +kernel
theorem d_Y_finish_10 : decode b_Y_finish 10 = .ok (.iload_n 1, 1) := by decide +kernel
theorem d_Y_finish_11 : decode b_Y_finish 11 = .ok (.imul, 1) := by decide +kernel
theorem d_Y_finish_12 : decode b_Y_finish 12 = .ok (.aload_n 0, 1) := by decide +kernel
theorem d_Y_finish_13 : decode b_Y_finish 13 = .ok (.getfield 38, 3) := by decide +kernel
theorem d_Y_finish_16 : decode b_Y_finish 16 = .ok (.iload_n 1, 1) := by decide +kernel
theorem d_Y_finish_17 : decode b_Y_finish 17 = .ok (.iaload, 1) := by decide +kernel
theorem d_Y_finish_18 : decode b_Y_finish 18 = .ok (.bipush 9, 2) := by decide +kernel
theorem d_Y_finish_20 : decode b_Y_finish 20 = .ok (.irem, 1) := by decide +kernel
theorem d_Y_finish_21 : decode b_Y_finish 21 = .ok (.iadd, 1) := by decide +kernel
theorem d_Y_finish_22 : decode b_Y_finish 22 = .ok (.iaload, 1) := by decide +kernel
theorem d_Y_finish_23 : decode b_Y_finish 23 = .ok (.isub, 1) := by decide +kernel
theorem d_Y_finish_24 : decode b_Y_finish 24 = .ok (.istore_n 2, 1) := by decide +kernel
theorem d_Y_finish_25 : decode b_Y_finish 25 = .ok (.aload_n 0, 1) := by decide +kernel
theorem d_Y_finish_26 : decode b_Y_finish 26 = .ok (.getfield 38, 3) := by decide +kernel
theorem d_Y_finish_29 : decode b_Y_finish 29 = .ok (.iload_n 1, 1) := by decide +kernel
theorem d_Y_finish_30 : decode b_Y_finish 30 = .ok (.iaload, 1) := by decide +kernel
theorem d_Y_finish_31 : decode b_Y_finish 31 = .ok (.sipush 200, 3) := by decide +kernel
theorem d_Y_finish_34 : decode b_Y_finish 34 = .ok (.if_icmp .ge 21, 3) := by decide +kernel
theorem d_Y_finish_37 : decode b_Y_finish 37 = .ok (.aload_n 0, 1) := by decide +kernel
theorem d_Y_finish_38 : decode b_Y_finish 38 = .ok (.getfield 59, 3) := by decide +kernel
theorem d_Y_finish_41 : decode b_Y_finish 41 = .ok (.sipush 200, 3) := by decide +kernel
theorem d_Y_finish_44 : decode b_Y_finish 44 = .ok (.iload_n 1, 1) := by decide +kernel
theorem d_Y_finish_45 : decode b_Y_finish 45 = .ok (.imul, 1) := by decide +kernel
theorem d_Y_finish_46 : decode b_Y_finish 46 = .ok (.aload_n 0, 1) := by decide +kernel
theorem d_Y_finish_47 : decode b_Y_finish 47 = .ok (.getfield 38, 3) := by decide +kernel
theorem d_Y_finish_50 : decode b_Y_finish 50 = .ok (.iload_n 1, 1) := by decide +kernel
theorem d_Y_finish_51 : decode b_Y_finish 51 = .ok (.iaload, 1) := by decide +kernel
theorem d_Y_finish_52 : decode b_Y_finish 52 = .ok (.iadd, 1) := by decide +kernel
theorem d_Y_finish_53 : decode b_Y_finish 53 = .ok (.iload_n 2, 1) := by decide +kernel
theorem d_Y_finish_54 : decode b_Y_finish 54 = .ok (.iastore, 1) := by decide +kernel
theorem d_Y_finish_55 : decode b_Y_finish 55 = .ok (.aload_n 0, 1) := by decide +kernel
theorem d_Y_finish_56 : decode b_Y_finish 56 = .ok (.getfield 38, 3) := by decide +kernel
theorem d_Y_finish_59 : decode b_Y_finish 59 = .ok (.iload_n 1, 1) := by decide +kernel
theorem d_Y_finish_60 : decode b_Y_finish 60 = .ok (.dup2, 1) := by decide +kernel
theorem d_Y_finish_61 : decode b_Y_finish 61 = .ok (.iaload, 1) := by decide +kernel
theorem d_Y_finish_62 : decode b_Y_finish 62 = .ok (.iconst 1, 1) := by decide +kernel
theorem d_Y_finish_63 : decode b_Y_finish 63 = .ok (.iadd, 1) := by decide +kernel
theorem d_Y_finish_64 : decode b_Y_finish 64 = .ok (.iastore, 1) := by decide +kernel
theorem d_Y_finish_65 : decode b_Y_finish 65 = .ok (.aload_n 0, 1) := by decide +kernel
theorem d_Y_finish_66 : decode b_Y_finish 66 = .ok (.getfield 47, 3) := by decide +kernel
theorem d_Y_finish_69 : decode b_Y_finish 69 = .ok (.iload_n 1, 1) := by decide +kernel
theorem d_Y_finish_70 : decode b_Y_finish 70 = .ok (.iconst 0, 1) := by decide +kernel
theorem d_Y_finish_71 : decode b_Y_finish 71 = .ok (.iastore, 1) := by decide +kernel
theorem d_Y_finish_72 : decode b_Y_finish 72 = .ok (.iload_n 2, 1) := by decide +kernel
theorem d_Y_finish_73 : decode b_Y_finish 73 = .ok (.aload_n 0, 1) := by decide +kernel
theorem d_Y_finish_74 : decode b_Y_finish 74 = .ok (.getfield 50, 3) := by decide +kernel
theorem d_Y_finish_77 : decode b_Y_finish 77 = .ok (.iload_n 1, 1) := by decide +kernel
theorem d_Y_finish_78 : decode b_Y_finish 78 = .ok (.iaload, 1) := by decide +kernel
theorem d_Y_finish_79 : decode b_Y_finish 79 = .ok (.if_icmp .le 10, 3) := by decide +kernel
theorem d_Y_finish_82 : decode b_Y_finish 82 = .ok (.aload_n 0, 1) := by decide +kernel
theorem d_Y_finish_83 : decode b_Y_finish 83 = .ok (.getfield 50, 3) := by decide +kernel
theorem d_Y_finish_86 : decode b_Y_finish 86 = .ok (.iload_n 1, 1) := by decide +kernel
theorem d_Y_finish_87 : decode b_Y_finish 87 = .ok (.iload_n 2, 1) := by decide +kernel
theorem d_Y_finish_88 : decode b_Y_finish 88 = .ok (.iastore, 1) := by decide +kernel
theorem d_Y_finish_89 : decode b_Y_finish 89 = .ok (.iload_n 2, 1) := by decide +kernel
theorem d_Y_finish_90 : decode b_Y_finish 90 = .ok (.aload_n 0, 1) := by decide +kernel
theorem d_Y_finish_91 : decode b_Y_finish 91 = .ok (.getfield 17, 3) := by decide +kernel
theorem d_Y_finish_94 : decode b_Y_finish 94 = .ok (.iload_n 1, 1) := by decide +kernel
theorem d_Y_finish_95 : decode b_Y_finish 95 = .ok (.iaload, 1) := by decide +kernel
theorem d_Y_finish_96 : decode b_Y_finish 96 = .ok (.if_icmp .le 13, 3) := by decide +kernel
theorem d_Y_finish_99 : decode b_Y_finish 99 = .ok (.aload_n 0, 1) := by decide +kernel
theorem d_Y_finish_100 : decode b_Y_finish 100 = .ok (.getfield 56, 3) := by decide +kernel
theorem d_Y_finish_103 : decode b_Y_finish 103 = .ok (.iload_n 1, 1) := by decide +kernel
theorem d_Y_finish_104 : decode b_Y_finish 104 = .ok (.dup2, 1) := by decide +kernel
theorem d_Y_finish_105 : decode b_Y_finish 105 = .ok (.iaload, 1) := by decide +kernel
theorem d_Y_finish_106 : decode b_Y_finish 106 = .ok (.iconst 1, 1) := by decide +kernel
theorem d_Y_finish_107 : decode b_Y_finish 107 = .ok (.iadd, 1) := by decide +kernel
theorem d_Y_finish_108 : decode b_Y_finish 108 = .ok (.iastore, 1) := by decide +kernel
theorem d_Y_finish_109 : decode b_Y_finish 109 = .ok (.return_, 1) := by decide +kernel
theorem d_Y_step_0 : decode b_Y_step 0 = .ok (.aload_n 0, 1) := by decide +kernel
theorem d_Y_step_1 : decode b_Y_step 1 = .ok (.getfield 77, 3) := by decide +kernel
theorem d_Y_step_4 : decode b_Y_step 4 = .ok (.ifCond .ne 7, 3) := by decide +kernel
theorem d_Y_step_7 : decode b_Y_step 7 = .ok (.aload_n 0, 1) := by decide +kernel
theorem d_Y_step_8 : decode b_Y_step 8 = .ok (.invokevirtual 164, 3) := by decide +kernel
theorem d_Y_step_11 : decode b_Y_step 11 = .ok (.aload_n 0, 1) := by decide +kernel
theorem d_Y_step_12 : decode b_Y_step 12 = .ok (.dup, 1) := by decide +kernel
theorem d_Y_step_13 : decode b_Y_step 13 = .ok (.getfield 74, 3) := by decide +kernel
theorem d_Y_step_16 : decode b_Y_step 16 = .ok (.iconst 1, 1) := by decide +kernel
theorem d_Y_step_17 : decode b_Y_step 17 = .ok (.iadd, 1) := by decide +kernel
theorem d_Y_step_18 : decode b_Y_step 18 = .ok (.putfield 74, 3) := by decide +kernel
theorem d_Y_step_21 : decode b_Y_step 21 = .ok (.aload_n 0, 1) := by decide +kernel
theorem d_Y_step_22 : decode b_Y_step 22 = .ok (.getfield 77, 3) := by decide +kernel
theorem d_Y_step_25 : decode b_Y_step 25 = .ok (.istore_n 1, 1) := by decide +kernel
theorem d_Y_step_26 : decode b_Y_step 26 = .ok (.iload_n 1, 1) := by decide +kernel
theorem d_Y_step_27 : decode b_Y_step 27 = .ok (.ifCond .ne 5, 3) := by decide +kernel
theorem d_Y_step_30 : decode b_Y_step 30 = .ok (.iconst 0, 1) := by decide +kernel
theorem d_Y_step_31 : decode b_Y_step 31 = .ok (.ireturn, 1) := by decide +kernel
theorem d_Y_step_32 : decode b_Y_step 32 = .ok (.aload_n 0, 1) := by decide +kernel
theorem d_Y_step_33 : decode b_Y_step 33 = .ok (.dup, 1) := by decide +kernel
theorem d_Y_step_34 : decode b_Y_step 34 = .ok (.getfield 80, 3) := by decide +kernel
theorem d_Y_step_37 : decode b_Y_step 37 = .ok (.iconst 1, 1) := by decide +kernel
theorem d_Y_step_38 : decode b_Y_step 38 = .ok (.isub, 1) := by decide +kernel
theorem d_Y_step_39 : decode b_Y_step 39 = .ok (.putfield 80, 3) := by decide +kernel
theorem d_Y_step_42 : decode b_Y_step 42 = .ok (.aload_n 0, 1) := by decide +kernel
theorem d_Y_step_43 : decode b_Y_step 43 = .ok (.getfield 80, 3) := by decide +kernel
theorem d_Y_step_46 : decode b_Y_step 46 = .ok (.ifCond .le 5, 3) := by decide +kernel
theorem d_Y_step_49 : decode b_Y_step 49 = .ok (.iload_n 1, 1) := by decide +kernel
theorem d_Y_step_50 : decode b_Y_step 50 = .ok (.ireturn, 1) := by decide +kernel
theorem d_Y_step_51 : decode b_Y_step 51 = .ok (.aload_n 0, 1) := by decide +kernel
theorem d_Y_step_52 : decode b_Y_step 52 = .ok (.iconst 0, 1) := by decide +kernel
theorem d_Y_step_53 : decode b_Y_step 53 = .ok (.putfield 77, 3) := by decide +kernel
theorem d_Y_step_56 : decode b_Y_step 56 = .ok (.aload_n 0, 1) := by decide +kernel
theorem d_Y_step_57 : decode b_Y_step 57 = .ok (.getfield 47, 3) := by decide +kernel
theorem d_Y_step_60 : decode b_Y_step 60 = .ok (.iload_n 1, 1) := by decide +kernel
theorem d_Y_step_61 : decode b_Y_step 61 = .ok (.iaload, 1) := by decide +kernel
theorem d_Y_step_62 : decode b_Y_step 62 = .ok (.aload_n 0, 1) := by decide +kernel
theorem d_Y_step_63 : decode b_Y_step 63 = .ok (.getfield 23, 3) := by decide +kernel
theorem d_Y_step_66 : decode b_Y_step 66 = .ok (.iload_n 1, 1) := by decide +kernel
theorem d_Y_step_67 : decode b_Y_step 67 = .ok (.iaload, 1) := by decide +kernel
theorem d_Y_step_68 : decode b_Y_step 68 = .ok (.if_icmp .ne 11, 3) := by decide +kernel
theorem d_Y_step_71 : decode b_Y_step 71 = .ok (.aload_n 0, 1) := by decide +kernel
theorem d_Y_step_72 : decode b_Y_step 72 = .ok (.iload_n 1, 1) := by decide +kernel
theorem d_Y_step_73 : decode b_Y_step 73 = .ok (.invokevirtual 167, 3) := by decide +kernel
theorem d_Y_step_76 : decode b_Y_step 76 = .ok (.goto 8, 3) := by decide +kernel
theorem d_Y_step_79 : decode b_Y_step 79 = .ok (.aload_n 0, 1) := by decide +kernel
theorem d_Y_step_80 : decode b_Y_step 80 = .ok (.iload_n 1, 1) := by decide +kernel
theorem d_Y_step_81 : decode b_Y_step 81 = .ok (.putfield 83, 3) := by decide +kernel
theorem d_Y_step_84 : decode b_Y_step 84 = .ok (.iload_n 1, 1) := by decide +kernel
theorem d_Y_step_85 : decode b_Y_step 85 = .ok (.ireturn, 1) := by decide +kernel
theorem d_Y_tick_0 : decode b_Y_tick 0 = .ok (.iload_n 1, 1) := by decide +kernel
theorem d_Y_tick_1 : decode b_Y_tick 1 = .ok (.iconst 1, 1) := by decide +kernel
theorem d_Y_tick_2 : decode b_Y_tick 2 = .ok (.if_icmp .lt 10, 3) := by decide +kernel
theorem d_Y_tick_5 : decode b_Y_tick 5 = .ok (.iload_n 1, 1) := by decide +kernel
theorem d_Y_tick_6 : decode b_Y_tick 6 = .ok (.sipush 2000, 3) := by decide +kernel
theorem d_Y_tick_9 : decode b_Y_tick 9 = .ok (.if_icmp .le 9, 3) := by decide +kernel
theorem d_Y_tick_12 : decode b_Y_tick 12 = .ok (.aload_n 0, 1) := by decide +kernel
theorem d_Y_tick_13 : decode b_Y_tick 13 = .ok (.iconst 1, 1) := by decide +kernel
theorem d_Y_tick_14 : decode b_Y_tick 14 = .ok (.invokevirtual 145, 3) := by decide +kernel
theorem d_Y_tick_17 : decode b_Y_tick 17 = .ok (.ireturn, 1) := by decide +kernel
theorem d_Y_tick_18 : decode b_Y_tick 18 = .ok (.aload_n 0, 1) := by decide +kernel
theorem d_Y_tick_19 : decode b_Y_tick 19 = .ok (.iconst 0, 1) := by decide +kernel
theorem d_Y_tick_20 : decode b_Y_tick 20 = .ok (.putfield 62, 3) := by decide +kernel
theorem d_Y_tick_23 : decode b_Y_tick 23 = .ok (.iconst 0, 1) := by decide +kernel
theorem d_Y_tick_24 : decode b_Y_tick 24 = .ok (.istore_n 2, 1) := by decide +kernel
theorem d_Y_tick_25 : decode b_Y_tick 25 = .ok (.iconst 0, 1) := by decide +kernel
theorem d_Y_tick_26 : decode b_Y_tick 26 = .ok (.istore_n 3, 1) := by decide +kernel
theorem d_Y_tick_27 : decode b_Y_tick 27 = .ok (.iload_n 3, 1) := by decide +kernel
theorem d_Y_tick_28 : decode b_Y_tick 28 = .ok (.iload_n 1, 1) := by decide +kernel
theorem d_Y_tick_29 : decode b_Y_tick 29 = .ok (.if_icmp .ge 14, 3) := by decide +kernel
theorem d_Y_tick_32 : decode b_Y_tick 32 = .ok (.aload_n 0, 1) := by decide +kernel
theorem d_Y_tick_33 : decode b_Y_tick 33 = .ok (.invokevirtual 171, 3) := by decide +kernel
theorem d_Y_tick_36 : decode b_Y_tick 36 = .ok (.istore_n 2, 1) := by decide +kernel
theorem d_Y_tick_37 : decode b_Y_tick 37 = .ok (.iinc 3 1, 3) := by decide +kernel
theorem d_Y_tick_40 : decode b_Y_tick 40 = .ok (.goto (-13), 3) := by decide +kernel
theorem d_Y_tick_43 : decode b_Y_tick 43 = .ok (.iload_n 2, 1) := by decide +kernel
theorem d_Y_tick_44 : decode b_Y_tick 44 = .ok (.ireturn, 1) := by decide +kernel
theorem d_Y_now_0 : decode b_Y_now 0 = .ok (.aload_n 0, 1) := by decide +kernel
theorem d_Y_now_1 : decode b_Y_now 1 = .ok (.iconst 0, 1) := by decide +kernel
theorem d_Y_now_2 : decode b_Y_now 2 = .ok (.putfield 62, 3) := by decide +kernel
theorem d_Y_now_5 : decode b_Y_now 5 = .ok (.aload_n 0, 1) := by decide +kernel
theorem d_Y_now_6 : decode b_Y_now 6 = .ok (.getfield 74, 3) := by decide +kernel
theorem d_Y_now_9 : decode b_Y_now 9 = .ok (.ireturn, 1) := by decide +kernel
theorem d_Y_ended_0 : decode b_Y_ended 0 = .ok (.aload_n 0, 1) := by decide +kernel
theorem d_Y_ended_1 : decode b_Y_ended 1 = .ok (.iconst 0, 1) := by decide +kernel
theorem d_Y_ended_2 : decode b_Y_ended 2 = .ok (.putfield 62, 3) := by decide +kernel
theorem d_Y_ended_5 : decode b_Y_ended 5 = .ok (.aload_n 0, 1) := by decide +kernel
theorem d_Y_ended_6 : decode b_Y_ended 6 = .ok (.iload_n 1, 1) := by decide +kernel
theorem d_Y_ended_7 : decode b_Y_ended 7 = .ok (.invokevirtual 70, 3) := by decide +kernel
theorem d_Y_ended_10 : decode b_Y_ended 10 = .ok (.ifCond .eq 24, 3) := by decide +kernel
theorem d_Y_ended_13 : decode b_Y_ended 13 = .ok (.iload_n 2, 1) := by decide +kernel
theorem d_Y_ended_14 : decode b_Y_ended 14 = .ok (.ifCond .lt 20, 3) := by decide +kernel
theorem d_Y_ended_17 : decode b_Y_ended 17 = .ok (.iload_n 2, 1) := by decide +kernel
theorem d_Y_ended_18 : decode b_Y_ended 18 = .ok (.aload_n 0, 1) := by decide +kernel
theorem d_Y_ended_19 : decode b_Y_ended 19 = .ok (.getfield 38, 3) := by decide +kernel
theorem d_Y_ended_22 : decode b_Y_ended 22 = .ok (.iload_n 1, 1) := by decide +kernel
theorem d_Y_ended_23 : decode b_Y_ended 23 = .ok (.iaload, 1) := by decide +kernel
theorem d_Y_ended_24 : decode b_Y_ended 24 = .ok (.if_icmp .ge 10, 3) := by decide +kernel
theorem d_Y_ended_27 : decode b_Y_ended 27 = .ok (.iload_n 2, 1) := by decide +kernel
theorem d_Y_ended_28 : decode b_Y_ended 28 = .ok (.sipush 200, 3) := by decide +kernel
theorem d_Y_ended_31 : decode b_Y_ended 31 = .ok (.if_icmp .lt 7, 3) := by decide +kernel
theorem d_Y_ended_34 : decode b_Y_ended 34 = .ok (.iconst (-1), 1) := by decide +kernel
theorem d_Y_ended_35 : decode b_Y_ended 35 = .ok (.goto 15, 3) := by decide +kernel
theorem d_Y_ended_38 : decode b_Y_ended 38 = .ok (.aload_n 0, 1) := by decide +kernel
theorem d_Y_ended_39 : decode b_Y_ended 39 = .ok (.getfield 59, 3) := by decide +kernel
theorem d_Y_ended_42 : decode b_Y_ended 42 = .ok (.sipush 200, 3) := by decide +kernel
theorem d_Y_ended_45 : decode b_Y_ended 45 = .ok (.iload_n 1, 1) := by decide +kernel
theorem d_Y_ended_46 : decode b_Y_ended 46 = .ok (.imul, 1) := by decide +kernel
theorem d_Y_ended_47 : decode b_Y_ended 47 = .ok (.iload_n 2, 1) := by decide +kernel
theorem d_Y_ended_48 : decode b_Y_ended 48 = .ok (.iadd, 1) := by decide +kernel
theorem d_Y_ended_49 : decode b_Y_ended 49 = .ok (.iaload, 1) := by decide +kernel
theorem d_Y_ended_50 : decode b_Y_ended 50 = .ok (.ireturn, 1) := by decide +kernel
theorem d_Y_seen_0 : decode b_Y_seen 0 = .ok (.aload_n 0, 1) := by decide +kernel
theorem d_Y_seen_1 : decode b_Y_seen 1 = .ok (.iconst 0, 1) := by decide +kernel
theorem d_Y_seen_2 : decode b_Y_seen 2 = .ok (.putfield 62, 3) := by decide +kernel
theorem d_Y_seen_5 : decode b_Y_seen 5 = .ok (.aload_n 0, 1) := by decide +kernel
theorem d_Y_seen_6 : decode b_Y_seen 6 = .ok (.iload_n 1, 1) := by decide +kernel
theorem d_Y_seen_7 : decode b_Y_seen 7 = .ok (.invokevirtual 70, 3) := by decide +kernel
theorem d_Y_seen_10 : decode b_Y_seen 10 = .ok (.ifCond .ne 5, 3) := by decide +kernel
theorem d_Y_seen_13 : decode b_Y_seen 13 = .ok (.iconst (-1), 1) := by decide +kernel
theorem d_Y_seen_14 : decode b_Y_seen 14 = .ok (.ireturn, 1) := by decide +kernel
theorem d_Y_seen_15 : decode b_Y_seen 15 = .ok (.iload_n 2, 1) := by decide +kernel
theorem d_Y_seen_16 : decode b_Y_seen 16 = .ok (.tableswitch 92 0 5 #[40, 47, 54, 61, 68, 75], 40) := by decide +kernel
theorem d_Y_seen_56 : decode b_Y_seen 56 = .ok (.aload_n 0, 1) := by decide +kernel
theorem d_Y_seen_57 : decode b_Y_seen 57 = .ok (.getfield 35, 3) := by decide +kernel
theorem d_Y_seen_60 : decode b_Y_seen 60 = .ok (.iload_n 1, 1) := by decide +kernel
theorem d_Y_seen_61 : decode b_Y_seen 61 = .ok (.iaload, 1) := by decide +kernel
theorem d_Y_seen_62 : decode b_Y_seen 62 = .ok (.ireturn, 1) := by decide +kernel
theorem d_Y_seen_63 : decode b_Y_seen 63 = .ok (.aload_n 0, 1) := by decide +kernel
theorem d_Y_seen_64 : decode b_Y_seen 64 = .ok (.getfield 38, 3) := by decide +kernel
theorem d_Y_seen_67 : decode b_Y_seen 67 = .ok (.iload_n 1, 1) := by decide +kernel
theorem d_Y_seen_68 : decode b_Y_seen 68 = .ok (.iaload, 1) := by decide +kernel
theorem d_Y_seen_69 : decode b_Y_seen 69 = .ok (.ireturn, 1) := by decide +kernel
theorem d_Y_seen_70 : decode b_Y_seen 70 = .ok (.aload_n 0, 1) := by decide +kernel
theorem d_Y_seen_71 : decode b_Y_seen 71 = .ok (.getfield 50, 3) := by decide +kernel
theorem d_Y_seen_74 : decode b_Y_seen 74 = .ok (.iload_n 1, 1) := by decide +kernel
theorem d_Y_seen_75 : decode b_Y_seen 75 = .ok (.iaload, 1) := by decide +kernel
theorem d_Y_seen_76 : decode b_Y_seen 76 = .ok (.ireturn, 1) := by decide +kernel
theorem d_Y_seen_77 : decode b_Y_seen 77 = .ok (.aload_n 0, 1) := by decide +kernel
theorem d_Y_seen_78 : decode b_Y_seen 78 = .ok (.getfield 53, 3) := by decide +kernel
theorem d_Y_seen_81 : decode b_Y_seen 81 = .ok (.iload_n 1, 1) := by decide +kernel
theorem d_Y_seen_82 : decode b_Y_seen 82 = .ok (.iaload, 1) := by decide +kernel
theorem d_Y_seen_83 : decode b_Y_seen 83 = .ok (.ireturn, 1) := by decide +kernel
theorem d_Y_seen_84 : decode b_Y_seen 84 = .ok (.aload_n 0, 1) := by decide +kernel
theorem d_Y_seen_85 : decode b_Y_seen 85 = .ok (.getfield 56, 3) := by decide +kernel
theorem d_Y_seen_88 : decode b_Y_seen 88 = .ok (.iload_n 1, 1) := by decide +kernel
theorem d_Y_seen_89 : decode b_Y_seen 89 = .ok (.iaload, 1) := by decide +kernel
theorem d_Y_seen_90 : decode b_Y_seen 90 = .ok (.ireturn, 1) := by decide +kernel
theorem d_Y_seen_91 : decode b_Y_seen 91 = .ok (.aload_n 0, 1) := by decide +kernel
theorem d_Y_seen_92 : decode b_Y_seen 92 = .ok (.getfield 77, 3) := by decide +kernel
theorem d_Y_seen_95 : decode b_Y_seen 95 = .ok (.iload_n 1, 1) := by decide +kernel
theorem d_Y_seen_96 : decode b_Y_seen 96 = .ok (.if_icmp .ne 10, 3) := by decide +kernel
theorem d_Y_seen_99 : decode b_Y_seen 99 = .ok (.aload_n 0, 1) := by decide +kernel
theorem d_Y_seen_100 : decode b_Y_seen 100 = .ok (.getfield 80, 3) := by decide +kernel
theorem d_Y_seen_103 : decode b_Y_seen 103 = .ok (.goto 4, 3) := by decide +kernel
theorem d_Y_seen_106 : decode b_Y_seen 106 = .ok (.iconst 0, 1) := by decide +kernel
theorem d_Y_seen_107 : decode b_Y_seen 107 = .ok (.ireturn, 1) := by decide +kernel
theorem d_Y_seen_108 : decode b_Y_seen 108 = .ok (.iconst (-1), 1) := by decide +kernel
theorem d_Y_seen_109 : decode b_Y_seen 109 = .ok (.ireturn, 1) := by decide +kernel
