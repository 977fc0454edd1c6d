/-! the law and its helpers: names, decode rows, words -/
abbrev b_L_admit : ByteArray := method_3_code
abbrev y_L_admit : MethodName := ⟨"SegmentKernelLaw", "\x61dmit", "(LSegmentKernel;[J)I"⟩
abbrev hh_L_admit : List (Nat × Nat × Nat × Nat) := [(0, 8, 11, 13)]
abbrev b_L_response : ByteArray := method_4_code
abbrev y_L_response : MethodName := ⟨"SegmentKernelLaw", "response", "(LSegmentKernel;I[J)I"⟩
abbrev hh_L_response : List (Nat × Nat × Nat × Nat) := [(0, 9, 12, 19), (0, 9, 15, 13), (0, 9, 18, 21)]
abbrev b_L_job : ByteArray := method_5_code
abbrev y_L_job : MethodName := ⟨"SegmentKernelLaw", "job", "(LSegmentKernel;II[J)I"⟩
abbrev hh_L_job : List (Nat × Nat × Nat × Nat) := [(0, 10, 13, 19), (0, 10, 17, 13), (0, 10, 21, 21)]
abbrev b_L_tolerance : ByteArray := method_6_code
abbrev y_L_tolerance : MethodName := ⟨"SegmentKernelLaw", "tolerance", "(LSegmentKernel;I[J)I"⟩
abbrev hh_L_tolerance : List (Nat × Nat × Nat × Nat) := [(0, 9, 12, 19), (0, 9, 15, 13)]
abbrev b_L_stretch : ByteArray := method_7_code
abbrev y_L_stretch : MethodName := ⟨"SegmentKernelLaw", "stretch", "(LSegmentKernel;[J)I"⟩
abbrev hh_L_stretch : List (Nat × Nat × Nat × Nat) := [(0, 8, 11, 13)]
abbrev b_L_scenario : ByteArray := method_8_code
abbrev y_L_scenario : MethodName := ⟨"SegmentKernelLaw", "scenario", "(LSegmentKernel;III[J)I"⟩
abbrev hh_L_scenario : List (Nat × Nat × Nat × Nat) := [(0, 12, 15, 19), (0, 12, 19, 13), (0, 12, 23, 21)]
abbrev b_L_tick : ByteArray := method_9_code
abbrev y_L_tick : MethodName := ⟨"SegmentKernelLaw", "tick", "(LSegmentKernel;I[J)I"⟩
abbrev hh_L_tick : List (Nat × Nat × Nat × Nat) := [(0, 9, 12, 40)]
abbrev b_L_law : ByteArray := code
abbrev y_L_law : MethodName := ⟨"SegmentKernelLaw", "law", "([I)Z"⟩
abbrev tyH (cI cT cL : ClassId) : List (ClassId × FieldType) := [(cI, .int), (cT, .object "SegmentKernel$Task"), (cL, .long)]
abbrev oC (oa : Nat) (cL : ClassId) (f : Nat → Int64) : Nat × va_E := (oa, .inl (cL, 1, .inr (.inl f)))
theorem d_L_admit_0 : decode b_L_admit 0 = .ok (.aload_n 1, 1) := by decide +kernel
theorem d_L_admit_1 : decode b_L_admit 1 = .ok (.iconst 0, 1) := by decide +kernel
theorem d_L_admit_2 : decode b_L_admit 2 = .ok (.aload_n 0, 1) := by decide +kernel
theorem d_L_admit_3 : decode b_L_admit 3 = .ok (.invokevirtual 7, 3) := by decide +kernel
theorem d_L_admit_6 : decode b_L_admit 6 = .ok (.i2l, 1) := by decide +kernel
theorem d_L_admit_7 : decode b_L_admit 7 = .ok (.lastore, 1) := by decide +kernel
theorem d_L_admit_8 : decode b_L_admit 8 = .ok (.goto 6, 3) := by decide +kernel
theorem d_L_admit_11 : decode b_L_admit 11 = .ok (.astore_n 2, 1) := by decide +kernel
theorem d_L_admit_12 : decode b_L_admit 12 = .ok (.iconst 1, 1) := by decide +kernel
theorem d_L_admit_13 : decode b_L_admit 13 = .ok (.ireturn, 1) := by decide +kernel
theorem d_L_admit_14 : decode b_L_admit 14 = .ok (.iconst 0, 1) := by decide +kernel
theorem d_L_admit_15 : decode b_L_admit 15 = .ok (.ireturn, 1) := by decide +kernel
theorem d_L_response_0 : decode b_L_response 0 = .ok (.aload_n 2, 1) := by decide +kernel
theorem d_L_response_1 : decode b_L_response 1 = .ok (.iconst 0, 1) := by decide +kernel
theorem d_L_response_2 : decode b_L_response 2 = .ok (.aload_n 0, 1) := by decide +kernel
theorem d_L_response_3 : decode b_L_response 3 = .ok (.iload_n 1, 1) := by decide +kernel
theorem d_L_response_4 : decode b_L_response 4 = .ok (.invokevirtual 15, 3) := by decide +kernel
theorem d_L_response_7 : decode b_L_response 7 = .ok (.i2l, 1) := by decide +kernel
theorem d_L_response_8 : decode b_L_response 8 = .ok (.lastore, 1) := by decide +kernel
theorem d_L_response_9 : decode b_L_response 9 = .ok (.goto 12, 3) := by decide +kernel
theorem d_L_response_12 : decode b_L_response 12 = .ok (.astore_n 3, 1) := by decide +kernel
theorem d_L_response_13 : decode b_L_response 13 = .ok (.iconst 1, 1) := by decide +kernel
theorem d_L_response_14 : decode b_L_response 14 = .ok (.ireturn, 1) := by decide +kernel
theorem d_L_response_15 : decode b_L_response 15 = .ok (.astore_n 3, 1) := by decide +kernel
theorem d_L_response_16 : decode b_L_response 16 = .ok (.iconst 2, 1) := by decide +kernel
theorem d_L_response_17 : decode b_L_response 17 = .ok (.ireturn, 1) := by decide +kernel
theorem d_L_response_18 : decode b_L_response 18 = .ok (.astore_n 3, 1) := by decide +kernel
theorem d_L_response_19 : decode b_L_response 19 = .ok (.iconst 3, 1) := by decide +kernel
theorem d_L_response_20 : decode b_L_response 20 = .ok (.ireturn, 1) := by decide +kernel
theorem d_L_response_21 : decode b_L_response 21 = .ok (.iconst 0, 1) := by decide +kernel
theorem d_L_response_22 : decode b_L_response 22 = .ok (.ireturn, 1) := by decide +kernel
theorem d_L_job_0 : decode b_L_job 0 = .ok (.aload_n 3, 1) := by decide +kernel
theorem d_L_job_1 : decode b_L_job 1 = .ok (.iconst 0, 1) := by decide +kernel
theorem d_L_job_2 : decode b_L_job 2 = .ok (.aload_n 0, 1) := by decide +kernel
theorem d_L_job_3 : decode b_L_job 3 = .ok (.iload_n 1, 1) := by decide +kernel
theorem d_L_job_4 : decode b_L_job 4 = .ok (.iload_n 2, 1) := by decide +kernel
theorem d_L_job_5 : decode b_L_job 5 = .ok (.invokevirtual 23, 3) := by decide +kernel
theorem d_L_job_8 : decode b_L_job 8 = .ok (.i2l, 1) := by decide +kernel
theorem d_L_job_9 : decode b_L_job 9 = .ok (.lastore, 1) := by decide +kernel
theorem d_L_job_10 : decode b_L_job 10 = .ok (.goto 15, 3) := by decide +kernel
theorem d_L_job_13 : decode b_L_job 13 = .ok (.astore 4, 2) := by decide +kernel
theorem d_L_job_15 : decode b_L_job 15 = .ok (.iconst 1, 1) := by decide +kernel
theorem d_L_job_16 : decode b_L_job 16 = .ok (.ireturn, 1) := by decide +kernel
theorem d_L_job_17 : decode b_L_job 17 = .ok (.astore 4, 2) := by decide +kernel
theorem d_L_job_19 : decode b_L_job 19 = .ok (.iconst 2, 1) := by decide +kernel
theorem d_L_job_20 : decode b_L_job 20 = .ok (.ireturn, 1) := by decide +kernel
theorem d_L_job_21 : decode b_L_job 21 = .ok (.astore 4, 2) := by decide +kernel
theorem d_L_job_23 : decode b_L_job 23 = .ok (.iconst 3, 1) := by decide +kernel
theorem d_L_job_24 : decode b_L_job 24 = .ok (.ireturn, 1) := by decide +kernel
theorem d_L_job_25 : decode b_L_job 25 = .ok (.iconst 0, 1) := by decide +kernel
theorem d_L_job_26 : decode b_L_job 26 = .ok (.ireturn, 1) := by decide +kernel
theorem d_L_tolerance_0 : decode b_L_tolerance 0 = .ok (.aload_n 2, 1) := by decide +kernel
theorem d_L_tolerance_1 : decode b_L_tolerance 1 = .ok (.iconst 0, 1) := by decide +kernel
theorem d_L_tolerance_2 : decode b_L_tolerance 2 = .ok (.aload_n 0, 1) := by decide +kernel
theorem d_L_tolerance_3 : decode b_L_tolerance 3 = .ok (.iload_n 1, 1) := by decide +kernel
theorem d_L_tolerance_4 : decode b_L_tolerance 4 = .ok (.invokevirtual 27, 3) := by decide +kernel
theorem d_L_tolerance_7 : decode b_L_tolerance 7 = .ok (.i2l, 1) := by decide +kernel
theorem d_L_tolerance_8 : decode b_L_tolerance 8 = .ok (.lastore, 1) := by decide +kernel
theorem d_L_tolerance_9 : decode b_L_tolerance 9 = .ok (.goto 9, 3) := by decide +kernel
theorem d_L_tolerance_12 : decode b_L_tolerance 12 = .ok (.astore_n 3, 1) := by decide +kernel
theorem d_L_tolerance_13 : decode b_L_tolerance 13 = .ok (.iconst 1, 1) := by decide +kernel
theorem d_L_tolerance_14 : decode b_L_tolerance 14 = .ok (.ireturn, 1) := by decide +kernel
theorem d_L_tolerance_15 : decode b_L_tolerance 15 = .ok (.astore_n 3, 1) := by decide +kernel
theorem d_L_tolerance_16 : decode b_L_tolerance 16 = .ok (.iconst 2, 1) := by decide +kernel
theorem d_L_tolerance_17 : decode b_L_tolerance 17 = .ok (.ireturn, 1) := by decide +kernel
theorem d_L_tolerance_18 : decode b_L_tolerance 18 = .ok (.iconst 0, 1) := by decide +kernel
theorem d_L_tolerance_19 : decode b_L_tolerance 19 = .ok (.ireturn, 1) := by decide +kernel
theorem d_L_stretch_0 : decode b_L_stretch 0 = .ok (.aload_n 1, 1) := by decide +kernel
theorem d_L_stretch_1 : decode b_L_stretch 1 = .ok (.iconst 0, 1) := by decide +kernel
theorem d_L_stretch_2 : decode b_L_stretch 2 = .ok (.aload_n 0, 1) := by decide +kernel
theorem d_L_stretch_3 : decode b_L_stretch 3 = .ok (.invokevirtual 30, 3) := by decide +kernel
theorem d_L_stretch_6 : decode b_L_stretch 6 = .ok (.i2l, 1) := by decide +kernel
theorem d_L_stretch_7 : decode b_L_stretch 7 = .ok (.lastore, 1) := by decide +kernel
theorem d_L_stretch_8 : decode b_L_stretch 8 = .ok (.goto 6, 3) := by decide +kernel
theorem d_L_stretch_11 : decode b_L_stretch 11 = .ok (.astore_n 2, 1) := by decide +kernel
theorem d_L_stretch_12 : decode b_L_stretch 12 = .ok (.iconst 1, 1) := by decide +kernel
theorem d_L_stretch_13 : decode b_L_stretch 13 = .ok (.ireturn, 1) := by decide +kernel
theorem d_L_stretch_14 : decode b_L_stretch 14 = .ok (.iconst 0, 1) := by decide +kernel
theorem d_L_stretch_15 : decode b_L_stretch 15 = .ok (.ireturn, 1) := by decide +kernel
theorem d_L_scenario_0 : decode b_L_scenario 0 = .ok (.aload 4, 2) := by decide +kernel
theorem d_L_scenario_2 : decode b_L_scenario 2 = .ok (.iconst 0, 1) := by decide +kernel
theorem d_L_scenario_3 : decode b_L_scenario 3 = .ok (.aload_n 0, 1) := by decide +kernel
theorem d_L_scenario_4 : decode b_L_scenario 4 = .ok (.iload_n 1, 1) := by decide +kernel
theorem d_L_scenario_5 : decode b_L_scenario 5 = .ok (.iload_n 2, 1) := by decide +kernel
theorem d_L_scenario_6 : decode b_L_scenario 6 = .ok (.iload_n 3, 1) := by decide +kernel
theorem d_L_scenario_7 : decode b_L_scenario 7 = .ok (.invokevirtual 33, 3) := by decide +kernel
theorem d_L_scenario_10 : decode b_L_scenario 10 = .ok (.i2l, 1) := by decide +kernel
theorem d_L_scenario_11 : decode b_L_scenario 11 = .ok (.lastore, 1) := by decide +kernel
theorem d_L_scenario_12 : decode b_L_scenario 12 = .ok (.goto 15, 3) := by decide +kernel
theorem d_L_scenario_15 : decode b_L_scenario 15 = .ok (.astore 5, 2) := by decide +kernel
theorem d_L_scenario_17 : decode b_L_scenario 17 = .ok (.iconst 1, 1) := by decide +kernel
theorem d_L_scenario_18 : decode b_L_scenario 18 = .ok (.ireturn, 1) := by decide +kernel
theorem d_L_scenario_19 : decode b_L_scenario 19 = .ok (.astore 5, 2) := by decide +kernel
theorem d_L_scenario_21 : decode b_L_scenario 21 = .ok (.iconst 2, 1) := by decide +kernel
theorem d_L_scenario_22 : decode b_L_scenario 22 = .ok (.ireturn, 1) := by decide +kernel
theorem d_L_scenario_23 : decode b_L_scenario 23 = .ok (.astore 5, 2) := by decide +kernel
theorem d_L_scenario_25 : decode b_L_scenario 25 = .ok (.iconst 3, 1) := by decide +kernel
theorem d_L_scenario_26 : decode b_L_scenario 26 = .ok (.ireturn, 1) := by decide +kernel
theorem d_L_scenario_27 : decode b_L_scenario 27 = .ok (.iconst 0, 1) := by decide +kernel
theorem d_L_scenario_28 : decode b_L_scenario 28 = .ok (.ireturn, 1) := by decide +kernel
theorem d_L_tick_0 : decode b_L_tick 0 = .ok (.aload_n 2, 1) := by decide +kernel
theorem d_L_tick_1 : decode b_L_tick 1 = .ok (.iconst 0, 1) := by decide +kernel
theorem d_L_tick_2 : decode b_L_tick 2 = .ok (.aload_n 0, 1) := by decide +kernel
theorem d_L_tick_3 : decode b_L_tick 3 = .ok (.iload_n 1, 1) := by decide +kernel
theorem d_L_tick_4 : decode b_L_tick 4 = .ok (.invokevirtual 37, 3) := by decide +kernel
theorem d_L_tick_7 : decode b_L_tick 7 = .ok (.i2l, 1) := by decide +kernel
theorem d_L_tick_8 : decode b_L_tick 8 = .ok (.lastore, 1) := by decide +kernel
theorem d_L_tick_9 : decode b_L_tick 9 = .ok (.goto 6, 3) := by decide +kernel
theorem d_L_tick_12 : decode b_L_tick 12 = .ok (.astore_n 3, 1) := by decide +kernel
theorem d_L_tick_13 : decode b_L_tick 13 = .ok (.iconst 1, 1) := by decide +kernel
theorem d_L_tick_14 : decode b_L_tick 14 = .ok (.ireturn, 1) := by decide +kernel
theorem d_L_tick_15 : decode b_L_tick 15 = .ok (.iconst 0, 1) := by decide +kernel
theorem d_L_tick_16 : decode b_L_tick 16 = .ok (.ireturn, 1) := by decide +kernel
theorem d_L_law_0 : decode b_L_law 0 = .ok (.new 8, 3) := by decide +kernel
theorem d_L_law_3 : decode b_L_law 3 = .ok (.dup, 1) := by decide +kernel
theorem d_L_law_4 : decode b_L_law 4 = .ok (.invokespecial 42, 3) := by decide +kernel
theorem d_L_law_7 : decode b_L_law 7 = .ok (.astore_n 1, 1) := by decide +kernel
theorem d_L_law_8 : decode b_L_law 8 = .ok (.new 43, 3) := by decide +kernel
theorem d_L_law_11 : decode b_L_law 11 = .ok (.dup, 1) := by decide +kernel
theorem d_L_law_12 : decode b_L_law 12 = .ok (.invokespecial 45, 3) := by decide +kernel
theorem d_L_law_15 : decode b_L_law 15 = .ok (.astore_n 2, 1) := by decide +kernel
theorem d_L_law_16 : decode b_L_law 16 = .ok (.iconst 1, 1) := by decide +kernel
theorem d_L_law_17 : decode b_L_law 17 = .ok (.newarray .long, 2) := by decide +kernel
theorem d_L_law_19 : decode b_L_law 19 = .ok (.astore_n 3, 1) := by decide +kernel
theorem d_L_law_20 : decode b_L_law 20 = .ok (.iconst 0, 1) := by decide +kernel
theorem d_L_law_21 : decode b_L_law 21 = .ok (.istore 4, 2) := by decide +kernel
theorem d_L_law_23 : decode b_L_law 23 = .ok (.iload 4, 2) := by decide +kernel
theorem d_L_law_25 : decode b_L_law 25 = .ok (.aload_n 0, 1) := by decide +kernel
theorem d_L_law_26 : decode b_L_law 26 = .ok (.arraylength, 1) := by decide +kernel
theorem d_L_law_27 : decode b_L_law 27 = .ok (.iconst 5, 1) := by decide +kernel
theorem d_L_law_28 : decode b_L_law 28 = .ok (.isub, 1) := by decide +kernel
theorem d_L_law_29 : decode b_L_law 29 = .ok (.if_icmp .gt 766, 3) := by decide +kernel
theorem d_L_law_32 : decode b_L_law 32 = .ok (.aload_n 0, 1) := by decide +kernel
theorem d_L_law_33 : decode b_L_law 33 = .ok (.iload 4, 2) := by decide +kernel
theorem d_L_law_35 : decode b_L_law 35 = .ok (.iaload, 1) := by decide +kernel
theorem d_L_law_36 : decode b_L_law 36 = .ok (.bipush 15, 2) := by decide +kernel
theorem d_L_law_38 : decode b_L_law 38 = .ok (.iand, 1) := by decide +kernel
theorem d_L_law_39 : decode b_L_law 39 = .ok (.tableswitch 750 0 15 #[77, 138, 175, 186, 197, 234, 278, 334, 402, 458, 502, 582, 607, 663, 676, 713], 77) := by decide +kernel
theorem d_L_law_116 : decode b_L_law 116 = .ok (.aload_n 1, 1) := by decide +kernel
theorem d_L_law_117 : decode b_L_law 117 = .ok (.aload_n 0, 1) := by decide +kernel
theorem d_L_law_118 : decode b_L_law 118 = .ok (.iload 4, 2) := by decide +kernel
theorem d_L_law_120 : decode b_L_law 120 = .ok (.iconst 1, 1) := by decide +kernel
theorem d_L_law_121 : decode b_L_law 121 = .ok (.iadd, 1) := by decide +kernel
theorem d_L_law_122 : decode b_L_law 122 = .ok (.iaload, 1) := by decide +kernel
theorem d_L_law_123 : decode b_L_law 123 = .ok (.aload_n 0, 1) := by decide +kernel
theorem d_L_law_124 : decode b_L_law 124 = .ok (.iload 4, 2) := by decide +kernel
theorem d_L_law_126 : decode b_L_law 126 = .ok (.iconst 2, 1) := by decide +kernel
theorem d_L_law_127 : decode b_L_law 127 = .ok (.iadd, 1) := by decide +kernel
theorem d_L_law_128 : decode b_L_law 128 = .ok (.iaload, 1) := by decide +kernel
theorem d_L_law_129 : decode b_L_law 129 = .ok (.aload_n 0, 1) := by decide +kernel
theorem d_L_law_130 : decode b_L_law 130 = .ok (.iload 4, 2) := by decide +kernel
theorem d_L_law_132 : decode b_L_law 132 = .ok (.iconst 3, 1) := by decide +kernel
theorem d_L_law_133 : decode b_L_law 133 = .ok (.iadd, 1) := by decide +kernel
theorem d_L_law_134 : decode b_L_law 134 = .ok (.iaload, 1) := by decide +kernel
theorem d_L_law_135 : decode b_L_law 135 = .ok (.aload_n 0, 1) := by decide +kernel
theorem d_L_law_136 : decode b_L_law 136 = .ok (.iload 4, 2) := by decide +kernel
theorem d_L_law_138 : decode b_L_law 138 = .ok (.iconst 4, 1) := by decide +kernel
theorem d_L_law_139 : decode b_L_law 139 = .ok (.iadd, 1) := by decide +kernel
theorem d_L_law_140 : decode b_L_law 140 = .ok (.iaload, 1) := by decide +kernel
theorem d_L_law_141 : decode b_L_law 141 = .ok (.invokevirtual 46, 3) := by decide +kernel
theorem d_L_law_144 : decode b_L_law 144 = .ok (.aload_n 2, 1) := by decide +kernel
theorem d_L_law_145 : decode b_L_law 145 = .ok (.aload_n 0, 1) := by decide +kernel
theorem d_L_law_146 : decode b_L_law 146 = .ok (.iload 4, 2) := by decide +kernel
theorem d_L_law_148 : decode b_L_law 148 = .ok (.iconst 1, 1) := by decide +kernel
theorem d_L_law_149 : decode b_L_law 149 = .ok (.iadd, 1) := by decide +kernel
theorem d_L_law_150 : decode b_L_law 150 = .ok (.iaload, 1) := by decide +kernel
theorem d_L_law_151 : decode b_L_law 151 = .ok (.aload_n 0, 1) := by decide +kernel
theorem d_L_law_152 : decode b_L_law 152 = .ok (.iload 4, 2) := by decide +kernel
theorem d_L_law_154 : decode b_L_law 154 = .ok (.iconst 2, 1) := by decide +kernel
theorem d_L_law_155 : decode b_L_law 155 = .ok (.iadd, 1) := by decide +kernel
theorem d_L_law_156 : decode b_L_law 156 = .ok (.iaload, 1) := by decide +kernel
theorem d_L_law_157 : decode b_L_law 157 = .ok (.aload_n 0, 1) := by decide +kernel
theorem d_L_law_158 : decode b_L_law 158 = .ok (.iload 4, 2) := by decide +kernel
theorem d_L_law_160 : decode b_L_law 160 = .ok (.iconst 3, 1) := by decide +kernel
theorem d_L_law_161 : decode b_L_law 161 = .ok (.iadd, 1) := by decide +kernel
theorem d_L_law_162 : decode b_L_law 162 = .ok (.iaload, 1) := by decide +kernel
theorem d_L_law_163 : decode b_L_law 163 = .ok (.aload_n 0, 1) := by decide +kernel
theorem d_L_law_164 : decode b_L_law 164 = .ok (.iload 4, 2) := by decide +kernel
theorem d_L_law_166 : decode b_L_law 166 = .ok (.iconst 4, 1) := by decide +kernel
theorem d_L_law_167 : decode b_L_law 167 = .ok (.iadd, 1) := by decide +kernel
theorem d_L_law_168 : decode b_L_law 168 = .ok (.iaload, 1) := by decide +kernel
theorem d_L_law_169 : decode b_L_law 169 = .ok (.invokevirtual 50, 3) := by decide +kernel
theorem d_L_law_172 : decode b_L_law 172 = .ok (.if_icmp .eq 617, 3) := by decide +kernel
theorem d_L_law_175 : decode b_L_law 175 = .ok (.iconst 0, 1) := by decide +kernel
theorem d_L_law_176 : decode b_L_law 176 = .ok (.ireturn, 1) := by decide +kernel
theorem d_L_law_177 : decode b_L_law 177 = .ok (.aload_n 1, 1) := by decide +kernel
theorem d_L_law_178 : decode b_L_law 178 = .ok (.aload_n 0, 1) := by decide +kernel
theorem d_L_law_179 : decode b_L_law 179 = .ok (.iload 4, 2) := by decide +kernel
theorem d_L_law_181 : decode b_L_law 181 = .ok (.iconst 1, 1) := by decide +kernel
theorem d_L_law_182 : decode b_L_law 182 = .ok (.iadd, 1) := by decide +kernel
theorem d_L_law_183 : decode b_L_law 183 = .ok (.iaload, 1) := by decide +kernel
theorem d_L_law_184 : decode b_L_law 184 = .ok (.aload_n 0, 1) := by decide +kernel
theorem d_L_law_185 : decode b_L_law 185 = .ok (.iload 4, 2) := by decide +kernel
theorem d_L_law_187 : decode b_L_law 187 = .ok (.iconst 2, 1) := by decide +kernel
theorem d_L_law_188 : decode b_L_law 188 = .ok (.iadd, 1) := by decide +kernel
theorem d_L_law_189 : decode b_L_law 189 = .ok (.iaload, 1) := by decide +kernel
theorem d_L_law_190 : decode b_L_law 190 = .ok (.invokevirtual 51, 3) := by decide +kernel
theorem d_L_law_193 : decode b_L_law 193 = .ok (.aload_n 2, 1) := by decide +kernel
theorem d_L_law_194 : decode b_L_law 194 = .ok (.aload_n 0, 1) := by decide +kernel
theorem d_L_law_195 : decode b_L_law 195 = .ok (.iload 4, 2) := by decide +kernel
theorem d_L_law_197 : decode b_L_law 197 = .ok (.iconst 1, 1) := by decide +kernel
theorem d_L_law_198 : decode b_L_law 198 = .ok (.iadd, 1) := by decide +kernel
theorem d_L_law_199 : decode b_L_law 199 = .ok (.iaload, 1) := by decide +kernel
theorem d_L_law_200 : decode b_L_law 200 = .ok (.aload_n 0, 1) := by decide +kernel
theorem d_L_law_201 : decode b_L_law 201 = .ok (.iload 4, 2) := by decide +kernel
theorem d_L_law_203 : decode b_L_law 203 = .ok (.iconst 2, 1) := by decide +kernel
theorem d_L_law_204 : decode b_L_law 204 = .ok (.iadd, 1) := by decide +kernel
theorem d_L_law_205 : decode b_L_law 205 = .ok (.iaload, 1) := by decide +kernel
theorem d_L_law_206 : decode b_L_law 206 = .ok (.invokevirtual 55, 3) := by decide +kernel
theorem d_L_law_209 : decode b_L_law 209 = .ok (.if_icmp .eq 580, 3) := by decide +kernel
theorem d_L_law_212 : decode b_L_law 212 = .ok (.iconst 0, 1) := by decide +kernel
theorem d_L_law_213 : decode b_L_law 213 = .ok (.ireturn, 1) := by decide +kernel
theorem d_L_law_214 : decode b_L_law 214 = .ok (.aload_n 1, 1) := by decide +kernel
theorem d_L_law_215 : decode b_L_law 215 = .ok (.invokevirtual 56, 3) := by decide +kernel
theorem d_L_law_218 : decode b_L_law 218 = .ok (.aload_n 2, 1) := by decide +kernel
theorem d_L_law_219 : decode b_L_law 219 = .ok (.invokevirtual 59, 3) := by decide +kernel
theorem d_L_law_222 : decode b_L_law 222 = .ok (.goto 567, 3) := by decide +kernel
theorem d_L_law_225 : decode b_L_law 225 = .ok (.aload_n 1, 1) := by decide +kernel
theorem d_L_law_226 : decode b_L_law 226 = .ok (.invokevirtual 60, 3) := by decide +kernel
theorem d_L_law_229 : decode b_L_law 229 = .ok (.aload_n 2, 1) := by decide +kernel
theorem d_L_law_230 : decode b_L_law 230 = .ok (.invokevirtual 63, 3) := by decide +kernel
theorem d_L_law_233 : decode b_L_law 233 = .ok (.goto 556, 3) := by decide +kernel
theorem d_L_law_236 : decode b_L_law 236 = .ok (.aload_n 1, 1) := by decide +kernel
theorem d_L_law_237 : decode b_L_law 237 = .ok (.aload_n 0, 1) := by decide +kernel
theorem d_L_law_238 : decode b_L_law 238 = .ok (.iload 4, 2) := by decide +kernel
theorem d_L_law_240 : decode b_L_law 240 = .ok (.iconst 1, 1) := by decide +kernel
theorem d_L_law_241 : decode b_L_law 241 = .ok (.iadd, 1) := by decide +kernel
theorem d_L_law_242 : decode b_L_law 242 = .ok (.iaload, 1) := by decide +kernel
theorem d_L_law_243 : decode b_L_law 243 = .ok (.aload_n 0, 1) := by decide +kernel
theorem d_L_law_244 : decode b_L_law 244 = .ok (.iload 4, 2) := by decide +kernel
theorem d_L_law_246 : decode b_L_law 246 = .ok (.iconst 2, 1) := by decide +kernel
theorem d_L_law_247 : decode b_L_law 247 = .ok (.iadd, 1) := by decide +kernel
theorem d_L_law_248 : decode b_L_law 248 = .ok (.iaload, 1) := by decide +kernel
theorem d_L_law_249 : decode b_L_law 249 = .ok (.invokevirtual 64, 3) := by decide +kernel
theorem d_L_law_252 : decode b_L_law 252 = .ok (.aload_n 2, 1) := by decide +kernel
theorem d_L_law_253 : decode b_L_law 253 = .ok (.aload_n 0, 1) := by decide +kernel
theorem d_L_law_254 : decode b_L_law 254 = .ok (.iload 4, 2) := by decide +kernel
theorem d_L_law_256 : decode b_L_law 256 = .ok (.iconst 1, 1) := by decide +kernel
theorem d_L_law_257 : decode b_L_law 257 = .ok (.iadd, 1) := by decide +kernel
theorem d_L_law_258 : decode b_L_law 258 = .ok (.iaload, 1) := by decide +kernel
theorem d_L_law_259 : decode b_L_law 259 = .ok (.aload_n 0, 1) := by decide +kernel
theorem d_L_law_260 : decode b_L_law 260 = .ok (.iload 4, 2) := by decide +kernel
theorem d_L_law_262 : decode b_L_law 262 = .ok (.iconst 2, 1) := by decide +kernel
theorem d_L_law_263 : decode b_L_law 263 = .ok (.iadd, 1) := by decide +kernel
theorem d_L_law_264 : decode b_L_law 264 = .ok (.iaload, 1) := by decide +kernel
theorem d_L_law_265 : decode b_L_law 265 = .ok (.invokevirtual 67, 3) := by decide +kernel
theorem d_L_law_268 : decode b_L_law 268 = .ok (.if_icmp .eq 521, 3) := by decide +kernel
theorem d_L_law_271 : decode b_L_law 271 = .ok (.iconst 0, 1) := by decide +kernel
theorem d_L_law_272 : decode b_L_law 272 = .ok (.ireturn, 1) := by decide +kernel
theorem d_L_law_273 : decode b_L_law 273 = .ok (.aload_n 1, 1) := by decide +kernel
theorem d_L_law_274 : decode b_L_law 274 = .ok (.aload_n 3, 1) := by decide +kernel
theorem d_L_law_275 : decode b_L_law 275 = .ok (.invokestatic 68, 3) := by decide +kernel
theorem d_L_law_278 : decode b_L_law 278 = .ok (.istore 5, 2) := by decide +kernel
theorem d_L_law_280 : decode b_L_law 280 = .ok (.aload_n 2, 1) := by decide +kernel
theorem d_L_law_281 : decode b_L_law 281 = .ok (.invokevirtual 73, 3) := by decide +kernel
theorem d_L_law_284 : decode b_L_law 284 = .ok (.istore 6, 2) := by decide +kernel
theorem d_L_law_286 : decode b_L_law 286 = .ok (.aload_n 2, 1) := by decide +kernel
theorem d_L_law_287 : decode b_L_law 287 = .ok (.invokevirtual 74, 3) := by decide +kernel
theorem d_L_law_290 : decode b_L_law 290 = .ok (.iload 5, 2) := by decide +kernel
theorem d_L_law_292 : decode b_L_law 292 = .ok (.if_icmp .eq 5, 3) := by decide +kernel
theorem d_L_law_295 : decode b_L_law 295 = .ok (.iconst 0, 1) := by decide +kernel
theorem d_L_law_296 : decode b_L_law 296 = .ok (.ireturn, 1) := by decide +kernel
theorem d_L_law_297 : decode b_L_law 297 = .ok (.iload 5, 2) := by decide +kernel
theorem d_L_law_299 : decode b_L_law 299 = .ok (.ifCond .ne 15, 3) := by decide +kernel
theorem d_L_law_302 : decode b_L_law 302 = .ok (.aload_n 3, 1) := by decide +kernel
theorem d_L_law_303 : decode b_L_law 303 = .ok (.iconst 0, 1) := by decide +kernel
theorem d_L_law_304 : decode b_L_law 304 = .ok (.laload, 1) := by decide +kernel
theorem d_L_law_305 : decode b_L_law 305 = .ok (.iload 6, 2) := by decide +kernel
theorem d_L_law_307 : decode b_L_law 307 = .ok (.i2l, 1) := by decide +kernel
theorem d_L_law_308 : decode b_L_law 308 = .ok (.lcmp, 1) := by decide +kernel
theorem d_L_law_309 : decode b_L_law 309 = .ok (.ifCond .eq 5, 3) := by decide +kernel
theorem d_L_law_312 : decode b_L_law 312 = .ok (.iconst 0, 1) := by decide +kernel
theorem d_L_law_313 : decode b_L_law 313 = .ok (.ireturn, 1) := by decide +kernel
theorem d_L_law_314 : decode b_L_law 314 = .ok (.goto 475, 3) := by decide +kernel
theorem d_L_law_317 : decode b_L_law 317 = .ok (.aload_n 1, 1) := by decide +kernel
theorem d_L_law_318 : decode b_L_law 318 = .ok (.aload_n 0, 1) := by decide +kernel
theorem d_L_law_319 : decode b_L_law 319 = .ok (.iload 4, 2) := by decide +kernel
theorem d_L_law_321 : decode b_L_law 321 = .ok (.iconst 1, 1) := by decide +kernel
theorem d_L_law_322 : decode b_L_law 322 = .ok (.iadd, 1) := by decide +kernel
theorem d_L_law_323 : decode b_L_law 323 = .ok (.iaload, 1) := by decide +kernel
theorem d_L_law_324 : decode b_L_law 324 = .ok (.aload_n 3, 1) := by decide +kernel
theorem d_L_law_325 : decode b_L_law 325 = .ok (.invokestatic 77, 3) := by decide +kernel
theorem d_L_law_328 : decode b_L_law 328 = .ok (.istore 5, 2) := by decide +kernel
theorem d_L_law_330 : decode b_L_law 330 = .ok (.aload_n 2, 1) := by decide +kernel
theorem d_L_law_331 : decode b_L_law 331 = .ok (.aload_n 0, 1) := by decide +kernel
theorem d_L_law_332 : decode b_L_law 332 = .ok (.iload 4, 2) := by decide +kernel
theorem d_L_law_334 : decode b_L_law 334 = .ok (.iconst 1, 1) := by decide +kernel
theorem d_L_law_335 : decode b_L_law 335 = .ok (.iadd, 1) := by decide +kernel
theorem d_L_law_336 : decode b_L_law 336 = .ok (.iaload, 1) := by decide +kernel
theorem d_L_law_337 : decode b_L_law 337 = .ok (.invokevirtual 80, 3) := by decide +kernel
theorem d_L_law_340 : decode b_L_law 340 = .ok (.istore 6, 2) := by decide +kernel
theorem d_L_law_342 : decode b_L_law 342 = .ok (.aload_n 2, 1) := by decide +kernel
theorem d_L_law_343 : decode b_L_law 343 = .ok (.invokevirtual 74, 3) := by decide +kernel
theorem d_L_law_346 : decode b_L_law 346 = .ok (.iload 5, 2) := by decide +kernel
theorem d_L_law_348 : decode b_L_law 348 = .ok (.if_icmp .eq 5, 3) := by decide +kernel
theorem d_L_law_351 : decode b_L_law 351 = .ok (.iconst 0, 1) := by decide +kernel
theorem d_L_law_352 : decode b_L_law 352 = .ok (.ireturn, 1) := by decide +kernel
theorem d_L_law_353 : decode b_L_law 353 = .ok (.iload 5, 2) := by decide +kernel
theorem d_L_law_355 : decode b_L_law 355 = .ok (.ifCond .ne 15, 3) := by decide +kernel
theorem d_L_law_358 : decode b_L_law 358 = .ok (.aload_n 3, 1) := by decide +kernel
theorem d_L_law_359 : decode b_L_law 359 = .ok (.iconst 0, 1) := by decide +kernel
theorem d_L_law_360 : decode b_L_law 360 = .ok (.laload, 1) := by decide +kernel
theorem d_L_law_361 : decode b_L_law 361 = .ok (.iload 6, 2) := by decide +kernel
theorem d_L_law_363 : decode b_L_law 363 = .ok (.i2l, 1) := by decide +kernel
theorem d_L_law_364 : decode b_L_law 364 = .ok (.lcmp, 1) := by decide +kernel
theorem d_L_law_365 : decode b_L_law 365 = .ok (.ifCond .eq 5, 3) := by decide +kernel
theorem d_L_law_368 : decode b_L_law 368 = .ok (.iconst 0, 1) := by decide +kernel
theorem d_L_law_369 : decode b_L_law 369 = .ok (.ireturn, 1) := by decide +kernel
theorem d_L_law_370 : decode b_L_law 370 = .ok (.goto 419, 3) := by decide +kernel
theorem d_L_law_373 : decode b_L_law 373 = .ok (.aload_n 1, 1) := by decide +kernel
theorem d_L_law_374 : decode b_L_law 374 = .ok (.aload_n 0, 1) := by decide +kernel
theorem d_L_law_375 : decode b_L_law 375 = .ok (.iload 4, 2) := by decide +kernel
theorem d_L_law_377 : decode b_L_law 377 = .ok (.iconst 1, 1) := by decide +kernel
theorem d_L_law_378 : decode b_L_law 378 = .ok (.iadd, 1) := by decide +kernel
theorem d_L_law_379 : decode b_L_law 379 = .ok (.iaload, 1) := by decide +kernel
theorem d_L_law_380 : decode b_L_law 380 = .ok (.aload_n 0, 1) := by decide +kernel
theorem d_L_law_381 : decode b_L_law 381 = .ok (.iload 4, 2) := by decide +kernel
theorem d_L_law_383 : decode b_L_law 383 = .ok (.iconst 2, 1) := by decide +kernel
theorem d_L_law_384 : decode b_L_law 384 = .ok (.iadd, 1) := by decide +kernel
theorem d_L_law_385 : decode b_L_law 385 = .ok (.iaload, 1) := by decide +kernel
theorem d_L_law_386 : decode b_L_law 386 = .ok (.aload_n 3, 1) := by decide +kernel
theorem d_L_law_387 : decode b_L_law 387 = .ok (.invokestatic 81, 3) := by decide +kernel
theorem d_L_law_390 : decode b_L_law 390 = .ok (.istore 5, 2) := by decide +kernel
theorem d_L_law_392 : decode b_L_law 392 = .ok (.aload_n 2, 1) := by decide +kernel
theorem d_L_law_393 : decode b_L_law 393 = .ok (.aload_n 0, 1) := by decide +kernel
theorem d_L_law_394 : decode b_L_law 394 = .ok (.iload 4, 2) := by decide +kernel
theorem d_L_law_396 : decode b_L_law 396 = .ok (.iconst 1, 1) := by decide +kernel
theorem d_L_law_397 : decode b_L_law 397 = .ok (.iadd, 1) := by decide +kernel
theorem d_L_law_398 : decode b_L_law 398 = .ok (.iaload, 1) := by decide +kernel
theorem d_L_law_399 : decode b_L_law 399 = .ok (.aload_n 0, 1) := by decide +kernel
theorem d_L_law_400 : decode b_L_law 400 = .ok (.iload 4, 2) := by decide +kernel
theorem d_L_law_402 : decode b_L_law 402 = .ok (.iconst 2, 1) := by decide +kernel
theorem d_L_law_403 : decode b_L_law 403 = .ok (.iadd, 1) := by decide +kernel
theorem d_L_law_404 : decode b_L_law 404 = .ok (.iaload, 1) := by decide +kernel
theorem d_L_law_405 : decode b_L_law 405 = .ok (.invokevirtual 84, 3) := by decide +kernel
theorem d_L_law_408 : decode b_L_law 408 = .ok (.istore 6, 2) := by decide +kernel
theorem d_L_law_410 : decode b_L_law 410 = .ok (.aload_n 2, 1) := by decide +kernel
theorem d_L_law_411 : decode b_L_law 411 = .ok (.invokevirtual 74, 3) := by decide +kernel
theorem d_L_law_414 : decode b_L_law 414 = .ok (.iload 5, 2) := by decide +kernel
theorem d_L_law_416 : decode b_L_law 416 = .ok (.if_icmp .eq 5, 3) := by decide +kernel
theorem d_L_law_419 : decode b_L_law 419 = .ok (.iconst 0, 1) := by decide +kernel
theorem d_L_law_420 : decode b_L_law 420 = .ok (.ireturn, 1) := by decide +kernel
theorem d_L_law_421 : decode b_L_law 421 = .ok (.iload 5, 2) := by decide +kernel
theorem d_L_law_423 : decode b_L_law 423 = .ok (.ifCond .ne 15, 3) := by decide +kernel
theorem d_L_law_426 : decode b_L_law 426 = .ok (.aload_n 3, 1) := by decide +kernel
theorem d_L_law_427 : decode b_L_law 427 = .ok (.iconst 0, 1) := by decide +kernel
theorem d_L_law_428 : decode b_L_law 428 = .ok (.laload, 1) := by decide +kernel
theorem d_L_law_429 : decode b_L_law 429 = .ok (.iload 6, 2) := by decide +kernel
theorem d_L_law_431 : decode b_L_law 431 = .ok (.i2l, 1) := by decide +kernel
theorem d_L_law_432 : decode b_L_law 432 = .ok (.lcmp, 1) := by decide +kernel
theorem d_L_law_433 : decode b_L_law 433 = .ok (.ifCond .eq 5, 3) := by decide +kernel
theorem d_L_law_436 : decode b_L_law 436 = .ok (.iconst 0, 1) := by decide +kernel
theorem d_L_law_437 : decode b_L_law 437 = .ok (.ireturn, 1) := by decide +kernel
theorem d_L_law_438 : decode b_L_law 438 = .ok (.goto 351, 3) := by decide +kernel
theorem d_L_law_441 : decode b_L_law 441 = .ok (.aload_n 1, 1) := by decide +kernel
theorem d_L_law_442 : decode b_L_law 442 = .ok (.aload_n 0, 1) := by decide +kernel
theorem d_L_law_443 : decode b_L_law 443 = .ok (.iload 4, 2) := by decide +kernel
theorem d_L_law_445 : decode b_L_law 445 = .ok (.iconst 1, 1) := by decide +kernel
theorem d_L_law_446 : decode b_L_law 446 = .ok (.iadd, 1) := by decide +kernel
theorem d_L_law_447 : decode b_L_law 447 = .ok (.iaload, 1) := by decide +kernel
theorem d_L_law_448 : decode b_L_law 448 = .ok (.aload_n 3, 1) := by decide +kernel
theorem d_L_law_449 : decode b_L_law 449 = .ok (.invokestatic 85, 3) := by decide +kernel
theorem d_L_law_452 : decode b_L_law 452 = .ok (.istore 5, 2) := by decide +kernel
theorem d_L_law_454 : decode b_L_law 454 = .ok (.aload_n 2, 1) := by decide +kernel
theorem d_L_law_455 : decode b_L_law 455 = .ok (.aload_n 0, 1) := by decide +kernel
theorem d_L_law_456 : decode b_L_law 456 = .ok (.iload 4, 2) := by decide +kernel
theorem d_L_law_458 : decode b_L_law 458 = .ok (.iconst 1, 1) := by decide +kernel
theorem d_L_law_459 : decode b_L_law 459 = .ok (.iadd, 1) := by decide +kernel
theorem d_L_law_460 : decode b_L_law 460 = .ok (.iaload, 1) := by decide +kernel
theorem d_L_law_461 : decode b_L_law 461 = .ok (.invokevirtual 87, 3) := by decide +kernel
theorem d_L_law_464 : decode b_L_law 464 = .ok (.istore 6, 2) := by decide +kernel
theorem d_L_law_466 : decode b_L_law 466 = .ok (.aload_n 2, 1) := by decide +kernel
theorem d_L_law_467 : decode b_L_law 467 = .ok (.invokevirtual 74, 3) := by decide +kernel
theorem d_L_law_470 : decode b_L_law 470 = .ok (.iload 5, 2) := by decide +kernel
theorem d_L_law_472 : decode b_L_law 472 = .ok (.if_icmp .eq 5, 3) := by decide +kernel
theorem d_L_law_475 : decode b_L_law 475 = .ok (.iconst 0, 1) := by decide +kernel
theorem d_L_law_476 : decode b_L_law 476 = .ok (.ireturn, 1) := by decide +kernel
theorem d_L_law_477 : decode b_L_law 477 = .ok (.iload 5, 2) := by decide +kernel
theorem d_L_law_479 : decode b_L_law 479 = .ok (.ifCond .ne 15, 3) := by decide +kernel
theorem d_L_law_482 : decode b_L_law 482 = .ok (.aload_n 3, 1) := by decide +kernel
theorem d_L_law_483 : decode b_L_law 483 = .ok (.iconst 0, 1) := by decide +kernel
theorem d_L_law_484 : decode b_L_law 484 = .ok (.laload, 1) := by decide +kernel
theorem d_L_law_485 : decode b_L_law 485 = .ok (.iload 6, 2) := by decide +kernel
theorem d_L_law_487 : decode b_L_law 487 = .ok (.i2l, 1) := by decide +kernel
theorem d_L_law_488 : decode b_L_law 488 = .ok (.lcmp, 1) := by decide +kernel
theorem d_L_law_489 : decode b_L_law 489 = .ok (.ifCond .eq 5, 3) := by decide +kernel
theorem d_L_law_492 : decode b_L_law 492 = .ok (.iconst 0, 1) := by decide +kernel
theorem d_L_law_493 : decode b_L_law 493 = .ok (.ireturn, 1) := by decide +kernel
theorem d_L_law_494 : decode b_L_law 494 = .ok (.goto 295, 3) := by decide +kernel
theorem d_L_law_497 : decode b_L_law 497 = .ok (.aload_n 1, 1) := by decide +kernel
theorem d_L_law_498 : decode b_L_law 498 = .ok (.aload_n 3, 1) := by decide +kernel
theorem d_L_law_499 : decode b_L_law 499 = .ok (.invokestatic 88, 3) := by decide +kernel
theorem d_L_law_502 : decode b_L_law 502 = .ok (.istore 5, 2) := by decide +kernel
theorem d_L_law_504 : decode b_L_law 504 = .ok (.aload_n 2, 1) := by decide +kernel
theorem d_L_law_505 : decode b_L_law 505 = .ok (.invokevirtual 90, 3) := by decide +kernel
theorem d_L_law_508 : decode b_L_law 508 = .ok (.istore 6, 2) := by decide +kernel
theorem d_L_law_510 : decode b_L_law 510 = .ok (.aload_n 2, 1) := by decide +kernel
theorem d_L_law_511 : decode b_L_law 511 = .ok (.invokevirtual 74, 3) := by decide +kernel
theorem d_L_law_514 : decode b_L_law 514 = .ok (.iload 5, 2) := by decide +kernel
theorem d_L_law_516 : decode b_L_law 516 = .ok (.if_icmp .eq 5, 3) := by decide +kernel
theorem d_L_law_519 : decode b_L_law 519 = .ok (.iconst 0, 1) := by decide +kernel
theorem d_L_law_520 : decode b_L_law 520 = .ok (.ireturn, 1) := by decide +kernel
theorem d_L_law_521 : decode b_L_law 521 = .ok (.iload 5, 2) := by decide +kernel
theorem d_L_law_523 : decode b_L_law 523 = .ok (.ifCond .ne 15, 3) := by decide +kernel
theorem d_L_law_526 : decode b_L_law 526 = .ok (.aload_n 3, 1) := by decide +kernel
theorem d_L_law_527 : decode b_L_law 527 = .ok (.iconst 0, 1) := by decide +kernel
theorem d_L_law_528 : decode b_L_law 528 = .ok (.laload, 1) := by decide +kernel
theorem d_L_law_529 : decode b_L_law 529 = .ok (.iload 6, 2) := by decide +kernel
theorem d_L_law_531 : decode b_L_law 531 = .ok (.i2l, 1) := by decide +kernel
theorem d_L_law_532 : decode b_L_law 532 = .ok (.lcmp, 1) := by decide +kernel
theorem d_L_law_533 : decode b_L_law 533 = .ok (.ifCond .eq 5, 3) := by decide +kernel
theorem d_L_law_536 : decode b_L_law 536 = .ok (.iconst 0, 1) := by decide +kernel
theorem d_L_law_537 : decode b_L_law 537 = .ok (.ireturn, 1) := by decide +kernel
theorem d_L_law_538 : decode b_L_law 538 = .ok (.goto 251, 3) := by decide +kernel
theorem d_L_law_541 : decode b_L_law 541 = .ok (.aload_n 1, 1) := by decide +kernel
theorem d_L_law_542 : decode b_L_law 542 = .ok (.aload_n 0, 1) := by decide +kernel
theorem d_L_law_543 : decode b_L_law 543 = .ok (.iload 4, 2) := by decide +kernel
theorem d_L_law_545 : decode b_L_law 545 = .ok (.iconst 1, 1) := by decide +kernel
theorem d_L_law_546 : decode b_L_law 546 = .ok (.iadd, 1) := by decide +kernel
theorem d_L_law_547 : decode b_L_law 547 = .ok (.iaload, 1) := by decide +kernel
theorem d_L_law_548 : decode b_L_law 548 = .ok (.aload_n 0, 1) := by decide +kernel
theorem d_L_law_549 : decode b_L_law 549 = .ok (.iload 4, 2) := by decide +kernel
theorem d_L_law_551 : decode b_L_law 551 = .ok (.iconst 2, 1) := by decide +kernel
theorem d_L_law_552 : decode b_L_law 552 = .ok (.iadd, 1) := by decide +kernel
theorem d_L_law_553 : decode b_L_law 553 = .ok (.iaload, 1) := by decide +kernel
theorem d_L_law_554 : decode b_L_law 554 = .ok (.aload_n 0, 1) := by decide +kernel
theorem d_L_law_555 : decode b_L_law 555 = .ok (.iload 4, 2) := by decide +kernel
theorem d_L_law_557 : decode b_L_law 557 = .ok (.iconst 3, 1) := by decide +kernel
theorem d_L_law_558 : decode b_L_law 558 = .ok (.iadd, 1) := by decide +kernel
theorem d_L_law_559 : decode b_L_law 559 = .ok (.iaload, 1) := by decide +kernel
theorem d_L_law_560 : decode b_L_law 560 = .ok (.aload_n 3, 1) := by decide +kernel
theorem d_L_law_561 : decode b_L_law 561 = .ok (.invokestatic 91, 3) := by decide +kernel
theorem d_L_law_564 : decode b_L_law 564 = .ok (.istore 5, 2) := by decide +kernel
theorem d_L_law_566 : decode b_L_law 566 = .ok (.aload_n 2, 1) := by decide +kernel
theorem d_L_law_567 : decode b_L_law 567 = .ok (.aload_n 0, 1) := by decide +kernel
theorem d_L_law_568 : decode b_L_law 568 = .ok (.iload 4, 2) := by decide +kernel
theorem d_L_law_570 : decode b_L_law 570 = .ok (.iconst 1, 1) := by decide +kernel
theorem d_L_law_571 : decode b_L_law 571 = .ok (.iadd, 1) := by decide +kernel
theorem d_L_law_572 : decode b_L_law 572 = .ok (.iaload, 1) := by decide +kernel
theorem d_L_law_573 : decode b_L_law 573 = .ok (.aload_n 0, 1) := by decide +kernel
theorem d_L_law_574 : decode b_L_law 574 = .ok (.iload 4, 2) := by decide +kernel
theorem d_L_law_576 : decode b_L_law 576 = .ok (.iconst 2, 1) := by decide +kernel
theorem d_L_law_577 : decode b_L_law 577 = .ok (.iadd, 1) := by decide +kernel
theorem d_L_law_578 : decode b_L_law 578 = .ok (.iaload, 1) := by decide +kernel
theorem d_L_law_579 : decode b_L_law 579 = .ok (.aload_n 0, 1) := by decide +kernel
theorem d_L_law_580 : decode b_L_law 580 = .ok (.iload 4, 2) := by decide +kernel
theorem d_L_law_582 : decode b_L_law 582 = .ok (.iconst 3, 1) := by decide +kernel
theorem d_L_law_583 : decode b_L_law 583 = .ok (.iadd, 1) := by decide +kernel
theorem d_L_law_584 : decode b_L_law 584 = .ok (.iaload, 1) := by decide +kernel
theorem d_L_law_585 : decode b_L_law 585 = .ok (.invokevirtual 94, 3) := by decide +kernel
theorem d_L_law_588 : decode b_L_law 588 = .ok (.istore 6, 2) := by decide +kernel
theorem d_L_law_590 : decode b_L_law 590 = .ok (.aload_n 2, 1) := by decide +kernel
theorem d_L_law_591 : decode b_L_law 591 = .ok (.invokevirtual 74, 3) := by decide +kernel
theorem d_L_law_594 : decode b_L_law 594 = .ok (.iload 5, 2) := by decide +kernel
theorem d_L_law_596 : decode b_L_law 596 = .ok (.if_icmp .eq 5, 3) := by decide +kernel
theorem d_L_law_599 : decode b_L_law 599 = .ok (.iconst 0, 1) := by decide +kernel
theorem d_L_law_600 : decode b_L_law 600 = .ok (.ireturn, 1) := by decide +kernel
theorem d_L_law_601 : decode b_L_law 601 = .ok (.iload 5, 2) := by decide +kernel
theorem d_L_law_603 : decode b_L_law 603 = .ok (.ifCond .ne 15, 3) := by decide +kernel
theorem d_L_law_606 : decode b_L_law 606 = .ok (.aload_n 3, 1) := by decide +kernel
theorem d_L_law_607 : decode b_L_law 607 = .ok (.iconst 0, 1) := by decide +kernel
theorem d_L_law_608 : decode b_L_law 608 = .ok (.laload, 1) := by decide +kernel
theorem d_L_law_609 : decode b_L_law 609 = .ok (.iload 6, 2) := by decide +kernel
theorem d_L_law_611 : decode b_L_law 611 = .ok (.i2l, 1) := by decide +kernel
theorem d_L_law_612 : decode b_L_law 612 = .ok (.lcmp, 1) := by decide +kernel
theorem d_L_law_613 : decode b_L_law 613 = .ok (.ifCond .eq 5, 3) := by decide +kernel
theorem d_L_law_616 : decode b_L_law 616 = .ok (.iconst 0, 1) := by decide +kernel
theorem d_L_law_617 : decode b_L_law 617 = .ok (.ireturn, 1) := by decide +kernel
theorem d_L_law_618 : decode b_L_law 618 = .ok (.goto 171, 3) := by decide +kernel
theorem d_L_law_621 : decode b_L_law 621 = .ok (.aload_n 1, 1) := by decide +kernel
theorem d_L_law_622 : decode b_L_law 622 = .ok (.aload_n 0, 1) := by decide +kernel
theorem d_L_law_623 : decode b_L_law 623 = .ok (.iload 4, 2) := by decide +kernel
theorem d_L_law_625 : decode b_L_law 625 = .ok (.iconst 1, 1) := by decide +kernel
theorem d_L_law_626 : decode b_L_law 626 = .ok (.iadd, 1) := by decide +kernel
theorem d_L_law_627 : decode b_L_law 627 = .ok (.iaload, 1) := by decide +kernel
theorem d_L_law_628 : decode b_L_law 628 = .ok (.invokevirtual 95, 3) := by decide +kernel
theorem d_L_law_631 : decode b_L_law 631 = .ok (.aload_n 2, 1) := by decide +kernel
theorem d_L_law_632 : decode b_L_law 632 = .ok (.aload_n 0, 1) := by decide +kernel
theorem d_L_law_633 : decode b_L_law 633 = .ok (.iload 4, 2) := by decide +kernel
theorem d_L_law_635 : decode b_L_law 635 = .ok (.iconst 1, 1) := by decide +kernel
theorem d_L_law_636 : decode b_L_law 636 = .ok (.iadd, 1) := by decide +kernel
theorem d_L_law_637 : decode b_L_law 637 = .ok (.iaload, 1) := by decide +kernel
theorem d_L_law_638 : decode b_L_law 638 = .ok (.invokevirtual 99, 3) := by decide +kernel
theorem d_L_law_641 : decode b_L_law 641 = .ok (.if_icmp .eq 148, 3) := by decide +kernel
theorem d_L_law_644 : decode b_L_law 644 = .ok (.iconst 0, 1) := by decide +kernel
theorem d_L_law_645 : decode b_L_law 645 = .ok (.ireturn, 1) := by decide +kernel
theorem d_L_law_646 : decode b_L_law 646 = .ok (.aload_n 1, 1) := by decide +kernel
theorem d_L_law_647 : decode b_L_law 647 = .ok (.aload_n 0, 1) := by decide +kernel
theorem d_L_law_648 : decode b_L_law 648 = .ok (.iload 4, 2) := by decide +kernel
theorem d_L_law_650 : decode b_L_law 650 = .ok (.iconst 1, 1) := by decide +kernel
theorem d_L_law_651 : decode b_L_law 651 = .ok (.iadd, 1) := by decide +kernel
theorem d_L_law_652 : decode b_L_law 652 = .ok (.iaload, 1) := by decide +kernel
theorem d_L_law_653 : decode b_L_law 653 = .ok (.aload_n 3, 1) := by decide +kernel
theorem d_L_law_654 : decode b_L_law 654 = .ok (.invokestatic 100, 3) := by decide +kernel
theorem d_L_law_657 : decode b_L_law 657 = .ok (.istore 5, 2) := by decide +kernel
theorem d_L_law_659 : decode b_L_law 659 = .ok (.aload_n 2, 1) := by decide +kernel
theorem d_L_law_660 : decode b_L_law 660 = .ok (.aload_n 0, 1) := by decide +kernel
theorem d_L_law_661 : decode b_L_law 661 = .ok (.iload 4, 2) := by decide +kernel
theorem d_L_law_663 : decode b_L_law 663 = .ok (.iconst 1, 1) := by decide +kernel
theorem d_L_law_664 : decode b_L_law 664 = .ok (.iadd, 1) := by decide +kernel
theorem d_L_law_665 : decode b_L_law 665 = .ok (.iaload, 1) := by decide +kernel
theorem d_L_law_666 : decode b_L_law 666 = .ok (.invokevirtual 102, 3) := by decide +kernel
theorem d_L_law_669 : decode b_L_law 669 = .ok (.istore 6, 2) := by decide +kernel
theorem d_L_law_671 : decode b_L_law 671 = .ok (.aload_n 2, 1) := by decide +kernel
theorem d_L_law_672 : decode b_L_law 672 = .ok (.invokevirtual 74, 3) := by decide +kernel
theorem d_L_law_675 : decode b_L_law 675 = .ok (.iload 5, 2) := by decide +kernel
theorem d_L_law_677 : decode b_L_law 677 = .ok (.if_icmp .eq 5, 3) := by decide +kernel
theorem d_L_law_680 : decode b_L_law 680 = .ok (.iconst 0, 1) := by decide +kernel
theorem d_L_law_681 : decode b_L_law 681 = .ok (.ireturn, 1) := by decide +kernel
theorem d_L_law_682 : decode b_L_law 682 = .ok (.iload 5, 2) := by decide +kernel
theorem d_L_law_684 : decode b_L_law 684 = .ok (.ifCond .ne 15, 3) := by decide +kernel
theorem d_L_law_687 : decode b_L_law 687 = .ok (.aload_n 3, 1) := by decide +kernel
theorem d_L_law_688 : decode b_L_law 688 = .ok (.iconst 0, 1) := by decide +kernel
theorem d_L_law_689 : decode b_L_law 689 = .ok (.laload, 1) := by decide +kernel
theorem d_L_law_690 : decode b_L_law 690 = .ok (.iload 6, 2) := by decide +kernel
theorem d_L_law_692 : decode b_L_law 692 = .ok (.i2l, 1) := by decide +kernel
theorem d_L_law_693 : decode b_L_law 693 = .ok (.lcmp, 1) := by decide +kernel
theorem d_L_law_694 : decode b_L_law 694 = .ok (.ifCond .eq 5, 3) := by decide +kernel
theorem d_L_law_697 : decode b_L_law 697 = .ok (.iconst 0, 1) := by decide +kernel
theorem d_L_law_698 : decode b_L_law 698 = .ok (.ireturn, 1) := by decide +kernel
theorem d_L_law_699 : decode b_L_law 699 = .ok (.goto 90, 3) := by decide +kernel
theorem d_L_law_702 : decode b_L_law 702 = .ok (.aload_n 1, 1) := by decide +kernel
theorem d_L_law_703 : decode b_L_law 703 = .ok (.invokevirtual 103, 3) := by decide +kernel
theorem d_L_law_706 : decode b_L_law 706 = .ok (.aload_n 2, 1) := by decide +kernel
theorem d_L_law_707 : decode b_L_law 707 = .ok (.invokevirtual 106, 3) := by decide +kernel
theorem d_L_law_710 : decode b_L_law 710 = .ok (.if_icmp .eq 79, 3) := by decide +kernel
theorem d_L_law_713 : decode b_L_law 713 = .ok (.iconst 0, 1) := by decide +kernel
theorem d_L_law_714 : decode b_L_law 714 = .ok (.ireturn, 1) := by decide +kernel
theorem d_L_law_715 : decode b_L_law 715 = .ok (.aload_n 1, 1) := by decide +kernel
theorem d_L_law_716 : decode b_L_law 716 = .ok (.aload_n 0, 1) := by decide +kernel
theorem d_L_law_717 : decode b_L_law 717 = .ok (.iload 4, 2) := by decide +kernel
theorem d_L_law_719 : decode b_L_law 719 = .ok (.iconst 1, 1) := by decide +kernel
theorem d_L_law_720 : decode b_L_law 720 = .ok (.iadd, 1) := by decide +kernel
theorem d_L_law_721 : decode b_L_law 721 = .ok (.iaload, 1) := by decide +kernel
theorem d_L_law_722 : decode b_L_law 722 = .ok (.aload_n 0, 1) := by decide +kernel
theorem d_L_law_723 : decode b_L_law 723 = .ok (.iload 4, 2) := by decide +kernel
theorem d_L_law_725 : decode b_L_law 725 = .ok (.iconst 2, 1) := by decide +kernel
theorem d_L_law_726 : decode b_L_law 726 = .ok (.iadd, 1) := by decide +kernel
theorem d_L_law_727 : decode b_L_law 727 = .ok (.iaload, 1) := by decide +kernel
theorem d_L_law_728 : decode b_L_law 728 = .ok (.invokevirtual 107, 3) := by decide +kernel
theorem d_L_law_731 : decode b_L_law 731 = .ok (.aload_n 2, 1) := by decide +kernel
theorem d_L_law_732 : decode b_L_law 732 = .ok (.aload_n 0, 1) := by decide +kernel
theorem d_L_law_733 : decode b_L_law 733 = .ok (.iload 4, 2) := by decide +kernel
theorem d_L_law_735 : decode b_L_law 735 = .ok (.iconst 1, 1) := by decide +kernel
theorem d_L_law_736 : decode b_L_law 736 = .ok (.iadd, 1) := by decide +kernel
theorem d_L_law_737 : decode b_L_law 737 = .ok (.iaload, 1) := by decide +kernel
theorem d_L_law_738 : decode b_L_law 738 = .ok (.aload_n 0, 1) := by decide +kernel
theorem d_L_law_739 : decode b_L_law 739 = .ok (.iload 4, 2) := by decide +kernel
theorem d_L_law_741 : decode b_L_law 741 = .ok (.iconst 2, 1) := by decide +kernel
theorem d_L_law_742 : decode b_L_law 742 = .ok (.iadd, 1) := by decide +kernel
theorem d_L_law_743 : decode b_L_law 743 = .ok (.iaload, 1) := by decide +kernel
theorem d_L_law_744 : decode b_L_law 744 = .ok (.invokevirtual 110, 3) := by decide +kernel
theorem d_L_law_747 : decode b_L_law 747 = .ok (.if_icmp .eq 42, 3) := by decide +kernel
theorem d_L_law_750 : decode b_L_law 750 = .ok (.iconst 0, 1) := by decide +kernel
theorem d_L_law_751 : decode b_L_law 751 = .ok (.ireturn, 1) := by decide +kernel
theorem d_L_law_752 : decode b_L_law 752 = .ok (.aload_n 1, 1) := by decide +kernel
theorem d_L_law_753 : decode b_L_law 753 = .ok (.aload_n 0, 1) := by decide +kernel
theorem d_L_law_754 : decode b_L_law 754 = .ok (.iload 4, 2) := by decide +kernel
theorem d_L_law_756 : decode b_L_law 756 = .ok (.iconst 1, 1) := by decide +kernel
theorem d_L_law_757 : decode b_L_law 757 = .ok (.iadd, 1) := by decide +kernel
theorem d_L_law_758 : decode b_L_law 758 = .ok (.iaload, 1) := by decide +kernel
theorem d_L_law_759 : decode b_L_law 759 = .ok (.aload_n 0, 1) := by decide +kernel
theorem d_L_law_760 : decode b_L_law 760 = .ok (.iload 4, 2) := by decide +kernel
theorem d_L_law_762 : decode b_L_law 762 = .ok (.iconst 2, 1) := by decide +kernel
theorem d_L_law_763 : decode b_L_law 763 = .ok (.iadd, 1) := by decide +kernel
theorem d_L_law_764 : decode b_L_law 764 = .ok (.iaload, 1) := by decide +kernel
theorem d_L_law_765 : decode b_L_law 765 = .ok (.invokevirtual 111, 3) := by decide +kernel
theorem d_L_law_768 : decode b_L_law 768 = .ok (.aload_n 2, 1) := by decide +kernel
theorem d_L_law_769 : decode b_L_law 769 = .ok (.aload_n 0, 1) := by decide +kernel
theorem d_L_law_770 : decode b_L_law 770 = .ok (.iload 4, 2) := by decide +kernel
theorem d_L_law_772 : decode b_L_law 772 = .ok (.iconst 1, 1) := by decide +kernel
theorem d_L_law_773 : decode b_L_law 773 = .ok (.iadd, 1) := by decide +kernel
theorem d_L_law_774 : decode b_L_law 774 = .ok (.iaload, 1) := by decide +kernel
theorem d_L_law_775 : decode b_L_law 775 = .ok (.aload_n 0, 1) := by decide +kernel
theorem d_L_law_776 : decode b_L_law 776 = .ok (.iload 4, 2) := by decide +kernel
theorem d_L_law_778 : decode b_L_law 778 = .ok (.iconst 2, 1) := by decide +kernel
theorem d_L_law_779 : decode b_L_law 779 = .ok (.iadd, 1) := by decide +kernel
theorem d_L_law_780 : decode b_L_law 780 = .ok (.iaload, 1) := by decide +kernel
theorem d_L_law_781 : decode b_L_law 781 = .ok (.invokevirtual 114, 3) := by decide +kernel
theorem d_L_law_784 : decode b_L_law 784 = .ok (.if_icmp .eq 5, 3) := by decide +kernel
theorem d_L_law_787 : decode b_L_law 787 = .ok (.iconst 0, 1) := by decide +kernel
theorem d_L_law_788 : decode b_L_law 788 = .ok (.ireturn, 1) := by decide +kernel
theorem d_L_law_789 : decode b_L_law 789 = .ok (.iinc 4 5, 3) := by decide +kernel
theorem d_L_law_792 : decode b_L_law 792 = .ok (.goto (-769), 3) := by decide +kernel
theorem d_L_law_795 : decode b_L_law 795 = .ok (.iconst 1, 1) := by decide +kernel
theorem d_L_law_796 : decode b_L_law 796 = .ok (.ireturn, 1) := by decide +kernel
theorem xw_467 : Cond.code y_O_admit b_O_admit 1 (some .int) ∈ wB := wB_in (by decide +kernel) rfl
theorem xw_468 : Cond.methodLink R_L 7 y_O_admit ∈ wB := wB_in (by decide +kernel) rfl
theorem xw_469 : Cond.instanceMethod y_O_admit ∈ wB := wB_in (by decide +kernel) rfl
theorem xw_470 : Cond.selects R_O y_O_admit y_O_admit ∈ wB := wB_in (by decide +kernel) rfl
theorem xw_471 : Cond.code y_O_response b_O_response 2 (some .int) ∈ wB := wB_in (by decide +kernel) rfl
theorem xw_472 : Cond.methodLink R_L 15 y_O_response ∈ wB := wB_in (by decide +kernel) rfl
theorem xw_473 : Cond.instanceMethod y_O_response ∈ wB := wB_in (by decide +kernel) rfl
theorem xw_474 : Cond.selects R_O y_O_response y_O_response ∈ wB := wB_in (by decide +kernel) rfl
theorem xw_475 : Cond.code y_O_job b_O_job 3 (some .int) ∈ wB := wB_in (by decide +kernel) rfl
theorem xw_476 : Cond.methodLink R_L 23 y_O_job ∈ wB := wB_in (by decide +kernel) rfl
theorem xw_477 : Cond.instanceMethod y_O_job ∈ wB := wB_in (by decide +kernel) rfl
theorem xw_478 : Cond.selects R_O y_O_job y_O_job ∈ wB := wB_in (by decide +kernel) rfl
theorem xw_479 : Cond.code y_O_tolerance b_O_tolerance 2 (some .int) ∈ wB := wB_in (by decide +kernel) rfl
theorem xw_480 : Cond.methodLink R_L 27 y_O_tolerance ∈ wB := wB_in (by decide +kernel) rfl
theorem xw_481 : Cond.instanceMethod y_O_tolerance ∈ wB := wB_in (by decide +kernel) rfl
theorem xw_482 : Cond.selects R_O y_O_tolerance y_O_tolerance ∈ wB := wB_in (by decide +kernel) rfl
theorem xw_483 : Cond.code y_O_stretch b_O_stretch 1 (some .int) ∈ wB := wB_in (by decide +kernel) rfl
theorem xw_484 : Cond.methodLink R_L 30 y_O_stretch ∈ wB := wB_in (by decide +kernel) rfl
theorem xw_485 : Cond.instanceMethod y_O_stretch ∈ wB := wB_in (by decide +kernel) rfl
theorem xw_486 : Cond.selects R_O y_O_stretch y_O_stretch ∈ wB := wB_in (by decide +kernel) rfl
theorem xw_487 : Cond.code y_O_scenario b_O_scenario 5 (some .int) ∈ wB := wB_in (by decide +kernel) rfl
theorem xw_488 : Cond.methodLink R_L 33 y_O_scenario ∈ wB := wB_in (by decide +kernel) rfl
theorem xw_489 : Cond.instanceMethod y_O_scenario ∈ wB := wB_in (by decide +kernel) rfl
theorem xw_490 : Cond.selects R_O y_O_scenario y_O_scenario ∈ wB := wB_in (by decide +kernel) rfl
theorem xw_491 : Cond.code y_O_tick b_O_tick 2 (some .int) ∈ wB := wB_in (by decide +kernel) rfl
theorem xw_492 : Cond.methodLink R_L 37 y_O_tick ∈ wB := wB_in (by decide +kernel) rfl
theorem xw_493 : Cond.instanceMethod y_O_tick ∈ wB := wB_in (by decide +kernel) rfl
theorem xw_494 : Cond.selects R_O y_O_tick y_O_tick ∈ wB := wB_in (by decide +kernel) rfl
theorem xw_495 : Cond.code y_O_task b_O_task 5 (some .boolean) ∈ wB := wB_in (by decide +kernel) rfl
theorem xw_496 : Cond.methodLink R_L 46 y_O_task ∈ wB := wB_in (by decide +kernel) rfl
theorem xw_497 : Cond.instanceMethod y_O_task ∈ wB := wB_in (by decide +kernel) rfl
theorem xw_498 : Cond.selects R_O y_O_task y_O_task ∈ wB := wB_in (by decide +kernel) rfl
theorem xw_499 : Cond.code y_Y_task b_Y_task 6 (some .boolean) ∈ wB := wB_in (by decide +kernel) rfl
theorem xw_500 : Cond.methodLink R_L 50 y_Y_task ∈ wB := wB_in (by decide +kernel) rfl
theorem xw_501 : Cond.instanceMethod y_Y_task ∈ wB := wB_in (by decide +kernel) rfl
theorem xw_502 : Cond.selects R_Y y_Y_task y_Y_task ∈ wB := wB_in (by decide +kernel) rfl
theorem xw_503 : Cond.code y_O_segment b_O_segment 3 (some .boolean) ∈ wB := wB_in (by decide +kernel) rfl
theorem xw_504 : Cond.methodLink R_L 51 y_O_segment ∈ wB := wB_in (by decide +kernel) rfl
theorem xw_505 : Cond.instanceMethod y_O_segment ∈ wB := wB_in (by decide +kernel) rfl
theorem xw_506 : Cond.selects R_O y_O_segment y_O_segment ∈ wB := wB_in (by decide +kernel) rfl
theorem xw_507 : Cond.code y_Y_segment b_Y_segment 3 (some .boolean) ∈ wB := wB_in (by decide +kernel) rfl
theorem xw_508 : Cond.methodLink R_L 55 y_Y_segment ∈ wB := wB_in (by decide +kernel) rfl
theorem xw_509 : Cond.instanceMethod y_Y_segment ∈ wB := wB_in (by decide +kernel) rfl
theorem xw_510 : Cond.selects R_Y y_Y_segment y_Y_segment ∈ wB := wB_in (by decide +kernel) rfl
theorem xw_511 : Cond.code y_O_clear b_O_clear 1 none ∈ wB := wB_in (by decide +kernel) rfl
theorem xw_512 : Cond.methodLink R_L 56 y_O_clear ∈ wB := wB_in (by decide +kernel) rfl
theorem xw_513 : Cond.instanceMethod y_O_clear ∈ wB := wB_in (by decide +kernel) rfl
theorem xw_514 : Cond.selects R_O y_O_clear y_O_clear ∈ wB := wB_in (by decide +kernel) rfl
theorem xw_515 : Cond.code y_Y_clear b_Y_clear 2 none ∈ wB := wB_in (by decide +kernel) rfl
theorem xw_516 : Cond.methodLink R_L 59 y_Y_clear ∈ wB := wB_in (by decide +kernel) rfl
theorem xw_517 : Cond.instanceMethod y_Y_clear ∈ wB := wB_in (by decide +kernel) rfl
theorem xw_518 : Cond.selects R_Y y_Y_clear y_Y_clear ∈ wB := wB_in (by decide +kernel) rfl
theorem xw_519 : Cond.code y_O_reset b_O_reset 1 none ∈ wB := wB_in (by decide +kernel) rfl
theorem xw_520 : Cond.methodLink R_L 60 y_O_reset ∈ wB := wB_in (by decide +kernel) rfl
theorem xw_521 : Cond.instanceMethod y_O_reset ∈ wB := wB_in (by decide +kernel) rfl
theorem xw_522 : Cond.selects R_O y_O_reset y_O_reset ∈ wB := wB_in (by decide +kernel) rfl
theorem xw_523 : Cond.code y_Y_reset b_Y_reset 1 none ∈ wB := wB_in (by decide +kernel) rfl
theorem xw_524 : Cond.methodLink R_L 63 y_Y_reset ∈ wB := wB_in (by decide +kernel) rfl
theorem xw_525 : Cond.instanceMethod y_Y_reset ∈ wB := wB_in (by decide +kernel) rfl
theorem xw_526 : Cond.selects R_Y y_Y_reset y_Y_reset ∈ wB := wB_in (by decide +kernel) rfl
theorem xw_527 : Cond.code y_O_about b_O_about 4 (some .int) ∈ wB := wB_in (by decide +kernel) rfl
theorem xw_528 : Cond.methodLink R_L 64 y_O_about ∈ wB := wB_in (by decide +kernel) rfl
theorem xw_529 : Cond.instanceMethod y_O_about ∈ wB := wB_in (by decide +kernel) rfl
theorem xw_530 : Cond.selects R_O y_O_about y_O_about ∈ wB := wB_in (by decide +kernel) rfl
theorem xw_531 : Cond.code y_Y_about b_Y_about 3 (some .int) ∈ wB := wB_in (by decide +kernel) rfl
theorem xw_532 : Cond.methodLink R_L 67 y_Y_about ∈ wB := wB_in (by decide +kernel) rfl
theorem xw_533 : Cond.instanceMethod y_Y_about ∈ wB := wB_in (by decide +kernel) rfl
theorem xw_534 : Cond.selects R_Y y_Y_about y_Y_about ∈ wB := wB_in (by decide +kernel) rfl
theorem xw_535 : Cond.code y_Y_admit b_Y_admit 1 (some .int) ∈ wB := wB_in (by decide +kernel) rfl
theorem xw_536 : Cond.methodLink R_L 73 y_Y_admit ∈ wB := wB_in (by decide +kernel) rfl
theorem xw_537 : Cond.instanceMethod y_Y_admit ∈ wB := wB_in (by decide +kernel) rfl
theorem xw_538 : Cond.selects R_Y y_Y_admit y_Y_admit ∈ wB := wB_in (by decide +kernel) rfl
theorem xw_539 : Cond.code y_Y_thrown b_Y_thrown 1 (some .int) ∈ wB := wB_in (by decide +kernel) rfl
theorem xw_540 : Cond.methodLink R_L 74 y_Y_thrown ∈ wB := wB_in (by decide +kernel) rfl
theorem xw_541 : Cond.instanceMethod y_Y_thrown ∈ wB := wB_in (by decide +kernel) rfl
theorem xw_542 : Cond.selects R_Y y_Y_thrown y_Y_thrown ∈ wB := wB_in (by decide +kernel) rfl
theorem xw_543 : Cond.initialized R_L ∈ wB := wB_in (by decide +kernel) rfl
theorem xw_544 : Cond.methodLink R_L 68 y_L_admit ∈ wB := wB_in (by decide +kernel) rfl
theorem xw_545 : Cond.static y_L_admit ∈ wB := wB_in (by decide +kernel) rfl
theorem xw_546 : Cond.code y_Y_response b_Y_response 2 (some .int) ∈ wB := wB_in (by decide +kernel) rfl
theorem xw_547 : Cond.methodLink R_L 80 y_Y_response ∈ wB := wB_in (by decide +kernel) rfl
theorem xw_548 : Cond.instanceMethod y_Y_response ∈ wB := wB_in (by decide +kernel) rfl
theorem xw_549 : Cond.selects R_Y y_Y_response y_Y_response ∈ wB := wB_in (by decide +kernel) rfl
theorem xw_550 : Cond.methodLink R_L 77 y_L_response ∈ wB := wB_in (by decide +kernel) rfl
theorem xw_551 : Cond.static y_L_response ∈ wB := wB_in (by decide +kernel) rfl
theorem xw_552 : Cond.code y_Y_job b_Y_job 4 (some .int) ∈ wB := wB_in (by decide +kernel) rfl
theorem xw_553 : Cond.methodLink R_L 84 y_Y_job ∈ wB := wB_in (by decide +kernel) rfl
theorem xw_554 : Cond.instanceMethod y_Y_job ∈ wB := wB_in (by decide +kernel) rfl
theorem xw_555 : Cond.selects R_Y y_Y_job y_Y_job ∈ wB := wB_in (by decide +kernel) rfl
theorem xw_556 : Cond.methodLink R_L 81 y_L_job ∈ wB := wB_in (by decide +kernel) rfl
theorem xw_557 : Cond.static y_L_job ∈ wB := wB_in (by decide +kernel) rfl
theorem xw_558 : Cond.code y_Y_tolerance b_Y_tolerance 2 (some .int) ∈ wB := wB_in (by decide +kernel) rfl
theorem xw_559 : Cond.methodLink R_L 87 y_Y_tolerance ∈ wB := wB_in (by decide +kernel) rfl
theorem xw_560 : Cond.instanceMethod y_Y_tolerance ∈ wB := wB_in (by decide +kernel) rfl
theorem xw_561 : Cond.selects R_Y y_Y_tolerance y_Y_tolerance ∈ wB := wB_in (by decide +kernel) rfl
theorem xw_562 : Cond.methodLink R_L 85 y_L_tolerance ∈ wB := wB_in (by decide +kernel) rfl
theorem xw_563 : Cond.static y_L_tolerance ∈ wB := wB_in (by decide +kernel) rfl
theorem xw_564 : Cond.code y_Y_stretch b_Y_stretch 7 (some .int) ∈ wB := wB_in (by decide +kernel) rfl
theorem xw_565 : Cond.methodLink R_L 90 y_Y_stretch ∈ wB := wB_in (by decide +kernel) rfl
theorem xw_566 : Cond.instanceMethod y_Y_stretch ∈ wB := wB_in (by decide +kernel) rfl
theorem xw_567 : Cond.selects R_Y y_Y_stretch y_Y_stretch ∈ wB := wB_in (by decide +kernel) rfl
theorem xw_568 : Cond.methodLink R_L 88 y_L_stretch ∈ wB := wB_in (by decide +kernel) rfl
theorem xw_569 : Cond.static y_L_stretch ∈ wB := wB_in (by decide +kernel) rfl
theorem xw_570 : Cond.code y_Y_scenario b_Y_scenario 11 (some .int) ∈ wB := wB_in (by decide +kernel) rfl
theorem xw_571 : Cond.methodLink R_L 94 y_Y_scenario ∈ wB := wB_in (by decide +kernel) rfl
theorem xw_572 : Cond.instanceMethod y_Y_scenario ∈ wB := wB_in (by decide +kernel) rfl
theorem xw_573 : Cond.selects R_Y y_Y_scenario y_Y_scenario ∈ wB := wB_in (by decide +kernel) rfl
theorem xw_574 : Cond.methodLink R_L 91 y_L_scenario ∈ wB := wB_in (by decide +kernel) rfl
theorem xw_575 : Cond.static y_L_scenario ∈ wB := wB_in (by decide +kernel) rfl
theorem xw_576 : Cond.code y_O_arrive b_O_arrive 3 (some .boolean) ∈ wB := wB_in (by decide +kernel) rfl
theorem xw_577 : Cond.methodLink R_L 95 y_O_arrive ∈ wB := wB_in (by decide +kernel) rfl
theorem xw_578 : Cond.instanceMethod y_O_arrive ∈ wB := wB_in (by decide +kernel) rfl
theorem xw_579 : Cond.selects R_O y_O_arrive y_O_arrive ∈ wB := wB_in (by decide +kernel) rfl
theorem xw_580 : Cond.code y_Y_arrive b_Y_arrive 2 (some .boolean) ∈ wB := wB_in (by decide +kernel) rfl
theorem xw_581 : Cond.methodLink R_L 99 y_Y_arrive ∈ wB := wB_in (by decide +kernel) rfl
theorem xw_582 : Cond.instanceMethod y_Y_arrive ∈ wB := wB_in (by decide +kernel) rfl
theorem xw_583 : Cond.selects R_Y y_Y_arrive y_Y_arrive ∈ wB := wB_in (by decide +kernel) rfl
theorem xw_584 : Cond.code y_Y_tick b_Y_tick 4 (some .int) ∈ wB := wB_in (by decide +kernel) rfl
theorem xw_585 : Cond.methodLink R_L 102 y_Y_tick ∈ wB := wB_in (by decide +kernel) rfl
theorem xw_586 : Cond.instanceMethod y_Y_tick ∈ wB := wB_in (by decide +kernel) rfl
theorem xw_587 : Cond.selects R_Y y_Y_tick y_Y_tick ∈ wB := wB_in (by decide +kernel) rfl
theorem xw_588 : Cond.methodLink R_L 100 y_L_tick ∈ wB := wB_in (by decide +kernel) rfl
theorem xw_589 : Cond.static y_L_tick ∈ wB := wB_in (by decide +kernel) rfl
theorem xw_590 : Cond.code y_O_now b_O_now 1 (some .int) ∈ wB := wB_in (by decide +kernel) rfl
theorem xw_591 : Cond.methodLink R_L 103 y_O_now ∈ wB := wB_in (by decide +kernel) rfl
theorem xw_592 : Cond.instanceMethod y_O_now ∈ wB := wB_in (by decide +kernel) rfl
theorem xw_593 : Cond.selects R_O y_O_now y_O_now ∈ wB := wB_in (by decide +kernel) rfl
theorem xw_594 : Cond.code y_Y_now b_Y_now 1 (some .int) ∈ wB := wB_in (by decide +kernel) rfl
theorem xw_595 : Cond.methodLink R_L 106 y_Y_now ∈ wB := wB_in (by decide +kernel) rfl
theorem xw_596 : Cond.instanceMethod y_Y_now ∈ wB := wB_in (by decide +kernel) rfl
theorem xw_597 : Cond.selects R_Y y_Y_now y_Y_now ∈ wB := wB_in (by decide +kernel) rfl
theorem xw_598 : Cond.code y_O_ended b_O_ended 4 (some .int) ∈ wB := wB_in (by decide +kernel) rfl
theorem xw_599 : Cond.methodLink R_L 107 y_O_ended ∈ wB := wB_in (by decide +kernel) rfl
theorem xw_600 : Cond.instanceMethod y_O_ended ∈ wB := wB_in (by decide +kernel) rfl
theorem xw_601 : Cond.selects R_O y_O_ended y_O_ended ∈ wB := wB_in (by decide +kernel) rfl
theorem xw_602 : Cond.code y_Y_ended b_Y_ended 3 (some .int) ∈ wB := wB_in (by decide +kernel) rfl
theorem xw_603 : Cond.methodLink R_L 110 y_Y_ended ∈ wB := wB_in (by decide +kernel) rfl
theorem xw_604 : Cond.instanceMethod y_Y_ended ∈ wB := wB_in (by decide +kernel) rfl
theorem xw_605 : Cond.selects R_Y y_Y_ended y_Y_ended ∈ wB := wB_in (by decide +kernel) rfl
theorem xw_606 : Cond.code y_O_seen b_O_seen 4 (some .int) ∈ wB := wB_in (by decide +kernel) rfl
theorem xw_607 : Cond.methodLink R_L 111 y_O_seen ∈ wB := wB_in (by decide +kernel) rfl
theorem xw_608 : Cond.instanceMethod y_O_seen ∈ wB := wB_in (by decide +kernel) rfl
theorem xw_609 : Cond.selects R_O y_O_seen y_O_seen ∈ wB := wB_in (by decide +kernel) rfl
theorem xw_610 : Cond.code y_Y_seen b_Y_seen 3 (some .int) ∈ wB := wB_in (by decide +kernel) rfl
theorem xw_611 : Cond.methodLink R_L 114 y_Y_seen ∈ wB := wB_in (by decide +kernel) rfl
theorem xw_612 : Cond.instanceMethod y_Y_seen ∈ wB := wB_in (by decide +kernel) rfl
theorem xw_613 : Cond.selects R_Y y_Y_seen y_Y_seen ∈ wB := wB_in (by decide +kernel) rfl
theorem xw_614 : Cond.instantiable R_O 3 ∈ wB := wB_in (by decide +kernel) rfl
theorem xw_615 : Cond.instantiable R_Y 29 ∈ wB := wB_in (by decide +kernel) rfl
theorem xw_616 : Cond.arrayClass .long ∈ wB := wB_in (by decide +kernel) rfl
theorem xw_617 : Cond.classLink R_L 8 R_O ∈ wB := wB_in (by decide +kernel) rfl
theorem xw_618 : Cond.code y_O_init b_O_init 1 none ∈ wB := wB_in (by decide +kernel) rfl
theorem xw_619 : Cond.methodLink R_L 42 y_O_init ∈ wB := wB_in (by decide +kernel) rfl
theorem xw_620 : Cond.instanceMethod y_O_init ∈ wB := wB_in (by decide +kernel) rfl
theorem xw_621 : Cond.classLink R_L 43 R_Y ∈ wB := wB_in (by decide +kernel) rfl
theorem xw_622 : Cond.code y_Y_init b_Y_init 1 none ∈ wB := wB_in (by decide +kernel) rfl
theorem xw_623 : Cond.methodLink R_L 45 y_Y_init ∈ wB := wB_in (by decide +kernel) rfl
theorem xw_624 : Cond.instanceMethod y_Y_init ∈ wB := wB_in (by decide +kernel) rfl
theorem xv_0 : Cond.classLink R_L 13 "java/lang/IllegalStateException" ∈ wA := wA_in (by decide +kernel) (by decide +kernel)
theorem xv_1 : Cond.castable "java/lang/IllegalStateException" "java/lang/IllegalStateException" ∈ wA := wA_in (by decide +kernel) (by decide +kernel)
theorem xv_2 : Cond.classLink R_L 19 "java/lang/IndexOutOfBoundsException" ∈ wA := wA_in (by decide +kernel) (by decide +kernel)
theorem xv_3 : Cond.castable "java/lang/IndexOutOfBoundsException" "java/lang/IndexOutOfBoundsException" ∈ wA := wA_in (by decide +kernel) (by decide +kernel)
theorem xv_4 : Cond.classLink R_L 21 "java/lang/ArithmeticException" ∈ wA := wA_in (by decide +kernel) (by decide +kernel)
theorem xv_5 : Cond.castable "java/lang/ArithmeticException" "java/lang/ArithmeticException" ∈ wA := wA_in (by decide +kernel) (by decide +kernel)
theorem xv_6 : Cond.classLink R_L 40 "java/lang/IllegalArgumentException" ∈ wA := wA_in (by decide +kernel) (by decide +kernel)
theorem xv_7 : Cond.castable "java/lang/IllegalArgumentException" "java/lang/IllegalArgumentException" ∈ wA := wA_in (by decide +kernel) (by decide +kernel)
theorem xv_8 : Cond.codeWith y_L_admit b_L_admit 3 (some .int) hh_L_admit ∈ wA := wA_in (by decide +kernel) (by decide +kernel)
theorem xv_9 : Cond.codeWith y_L_response b_L_response 4 (some .int) hh_L_response ∈ wA := wA_in (by decide +kernel) (by decide +kernel)
theorem xv_10 : Cond.codeWith y_L_job b_L_job 5 (some .int) hh_L_job ∈ wA := wA_in (by decide +kernel) (by decide +kernel)
theorem xv_11 : Cond.codeWith y_L_tolerance b_L_tolerance 4 (some .int) hh_L_tolerance ∈ wA := wA_in (by decide +kernel) (by decide +kernel)
theorem xv_12 : Cond.codeWith y_L_stretch b_L_stretch 3 (some .int) hh_L_stretch ∈ wA := wA_in (by decide +kernel) (by decide +kernel)
theorem xv_13 : Cond.codeWith y_L_scenario b_L_scenario 6 (some .int) hh_L_scenario ∈ wA := wA_in (by decide +kernel) (by decide +kernel)
theorem xv_14 : Cond.codeWith y_L_tick b_L_tick 4 (some .int) hh_L_tick ∈ wA := wA_in (by decide +kernel) (by decide +kernel)
