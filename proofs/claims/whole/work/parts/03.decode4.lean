theorem d_Y_isReady_31 : decode b_Y_isReady 31 = .ok (.ifCond .ne 12, 3) := by decide +kernel
theorem d_Y_isReady_34 : decode b_Y_isReady 34 = .ok (.aload_n 0, 1) := by decide +kernel
theorem d_Y_isReady_35 : decode b_Y_isReady 35 = .ok (.getfield 7, 3) := by decide +kernel
theorem d_Y_isReady_38 : decode b_Y_isReady 38 = .ok (.iload_n 2, 1) := by decide +kernel
theorem d_Y_isReady_39 : decode b_Y_isReady 39 = .ok (.baload, 1) := by decide +kernel
theorem d_Y_isReady_40 : decode b_Y_isReady 40 = .ok (.ifCond .eq 7, 3) := by decide +kernel
theorem d_Y_isReady_43 : decode b_Y_isReady 43 = .ok (.iconst 1, 1) := by decide +kernel
theorem d_Y_isReady_44 : decode b_Y_isReady 44 = .ok (.goto 4, 3) := by decide +kernel
theorem d_Y_isReady_47 : decode b_Y_isReady 47 = .ok (.iconst 0, 1) := by decide +kernel
theorem d_Y_isReady_48 : decode b_Y_isReady 48 = .ok (.istore_n 1, 1) := by decide +kernel
theorem d_Y_isReady_49 : decode b_Y_isReady 49 = .ok (.iinc 2 1, 3) := by decide +kernel
theorem d_Y_isReady_52 : decode b_Y_isReady 52 = .ok (.goto (-48), 3) := by decide +kernel
theorem d_Y_isReady_55 : decode b_Y_isReady 55 = .ok (.iload_n 1, 1) := by decide +kernel
theorem d_Y_isReady_56 : decode b_Y_isReady 56 = .ok (.ireturn, 1) := by decide +kernel
theorem d_Y_workBefore_0 : decode b_Y_workBefore 0 = .ok (.iconst 0, 1) := by decide +kernel
theorem d_Y_workBefore_1 : decode b_Y_workBefore 1 = .ok (.istore_n 3, 1) := by decide +kernel
theorem d_Y_workBefore_2 : decode b_Y_workBefore 2 = .ok (.iconst 0, 1) := by decide +kernel
theorem d_Y_workBefore_3 : decode b_Y_workBefore 3 = .ok (.istore 4, 2) := by decide +kernel
theorem d_Y_workBefore_5 : decode b_Y_workBefore 5 = .ok (.iload 4, 2) := by decide +kernel
theorem d_Y_workBefore_7 : decode b_Y_workBefore 7 = .ok (.iload_n 2, 1) := by decide +kernel
theorem d_Y_workBefore_8 : decode b_Y_workBefore 8 = .ok (.if_icmp .ge 24, 3) := by decide +kernel
theorem d_Y_workBefore_11 : decode b_Y_workBefore 11 = .ok (.iload_n 3, 1) := by decide +kernel
theorem d_Y_workBefore_12 : decode b_Y_workBefore 12 = .ok (.aload_n 0, 1) := by decide +kernel
theorem d_Y_workBefore_13 : decode b_Y_workBefore 13 = .ok (.getfield 26, 3) := by decide +kernel
theorem d_Y_workBefore_16 : decode b_Y_workBefore 16 = .ok (.bipush 8, 2) := by decide +kernel
theorem d_Y_workBefore_18 : decode b_Y_workBefore 18 = .ok (.iload_n 1, 1) := by decide +kernel
theorem d_Y_workBefore_19 : decode b_Y_workBefore 19 = .ok (.imul, 1) := by decide +kernel
theorem d_Y_workBefore_20 : decode b_Y_workBefore 20 = .ok (.iload 4, 2) := by decide +kernel
theorem d_Y_workBefore_22 : decode b_Y_workBefore 22 = .ok (.iadd, 1) := by decide +kernel
theorem d_Y_workBefore_23 : decode b_Y_workBefore 23 = .ok (.iaload, 1) := by decide +kernel
theorem d_Y_workBefore_24 : decode b_Y_workBefore 24 = .ok (.iadd, 1) := by decide +kernel
theorem d_Y_workBefore_25 : decode b_Y_workBefore 25 = .ok (.istore_n 3, 1) := by decide +kernel
theorem d_Y_workBefore_26 : decode b_Y_workBefore 26 = .ok (.iinc 4 1, 3) := by decide +kernel
theorem d_Y_workBefore_29 : decode b_Y_workBefore 29 = .ok (.goto (-24), 3) := by decide +kernel
theorem d_Y_workBefore_32 : decode b_Y_workBefore 32 = .ok (.iload_n 3, 1) := by decide +kernel
theorem d_Y_workBefore_33 : decode b_Y_workBefore 33 = .ok (.ireturn, 1) := by decide +kernel
theorem d_Y_work_0 : decode b_Y_work 0 = .ok (.aload_n 0, 1) := by decide +kernel
theorem d_Y_work_1 : decode b_Y_work 1 = .ok (.iload_n 1, 1) := by decide +kernel
theorem d_Y_work_2 : decode b_Y_work 2 = .ok (.aload_n 0, 1) := by decide +kernel
theorem d_Y_work_3 : decode b_Y_work 3 = .ok (.getfield 23, 3) := by decide +kernel
theorem d_Y_work_6 : decode b_Y_work 6 = .ok (.iload_n 1, 1) := by decide +kernel
theorem d_Y_work_7 : decode b_Y_work 7 = .ok (.iaload, 1) := by decide +kernel
theorem d_Y_work_8 : decode b_Y_work 8 = .ok (.invokevirtual 89, 3) := by decide +kernel
theorem d_Y_work_11 : decode b_Y_work 11 = .ok (.ireturn, 1) := by decide +kernel
theorem d_Y_longestOf_0 : decode b_Y_longestOf 0 = .ok (.iconst 0, 1) := by decide +kernel
theorem d_Y_longestOf_1 : decode b_Y_longestOf 1 = .ok (.istore_n 2, 1) := by decide +kernel
theorem d_Y_longestOf_2 : decode b_Y_longestOf 2 = .ok (.iconst 0, 1) := by decide +kernel
theorem d_Y_longestOf_3 : decode b_Y_longestOf 3 = .ok (.istore_n 3, 1) := by decide +kernel
theorem d_Y_longestOf_4 : decode b_Y_longestOf 4 = .ok (.iload_n 3, 1) := by decide +kernel
theorem d_Y_longestOf_5 : decode b_Y_longestOf 5 = .ok (.aload_n 0, 1) := by decide +kernel
theorem d_Y_longestOf_6 : decode b_Y_longestOf 6 = .ok (.getfield 23, 3) := by decide +kernel
theorem d_Y_longestOf_9 : decode b_Y_longestOf 9 = .ok (.iload_n 1, 1) := by decide +kernel
theorem d_Y_longestOf_10 : decode b_Y_longestOf 10 = .ok (.iaload, 1) := by decide +kernel
theorem d_Y_longestOf_11 : decode b_Y_longestOf 11 = .ok (.if_icmp .ge 40, 3) := by decide +kernel
theorem d_Y_longestOf_14 : decode b_Y_longestOf 14 = .ok (.aload_n 0, 1) := by decide +kernel
theorem d_Y_longestOf_15 : decode b_Y_longestOf 15 = .ok (.getfield 26, 3) := by decide +kernel
theorem d_Y_longestOf_18 : decode b_Y_longestOf 18 = .ok (.bipush 8, 2) := by decide +kernel
theorem d_Y_longestOf_20 : decode b_Y_longestOf 20 = .ok (.iload_n 1, 1) := by decide +kernel
theorem d_Y_longestOf_21 : decode b_Y_longestOf 21 = .ok (.imul, 1) := by decide +kernel
theorem d_Y_longestOf_22 : decode b_Y_longestOf 22 = .ok (.iload_n 3, 1) := by decide +kernel
theorem d_Y_longestOf_23 : decode b_Y_longestOf 23 = .ok (.iadd, 1) := by decide +kernel
theorem d_Y_longestOf_24 : decode b_Y_longestOf 24 = .ok (.iaload, 1) := by decide +kernel
theorem d_Y_longestOf_25 : decode b_Y_longestOf 25 = .ok (.iload_n 2, 1) := by decide +kernel
theorem d_Y_longestOf_26 : decode b_Y_longestOf 26 = .ok (.if_icmp .le 17, 3) := by decide +kernel
theorem d_Y_longestOf_29 : decode b_Y_longestOf 29 = .ok (.aload_n 0, 1) := by decide +kernel
theorem d_Y_longestOf_30 : decode b_Y_longestOf 30 = .ok (.getfield 26, 3) := by decide +kernel
theorem d_Y_longestOf_33 : decode b_Y_longestOf 33 = .ok (.bipush 8, 2) := by decide +kernel
theorem d_Y_longestOf_35 : decode b_Y_longestOf 35 = .ok (.iload_n 1, 1) := by decide +kernel
theorem d_Y_longestOf_36 : decode b_Y_longestOf 36 = .ok (.imul, 1) := by decide +kernel
theorem d_Y_longestOf_37 : decode b_Y_longestOf 37 = .ok (.iload_n 3, 1) := by decide +kernel
theorem d_Y_longestOf_38 : decode b_Y_longestOf 38 = .ok (.iadd, 1) := by decide +kernel
theorem d_Y_longestOf_39 : decode b_Y_longestOf 39 = .ok (.iaload, 1) := by decide +kernel
theorem d_Y_longestOf_40 : decode b_Y_longestOf 40 = .ok (.goto 4, 3) := by decide +kernel
theorem d_Y_longestOf_43 : decode b_Y_longestOf 43 = .ok (.iload_n 2, 1) := by decide +kernel
theorem d_Y_longestOf_44 : decode b_Y_longestOf 44 = .ok (.istore_n 2, 1) := by decide +kernel
theorem d_Y_longestOf_45 : decode b_Y_longestOf 45 = .ok (.iinc 3 1, 3) := by decide +kernel
theorem d_Y_longestOf_48 : decode b_Y_longestOf 48 = .ok (.goto (-44), 3) := by decide +kernel
theorem d_Y_longestOf_51 : decode b_Y_longestOf 51 = .ok (.iload_n 2, 1) := by decide +kernel
theorem d_Y_longestOf_52 : decode b_Y_longestOf 52 = .ok (.ireturn, 1) := by decide +kernel
theorem d_Y_longestBelow_0 : decode b_Y_longestBelow 0 = .ok (.iconst 0, 1) := by decide +kernel
theorem d_Y_longestBelow_1 : decode b_Y_longestBelow 1 = .ok (.istore_n 2, 1) := by decide +kernel
theorem d_Y_longestBelow_2 : decode b_Y_longestBelow 2 = .ok (.iconst 1, 1) := by decide +kernel
theorem d_Y_longestBelow_3 : decode b_Y_longestBelow 3 = .ok (.istore_n 3, 1) := by decide +kernel
theorem d_Y_longestBelow_4 : decode b_Y_longestBelow 4 = .ok (.iload_n 3, 1) := by decide +kernel
theorem d_Y_longestBelow_5 : decode b_Y_longestBelow 5 = .ok (.bipush 8, 2) := by decide +kernel
theorem d_Y_longestBelow_7 : decode b_Y_longestBelow 7 = .ok (.if_icmp .gt 48, 3) := by decide +kernel
theorem d_Y_longestBelow_10 : decode b_Y_longestBelow 10 = .ok (.aload_n 0, 1) := by decide +kernel
theorem d_Y_longestBelow_11 : decode b_Y_longestBelow 11 = .ok (.getfield 7, 3) := by decide +kernel
theorem d_Y_longestBelow_14 : decode b_Y_longestBelow 14 = .ok (.iload_n 3, 1) := by decide +kernel
theorem d_Y_longestBelow_15 : decode b_Y_longestBelow 15 = .ok (.baload, 1) := by decide +kernel
theorem d_Y_longestBelow_16 : decode b_Y_longestBelow 16 = .ok (.ifCond .eq 33, 3) := by decide +kernel
theorem d_Y_longestBelow_19 : decode b_Y_longestBelow 19 = .ok (.aload_n 0, 1) := by decide +kernel
theorem d_Y_longestBelow_20 : decode b_Y_longestBelow 20 = .ok (.getfield 20, 3) := by decide +kernel
theorem d_Y_longestBelow_23 : decode b_Y_longestBelow 23 = .ok (.iload_n 3, 1) := by decide +kernel
theorem d_Y_longestBelow_24 : decode b_Y_longestBelow 24 = .ok (.iaload, 1) := by decide +kernel
theorem d_Y_longestBelow_25 : decode b_Y_longestBelow 25 = .ok (.aload_n 0, 1) := by decide +kernel
theorem d_Y_longestBelow_26 : decode b_Y_longestBelow 26 = .ok (.getfield 20, 3) := by decide +kernel
theorem d_Y_longestBelow_29 : decode b_Y_longestBelow 29 = .ok (.iload_n 1, 1) := by decide +kernel
theorem d_Y_longestBelow_30 : decode b_Y_longestBelow 30 = .ok (.iaload, 1) := by decide +kernel
theorem d_Y_longestBelow_31 : decode b_Y_longestBelow 31 = .ok (.if_icmp .ge 18, 3) := by decide +kernel
theorem d_Y_longestBelow_34 : decode b_Y_longestBelow 34 = .ok (.aload_n 0, 1) := by decide +kernel
theorem d_Y_longestBelow_35 : decode b_Y_longestBelow 35 = .ok (.iload_n 3, 1) := by decide +kernel
theorem d_Y_longestBelow_36 : decode b_Y_longestBelow 36 = .ok (.invokevirtual 93, 3) := by decide +kernel
theorem d_Y_longestBelow_39 : decode b_Y_longestBelow 39 = .ok (.iload_n 2, 1) := by decide +kernel
theorem d_Y_longestBelow_40 : decode b_Y_longestBelow 40 = .ok (.if_icmp .le 9, 3) := by decide +kernel
theorem d_Y_longestBelow_43 : decode b_Y_longestBelow 43 = .ok (.aload_n 0, 1) := by decide +kernel
theorem d_Y_longestBelow_44 : decode b_Y_longestBelow 44 = .ok (.iload_n 3, 1) := by decide +kernel
theorem d_Y_longestBelow_45 : decode b_Y_longestBelow 45 = .ok (.invokevirtual 93, 3) := by decide +kernel
theorem d_Y_longestBelow_48 : decode b_Y_longestBelow 48 = .ok (.istore_n 2, 1) := by decide +kernel
theorem d_Y_longestBelow_49 : decode b_Y_longestBelow 49 = .ok (.iinc 3 1, 3) := by decide +kernel
theorem d_Y_longestBelow_52 : decode b_Y_longestBelow 52 = .ok (.goto (-48), 3) := by decide +kernel
theorem d_Y_longestBelow_55 : decode b_Y_longestBelow 55 = .ok (.iload_n 2, 1) := by decide +kernel
theorem d_Y_longestBelow_56 : decode b_Y_longestBelow 56 = .ok (.ireturn, 1) := by decide +kernel
theorem d_Y_blocking_0 : decode b_Y_blocking 0 = .ok (.aload_n 0, 1) := by decide +kernel
theorem d_Y_blocking_1 : decode b_Y_blocking 1 = .ok (.iload_n 1, 1) := by decide +kernel
theorem d_Y_blocking_2 : decode b_Y_blocking 2 = .ok (.invokevirtual 97, 3) := by decide +kernel
theorem d_Y_blocking_5 : decode b_Y_blocking 5 = .ok (.ifCond .ne 7, 3) := by decide +kernel
theorem d_Y_blocking_8 : decode b_Y_blocking 8 = .ok (.iconst 0, 1) := by decide +kernel
theorem d_Y_blocking_9 : decode b_Y_blocking 9 = .ok (.goto 10, 3) := by decide +kernel
theorem d_Y_blocking_12 : decode b_Y_blocking 12 = .ok (.aload_n 0, 1) := by decide +kernel
theorem d_Y_blocking_13 : decode b_Y_blocking 13 = .ok (.iload_n 1, 1) := by decide +kernel
theorem d_Y_blocking_14 : decode b_Y_blocking 14 = .ok (.invokevirtual 97, 3) := by decide +kernel
theorem d_Y_blocking_17 : decode b_Y_blocking 17 = .ok (.iconst 1, 1) := by decide +kernel
theorem d_Y_blocking_18 : decode b_Y_blocking 18 = .ok (.isub, 1) := by decide +kernel
theorem d_Y_blocking_19 : decode b_Y_blocking 19 = .ok (.ireturn, 1) := by decide +kernel
theorem d_Y_about_0 : decode b_Y_about 0 = .ok (.aload_n 0, 1) := by decide +kernel
theorem d_Y_about_1 : decode b_Y_about 1 = .ok (.iconst 0, 1) := by decide +kernel
theorem d_Y_about_2 : decode b_Y_about 2 = .ok (.putfield 62, 3) := by decide +kernel
theorem d_Y_about_5 : decode b_Y_about 5 = .ok (.aload_n 0, 1) := by decide +kernel
theorem d_Y_about_6 : decode b_Y_about 6 = .ok (.iload_n 1, 1) := by decide +kernel
theorem d_Y_about_7 : decode b_Y_about 7 = .ok (.invokevirtual 70, 3) := by decide +kernel
theorem d_Y_about_10 : decode b_Y_about 10 = .ok (.ifCond .ne 5, 3) := by decide +kernel
theorem d_Y_about_13 : decode b_Y_about 13 = .ok (.iconst (-1), 1) := by decide +kernel
theorem d_Y_about_14 : decode b_Y_about 14 = .ok (.ireturn, 1) := by decide +kernel
theorem d_Y_about_15 : decode b_Y_about 15 = .ok (.iload_n 2, 1) := by decide +kernel
theorem d_Y_about_16 : decode b_Y_about 16 = .ok (.tableswitch 80 0 5 #[40, 47, 54, 61, 68, 74], 40) := by decide +kernel
theorem d_Y_about_56 : decode b_Y_about 56 = .ok (.aload_n 0, 1) := by decide +kernel
theorem d_Y_about_57 : decode b_Y_about 57 = .ok (.getfield 13, 3) := by decide +kernel
theorem d_Y_about_60 : decode b_Y_about 60 = .ok (.iload_n 1, 1) := by decide +kernel
theorem d_Y_about_61 : decode b_Y_about 61 = .ok (.iaload, 1) := by decide +kernel
theorem d_Y_about_62 : decode b_Y_about 62 = .ok (.ireturn, 1) := by decide +kernel
theorem d_Y_about_63 : decode b_Y_about 63 = .ok (.aload_n 0, 1) := by decide +kernel
theorem d_Y_about_64 : decode b_Y_about 64 = .ok (.getfield 17, 3) := by decide +kernel
theorem d_Y_about_67 : decode b_Y_about 67 = .ok (.iload_n 1, 1) := by decide +kernel
theorem d_Y_about_68 : decode b_Y_about 68 = .ok (.iaload, 1) := by decide +kernel
theorem d_Y_about_69 : decode b_Y_about 69 = .ok (.ireturn, 1) := by decide +kernel
theorem d_Y_about_70 : decode b_Y_about 70 = .ok (.aload_n 0, 1) := by decide +kernel
theorem d_Y_about_71 : decode b_Y_about 71 = .ok (.getfield 20, 3) := by decide +kernel
theorem d_Y_about_74 : decode b_Y_about 74 = .ok (.iload_n 1, 1) := by decide +kernel
theorem d_Y_about_75 : decode b_Y_about 75 = .ok (.iaload, 1) := by decide +kernel
theorem d_Y_about_76 : decode b_Y_about 76 = .ok (.ireturn, 1) := by decide +kernel
theorem d_Y_about_77 : decode b_Y_about 77 = .ok (.aload_n 0, 1) := by decide +kernel
theorem d_Y_about_78 : decode b_Y_about 78 = .ok (.getfield 23, 3) := by decide +kernel
theorem d_Y_about_81 : decode b_Y_about 81 = .ok (.iload_n 1, 1) := by decide +kernel
theorem d_Y_about_82 : decode b_Y_about 82 = .ok (.iaload, 1) := by decide +kernel
theorem d_Y_about_83 : decode b_Y_about 83 = .ok (.ireturn, 1) := by decide +kernel
theorem d_Y_about_84 : decode b_Y_about 84 = .ok (.aload_n 0, 1) := by decide +kernel
theorem d_Y_about_85 : decode b_Y_about 85 = .ok (.iload_n 1, 1) := by decide +kernel
theorem d_Y_about_86 : decode b_Y_about 86 = .ok (.invokevirtual 100, 3) := by decide +kernel
theorem d_Y_about_89 : decode b_Y_about 89 = .ok (.ireturn, 1) := by decide +kernel
theorem d_Y_about_90 : decode b_Y_about 90 = .ok (.aload_n 0, 1) := by decide +kernel
theorem d_Y_about_91 : decode b_Y_about 91 = .ok (.iload_n 1, 1) := by decide +kernel
theorem d_Y_about_92 : decode b_Y_about 92 = .ok (.invokevirtual 103, 3) := by decide +kernel
theorem d_Y_about_95 : decode b_Y_about 95 = .ok (.ireturn, 1) := by decide +kernel
theorem d_Y_about_96 : decode b_Y_about 96 = .ok (.iload_n 2, 1) := by decide +kernel
theorem d_Y_about_97 : decode b_Y_about 97 = .ok (.bipush 10, 2) := by decide +kernel
theorem d_Y_about_99 : decode b_Y_about 99 = .ok (.if_icmp .lt 16, 3) := by decide +kernel
theorem d_Y_about_102 : decode b_Y_about 102 = .ok (.iload_n 2, 1) := by decide +kernel
theorem d_Y_about_103 : decode b_Y_about 103 = .ok (.bipush 10, 2) := by decide +kernel
theorem d_Y_about_105 : decode b_Y_about 105 = .ok (.aload_n 0, 1) := by decide +kernel
theorem d_Y_about_106 : decode b_Y_about 106 = .ok (.getfield 23, 3) := by decide +kernel
theorem d_Y_about_109 : decode b_Y_about 109 = .ok (.iload_n 1, 1) := by decide +kernel
theorem d_Y_about_110 : decode b_Y_about 110 = .ok (.iaload, 1) := by decide +kernel
theorem d_Y_about_111 : decode b_Y_about 111 = .ok (.iadd, 1) := by decide +kernel
theorem d_Y_about_112 : decode b_Y_about 112 = .ok (.if_icmp .lt 7, 3) := by decide +kernel
theorem d_Y_about_115 : decode b_Y_about 115 = .ok (.iconst (-1), 1) := by decide +kernel
theorem d_Y_about_116 : decode b_Y_about 116 = .ok (.goto 17, 3) := by decide +kernel
theorem d_Y_about_119 : decode b_Y_about 119 = .ok (.aload_n 0, 1) := by decide +kernel
theorem d_Y_about_120 : decode b_Y_about 120 = .ok (.getfield 26, 3) := by decide +kernel
theorem d_Y_about_123 : decode b_Y_about 123 = .ok (.bipush 8, 2) := by decide +kernel
theorem d_Y_about_125 : decode b_Y_about 125 = .ok (.iload_n 1, 1) := by decide +kernel
theorem d_Y_about_126 : decode b_Y_about 126 = .ok (.imul, 1) := by decide +kernel
theorem d_Y_about_127 : decode b_Y_about 127 = .ok (.iload_n 2, 1) := by decide +kernel
theorem d_Y_about_128 : decode b_Y_about 128 = .ok (.iadd, 1) := by decide +kernel
theorem d_Y_about_129 : decode b_Y_about 129 = .ok (.bipush 10, 2) := by decide +kernel
theorem d_Y_about_131 : decode b_Y_about 131 = .ok (.isub, 1) := by decide +kernel
theorem d_Y_about_132 : decode b_Y_about 132 = .ok (.iaload, 1) := by decide +kernel
theorem d_Y_about_133 : decode b_Y_about 133 = .ok (.ireturn, 1) := by decide +kernel
theorem d_Y_counts_0 : decode b_Y_counts 0 = .ok (.aload_n 0, 1) := by decide +kernel
theorem d_Y_counts_1 : decode b_Y_counts 1 = .ok (.getfield 7, 3) := by decide +kernel
theorem d_Y_counts_4 : decode b_Y_counts 4 = .ok (.iload_n 1, 1) := by decide +kernel
theorem d_Y_counts_5 : decode b_Y_counts 5 = .ok (.baload, 1) := by decide +kernel
theorem d_Y_counts_6 : decode b_Y_counts 6 = .ok (.ifCond .eq 22, 3) := by decide +kernel
theorem d_Y_counts_9 : decode b_Y_counts 9 = .ok (.aload_n 0, 1) := by decide +kernel
theorem d_Y_counts_10 : decode b_Y_counts 10 = .ok (.getfield 20, 3) := by decide +kernel
theorem d_Y_counts_13 : decode b_Y_counts 13 = .ok (.iload_n 1, 1) := by decide +kernel
theorem d_Y_counts_14 : decode b_Y_counts 14 = .ok (.iaload, 1) := by decide +kernel
theorem d_Y_counts_15 : decode b_Y_counts 15 = .ok (.aload_n 0, 1) := by decide +kernel
theorem d_Y_counts_16 : decode b_Y_counts 16 = .ok (.getfield 20, 3) := by decide +kernel
theorem d_Y_counts_19 : decode b_Y_counts 19 = .ok (.iload_n 2, 1) := by decide +kernel
theorem d_Y_counts_20 : decode b_Y_counts 20 = .ok (.iaload, 1) := by decide +kernel
theorem d_Y_counts_21 : decode b_Y_counts 21 = .ok (.if_icmp .lt 7, 3) := by decide +kernel
theorem d_Y_counts_24 : decode b_Y_counts 24 = .ok (.iconst 1, 1) := by decide +kernel
theorem d_Y_counts_25 : decode b_Y_counts 25 = .ok (.goto 4, 3) := by decide +kernel
theorem d_Y_counts_28 : decode b_Y_counts 28 = .ok (.iconst 0, 1) := by decide +kernel
theorem d_Y_counts_29 : decode b_Y_counts 29 = .ok (.ireturn, 1) := by decide +kernel
theorem d_Y_next_0 : decode b_Y_next 0 = .ok (.iconst 0, 1) := by decide +kernel
theorem d_Y_next_1 : decode b_Y_next 1 = .ok (.istore_n 2, 1) := by decide +kernel
theorem d_Y_next_2 : decode b_Y_next 2 = .ok (.iconst 1, 1) := by decide +kernel
theorem d_Y_next_3 : decode b_Y_next 3 = .ok (.istore_n 3, 1) := by decide +kernel
theorem d_Y_next_4 : decode b_Y_next 4 = .ok (.iload_n 3, 1) := by decide +kernel
theorem d_Y_next_5 : decode b_Y_next 5 = .ok (.bipush 8, 2) := by decide +kernel
theorem d_Y_next_7 : decode b_Y_next 7 = .ok (.if_icmp .gt 71, 3) := by decide +kernel
theorem d_Y_next_10 : decode b_Y_next 10 = .ok (.aload_n 0, 1) := by decide +kernel
theorem d_Y_next_11 : decode b_Y_next 11 = .ok (.iload_n 3, 1) := by decide +kernel
theorem d_Y_next_12 : decode b_Y_next 12 = .ok (.iload_n 1, 1) := by decide +kernel
theorem d_Y_next_13 : decode b_Y_next 13 = .ok (.invokevirtual 106, 3) := by decide +kernel
theorem d_Y_next_16 : decode b_Y_next 16 = .ok (.ifCond .eq 27, 3) := by decide +kernel
theorem d_Y_next_19 : decode b_Y_next 19 = .ok (.aload_n 0, 1) := by decide +kernel
theorem d_Y_next_20 : decode b_Y_next 20 = .ok (.getfield 29, 3) := by decide +kernel
theorem d_Y_next_23 : decode b_Y_next 23 = .ok (.iload_n 3, 1) := by decide +kernel
theorem d_Y_next_24 : decode b_Y_next 24 = .ok (.iaload, 1) := by decide +kernel
theorem d_Y_next_25 : decode b_Y_next 25 = .ok (.aload_n 0, 1) := by decide +kernel
theorem d_Y_next_26 : decode b_Y_next 26 = .ok (.getfield 13, 3) := by decide +kernel
theorem d_Y_next_29 : decode b_Y_next 29 = .ok (.iload_n 3, 1) := by decide +kernel
theorem d_Y_next_30 : decode b_Y_next 30 = .ok (.iaload, 1) := by decide +kernel
theorem d_Y_next_31 : decode b_Y_next 31 = .ok (.imul, 1) := by decide +kernel
theorem d_Y_next_32 : decode b_Y_next 32 = .ok (.aload_n 0, 1) := by decide +kernel
theorem d_Y_next_33 : decode b_Y_next 33 = .ok (.getfield 110, 3) := by decide +kernel
theorem d_Y_next_36 : decode b_Y_next 36 = .ok (.if_icmp .gt 7, 3) := by decide +kernel
theorem d_Y_next_39 : decode b_Y_next 39 = .ok (.iconst 1, 1) := by decide +kernel
theorem d_Y_next_40 : decode b_Y_next 40 = .ok (.goto 4, 3) := by decide +kernel
theorem d_Y_next_43 : decode b_Y_next 43 = .ok (.iconst 0, 1) := by decide +kernel
theorem d_Y_next_44 : decode b_Y_next 44 = .ok (.istore 4, 2) := by decide +kernel
theorem d_Y_next_46 : decode b_Y_next 46 = .ok (.iload 4, 2) := by decide +kernel
theorem d_Y_next_48 : decode b_Y_next 48 = .ok (.ifCond .eq 24, 3) := by decide +kernel
theorem d_Y_next_51 : decode b_Y_next 51 = .ok (.iload_n 2, 1) := by decide +kernel
theorem d_Y_next_52 : decode b_Y_next 52 = .ok (.ifCond .eq 18, 3) := by decide +kernel
theorem d_Y_next_55 : decode b_Y_next 55 = .ok (.aload_n 0, 1) := by decide +kernel
theorem d_Y_next_56 : decode b_Y_next 56 = .ok (.getfield 20, 3) := by decide +kernel
theorem d_Y_next_59 : decode b_Y_next 59 = .ok (.iload_n 3, 1) := by decide +kernel
theorem d_Y_next_60 : decode b_Y_next 60 = .ok (.iaload, 1) := by decide +kernel
theorem d_Y_next_61 : decode b_Y_next 61 = .ok (.aload_n 0, 1) := by decide +kernel
theorem d_Y_next_62 : decode b_Y_next 62 = .ok (.getfield 20, 3) := by decide +kernel
theorem d_Y_next_65 : decode b_Y_next 65 = .ok (.iload_n 2, 1) := by decide +kernel
theorem d_Y_next_66 : decode b_Y_next 66 = .ok (.iaload, 1) := by decide +kernel
theorem d_Y_next_67 : decode b_Y_next 67 = .ok (.if_icmp .le 5, 3) := by decide +kernel
theorem d_Y_next_70 : decode b_Y_next 70 = .ok (.iload_n 3, 1) := by decide +kernel
theorem d_Y_next_71 : decode b_Y_next 71 = .ok (.istore_n 2, 1) := by decide +kernel
theorem d_Y_next_72 : decode b_Y_next 72 = .ok (.iinc 3 1, 3) := by decide +kernel
theorem d_Y_next_75 : decode b_Y_next 75 = .ok (.goto (-71), 3) := by decide +kernel
theorem d_Y_next_78 : decode b_Y_next 78 = .ok (.iload_n 2, 1) := by decide +kernel
theorem d_Y_next_79 : decode b_Y_next 79 = .ok (.ireturn, 1) := by decide +kernel
theorem d_Y_isOver_0 : decode b_Y_isOver 0 = .ok (.iconst 1, 1) := by decide +kernel
theorem d_Y_isOver_1 : decode b_Y_isOver 1 = .ok (.istore_n 2, 1) := by decide +kernel
theorem d_Y_isOver_2 : decode b_Y_isOver 2 = .ok (.iload_n 2, 1) := by decide +kernel
theorem d_Y_isOver_3 : decode b_Y_isOver 3 = .ok (.bipush 8, 2) := by decide +kernel
theorem d_Y_isOver_5 : decode b_Y_isOver 5 = .ok (.if_icmp .gt 40, 3) := by decide +kernel
theorem d_Y_isOver_8 : decode b_Y_isOver 8 = .ok (.aload_n 0, 1) := by decide +kernel
theorem d_Y_isOver_9 : decode b_Y_isOver 9 = .ok (.iload_n 2, 1) := by decide +kernel
theorem d_Y_isOver_10 : decode b_Y_isOver 10 = .ok (.iload_n 1, 1) := by decide +kernel
theorem d_Y_isOver_11 : decode b_Y_isOver 11 = .ok (.invokevirtual 106, 3) := by decide +kernel
theorem d_Y_isOver_14 : decode b_Y_isOver 14 = .ok (.ifCond .eq 25, 3) := by decide +kernel
theorem d_Y_isOver_17 : decode b_Y_isOver 17 = .ok (.aload_n 0, 1) := by decide +kernel
theorem d_Y_isOver_18 : decode b_Y_isOver 18 = .ok (.getfield 29, 3) := by decide +kernel
theorem d_Y_isOver_21 : decode b_Y_isOver 21 = .ok (.iload_n 2, 1) := by decide +kernel
theorem d_Y_isOver_22 : decode b_Y_isOver 22 = .ok (.iaload, 1) := by decide +kernel
theorem d_Y_isOver_23 : decode b_Y_isOver 23 = .ok (.aload_n 0, 1) := by decide +kernel
theorem d_Y_isOver_24 : decode b_Y_isOver 24 = .ok (.getfield 13, 3) := by decide +kernel
theorem d_Y_isOver_27 : decode b_Y_isOver 27 = .ok (.iload_n 2, 1) := by decide +kernel
theorem d_Y_isOver_28 : decode b_Y_isOver 28 = .ok (.iaload, 1) := by decide +kernel
theorem d_Y_isOver_29 : decode b_Y_isOver 29 = .ok (.imul, 1) := by decide +kernel
theorem d_Y_isOver_30 : decode b_Y_isOver 30 = .ok (.aload_n 0, 1) := by decide +kernel
theorem d_Y_isOver_31 : decode b_Y_isOver 31 = .ok (.getfield 110, 3) := by decide +kernel
theorem d_Y_isOver_34 : decode b_Y_isOver 34 = .ok (.if_icmp .ge 5, 3) := by decide +kernel
theorem d_Y_isOver_37 : decode b_Y_isOver 37 = .ok (.iconst 0, 1) := by decide +kernel
theorem d_Y_isOver_38 : decode b_Y_isOver 38 = .ok (.ireturn, 1) := by decide +kernel
theorem d_Y_isOver_39 : decode b_Y_isOver 39 = .ok (.iinc 2 1, 3) := by decide +kernel
theorem d_Y_isOver_42 : decode b_Y_isOver 42 = .ok (.goto (-40), 3) := by decide +kernel
theorem d_Y_isOver_45 : decode b_Y_isOver 45 = .ok (.aload_n 0, 1) := by decide +kernel
theorem d_Y_isOver_46 : decode b_Y_isOver 46 = .ok (.getfield 110, 3) := by decide +kernel
theorem d_Y_isOver_49 : decode b_Y_isOver 49 = .ok (.ifCond .le 7, 3) := by decide +kernel
theorem d_Y_isOver_52 : decode b_Y_isOver 52 = .ok (.iconst 1, 1) := by decide +kernel
theorem d_Y_isOver_53 : decode b_Y_isOver 53 = .ok (.goto 4, 3) := by decide +kernel
theorem d_Y_isOver_56 : decode b_Y_isOver 56 = .ok (.iconst 0, 1) := by decide +kernel
theorem d_Y_isOver_57 : decode b_Y_isOver 57 = .ok (.ireturn, 1) := by decide +kernel
theorem d_Y_go_0 : decode b_Y_go 0 = .ok (.iconst 1, 1) := by decide +kernel
theorem d_Y_go_1 : decode b_Y_go 1 = .ok (.istore_n 3, 1) := by decide +kernel
theorem d_Y_go_2 : decode b_Y_go 2 = .ok (.iload_n 3, 1) := by decide +kernel
theorem d_Y_go_3 : decode b_Y_go 3 = .ok (.bipush 8, 2) := by decide +kernel
theorem d_Y_go_5 : decode b_Y_go 5 = .ok (.if_icmp .gt 23, 3) := by decide +kernel
theorem d_Y_go_8 : decode b_Y_go 8 = .ok (.aload_n 0, 1) := by decide +kernel
theorem d_Y_go_9 : decode b_Y_go 9 = .ok (.getfield 29, 3) := by decide +kernel
theorem d_Y_go_12 : decode b_Y_go 12 = .ok (.iload_n 3, 1) := by decide +kernel
theorem d_Y_go_13 : decode b_Y_go 13 = .ok (.iconst 0, 1) := by decide +kernel
theorem d_Y_go_14 : decode b_Y_go 14 = .ok (.iastore, 1) := by decide +kernel
theorem d_Y_go_15 : decode b_Y_go 15 = .ok (.aload_n 0, 1) := by decide +kernel
theorem d_Y_go_16 : decode b_Y_go 16 = .ok (.getfield 32, 3) := by decide +kernel
theorem d_Y_go_19 : decode b_Y_go 19 = .ok (.iload_n 3, 1) := by decide +kernel
theorem d_Y_go_20 : decode b_Y_go 20 = .ok (.iconst 0, 1) := by decide +kernel
theorem d_Y_go_21 : decode b_Y_go 21 = .ok (.iastore, 1) := by decide +kernel
theorem d_Y_go_22 : decode b_Y_go 22 = .ok (.iinc 3 1, 3) := by decide +kernel
theorem d_Y_go_25 : decode b_Y_go 25 = .ok (.goto (-23), 3) := by decide +kernel
theorem d_Y_go_28 : decode b_Y_go 28 = .ok (.aload_n 0, 1) := by decide +kernel
theorem d_Y_go_29 : decode b_Y_go 29 = .ok (.iload_n 2, 1) := by decide +kernel
theorem d_Y_go_30 : decode b_Y_go 30 = .ok (.putfield 110, 3) := by decide +kernel
theorem d_Y_go_33 : decode b_Y_go 33 = .ok (.aload_n 0, 1) := by decide +kernel
theorem d_Y_go_34 : decode b_Y_go 34 = .ok (.iconst 0, 1) := by decide +kernel
theorem d_Y_go_35 : decode b_Y_go 35 = .ok (.putfield 113, 3) := by decide +kernel
theorem d_Y_go_38 : decode b_Y_go 38 = .ok (.aload_n 0, 1) := by decide +kernel
theorem d_Y_go_39 : decode b_Y_go 39 = .ok (.iconst 0, 1) := by decide +kernel
theorem d_Y_go_40 : decode b_Y_go 40 = .ok (.putfield 116, 3) := by decide +kernel
theorem d_Y_go_43 : decode b_Y_go 43 = .ok (.aload_n 0, 1) := by decide +kernel
theorem d_Y_go_44 : decode b_Y_go 44 = .ok (.iconst (-1), 1) := by decide +kernel
theorem d_Y_go_45 : decode b_Y_go 45 = .ok (.putfield 119, 3) := by decide +kernel
theorem d_Y_go_48 : decode b_Y_go 48 = .ok (.aload_n 0, 1) := by decide +kernel
theorem d_Y_go_49 : decode b_Y_go 49 = .ok (.iconst 0, 1) := by decide +kernel
theorem d_Y_go_50 : decode b_Y_go 50 = .ok (.putfield 122, 3) := by decide +kernel
theorem d_Y_go_53 : decode b_Y_go 53 = .ok (.aload_n 0, 1) := by decide +kernel
theorem d_Y_go_54 : decode b_Y_go 54 = .ok (.iload_n 1, 1) := by decide +kernel
theorem d_Y_go_55 : decode b_Y_go 55 = .ok (.invokevirtual 125, 3) := by decide +kernel
theorem d_Y_go_58 : decode b_Y_go 58 = .ok (.ifCond .ne 172, 3) := by decide +kernel
theorem d_Y_go_61 : decode b_Y_go 61 = .ok (.aload_n 0, 1) := by decide +kernel
theorem d_Y_go_62 : decode b_Y_go 62 = .ok (.getfield 110, 3) := by decide +kernel
theorem d_Y_go_65 : decode b_Y_go 65 = .ok (.sipush 20000, 3) := by decide +kernel
theorem d_Y_go_68 : decode b_Y_go 68 = .ok (.if_icmp .le 9, 3) := by decide +kernel
theorem d_Y_go_71 : decode b_Y_go 71 = .ok (.aload_n 0, 1) := by decide +kernel
theorem d_Y_go_72 : decode b_Y_go 72 = .ok (.iconst 1, 1) := by decide +kernel
theorem d_Y_go_73 : decode b_Y_go 73 = .ok (.putfield 122, 3) := by decide +kernel
theorem d_Y_go_76 : decode b_Y_go 76 = .ok (.return_, 1) := by decide +kernel
theorem d_Y_go_77 : decode b_Y_go 77 = .ok (.aload_n 0, 1) := by decide +kernel
theorem d_Y_go_78 : decode b_Y_go 78 = .ok (.iload_n 1, 1) := by decide +kernel
theorem d_Y_go_79 : decode b_Y_go 79 = .ok (.invokevirtual 128, 3) := by decide +kernel
theorem d_Y_go_82 : decode b_Y_go 82 = .ok (.istore_n 3, 1) := by decide +kernel
theorem d_Y_go_83 : decode b_Y_go 83 = .ok (.aload_n 0, 1) := by decide +kernel
theorem d_Y_go_84 : decode b_Y_go 84 = .ok (.dup, 1) := by decide +kernel
theorem d_Y_go_85 : decode b_Y_go 85 = .ok (.getfield 110, 3) := by decide +kernel
theorem d_Y_go_88 : decode b_Y_go 88 = .ok (.aload_n 0, 1) := by decide +kernel
theorem d_Y_go_89 : decode b_Y_go 89 = .ok (.getfield 26, 3) := by decide +kernel
theorem d_Y_go_92 : decode b_Y_go 92 = .ok (.bipush 8, 2) := by decide +kernel
theorem d_Y_go_94 : decode b_Y_go 94 = .ok (.iload_n 3, 1) := by decide +kernel
theorem d_Y_go_95 : decode b_Y_go 95 = .ok (.imul, 1) := by decide +kernel
theorem d_Y_go_96 : decode b_Y_go 96 = .ok (.aload_n 0, 1) := by decide +kernel
theorem d_Y_go_97 : decode b_Y_go 97 = .ok (.getfield 32, 3) := by decide +kernel
theorem d_Y_go_100 : decode b_Y_go 100 = .ok (.iload_n 3, 1) := by decide +kernel
theorem d_Y_go_101 : decode b_Y_go 101 = .ok (.iaload, 1) := by decide +kernel
theorem d_Y_go_102 : decode b_Y_go 102 = .ok (.iadd, 1) := by decide +kernel
theorem d_Y_go_103 : decode b_Y_go 103 = .ok (.iaload, 1) := by decide +kernel
theorem d_Y_go_104 : decode b_Y_go 104 = .ok (.iadd, 1) := by decide +kernel
theorem d_Y_go_105 : decode b_Y_go 105 = .ok (.putfield 110, 3) := by decide +kernel
theorem d_Y_go_108 : decode b_Y_go 108 = .ok (.aload_n 0, 1) := by decide +kernel
theorem d_Y_go_109 : decode b_Y_go 109 = .ok (.getfield 32, 3) := by decide +kernel
theorem d_Y_go_112 : decode b_Y_go 112 = .ok (.iload_n 3, 1) := by decide +kernel
theorem d_Y_go_113 : decode b_Y_go 113 = .ok (.dup2, 1) := by decide +kernel
theorem d_Y_go_114 : decode b_Y_go 114 = .ok (.iaload, 1) := by decide +kernel
theorem d_Y_go_115 : decode b_Y_go 115 = .ok (.iconst 1, 1) := by decide +kernel
theorem d_Y_go_116 : decode b_Y_go 116 = .ok (.iadd, 1) := by decide +kernel
theorem d_Y_go_117 : decode b_Y_go 117 = .ok (.iastore, 1) := by decide +kernel
theorem d_Y_go_118 : decode b_Y_go 118 = .ok (.aload_n 0, 1) := by decide +kernel
theorem d_Y_go_119 : decode b_Y_go 119 = .ok (.getfield 32, 3) := by decide +kernel
theorem d_Y_go_122 : decode b_Y_go 122 = .ok (.iload_n 3, 1) := by decide +kernel
theorem d_Y_go_123 : decode b_Y_go 123 = .ok (.iaload, 1) := by decide +kernel
theorem d_Y_go_124 : decode b_Y_go 124 = .ok (.aload_n 0, 1) := by decide +kernel
theorem d_Y_go_125 : decode b_Y_go 125 = .ok (.getfield 23, 3) := by decide +kernel
theorem d_Y_go_128 : decode b_Y_go 128 = .ok (.iload_n 3, 1) := by decide +kernel
theorem d_Y_go_129 : decode b_Y_go 129 = .ok (.iaload, 1) := by decide +kernel
theorem d_Y_go_130 : decode b_Y_go 130 = .ok (.if_icmp .ge 6, 3) := by decide +kernel
theorem d_Y_go_133 : decode b_Y_go 133 = .ok (.goto (-80), 3) := by decide +kernel
theorem d_Y_go_136 : decode b_Y_go 136 = .ok (.aload_n 0, 1) := by decide +kernel
theorem d_Y_go_137 : decode b_Y_go 137 = .ok (.getfield 110, 3) := by decide +kernel
theorem d_Y_go_140 : decode b_Y_go 140 = .ok (.aload_n 0, 1) := by decide +kernel
theorem d_Y_go_141 : decode b_Y_go 141 = .ok (.getfield 29, 3) := by decide +kernel
theorem d_Y_go_144 : decode b_Y_go 144 = .ok (.iload_n 3, 1) := by decide +kernel
theorem d_Y_go_145 : decode b_Y_go 145 = .ok (.iaload, 1) := by decide +kernel
theorem d_Y_go_146 : decode b_Y_go 146 = .ok (.aload_n 0, 1) := by decide +kernel
theorem d_Y_go_147 : decode b_Y_go 147 = .ok (.getfield 13, 3) := by decide +kernel
theorem d_Y_go_150 : decode b_Y_go 150 = .ok (.iload_n 3, 1) := by decide +kernel
theorem d_Y_go_151 : decode b_Y_go 151 = .ok (.iaload, 1) := by decide +kernel
theorem d_Y_go_152 : decode b_Y_go 152 = .ok (.imul, 1) := by decide +kernel
theorem d_Y_go_153 : decode b_Y_go 153 = .ok (.isub, 1) := by decide +kernel
theorem d_Y_go_154 : decode b_Y_go 154 = .ok (.istore 4, 2) := by decide +kernel
theorem d_Y_go_156 : decode b_Y_go 156 = .ok (.iload_n 3, 1) := by decide +kernel
theorem d_Y_go_157 : decode b_Y_go 157 = .ok (.iload_n 1, 1) := by decide +kernel
theorem d_Y_go_158 : decode b_Y_go 158 = .ok (.if_icmp .ne 28, 3) := by decide +kernel
theorem d_Y_go_161 : decode b_Y_go 161 = .ok (.iload 4, 2) := by decide +kernel
theorem d_Y_go_163 : decode b_Y_go 163 = .ok (.aload_n 0, 1) := by decide +kernel
theorem d_Y_go_164 : decode b_Y_go 164 = .ok (.getfield 113, 3) := by decide +kernel
theorem d_Y_go_167 : decode b_Y_go 167 = .ok (.if_icmp .le 19, 3) := by decide +kernel
theorem d_Y_go_170 : decode b_Y_go 170 = .ok (.aload_n 0, 1) := by decide +kernel
theorem d_Y_go_171 : decode b_Y_go 171 = .ok (.iload 4, 2) := by decide +kernel
theorem d_Y_go_173 : decode b_Y_go 173 = .ok (.putfield 113, 3) := by decide +kernel
theorem d_Y_go_176 : decode b_Y_go 176 = .ok (.aload_n 0, 1) := by decide +kernel
theorem d_Y_go_177 : decode b_Y_go 177 = .ok (.aload_n 0, 1) := by decide +kernel
theorem d_Y_go_178 : decode b_Y_go 178 = .ok (.getfield 29, 3) := by decide +kernel
theorem d_Y_go_181 : decode b_Y_go 181 = .ok (.iload_n 3, 1) := by decide +kernel
theorem d_Y_go_182 : decode b_Y_go 182 = .ok (.iaload, 1) := by decide +kernel
theorem d_Y_go_183 : decode b_Y_go 183 = .ok (.putfield 116, 3) := by decide +kernel
theorem d_Y_go_186 : decode b_Y_go 186 = .ok (.iload_n 3, 1) := by decide +kernel
theorem d_Y_go_187 : decode b_Y_go 187 = .ok (.iload_n 1, 1) := by decide +kernel
theorem d_Y_go_188 : decode b_Y_go 188 = .ok (.if_icmp .ne 22, 3) := by decide +kernel
theorem d_Y_go_191 : decode b_Y_go 191 = .ok (.aload_n 0, 1) := by decide +kernel
theorem d_Y_go_192 : decode b_Y_go 192 = .ok (.getfield 29, 3) := by decide +kernel
theorem d_Y_go_195 : decode b_Y_go 195 = .ok (.iload_n 3, 1) := by decide +kernel
theorem d_Y_go_196 : decode b_Y_go 196 = .ok (.iaload, 1) := by decide +kernel
theorem d_Y_go_197 : decode b_Y_go 197 = .ok (.aload_n 0, 1) := by decide +kernel
theorem d_Y_go_198 : decode b_Y_go 198 = .ok (.getfield 131, 3) := by decide +kernel
theorem d_Y_go_201 : decode b_Y_go 201 = .ok (.if_icmp .ne 9, 3) := by decide +kernel
theorem d_Y_go_204 : decode b_Y_go 204 = .ok (.aload_n 0, 1) := by decide +kernel
theorem d_Y_go_205 : decode b_Y_go 205 = .ok (.iload 4, 2) := by decide +kernel
theorem d_Y_go_207 : decode b_Y_go 207 = .ok (.putfield 119, 3) := by decide +kernel
theorem d_Y_go_210 : decode b_Y_go 210 = .ok (.aload_n 0, 1) := by decide +kernel
theorem d_Y_go_211 : decode b_Y_go 211 = .ok (.getfield 32, 3) := by decide +kernel
theorem d_Y_go_214 : decode b_Y_go 214 = .ok (.iload_n 3, 1) := by decide +kernel
theorem d_Y_go_215 : decode b_Y_go 215 = .ok (.iconst 0, 1) := by decide +kernel
theorem d_Y_go_216 : decode b_Y_go 216 = .ok (.iastore, 1) := by decide +kernel
theorem d_Y_go_217 : decode b_Y_go 217 = .ok (.aload_n 0, 1) := by decide +kernel
theorem d_Y_go_218 : decode b_Y_go 218 = .ok (.getfield 29, 3) := by decide +kernel
theorem d_Y_go_221 : decode b_Y_go 221 = .ok (.iload_n 3, 1) := by decide +kernel
theorem d_Y_go_222 : decode b_Y_go 222 = .ok (.dup2, 1) := by decide +kernel
theorem d_Y_go_223 : decode b_Y_go 223 = .ok (.iaload, 1) := by decide +kernel
theorem d_Y_go_224 : decode b_Y_go 224 = .ok (.iconst 1, 1) := by decide +kernel
theorem d_Y_go_225 : decode b_Y_go 225 = .ok (.iadd, 1) := by decide +kernel
theorem d_Y_go_226 : decode b_Y_go 226 = .ok (.iastore, 1) := by decide +kernel
theorem d_Y_go_227 : decode b_Y_go 227 = .ok (.goto (-174), 3) := by decide +kernel
theorem d_Y_go_230 : decode b_Y_go 230 = .ok (.aload_n 0, 1) := by decide +kernel
theorem d_Y_go_231 : decode b_Y_go 231 = .ok (.aload_n 0, 1) := by decide +kernel
theorem d_Y_go_232 : decode b_Y_go 232 = .ok (.getfield 110, 3) := by decide +kernel
theorem d_Y_go_235 : decode b_Y_go 235 = .ok (.sipush 20000, 3) := by decide +kernel
theorem d_Y_go_238 : decode b_Y_go 238 = .ok (.if_icmp .le 7, 3) := by decide +kernel
theorem d_Y_go_241 : decode b_Y_go 241 = .ok (.iconst 1, 1) := by decide +kernel
theorem d_Y_go_242 : decode b_Y_go 242 = .ok (.goto 4, 3) := by decide +kernel
theorem d_Y_go_245 : decode b_Y_go 245 = .ok (.iconst 0, 1) := by decide +kernel
theorem d_Y_go_246 : decode b_Y_go 246 = .ok (.putfield 122, 3) := by decide +kernel
theorem d_Y_go_249 : decode b_Y_go 249 = .ok (.return_, 1) := by decide +kernel
theorem d_Y_highest_0 : decode b_Y_highest 0 = .ok (.iconst 0, 1) := by decide +kernel
theorem d_Y_highest_1 : decode b_Y_highest 1 = .ok (.istore_n 2, 1) := by decide +kernel
theorem d_Y_highest_2 : decode b_Y_highest 2 = .ok (.iconst 1, 1) := by decide +kernel
theorem d_Y_highest_3 : decode b_Y_highest 3 = .ok (.istore_n 3, 1) := by decide +kernel
theorem d_Y_highest_4 : decode b_Y_highest 4 = .ok (.iload_n 3, 1) := by decide +kernel
theorem d_Y_highest_5 : decode b_Y_highest 5 = .ok (.bipush 8, 2) := by decide +kernel
theorem d_Y_highest_7 : decode b_Y_highest 7 = .ok (.if_icmp .gt 49, 3) := by decide +kernel
theorem d_Y_highest_10 : decode b_Y_highest 10 = .ok (.aload_n 0, 1) := by decide +kernel
theorem d_Y_highest_11 : decode b_Y_highest 11 = .ok (.getfield 7, 3) := by decide +kernel
theorem d_Y_highest_14 : decode b_Y_highest 14 = .ok (.iload_n 3, 1) := by decide +kernel
theorem d_Y_highest_15 : decode b_Y_highest 15 = .ok (.baload, 1) := by decide +kernel
theorem d_Y_highest_16 : decode b_Y_highest 16 = .ok (.ifCond .eq 34, 3) := by decide +kernel
theorem d_Y_highest_19 : decode b_Y_highest 19 = .ok (.aload_n 0, 1) := by decide +kernel
theorem d_Y_highest_20 : decode b_Y_highest 20 = .ok (.getfield 20, 3) := by decide +kernel
theorem d_Y_highest_23 : decode b_Y_highest 23 = .ok (.iload_n 3, 1) := by decide +kernel
theorem d_Y_highest_24 : decode b_Y_highest 24 = .ok (.iaload, 1) := by decide +kernel
theorem d_Y_highest_25 : decode b_Y_highest 25 = .ok (.iload_n 1, 1) := by decide +kernel
theorem d_Y_highest_26 : decode b_Y_highest 26 = .ok (.if_icmp .ge 24, 3) := by decide +kernel
theorem d_Y_highest_29 : decode b_Y_highest 29 = .ok (.iload_n 2, 1) := by decide +kernel
theorem d_Y_highest_30 : decode b_Y_highest 30 = .ok (.ifCond .eq 18, 3) := by decide +kernel
theorem d_Y_highest_33 : decode b_Y_highest 33 = .ok (.aload_n 0, 1) := by decide +kernel
theorem d_Y_highest_34 : decode b_Y_highest 34 = .ok (.getfield 20, 3) := by decide +kernel
theorem d_Y_highest_37 : decode b_Y_highest 37 = .ok (.iload_n 3, 1) := by decide +kernel
theorem d_Y_highest_38 : decode b_Y_highest 38 = .ok (.iaload, 1) := by decide +kernel
theorem d_Y_highest_39 : decode b_Y_highest 39 = .ok (.aload_n 0, 1) := by decide +kernel
theorem d_Y_highest_40 : decode b_Y_highest 40 = .ok (.getfield 20, 3) := by decide +kernel
theorem d_Y_highest_43 : decode b_Y_highest 43 = .ok (.iload_n 2, 1) := by decide +kernel
theorem d_Y_highest_44 : decode b_Y_highest 44 = .ok (.iaload, 1) := by decide +kernel
theorem d_Y_highest_45 : decode b_Y_highest 45 = .ok (.if_icmp .le 5, 3) := by decide +kernel
theorem d_Y_highest_48 : decode b_Y_highest 48 = .ok (.iload_n 3, 1) := by decide +kernel
theorem d_Y_highest_49 : decode b_Y_highest 49 = .ok (.istore_n 2, 1) := by decide +kernel
theorem d_Y_highest_50 : decode b_Y_highest 50 = .ok (.iinc 3 1, 3) := by decide +kernel
theorem d_Y_highest_53 : decode b_Y_highest 53 = .ok (.goto (-49), 3) := by decide +kernel
theorem d_Y_highest_56 : decode b_Y_highest 56 = .ok (.iload_n 2, 1) := by decide +kernel
theorem d_Y_highest_57 : decode b_Y_highest 57 = .ok (.ireturn, 1) := by decide +kernel
theorem d_Y_admitted_0 : decode b_Y_admitted 0 = .ok (.aload_n 0, 1) := by decide +kernel
theorem d_Y_admitted_1 : decode b_Y_admitted 1 = .ok (.bipush 100, 2) := by decide +kernel
theorem d_Y_admitted_3 : decode b_Y_admitted 3 = .ok (.invokevirtual 134, 3) := by decide +kernel
theorem d_Y_admitted_6 : decode b_Y_admitted 6 = .ok (.istore_n 1, 1) := by decide +kernel
theorem d_Y_admitted_7 : decode b_Y_admitted 7 = .ok (.iload_n 1, 1) := by decide +kernel
theorem d_Y_admitted_8 : decode b_Y_admitted 8 = .ok (.ifCond .eq 56, 3) := by decide +kernel
theorem d_Y_admitted_11 : decode b_Y_admitted 11 = .ok (.aload_n 0, 1) := by decide +kernel
theorem d_Y_admitted_12 : decode b_Y_admitted 12 = .ok (.iload_n 1, 1) := by decide +kernel
theorem d_Y_admitted_13 : decode b_Y_admitted 13 = .ok (.aload_n 0, 1) := by decide +kernel
theorem d_Y_admitted_14 : decode b_Y_admitted 14 = .ok (.iload_n 1, 1) := by decide +kernel
theorem d_Y_admitted_15 : decode b_Y_admitted 15 = .ok (.invokevirtual 103, 3) := by decide +kernel
theorem d_Y_admitted_18 : decode b_Y_admitted 18 = .ok (.invokevirtual 137, 3) := by decide +kernel
theorem d_Y_admitted_21 : decode b_Y_admitted 21 = .ok (.aload_n 0, 1) := by decide +kernel
theorem d_Y_admitted_22 : decode b_Y_admitted 22 = .ok (.getfield 122, 3) := by decide +kernel
theorem d_Y_admitted_25 : decode b_Y_admitted 25 = .ok (.ifCond .eq 9, 3) := by decide +kernel
theorem d_Y_admitted_28 : decode b_Y_admitted 28 = .ok (.iload_n 1, 1) := by decide +kernel
theorem d_Y_admitted_29 : decode b_Y_admitted 29 = .ok (.ineg, 1) := by decide +kernel
theorem d_Y_admitted_30 : decode b_Y_admitted 30 = .ok (.bipush 100, 2) := by decide +kernel
theorem d_Y_admitted_32 : decode b_Y_admitted 32 = .ok (.isub, 1) := by decide +kernel
theorem d_Y_admitted_33 : decode b_Y_admitted 33 = .ok (.ireturn, 1) := by decide +kernel
theorem d_Y_admitted_34 : decode b_Y_admitted 34 = .ok (.aload_n 0, 1) := by decide +kernel
theorem d_Y_admitted_35 : decode b_Y_admitted 35 = .ok (.getfield 113, 3) := by decide +kernel
theorem d_Y_admitted_38 : decode b_Y_admitted 38 = .ok (.aload_n 0, 1) := by decide +kernel
theorem d_Y_admitted_39 : decode b_Y_admitted 39 = .ok (.getfield 17, 3) := by decide +kernel
theorem d_Y_admitted_42 : decode b_Y_admitted 42 = .ok (.iload_n 1, 1) := by decide +kernel
theorem d_Y_admitted_43 : decode b_Y_admitted 43 = .ok (.iaload, 1) := by decide +kernel
theorem d_Y_admitted_44 : decode b_Y_admitted 44 = .ok (.if_icmp .le 6, 3) := by decide +kernel
theorem d_Y_admitted_47 : decode b_Y_admitted 47 = .ok (.iload_n 1, 1) := by decide +kernel
theorem d_Y_admitted_48 : decode b_Y_admitted 48 = .ok (.ineg, 1) := by decide +kernel
theorem d_Y_admitted_49 : decode b_Y_admitted 49 = .ok (.ireturn, 1) := by decide +kernel
theorem d_Y_admitted_50 : decode b_Y_admitted 50 = .ok (.aload_n 0, 1) := by decide +kernel
theorem d_Y_admitted_51 : decode b_Y_admitted 51 = .ok (.aload_n 0, 1) := by decide +kernel
theorem d_Y_admitted_52 : decode b_Y_admitted 52 = .ok (.getfield 20, 3) := by decide +kernel
theorem d_Y_admitted_55 : decode b_Y_admitted 55 = .ok (.iload_n 1, 1) := by decide +kernel
theorem d_Y_admitted_56 : decode b_Y_admitted 56 = .ok (.iaload, 1) := by decide +kernel
theorem d_Y_admitted_57 : decode b_Y_admitted 57 = .ok (.invokevirtual 134, 3) := by decide +kernel
theorem d_Y_admitted_60 : decode b_Y_admitted 60 = .ok (.istore_n 1, 1) := by decide +kernel
theorem d_Y_admitted_61 : decode b_Y_admitted 61 = .ok (.goto (-54), 3) := by decide +kernel
theorem d_Y_admitted_64 : decode b_Y_admitted 64 = .ok (.iconst 1, 1) := by decide +kernel
theorem d_Y_admitted_65 : decode b_Y_admitted 65 = .ok (.ireturn, 1) := by decide +kernel
theorem d_Y_admit_0 : decode b_Y_admit 0 = .ok (.aload_n 0, 1) := by decide +kernel
theorem d_Y_admit_1 : decode b_Y_admit 1 = .ok (.invokevirtual 141, 3) := by decide +kernel
theorem d_Y_admit_4 : decode b_Y_admit 4 = .ok (.ifCond .ne 9, 3) := by decide +kernel
theorem d_Y_admit_7 : decode b_Y_admit 7 = .ok (.aload_n 0, 1) := by decide +kernel
theorem d_Y_admit_8 : decode b_Y_admit 8 = .ok (.iconst 1, 1) := by decide +kernel
theorem d_Y_admit_9 : decode b_Y_admit 9 = .ok (.invokevirtual 145, 3) := by decide +kernel
theorem d_Y_admit_12 : decode b_Y_admit 12 = .ok (.ireturn, 1) := by decide +kernel
theorem d_Y_admit_13 : decode b_Y_admit 13 = .ok (.aload_n 0, 1) := by decide +kernel
theorem d_Y_admit_14 : decode b_Y_admit 14 = .ok (.iconst 0, 1) := by decide +kernel
theorem d_Y_admit_15 : decode b_Y_admit 15 = .ok (.putfield 62, 3) := by decide +kernel
theorem d_Y_admit_18 : decode b_Y_admit 18 = .ok (.aload_n 0, 1) := by decide +kernel
theorem d_Y_admit_19 : decode b_Y_admit 19 = .ok (.invokevirtual 148, 3) := by decide +kernel
theorem d_Y_admit_22 : decode b_Y_admit 22 = .ok (.ireturn, 1) := by decide +kernel
theorem d_Y_asks_0 : decode b_Y_asks 0 = .ok (.aload_n 0, 1) := by decide +kernel
theorem d_Y_asks_1 : decode b_Y_asks 1 = .ok (.aload_n 0, 1) := by decide +kernel
theorem d_Y_asks_2 : decode b_Y_asks 2 = .ok (.iload_n 1, 1) := by decide +kernel
theorem d_Y_asks_3 : decode b_Y_asks 3 = .ok (.invokevirtual 70, 3) := by decide +kernel
theorem d_Y_asks_6 : decode b_Y_asks 6 = .ok (.ifCond .ne 7, 3) := by decide +kernel
theorem d_Y_asks_9 : decode b_Y_asks 9 = .ok (.iconst 1, 1) := by decide +kernel
theorem d_Y_asks_10 : decode b_Y_asks 10 = .ok (.goto 15, 3) := by decide +kernel
theorem d_Y_asks_13 : decode b_Y_asks 13 = .ok (.aload_n 0, 1) := by decide +kernel
theorem d_Y_asks_14 : decode b_Y_asks 14 = .ok (.invokevirtual 141, 3) := by decide +kernel
theorem d_Y_asks_17 : decode b_Y_asks 17 = .ok (.ifCond .ne 7, 3) := by decide +kernel
theorem d_Y_asks_20 : decode b_Y_asks 20 = .ok (.iconst 2, 1) := by decide +kernel
theorem d_Y_asks_21 : decode b_Y_asks 21 = .ok (.goto 4, 3) := by decide +kernel
theorem d_Y_asks_24 : decode b_Y_asks 24 = .ok (.iconst 0, 1) := by decide +kernel
theorem d_Y_asks_25 : decode b_Y_asks 25 = .ok (.putfield 62, 3) := by decide +kernel
theorem d_Y_asks_28 : decode b_Y_asks 28 = .ok (.aload_n 0, 1) := by decide +kernel
theorem d_Y_asks_29 : decode b_Y_asks 29 = .ok (.getfield 62, 3) := by decide +kernel
theorem d_Y_asks_32 : decode b_Y_asks 32 = .ok (.ifCond .eq 5, 3) := by decide +kernel
theorem d_Y_asks_35 : decode b_Y_asks 35 = .ok (.iconst 0, 1) := by decide +kernel
theorem d_Y_asks_36 : decode b_Y_asks 36 = .ok (.ireturn, 1) := by decide +kernel
theorem d_Y_asks_37 : decode b_Y_asks 37 = .ok (.aload_n 0, 1) := by decide +kernel
theorem d_Y_asks_38 : decode b_Y_asks 38 = .ok (.iload_n 1, 1) := by decide +kernel
theorem d_Y_asks_39 : decode b_Y_asks 39 = .ok (.aload_n 0, 1) := by decide +kernel
theorem d_Y_asks_40 : decode b_Y_asks 40 = .ok (.iload_n 1, 1) := by decide +kernel
theorem d_Y_asks_41 : decode b_Y_asks 41 = .ok (.invokevirtual 103, 3) := by decide +kernel
theorem d_Y_asks_44 : decode b_Y_asks 44 = .ok (.invokevirtual 137, 3) := by decide +kernel
theorem d_Y_asks_47 : decode b_Y_asks 47 = .ok (.aload_n 0, 1) := by decide +kernel
theorem d_Y_asks_48 : decode b_Y_asks 48 = .ok (.aload_n 0, 1) := by decide +kernel
theorem d_Y_asks_49 : decode b_Y_asks 49 = .ok (.getfield 122, 3) := by decide +kernel
theorem d_Y_asks_52 : decode b_Y_asks 52 = .ok (.ifCond .eq 7, 3) := by decide +kernel
theorem d_Y_asks_55 : decode b_Y_asks 55 = .ok (.iconst 3, 1) := by decide +kernel
theorem d_Y_asks_56 : decode b_Y_asks 56 = .ok (.goto 4, 3) := by decide +kernel
theorem d_Y_asks_59 : decode b_Y_asks 59 = .ok (.iconst 0, 1) := by decide +kernel
theorem d_Y_asks_60 : decode b_Y_asks 60 = .ok (.putfield 62, 3) := by decide +kernel
theorem d_Y_asks_63 : decode b_Y_asks 63 = .ok (.aload_n 0, 1) := by decide +kernel
theorem d_Y_asks_64 : decode b_Y_asks 64 = .ok (.getfield 122, 3) := by decide +kernel
theorem d_Y_asks_67 : decode b_Y_asks 67 = .ok (.ifCond .ne 7, 3) := by decide +kernel
theorem d_Y_asks_70 : decode b_Y_asks 70 = .ok (.iconst 1, 1) := by decide +kernel
theorem d_Y_asks_71 : decode b_Y_asks 71 = .ok (.goto 4, 3) := by decide +kernel
theorem d_Y_asks_74 : decode b_Y_asks 74 = .ok (.iconst 0, 1) := by decide +kernel
theorem d_Y_asks_75 : decode b_Y_asks 75 = .ok (.ireturn, 1) := by decide +kernel
theorem d_Y_response_0 : decode b_Y_response 0 = .ok (.aload_n 0, 1) := by decide +kernel
theorem d_Y_response_1 : decode b_Y_response 1 = .ok (.iload_n 1, 1) := by decide +kernel
theorem d_Y_response_2 : decode b_Y_response 2 = .ok (.invokevirtual 152, 3) := by decide +kernel
theorem d_Y_response_5 : decode b_Y_response 5 = .ok (.ifCond .eq 10, 3) := by decide +kernel
theorem d_Y_response_8 : decode b_Y_response 8 = .ok (.aload_n 0, 1) := by decide +kernel
theorem d_Y_response_9 : decode b_Y_response 9 = .ok (.getfield 113, 3) := by decide +kernel
theorem d_Y_response_12 : decode b_Y_response 12 = .ok (.goto 4, 3) := by decide +kernel
theorem d_Y_response_15 : decode b_Y_response 15 = .ok (.iconst 0, 1) := by decide +kernel
theorem d_Y_response_16 : decode b_Y_response 16 = .ok (.ireturn, 1) := by decide +kernel
theorem d_Y_job_0 : decode b_Y_job 0 = .ok (.aload_n 0, 1) := by decide +kernel
theorem d_Y_job_1 : decode b_Y_job 1 = .ok (.iload_n 2, 1) := by decide +kernel
theorem d_Y_job_2 : decode b_Y_job 2 = .ok (.putfield 131, 3) := by decide +kernel
theorem d_Y_job_5 : decode b_Y_job 5 = .ok (.aload_n 0, 1) := by decide +kernel
theorem d_Y_job_6 : decode b_Y_job 6 = .ok (.iload_n 1, 1) := by decide +kernel
theorem d_Y_job_7 : decode b_Y_job 7 = .ok (.invokevirtual 152, 3) := by decide +kernel
theorem d_Y_job_10 : decode b_Y_job 10 = .ok (.ifCond .eq 10, 3) := by decide +kernel
theorem d_Y_job_13 : decode b_Y_job 13 = .ok (.aload_n 0, 1) := by decide +kernel
theorem d_Y_job_14 : decode b_Y_job 14 = .ok (.getfield 119, 3) := by decide +kernel
theorem d_Y_job_17 : decode b_Y_job 17 = .ok (.goto 4, 3) := by decide +kernel
theorem d_Y_job_20 : decode b_Y_job 20 = .ok (.iconst 0, 1) := by decide +kernel
theorem d_Y_job_21 : decode b_Y_job 21 = .ok (.istore_n 3, 1) := by decide +kernel
theorem d_Y_job_22 : decode b_Y_job 22 = .ok (.aload_n 0, 1) := by decide +kernel
theorem d_Y_job_23 : decode b_Y_job 23 = .ok (.iconst (-1), 1) := by decide +kernel
theorem d_Y_job_24 : decode b_Y_job 24 = .ok (.putfield 131, 3) := by decide +kernel
theorem d_Y_job_27 : decode b_Y_job 27 = .ok (.iload_n 3, 1) := by decide +kernel
theorem d_Y_job_28 : decode b_Y_job 28 = .ok (.ireturn, 1) := by decide +kernel
theorem d_Y_tolerates_0 : decode b_Y_tolerates 0 = .ok (.iconst 0, 1) := by decide +kernel
theorem d_Y_tolerates_1 : decode b_Y_tolerates 1 = .ok (.istore_n 2, 1) := by decide +kernel
theorem d_Y_tolerates_2 : decode b_Y_tolerates 2 = .ok (.iconst 1, 1) := by decide +kernel
theorem d_Y_tolerates_3 : decode b_Y_tolerates 3 = .ok (.istore_n 3, 1) := by decide +kernel
theorem d_Y_tolerates_4 : decode b_Y_tolerates 4 = .ok (.iload_n 3, 1) := by decide +kernel
theorem d_Y_tolerates_5 : decode b_Y_tolerates 5 = .ok (.ifCond .eq 55, 3) := by decide +kernel
theorem d_Y_tolerates_8 : decode b_Y_tolerates 8 = .ok (.iload_n 2, 1) := by decide +kernel
theorem d_Y_tolerates_9 : decode b_Y_tolerates 9 = .ok (.aload_n 0, 1) := by decide +kernel
theorem d_Y_tolerates_10 : decode b_Y_tolerates 10 = .ok (.getfield 17, 3) := by decide +kernel
theorem d_Y_tolerates_13 : decode b_Y_tolerates 13 = .ok (.iload_n 1, 1) := by decide +kernel
theorem d_Y_tolerates_14 : decode b_Y_tolerates 14 = .ok (.iaload, 1) := by decide +kernel
theorem d_Y_tolerates_15 : decode b_Y_tolerates 15 = .ok (.if_icmp .gt 45, 3) := by decide +kernel
theorem d_Y_tolerates_18 : decode b_Y_tolerates 18 = .ok (.aload_n 0, 1) := by decide +kernel
theorem d_Y_tolerates_19 : decode b_Y_tolerates 19 = .ok (.iload_n 1, 1) := by decide +kernel
theorem d_Y_tolerates_20 : decode b_Y_tolerates 20 = .ok (.iload_n 2, 1) := by decide +kernel
theorem d_Y_tolerates_21 : decode b_Y_tolerates 21 = .ok (.invokevirtual 137, 3) := by decide +kernel
theorem d_Y_tolerates_24 : decode b_Y_tolerates 24 = .ok (.aload_n 0, 1) := by decide +kernel
theorem d_Y_tolerates_25 : decode b_Y_tolerates 25 = .ok (.getfield 122, 3) := by decide +kernel
theorem d_Y_tolerates_28 : decode b_Y_tolerates 28 = .ok (.ifCond .ne 20, 3) := by decide +kernel
theorem d_Y_tolerates_31 : decode b_Y_tolerates 31 = .ok (.aload_n 0, 1) := by decide +kernel
theorem d_Y_tolerates_32 : decode b_Y_tolerates 32 = .ok (.getfield 113, 3) := by decide +kernel
theorem d_Y_tolerates_35 : decode b_Y_tolerates 35 = .ok (.aload_n 0, 1) := by decide +kernel
theorem d_Y_tolerates_36 : decode b_Y_tolerates 36 = .ok (.getfield 17, 3) := by decide +kernel
theorem d_Y_tolerates_39 : decode b_Y_tolerates 39 = .ok (.iload_n 1, 1) := by decide +kernel
theorem d_Y_tolerates_40 : decode b_Y_tolerates 40 = .ok (.iaload, 1) := by decide +kernel
theorem d_Y_tolerates_41 : decode b_Y_tolerates 41 = .ok (.if_icmp .gt 7, 3) := by decide +kernel
theorem d_Y_tolerates_44 : decode b_Y_tolerates 44 = .ok (.iconst 1, 1) := by decide +kernel
theorem d_Y_tolerates_45 : decode b_Y_tolerates 45 = .ok (.goto 4, 3) := by decide +kernel
theorem d_Y_tolerates_48 : decode b_Y_tolerates 48 = .ok (.iconst 0, 1) := by decide +kernel
theorem d_Y_tolerates_49 : decode b_Y_tolerates 49 = .ok (.istore_n 3, 1) := by decide +kernel
theorem d_Y_tolerates_50 : decode b_Y_tolerates 50 = .ok (.iload_n 3, 1) := by decide +kernel
theorem d_Y_tolerates_51 : decode b_Y_tolerates 51 = .ok (.ifCond .eq (-47), 3) := by decide +kernel
theorem d_Y_tolerates_54 : decode b_Y_tolerates 54 = .ok (.iinc 2 1, 3) := by decide +kernel
theorem d_Y_tolerates_57 : decode b_Y_tolerates 57 = .ok (.goto (-53), 3) := by decide +kernel
theorem d_Y_tolerates_60 : decode b_Y_tolerates 60 = .ok (.iload_n 2, 1) := by decide +kernel
theorem d_Y_tolerates_61 : decode b_Y_tolerates 61 = .ok (.iconst 1, 1) := by decide +kernel
theorem d_Y_tolerates_62 : decode b_Y_tolerates 62 = .ok (.isub, 1) := by decide +kernel
theorem d_Y_tolerates_63 : decode b_Y_tolerates 63 = .ok (.ireturn, 1) := by decide +kernel
theorem d_Y_tolerance_0 : decode b_Y_tolerance 0 = .ok (.aload_n 0, 1) := by decide +kernel
theorem d_Y_tolerance_1 : decode b_Y_tolerance 1 = .ok (.aload_n 0, 1) := by decide +kernel
theorem d_Y_tolerance_2 : decode b_Y_tolerance 2 = .ok (.iload_n 1, 1) := by decide +kernel
theorem d_Y_tolerance_3 : decode b_Y_tolerance 3 = .ok (.invokevirtual 70, 3) := by decide +kernel
theorem d_Y_tolerance_6 : decode b_Y_tolerance 6 = .ok (.ifCond .ne 7, 3) := by decide +kernel
theorem d_Y_tolerance_9 : decode b_Y_tolerance 9 = .ok (.iconst 1, 1) := by decide +kernel
theorem d_Y_tolerance_10 : decode b_Y_tolerance 10 = .ok (.goto 15, 3) := by decide +kernel
theorem d_Y_tolerance_13 : decode b_Y_tolerance 13 = .ok (.aload_n 0, 1) := by decide +kernel
theorem d_Y_tolerance_14 : decode b_Y_tolerance 14 = .ok (.invokevirtual 141, 3) := by decide +kernel
theorem d_Y_tolerance_17 : decode b_Y_tolerance 17 = .ok (.ifCond .ne 7, 3) := by decide +kernel
theorem d_Y_tolerance_20 : decode b_Y_tolerance 20 = .ok (.iconst 2, 1) := by decide +kernel
theorem d_Y_tolerance_21 : decode b_Y_tolerance 21 = .ok (.goto 4, 3) := by decide +kernel
theorem d_Y_tolerance_24 : decode b_Y_tolerance 24 = .ok (.iconst 0, 1) := by decide +kernel
theorem d_Y_tolerance_25 : decode b_Y_tolerance 25 = .ok (.putfield 62, 3) := by decide +kernel
theorem d_Y_tolerance_28 : decode b_Y_tolerance 28 = .ok (.aload_n 0, 1) := by decide +kernel
theorem d_Y_tolerance_29 : decode b_Y_tolerance 29 = .ok (.getfield 62, 3) := by decide +kernel
theorem d_Y_tolerance_32 : decode b_Y_tolerance 32 = .ok (.ifCond .ne 11, 3) := by decide +kernel
theorem d_Y_tolerance_35 : decode b_Y_tolerance 35 = .ok (.aload_n 0, 1) := by decide +kernel
theorem d_Y_tolerance_36 : decode b_Y_tolerance 36 = .ok (.iload_n 1, 1) := by decide +kernel
theorem d_Y_tolerance_37 : decode b_Y_tolerance 37 = .ok (.invokevirtual 155, 3) := by decide +kernel
theorem d_Y_tolerance_40 : decode b_Y_tolerance 40 = .ok (.goto 4, 3) := by decide +kernel
theorem d_Y_tolerance_43 : decode b_Y_tolerance 43 = .ok (.iconst 0, 1) := by decide +kernel
theorem d_Y_tolerance_44 : decode b_Y_tolerance 44 = .ok (.ireturn, 1) := by decide +kernel
theorem d_Y_stretchOne_0 : decode b_Y_stretchOne 0 = .ok (.aload_n 0, 1) := by decide +kernel
theorem d_Y_stretchOne_1 : decode b_Y_stretchOne 1 = .ok (.iload_n 1, 1) := by decide +kernel
theorem d_Y_stretchOne_2 : decode b_Y_stretchOne 2 = .ok (.invokevirtual 100, 3) := by decide +kernel
theorem d_Y_stretchOne_5 : decode b_Y_stretchOne 5 = .ok (.iload_n 2, 1) := by decide +kernel
theorem d_Y_stretchOne_6 : decode b_Y_stretchOne 6 = .ok (.isub, 1) := by decide +kernel
theorem d_Y_stretchOne_7 : decode b_Y_stretchOne 7 = .ok (.istore_n 3, 1) := by decide +kernel
theorem d_Y_stretchOne_8 : decode b_Y_stretchOne 8 = .ok (.iconst 0, 1) := by decide +kernel
theorem d_Y_stretchOne_9 : decode b_Y_stretchOne 9 = .ok (.istore 4, 2) := by decide +kernel
theorem d_Y_stretchOne_11 : decode b_Y_stretchOne 11 = .ok (.iconst 0, 1) := by decide +kernel
theorem d_Y_stretchOne_12 : decode b_Y_stretchOne 12 = .ok (.istore 5, 2) := by decide +kernel
theorem d_Y_stretchOne_14 : decode b_Y_stretchOne 14 = .ok (.iload 5, 2) := by decide +kernel
theorem d_Y_stretchOne_16 : decode b_Y_stretchOne 16 = .ok (.iload_n 3, 1) := by decide +kernel
theorem d_Y_stretchOne_17 : decode b_Y_stretchOne 17 = .ok (.if_icmp .ge 55, 3) := by decide +kernel
theorem d_Y_stretchOne_20 : decode b_Y_stretchOne 20 = .ok (.bipush 8, 2) := by decide +kernel
theorem d_Y_stretchOne_22 : decode b_Y_stretchOne 22 = .ok (.iload_n 1, 1) := by decide +kernel
theorem d_Y_stretchOne_23 : decode b_Y_stretchOne 23 = .ok (.imul, 1) := by decide +kernel
theorem d_Y_stretchOne_24 : decode b_Y_stretchOne 24 = .ok (.iload 4, 2) := by decide +kernel
theorem d_Y_stretchOne_26 : decode b_Y_stretchOne 26 = .ok (.iadd, 1) := by decide +kernel
theorem d_Y_stretchOne_27 : decode b_Y_stretchOne 27 = .ok (.istore 6, 2) := by decide +kernel
theorem d_Y_stretchOne_29 : decode b_Y_stretchOne 29 = .ok (.iload 5, 2) := by decide +kernel
theorem d_Y_stretchOne_31 : decode b_Y_stretchOne 31 = .ok (.aload_n 0, 1) := by decide +kernel
theorem d_Y_stretchOne_32 : decode b_Y_stretchOne 32 = .ok (.getfield 26, 3) := by decide +kernel
theorem d_Y_stretchOne_35 : decode b_Y_stretchOne 35 = .ok (.iload 6, 2) := by decide +kernel
theorem d_Y_stretchOne_37 : decode b_Y_stretchOne 37 = .ok (.iaload, 1) := by decide +kernel
theorem d_Y_stretchOne_38 : decode b_Y_stretchOne 38 = .ok (.iadd, 1) := by decide +kernel
theorem d_Y_stretchOne_39 : decode b_Y_stretchOne 39 = .ok (.iload_n 3, 1) := by decide +kernel
theorem d_Y_stretchOne_40 : decode b_Y_stretchOne 40 = .ok (.if_icmp .le 14, 3) := by decide +kernel
theorem d_Y_stretchOne_43 : decode b_Y_stretchOne 43 = .ok (.aload_n 0, 1) := by decide +kernel
theorem d_Y_stretchOne_44 : decode b_Y_stretchOne 44 = .ok (.getfield 26, 3) := by decide +kernel
theorem d_Y_stretchOne_47 : decode b_Y_stretchOne 47 = .ok (.iload 6, 2) := by decide +kernel
theorem d_Y_stretchOne_49 : decode b_Y_stretchOne 49 = .ok (.iload_n 3, 1) := by decide +kernel
theorem d_Y_stretchOne_50 : decode b_Y_stretchOne 50 = .ok (.iload 5, 2) := by decide +kernel
theorem d_Y_stretchOne_52 : decode b_Y_stretchOne 52 = .ok (.isub, 1) := by decide +kernel
theorem d_Y_stretchOne_53 : decode b_Y_stretchOne 53 = .ok (.iastore, 1) := by decide +kernel
theorem d_Y_stretchOne_54 : decode b_Y_stretchOne 54 = .ok (.iload 5, 2) := by decide +kernel
theorem d_Y_stretchOne_56 : decode b_Y_stretchOne 56 = .ok (.aload_n 0, 1) := by decide +kernel
theorem d_Y_stretchOne_57 : decode b_Y_stretchOne 57 = .ok (.getfield 26, 3) := by decide +kernel
theorem d_Y_stretchOne_60 : decode b_Y_stretchOne 60 = .ok (.iload 6, 2) := by decide +kernel
theorem d_Y_stretchOne_62 : decode b_Y_stretchOne 62 = .ok (.iaload, 1) := by decide +kernel
theorem d_Y_stretchOne_63 : decode b_Y_stretchOne 63 = .ok (.iadd, 1) := by decide +kernel
theorem d_Y_stretchOne_64 : decode b_Y_stretchOne 64 = .ok (.istore 5, 2) := by decide +kernel
theorem d_Y_stretchOne_66 : decode b_Y_stretchOne 66 = .ok (.iinc 4 1, 3) := by decide +kernel
theorem d_Y_stretchOne_69 : decode b_Y_stretchOne 69 = .ok (.goto (-55), 3) := by decide +kernel
theorem d_Y_stretchOne_72 : decode b_Y_stretchOne 72 = .ok (.aload_n 0, 1) := by decide +kernel
theorem d_Y_stretchOne_73 : decode b_Y_stretchOne 73 = .ok (.getfield 26, 3) := by decide +kernel
theorem d_Y_stretchOne_76 : decode b_Y_stretchOne 76 = .ok (.bipush 8, 2) := by decide +kernel
theorem d_Y_stretchOne_78 : decode b_Y_stretchOne 78 = .ok (.iload_n 1, 1) := by decide +kernel
theorem d_Y_stretchOne_79 : decode b_Y_stretchOne 79 = .ok (.imul, 1) := by decide +kernel
theorem d_Y_stretchOne_80 : decode b_Y_stretchOne 80 = .ok (.iload 4, 2) := by decide +kernel
theorem d_Y_stretchOne_82 : decode b_Y_stretchOne 82 = .ok (.iadd, 1) := by decide +kernel
theorem d_Y_stretchOne_83 : decode b_Y_stretchOne 83 = .ok (.iload_n 2, 1) := by decide +kernel
