theorem d_K_highestWithJob_47 : decode b_K_highestWithJob 47 = .ok (.aconst_null, 1) := by decide +kernel
theorem d_K_highestWithJob_48 : decode b_K_highestWithJob 48 = .ok (.areturn, 1) := by decide +kernel
theorem d_T_init_0 : decode b_T_init 0 = .ok (.aload_n 0, 1) := by decide +kernel
theorem d_T_init_1 : decode b_T_init 1 = .ok (.invokespecial 3, 3) := by decide +kernel
theorem d_T_init_4 : decode b_T_init 4 = .ok (.aload_n 0, 1) := by decide +kernel
theorem d_T_init_5 : decode b_T_init 5 = .ok (.new 9, 3) := by decide +kernel
theorem d_T_init_8 : decode b_T_init 8 = .ok (.dup, 1) := by decide +kernel
theorem d_T_init_9 : decode b_T_init 9 = .ok (.invokespecial 11, 3) := by decide +kernel
theorem d_T_init_12 : decode b_T_init 12 = .ok (.putfield 12, 3) := by decide +kernel
theorem d_T_init_15 : decode b_T_init 15 = .ok (.aload_n 0, 1) := by decide +kernel
theorem d_T_init_16 : decode b_T_init 16 = .ok (.bipush 8, 2) := by decide +kernel
theorem d_T_init_18 : decode b_T_init 18 = .ok (.newarray .int, 2) := by decide +kernel
theorem d_T_init_20 : decode b_T_init 20 = .ok (.putfield 18, 3) := by decide +kernel
theorem d_T_init_23 : decode b_T_init 23 = .ok (.aload_n 0, 1) := by decide +kernel
theorem d_T_init_24 : decode b_T_init 24 = .ok (.bipush (-2), 2) := by decide +kernel
theorem d_T_init_26 : decode b_T_init 26 = .ok (.putfield 22, 3) := by decide +kernel
theorem d_T_init_29 : decode b_T_init 29 = .ok (.aload_n 0, 1) := by decide +kernel
theorem d_T_init_30 : decode b_T_init 30 = .ok (.bipush (-2), 2) := by decide +kernel
theorem d_T_init_32 : decode b_T_init 32 = .ok (.putfield 26, 3) := by decide +kernel
theorem d_T_init_35 : decode b_T_init 35 = .ok (.aload_n 0, 1) := by decide +kernel
theorem d_T_init_36 : decode b_T_init 36 = .ok (.iload_n 1, 1) := by decide +kernel
theorem d_T_init_37 : decode b_T_init 37 = .ok (.putfield 29, 3) := by decide +kernel
theorem d_T_init_40 : decode b_T_init 40 = .ok (.aload_n 0, 1) := by decide +kernel
theorem d_T_init_41 : decode b_T_init 41 = .ok (.iload_n 1, 1) := by decide +kernel
theorem d_T_init_42 : decode b_T_init 42 = .ok (.iconst 1, 1) := by decide +kernel
theorem d_T_init_43 : decode b_T_init 43 = .ok (.isub, 1) := by decide +kernel
theorem d_T_init_44 : decode b_T_init 44 = .ok (.putfield 32, 3) := by decide +kernel
theorem d_T_init_47 : decode b_T_init 47 = .ok (.return_, 1) := by decide +kernel
theorem d_T_become_0 : decode b_T_become 0 = .ok (.aload_n 0, 1) := by decide +kernel
theorem d_T_become_1 : decode b_T_become 1 = .ok (.iload_n 1, 1) := by decide +kernel
theorem d_T_become_2 : decode b_T_become 2 = .ok (.putfield 35, 3) := by decide +kernel
theorem d_T_become_5 : decode b_T_become 5 = .ok (.aload_n 0, 1) := by decide +kernel
theorem d_T_become_6 : decode b_T_become 6 = .ok (.iload_n 2, 1) := by decide +kernel
theorem d_T_become_7 : decode b_T_become 7 = .ok (.putfield 38, 3) := by decide +kernel
theorem d_T_become_10 : decode b_T_become 10 = .ok (.aload_n 0, 1) := by decide +kernel
theorem d_T_become_11 : decode b_T_become 11 = .ok (.iload_n 3, 1) := by decide +kernel
theorem d_T_become_12 : decode b_T_become 12 = .ok (.putfield 41, 3) := by decide +kernel
theorem d_T_become_15 : decode b_T_become 15 = .ok (.aload_n 0, 1) := by decide +kernel
theorem d_T_become_16 : decode b_T_become 16 = .ok (.iconst 0, 1) := by decide +kernel
theorem d_T_become_17 : decode b_T_become 17 = .ok (.putfield 44, 3) := by decide +kernel
theorem d_T_become_20 : decode b_T_become 20 = .ok (.aload_n 0, 1) := by decide +kernel
theorem d_T_become_21 : decode b_T_become 21 = .ok (.iconst 0, 1) := by decide +kernel
theorem d_T_become_22 : decode b_T_become 22 = .ok (.putfield 47, 3) := by decide +kernel
theorem d_T_become_25 : decode b_T_become 25 = .ok (.return_, 1) := by decide +kernel
theorem d_T_append_0 : decode b_T_append 0 = .ok (.aload_n 0, 1) := by decide +kernel
theorem d_T_append_1 : decode b_T_append 1 = .ok (.getfield 44, 3) := by decide +kernel
theorem d_T_append_4 : decode b_T_append 4 = .ok (.bipush 8, 2) := by decide +kernel
theorem d_T_append_6 : decode b_T_append 6 = .ok (.if_icmp .ge 14, 3) := by decide +kernel
theorem d_T_append_9 : decode b_T_append 9 = .ok (.iload_n 1, 1) := by decide +kernel
theorem d_T_append_10 : decode b_T_append 10 = .ok (.iconst 1, 1) := by decide +kernel
theorem d_T_append_11 : decode b_T_append 11 = .ok (.if_icmp .lt 9, 3) := by decide +kernel
theorem d_T_append_14 : decode b_T_append 14 = .ok (.iload_n 1, 1) := by decide +kernel
theorem d_T_append_15 : decode b_T_append 15 = .ok (.bipush 100, 2) := by decide +kernel
theorem d_T_append_17 : decode b_T_append 17 = .ok (.if_icmp .le 5, 3) := by decide +kernel
theorem d_T_append_20 : decode b_T_append 20 = .ok (.iconst 0, 1) := by decide +kernel
theorem d_T_append_21 : decode b_T_append 21 = .ok (.ireturn, 1) := by decide +kernel
theorem d_T_append_22 : decode b_T_append 22 = .ok (.aload_n 0, 1) := by decide +kernel
theorem d_T_append_23 : decode b_T_append 23 = .ok (.getfield 18, 3) := by decide +kernel
theorem d_T_append_26 : decode b_T_append 26 = .ok (.aload_n 0, 1) := by decide +kernel
theorem d_T_append_27 : decode b_T_append 27 = .ok (.getfield 44, 3) := by decide +kernel
theorem d_T_append_30 : decode b_T_append 30 = .ok (.iload_n 1, 1) := by decide +kernel
theorem d_T_append_31 : decode b_T_append 31 = .ok (.iastore, 1) := by decide +kernel
theorem d_T_append_32 : decode b_T_append 32 = .ok (.aload_n 0, 1) := by decide +kernel
theorem d_T_append_33 : decode b_T_append 33 = .ok (.dup, 1) := by decide +kernel
theorem d_T_append_34 : decode b_T_append 34 = .ok (.getfield 44, 3) := by decide +kernel
theorem d_T_append_37 : decode b_T_append 37 = .ok (.iconst 1, 1) := by decide +kernel
theorem d_T_append_38 : decode b_T_append 38 = .ok (.iadd, 1) := by decide +kernel
theorem d_T_append_39 : decode b_T_append 39 = .ok (.putfield 44, 3) := by decide +kernel
theorem d_T_append_42 : decode b_T_append 42 = .ok (.aload_n 0, 1) := by decide +kernel
theorem d_T_append_43 : decode b_T_append 43 = .ok (.dup, 1) := by decide +kernel
theorem d_T_append_44 : decode b_T_append 44 = .ok (.getfield 47, 3) := by decide +kernel
theorem d_T_append_47 : decode b_T_append 47 = .ok (.iload_n 1, 1) := by decide +kernel
theorem d_T_append_48 : decode b_T_append 48 = .ok (.iadd, 1) := by decide +kernel
theorem d_T_append_49 : decode b_T_append 49 = .ok (.putfield 47, 3) := by decide +kernel
theorem d_T_append_52 : decode b_T_append 52 = .ok (.iconst 1, 1) := by decide +kernel
theorem d_T_append_53 : decode b_T_append 53 = .ok (.ireturn, 1) := by decide +kernel
theorem d_T_segmentAt_0 : decode b_T_segmentAt 0 = .ok (.iload_n 1, 1) := by decide +kernel
theorem d_T_segmentAt_1 : decode b_T_segmentAt 1 = .ok (.ifCond .lt 11, 3) := by decide +kernel
theorem d_T_segmentAt_4 : decode b_T_segmentAt 4 = .ok (.iload_n 1, 1) := by decide +kernel
theorem d_T_segmentAt_5 : decode b_T_segmentAt 5 = .ok (.aload_n 0, 1) := by decide +kernel
theorem d_T_segmentAt_6 : decode b_T_segmentAt 6 = .ok (.getfield 44, 3) := by decide +kernel
theorem d_T_segmentAt_9 : decode b_T_segmentAt 9 = .ok (.if_icmp .lt 7, 3) := by decide +kernel
theorem d_T_segmentAt_12 : decode b_T_segmentAt 12 = .ok (.iconst (-1), 1) := by decide +kernel
theorem d_T_segmentAt_13 : decode b_T_segmentAt 13 = .ok (.goto 9, 3) := by decide +kernel
theorem d_T_segmentAt_16 : decode b_T_segmentAt 16 = .ok (.aload_n 0, 1) := by decide +kernel
theorem d_T_segmentAt_17 : decode b_T_segmentAt 17 = .ok (.getfield 18, 3) := by decide +kernel
theorem d_T_segmentAt_20 : decode b_T_segmentAt 20 = .ok (.iload_n 1, 1) := by decide +kernel
theorem d_T_segmentAt_21 : decode b_T_segmentAt 21 = .ok (.iaload, 1) := by decide +kernel
theorem d_T_segmentAt_22 : decode b_T_segmentAt 22 = .ok (.ireturn, 1) := by decide +kernel
theorem d_T_longestSegment_0 : decode b_T_longestSegment 0 = .ok (.iconst 0, 1) := by decide +kernel
theorem d_T_longestSegment_1 : decode b_T_longestSegment 1 = .ok (.istore_n 1, 1) := by decide +kernel
theorem d_T_longestSegment_2 : decode b_T_longestSegment 2 = .ok (.iconst 0, 1) := by decide +kernel
theorem d_T_longestSegment_3 : decode b_T_longestSegment 3 = .ok (.istore_n 2, 1) := by decide +kernel
theorem d_T_longestSegment_4 : decode b_T_longestSegment 4 = .ok (.iload_n 2, 1) := by decide +kernel
theorem d_T_longestSegment_5 : decode b_T_longestSegment 5 = .ok (.aload_n 0, 1) := by decide +kernel
theorem d_T_longestSegment_6 : decode b_T_longestSegment 6 = .ok (.getfield 44, 3) := by decide +kernel
theorem d_T_longestSegment_9 : decode b_T_longestSegment 9 = .ok (.if_icmp .ge 20, 3) := by decide +kernel
theorem d_T_longestSegment_12 : decode b_T_longestSegment 12 = .ok (.iload_n 1, 1) := by decide +kernel
theorem d_T_longestSegment_13 : decode b_T_longestSegment 13 = .ok (.aload_n 0, 1) := by decide +kernel
theorem d_T_longestSegment_14 : decode b_T_longestSegment 14 = .ok (.getfield 18, 3) := by decide +kernel
theorem d_T_longestSegment_17 : decode b_T_longestSegment 17 = .ok (.iload_n 2, 1) := by decide +kernel
theorem d_T_longestSegment_18 : decode b_T_longestSegment 18 = .ok (.iaload, 1) := by decide +kernel
theorem d_T_longestSegment_19 : decode b_T_longestSegment 19 = .ok (.invokestatic 50, 3) := by decide +kernel
theorem d_T_longestSegment_22 : decode b_T_longestSegment 22 = .ok (.istore_n 1, 1) := by decide +kernel
theorem d_T_longestSegment_23 : decode b_T_longestSegment 23 = .ok (.iinc 2 1, 3) := by decide +kernel
theorem d_T_longestSegment_26 : decode b_T_longestSegment 26 = .ok (.goto (-22), 3) := by decide +kernel
theorem d_T_longestSegment_29 : decode b_T_longestSegment 29 = .ok (.iload_n 1, 1) := by decide +kernel
theorem d_T_longestSegment_30 : decode b_T_longestSegment 30 = .ok (.ireturn, 1) := by decide +kernel
theorem d_T_lastSegment_0 : decode b_T_lastSegment 0 = .ok (.aload_n 0, 1) := by decide +kernel
theorem d_T_lastSegment_1 : decode b_T_lastSegment 1 = .ok (.getfield 44, 3) := by decide +kernel
theorem d_T_lastSegment_4 : decode b_T_lastSegment 4 = .ok (.iconst 1, 1) := by decide +kernel
theorem d_T_lastSegment_5 : decode b_T_lastSegment 5 = .ok (.if_icmp .ge 7, 3) := by decide +kernel
theorem d_T_lastSegment_8 : decode b_T_lastSegment 8 = .ok (.iconst 0, 1) := by decide +kernel
theorem d_T_lastSegment_9 : decode b_T_lastSegment 9 = .ok (.goto 14, 3) := by decide +kernel
theorem d_T_lastSegment_12 : decode b_T_lastSegment 12 = .ok (.aload_n 0, 1) := by decide +kernel
theorem d_T_lastSegment_13 : decode b_T_lastSegment 13 = .ok (.getfield 18, 3) := by decide +kernel
theorem d_T_lastSegment_16 : decode b_T_lastSegment 16 = .ok (.aload_n 0, 1) := by decide +kernel
theorem d_T_lastSegment_17 : decode b_T_lastSegment 17 = .ok (.getfield 44, 3) := by decide +kernel
theorem d_T_lastSegment_20 : decode b_T_lastSegment 20 = .ok (.iconst 1, 1) := by decide +kernel
theorem d_T_lastSegment_21 : decode b_T_lastSegment 21 = .ok (.isub, 1) := by decide +kernel
theorem d_T_lastSegment_22 : decode b_T_lastSegment 22 = .ok (.iaload, 1) := by decide +kernel
theorem d_T_lastSegment_23 : decode b_T_lastSegment 23 = .ok (.ireturn, 1) := by decide +kernel
theorem d_T_workAheadOf_0 : decode b_T_workAheadOf 0 = .ok (.iconst 0, 1) := by decide +kernel
theorem d_T_workAheadOf_1 : decode b_T_workAheadOf 1 = .ok (.istore_n 2, 1) := by decide +kernel
theorem d_T_workAheadOf_2 : decode b_T_workAheadOf 2 = .ok (.iconst 0, 1) := by decide +kernel
theorem d_T_workAheadOf_3 : decode b_T_workAheadOf 3 = .ok (.istore_n 3, 1) := by decide +kernel
theorem d_T_workAheadOf_4 : decode b_T_workAheadOf 4 = .ok (.iload_n 3, 1) := by decide +kernel
theorem d_T_workAheadOf_5 : decode b_T_workAheadOf 5 = .ok (.aload_n 0, 1) := by decide +kernel
theorem d_T_workAheadOf_6 : decode b_T_workAheadOf 6 = .ok (.getfield 44, 3) := by decide +kernel
theorem d_T_workAheadOf_9 : decode b_T_workAheadOf 9 = .ok (.if_icmp .ge 28, 3) := by decide +kernel
theorem d_T_workAheadOf_12 : decode b_T_workAheadOf 12 = .ok (.aload_n 0, 1) := by decide +kernel
theorem d_T_workAheadOf_13 : decode b_T_workAheadOf 13 = .ok (.getfield 18, 3) := by decide +kernel
theorem d_T_workAheadOf_16 : decode b_T_workAheadOf 16 = .ok (.iload_n 3, 1) := by decide +kernel
theorem d_T_workAheadOf_17 : decode b_T_workAheadOf 17 = .ok (.iaload, 1) := by decide +kernel
theorem d_T_workAheadOf_18 : decode b_T_workAheadOf 18 = .ok (.iload_n 1, 1) := by decide +kernel
theorem d_T_workAheadOf_19 : decode b_T_workAheadOf 19 = .ok (.if_icmp .eq 18, 3) := by decide +kernel
theorem d_T_workAheadOf_22 : decode b_T_workAheadOf 22 = .ok (.iload_n 2, 1) := by decide +kernel
theorem d_T_workAheadOf_23 : decode b_T_workAheadOf 23 = .ok (.aload_n 0, 1) := by decide +kernel
theorem d_T_workAheadOf_24 : decode b_T_workAheadOf 24 = .ok (.getfield 18, 3) := by decide +kernel
theorem d_T_workAheadOf_27 : decode b_T_workAheadOf 27 = .ok (.iload_n 3, 1) := by decide +kernel
theorem d_T_workAheadOf_28 : decode b_T_workAheadOf 28 = .ok (.iaload, 1) := by decide +kernel
theorem d_T_workAheadOf_29 : decode b_T_workAheadOf 29 = .ok (.iadd, 1) := by decide +kernel
theorem d_T_workAheadOf_30 : decode b_T_workAheadOf 30 = .ok (.istore_n 2, 1) := by decide +kernel
theorem d_T_workAheadOf_31 : decode b_T_workAheadOf 31 = .ok (.iinc 3 1, 3) := by decide +kernel
theorem d_T_workAheadOf_34 : decode b_T_workAheadOf 34 = .ok (.goto (-30), 3) := by decide +kernel
theorem d_T_workAheadOf_37 : decode b_T_workAheadOf 37 = .ok (.iload_n 2, 1) := by decide +kernel
theorem d_T_workAheadOf_38 : decode b_T_workAheadOf 38 = .ok (.ireturn, 1) := by decide +kernel
theorem d_T_growLast_0 : decode b_T_growLast 0 = .ok (.aload_n 0, 1) := by decide +kernel
theorem d_T_growLast_1 : decode b_T_growLast 1 = .ok (.getfield 44, 3) := by decide +kernel
theorem d_T_growLast_4 : decode b_T_growLast 4 = .ok (.istore_n 2, 1) := by decide +kernel
theorem d_T_growLast_5 : decode b_T_growLast 5 = .ok (.aload_n 0, 1) := by decide +kernel
theorem d_T_growLast_6 : decode b_T_growLast 6 = .ok (.getfield 47, 3) := by decide +kernel
theorem d_T_growLast_9 : decode b_T_growLast 9 = .ok (.iload_n 1, 1) := by decide +kernel
theorem d_T_growLast_10 : decode b_T_growLast 10 = .ok (.isub, 1) := by decide +kernel
theorem d_T_growLast_11 : decode b_T_growLast 11 = .ok (.istore_n 3, 1) := by decide +kernel
theorem d_T_growLast_12 : decode b_T_growLast 12 = .ok (.iconst 0, 1) := by decide +kernel
theorem d_T_growLast_13 : decode b_T_growLast 13 = .ok (.istore 4, 2) := by decide +kernel
theorem d_T_growLast_15 : decode b_T_growLast 15 = .ok (.iload 4, 2) := by decide +kernel
theorem d_T_growLast_17 : decode b_T_growLast 17 = .ok (.iload_n 2, 1) := by decide +kernel
theorem d_T_growLast_18 : decode b_T_growLast 18 = .ok (.iconst 1, 1) := by decide +kernel
theorem d_T_growLast_19 : decode b_T_growLast 19 = .ok (.isub, 1) := by decide +kernel
theorem d_T_growLast_20 : decode b_T_growLast 20 = .ok (.if_icmp .ge 30, 3) := by decide +kernel
theorem d_T_growLast_23 : decode b_T_growLast 23 = .ok (.aload_n 0, 1) := by decide +kernel
theorem d_T_growLast_24 : decode b_T_growLast 24 = .ok (.getfield 18, 3) := by decide +kernel
theorem d_T_growLast_27 : decode b_T_growLast 27 = .ok (.iload 4, 2) := by decide +kernel
theorem d_T_growLast_29 : decode b_T_growLast 29 = .ok (.iaload, 1) := by decide +kernel
theorem d_T_growLast_30 : decode b_T_growLast 30 = .ok (.iload_n 3, 1) := by decide +kernel
theorem d_T_growLast_31 : decode b_T_growLast 31 = .ok (.if_icmp .gt 19, 3) := by decide +kernel
theorem d_T_growLast_34 : decode b_T_growLast 34 = .ok (.iload_n 3, 1) := by decide +kernel
theorem d_T_growLast_35 : decode b_T_growLast 35 = .ok (.aload_n 0, 1) := by decide +kernel
theorem d_T_growLast_36 : decode b_T_growLast 36 = .ok (.getfield 18, 3) := by decide +kernel
theorem d_T_growLast_39 : decode b_T_growLast 39 = .ok (.iload 4, 2) := by decide +kernel
theorem d_T_growLast_41 : decode b_T_growLast 41 = .ok (.iaload, 1) := by decide +kernel
theorem d_T_growLast_42 : decode b_T_growLast 42 = .ok (.isub, 1) := by decide +kernel
theorem d_T_growLast_43 : decode b_T_growLast 43 = .ok (.istore_n 3, 1) := by decide +kernel
theorem d_T_growLast_44 : decode b_T_growLast 44 = .ok (.iinc 4 1, 3) := by decide +kernel
theorem d_T_growLast_47 : decode b_T_growLast 47 = .ok (.goto (-32), 3) := by decide +kernel
theorem d_T_growLast_50 : decode b_T_growLast 50 = .ok (.iload_n 3, 1) := by decide +kernel
theorem d_T_growLast_51 : decode b_T_growLast 51 = .ok (.ifCond .le 22, 3) := by decide +kernel
theorem d_T_growLast_54 : decode b_T_growLast 54 = .ok (.iload 4, 2) := by decide +kernel
theorem d_T_growLast_56 : decode b_T_growLast 56 = .ok (.iload_n 2, 1) := by decide +kernel
theorem d_T_growLast_57 : decode b_T_growLast 57 = .ok (.iconst 1, 1) := by decide +kernel
theorem d_T_growLast_58 : decode b_T_growLast 58 = .ok (.isub, 1) := by decide +kernel
theorem d_T_growLast_59 : decode b_T_growLast 59 = .ok (.if_icmp .ge 14, 3) := by decide +kernel
theorem d_T_growLast_62 : decode b_T_growLast 62 = .ok (.aload_n 0, 1) := by decide +kernel
theorem d_T_growLast_63 : decode b_T_growLast 63 = .ok (.getfield 18, 3) := by decide +kernel
theorem d_T_growLast_66 : decode b_T_growLast 66 = .ok (.iload 4, 2) := by decide +kernel
theorem d_T_growLast_68 : decode b_T_growLast 68 = .ok (.iload_n 3, 1) := by decide +kernel
theorem d_T_growLast_69 : decode b_T_growLast 69 = .ok (.iastore, 1) := by decide +kernel
theorem d_T_growLast_70 : decode b_T_growLast 70 = .ok (.iinc 4 1, 3) := by decide +kernel
theorem d_T_growLast_73 : decode b_T_growLast 73 = .ok (.aload_n 0, 1) := by decide +kernel
theorem d_T_growLast_74 : decode b_T_growLast 74 = .ok (.getfield 18, 3) := by decide +kernel
theorem d_T_growLast_77 : decode b_T_growLast 77 = .ok (.iload 4, 2) := by decide +kernel
theorem d_T_growLast_79 : decode b_T_growLast 79 = .ok (.iload_n 1, 1) := by decide +kernel
theorem d_T_growLast_80 : decode b_T_growLast 80 = .ok (.iastore, 1) := by decide +kernel
theorem d_T_growLast_81 : decode b_T_growLast 81 = .ok (.aload_n 0, 1) := by decide +kernel
theorem d_T_growLast_82 : decode b_T_growLast 82 = .ok (.iload 4, 2) := by decide +kernel
theorem d_T_growLast_84 : decode b_T_growLast 84 = .ok (.iconst 1, 1) := by decide +kernel
theorem d_T_growLast_85 : decode b_T_growLast 85 = .ok (.iadd, 1) := by decide +kernel
theorem d_T_growLast_86 : decode b_T_growLast 86 = .ok (.putfield 44, 3) := by decide +kernel
theorem d_T_growLast_89 : decode b_T_growLast 89 = .ok (.iload_n 2, 1) := by decide +kernel
theorem d_T_growLast_90 : decode b_T_growLast 90 = .ok (.aload_n 0, 1) := by decide +kernel
theorem d_T_growLast_91 : decode b_T_growLast 91 = .ok (.getfield 44, 3) := by decide +kernel
theorem d_T_growLast_94 : decode b_T_growLast 94 = .ok (.isub, 1) := by decide +kernel
theorem d_T_growLast_95 : decode b_T_growLast 95 = .ok (.ireturn, 1) := by decide +kernel
theorem d_T_arrivalsBy_0 : decode b_T_arrivalsBy 0 = .ok (.iload_n 1, 1) := by decide +kernel
theorem d_T_arrivalsBy_1 : decode b_T_arrivalsBy 1 = .ok (.ifCond .lt 11, 3) := by decide +kernel
theorem d_T_arrivalsBy_4 : decode b_T_arrivalsBy 4 = .ok (.aload_n 0, 1) := by decide +kernel
theorem d_T_arrivalsBy_5 : decode b_T_arrivalsBy 5 = .ok (.getfield 35, 3) := by decide +kernel
theorem d_T_arrivalsBy_8 : decode b_T_arrivalsBy 8 = .ok (.iconst 1, 1) := by decide +kernel
theorem d_T_arrivalsBy_9 : decode b_T_arrivalsBy 9 = .ok (.if_icmp .ge 7, 3) := by decide +kernel
theorem d_T_arrivalsBy_12 : decode b_T_arrivalsBy 12 = .ok (.iconst 0, 1) := by decide +kernel
theorem d_T_arrivalsBy_13 : decode b_T_arrivalsBy 13 = .ok (.goto 11, 3) := by decide +kernel
theorem d_T_arrivalsBy_16 : decode b_T_arrivalsBy 16 = .ok (.iload_n 1, 1) := by decide +kernel
theorem d_T_arrivalsBy_17 : decode b_T_arrivalsBy 17 = .ok (.aload_n 0, 1) := by decide +kernel
theorem d_T_arrivalsBy_18 : decode b_T_arrivalsBy 18 = .ok (.getfield 35, 3) := by decide +kernel
theorem d_T_arrivalsBy_21 : decode b_T_arrivalsBy 21 = .ok (.idiv, 1) := by decide +kernel
theorem d_T_arrivalsBy_22 : decode b_T_arrivalsBy 22 = .ok (.iconst 1, 1) := by decide +kernel
theorem d_T_arrivalsBy_23 : decode b_T_arrivalsBy 23 = .ok (.iadd, 1) := by decide +kernel
theorem d_T_arrivalsBy_24 : decode b_T_arrivalsBy 24 = .ok (.ireturn, 1) := by decide +kernel
theorem d_T_forgetFindings_0 : decode b_T_forgetFindings 0 = .ok (.aload_n 0, 1) := by decide +kernel
theorem d_T_forgetFindings_1 : decode b_T_forgetFindings 1 = .ok (.bipush (-2), 2) := by decide +kernel
theorem d_T_forgetFindings_3 : decode b_T_forgetFindings 3 = .ok (.putfield 22, 3) := by decide +kernel
theorem d_T_forgetFindings_6 : decode b_T_forgetFindings 6 = .ok (.aload_n 0, 1) := by decide +kernel
theorem d_T_forgetFindings_7 : decode b_T_forgetFindings 7 = .ok (.bipush (-2), 2) := by decide +kernel
theorem d_T_forgetFindings_9 : decode b_T_forgetFindings 9 = .ok (.putfield 26, 3) := by decide +kernel
theorem d_T_forgetFindings_12 : decode b_T_forgetFindings 12 = .ok (.return_, 1) := by decide +kernel
theorem d_T_isTooLong_0 : decode b_T_isTooLong 0 = .ok (.aload_n 0, 1) := by decide +kernel
theorem d_T_isTooLong_1 : decode b_T_isTooLong 1 = .ok (.getfield 22, 3) := by decide +kernel
theorem d_T_isTooLong_4 : decode b_T_isTooLong 4 = .ok (.ldc 56, 2) := by decide +kernel
theorem d_T_isTooLong_6 : decode b_T_isTooLong 6 = .ok (.if_icmp .ne 7, 3) := by decide +kernel
theorem d_T_isTooLong_9 : decode b_T_isTooLong 9 = .ok (.iconst 1, 1) := by decide +kernel
theorem d_T_isTooLong_10 : decode b_T_isTooLong 10 = .ok (.goto 4, 3) := by decide +kernel
theorem d_T_isTooLong_13 : decode b_T_isTooLong 13 = .ok (.iconst 0, 1) := by decide +kernel
theorem d_T_isTooLong_14 : decode b_T_isTooLong 14 = .ok (.ireturn, 1) := by decide +kernel
theorem d_J_init_0 : decode b_J_init 0 = .ok (.aload_n 0, 1) := by decide +kernel
theorem d_J_init_1 : decode b_J_init 1 = .ok (.invokespecial 3, 3) := by decide +kernel
theorem d_J_init_4 : decode b_J_init 4 = .ok (.aload_n 0, 1) := by decide +kernel
theorem d_J_init_5 : decode b_J_init 5 = .ok (.bipush 9, 2) := by decide +kernel
theorem d_J_init_7 : decode b_J_init 7 = .ok (.newarray .int, 2) := by decide +kernel
theorem d_J_init_9 : decode b_J_init 9 = .ok (.putfield 9, 3) := by decide +kernel
theorem d_J_init_12 : decode b_J_init 12 = .ok (.aload_n 0, 1) := by decide +kernel
theorem d_J_init_13 : decode b_J_init 13 = .ok (.sipush 200, 3) := by decide +kernel
theorem d_J_init_16 : decode b_J_init 16 = .ok (.newarray .int, 2) := by decide +kernel
theorem d_J_init_18 : decode b_J_init 18 = .ok (.putfield 15, 3) := by decide +kernel
theorem d_J_init_21 : decode b_J_init 21 = .ok (.return_, 1) := by decide +kernel
theorem d_J_forget_0 : decode b_J_forget 0 = .ok (.aload_n 0, 1) := by decide +kernel
theorem d_J_forget_1 : decode b_J_forget 1 = .ok (.iconst 0, 1) := by decide +kernel
theorem d_J_forget_2 : decode b_J_forget 2 = .ok (.putfield 18, 3) := by decide +kernel
theorem d_J_forget_5 : decode b_J_forget 5 = .ok (.aload_n 0, 1) := by decide +kernel
theorem d_J_forget_6 : decode b_J_forget 6 = .ok (.iconst 0, 1) := by decide +kernel
theorem d_J_forget_7 : decode b_J_forget 7 = .ok (.putfield 22, 3) := by decide +kernel
theorem d_J_forget_10 : decode b_J_forget 10 = .ok (.aload_n 0, 1) := by decide +kernel
theorem d_J_forget_11 : decode b_J_forget 11 = .ok (.iconst 0, 1) := by decide +kernel
theorem d_J_forget_12 : decode b_J_forget 12 = .ok (.putfield 25, 3) := by decide +kernel
theorem d_J_forget_15 : decode b_J_forget 15 = .ok (.aload_n 0, 1) := by decide +kernel
theorem d_J_forget_16 : decode b_J_forget 16 = .ok (.iconst 0, 1) := by decide +kernel
theorem d_J_forget_17 : decode b_J_forget 17 = .ok (.putfield 28, 3) := by decide +kernel
theorem d_J_forget_20 : decode b_J_forget 20 = .ok (.aload_n 0, 1) := by decide +kernel
theorem d_J_forget_21 : decode b_J_forget 21 = .ok (.iconst 0, 1) := by decide +kernel
theorem d_J_forget_22 : decode b_J_forget 22 = .ok (.putfield 31, 3) := by decide +kernel
theorem d_J_forget_25 : decode b_J_forget 25 = .ok (.aload_n 0, 1) := by decide +kernel
theorem d_J_forget_26 : decode b_J_forget 26 = .ok (.iconst 0, 1) := by decide +kernel
theorem d_J_forget_27 : decode b_J_forget 27 = .ok (.putfield 34, 3) := by decide +kernel
theorem d_J_forget_30 : decode b_J_forget 30 = .ok (.return_, 1) := by decide +kernel
theorem d_J_hasOpen_0 : decode b_J_hasOpen 0 = .ok (.aload_n 0, 1) := by decide +kernel
theorem d_J_hasOpen_1 : decode b_J_hasOpen 1 = .ok (.getfield 22, 3) := by decide +kernel
theorem d_J_hasOpen_4 : decode b_J_hasOpen 4 = .ok (.aload_n 0, 1) := by decide +kernel
theorem d_J_hasOpen_5 : decode b_J_hasOpen 5 = .ok (.getfield 18, 3) := by decide +kernel
theorem d_J_hasOpen_8 : decode b_J_hasOpen 8 = .ok (.if_icmp .ge 7, 3) := by decide +kernel
theorem d_J_hasOpen_11 : decode b_J_hasOpen 11 = .ok (.iconst 1, 1) := by decide +kernel
theorem d_J_hasOpen_12 : decode b_J_hasOpen 12 = .ok (.goto 4, 3) := by decide +kernel
theorem d_J_hasOpen_15 : decode b_J_hasOpen 15 = .ok (.iconst 0, 1) := by decide +kernel
theorem d_J_hasOpen_16 : decode b_J_hasOpen 16 = .ok (.ireturn, 1) := by decide +kernel
theorem d_J_accept_0 : decode b_J_accept 0 = .ok (.aload_n 0, 1) := by decide +kernel
theorem d_J_accept_1 : decode b_J_accept 1 = .ok (.getfield 18, 3) := by decide +kernel
theorem d_J_accept_4 : decode b_J_accept 4 = .ok (.aload_n 0, 1) := by decide +kernel
theorem d_J_accept_5 : decode b_J_accept 5 = .ok (.getfield 22, 3) := by decide +kernel
theorem d_J_accept_8 : decode b_J_accept 8 = .ok (.isub, 1) := by decide +kernel
theorem d_J_accept_9 : decode b_J_accept 9 = .ok (.bipush 9, 2) := by decide +kernel
theorem d_J_accept_11 : decode b_J_accept 11 = .ok (.if_icmp .lt 5, 3) := by decide +kernel
theorem d_J_accept_14 : decode b_J_accept 14 = .ok (.iconst 0, 1) := by decide +kernel
theorem d_J_accept_15 : decode b_J_accept 15 = .ok (.ireturn, 1) := by decide +kernel
theorem d_J_accept_16 : decode b_J_accept 16 = .ok (.aload_n 0, 1) := by decide +kernel
theorem d_J_accept_17 : decode b_J_accept 17 = .ok (.getfield 18, 3) := by decide +kernel
theorem d_J_accept_20 : decode b_J_accept 20 = .ok (.ifCond .le 25, 3) := by decide +kernel
theorem d_J_accept_23 : decode b_J_accept 23 = .ok (.iload_n 1, 1) := by decide +kernel
theorem d_J_accept_24 : decode b_J_accept 24 = .ok (.aload_n 0, 1) := by decide +kernel
theorem d_J_accept_25 : decode b_J_accept 25 = .ok (.getfield 9, 3) := by decide +kernel
theorem d_J_accept_28 : decode b_J_accept 28 = .ok (.aload_n 0, 1) := by decide +kernel
theorem d_J_accept_29 : decode b_J_accept 29 = .ok (.getfield 18, 3) := by decide +kernel
theorem d_J_accept_32 : decode b_J_accept 32 = .ok (.iconst 1, 1) := by decide +kernel
theorem d_J_accept_33 : decode b_J_accept 33 = .ok (.isub, 1) := by decide +kernel
theorem d_J_accept_34 : decode b_J_accept 34 = .ok (.bipush 9, 2) := by decide +kernel
theorem d_J_accept_36 : decode b_J_accept 36 = .ok (.irem, 1) := by decide +kernel
theorem d_J_accept_37 : decode b_J_accept 37 = .ok (.iaload, 1) := by decide +kernel
theorem d_J_accept_38 : decode b_J_accept 38 = .ok (.isub, 1) := by decide +kernel
theorem d_J_accept_39 : decode b_J_accept 39 = .ok (.iload_n 2, 1) := by decide +kernel
theorem d_J_accept_40 : decode b_J_accept 40 = .ok (.if_icmp .ge 5, 3) := by decide +kernel
theorem d_J_accept_43 : decode b_J_accept 43 = .ok (.iconst 0, 1) := by decide +kernel
theorem d_J_accept_44 : decode b_J_accept 44 = .ok (.ireturn, 1) := by decide +kernel
theorem d_J_accept_45 : decode b_J_accept 45 = .ok (.aload_n 0, 1) := by decide +kernel
theorem d_J_accept_46 : decode b_J_accept 46 = .ok (.getfield 9, 3) := by decide +kernel
theorem d_J_accept_49 : decode b_J_accept 49 = .ok (.aload_n 0, 1) := by decide +kernel
theorem d_J_accept_50 : decode b_J_accept 50 = .ok (.getfield 18, 3) := by decide +kernel
theorem d_J_accept_53 : decode b_J_accept 53 = .ok (.bipush 9, 2) := by decide +kernel
theorem d_J_accept_55 : decode b_J_accept 55 = .ok (.irem, 1) := by decide +kernel
theorem d_J_accept_56 : decode b_J_accept 56 = .ok (.iload_n 1, 1) := by decide +kernel
theorem d_J_accept_57 : decode b_J_accept 57 = .ok (.iastore, 1) := by decide +kernel
theorem d_J_accept_58 : decode b_J_accept 58 = .ok (.aload_n 0, 1) := by decide +kernel
theorem d_J_accept_59 : decode b_J_accept 59 = .ok (.dup, 1) := by decide +kernel
theorem d_J_accept_60 : decode b_J_accept 60 = .ok (.getfield 18, 3) := by decide +kernel
theorem d_J_accept_63 : decode b_J_accept 63 = .ok (.iconst 1, 1) := by decide +kernel
theorem d_J_accept_64 : decode b_J_accept 64 = .ok (.iadd, 1) := by decide +kernel
theorem d_J_accept_65 : decode b_J_accept 65 = .ok (.putfield 18, 3) := by decide +kernel
theorem d_J_accept_68 : decode b_J_accept 68 = .ok (.iconst 1, 1) := by decide +kernel
theorem d_J_accept_69 : decode b_J_accept 69 = .ok (.ireturn, 1) := by decide +kernel
theorem d_J_finishOldest_0 : decode b_J_finishOldest 0 = .ok (.iload_n 1, 1) := by decide +kernel
theorem d_J_finishOldest_1 : decode b_J_finishOldest 1 = .ok (.aload_n 0, 1) := by decide +kernel
theorem d_J_finishOldest_2 : decode b_J_finishOldest 2 = .ok (.getfield 9, 3) := by decide +kernel
theorem d_J_finishOldest_5 : decode b_J_finishOldest 5 = .ok (.aload_n 0, 1) := by decide +kernel
theorem d_J_finishOldest_6 : decode b_J_finishOldest 6 = .ok (.getfield 22, 3) := by decide +kernel
theorem d_J_finishOldest_9 : decode b_J_finishOldest 9 = .ok (.bipush 9, 2) := by decide +kernel
theorem d_J_finishOldest_11 : decode b_J_finishOldest 11 = .ok (.irem, 1) := by decide +kernel
theorem d_J_finishOldest_12 : decode b_J_finishOldest 12 = .ok (.iaload, 1) := by decide +kernel
theorem d_J_finishOldest_13 : decode b_J_finishOldest 13 = .ok (.isub, 1) := by decide +kernel
theorem d_J_finishOldest_14 : decode b_J_finishOldest 14 = .ok (.istore_n 3, 1) := by decide +kernel
theorem d_J_finishOldest_15 : decode b_J_finishOldest 15 = .ok (.aload_n 0, 1) := by decide +kernel
theorem d_J_finishOldest_16 : decode b_J_finishOldest 16 = .ok (.getfield 22, 3) := by decide +kernel
theorem d_J_finishOldest_19 : decode b_J_finishOldest 19 = .ok (.sipush 200, 3) := by decide +kernel
theorem d_J_finishOldest_22 : decode b_J_finishOldest 22 = .ok (.if_icmp .ge 13, 3) := by decide +kernel
theorem d_J_finishOldest_25 : decode b_J_finishOldest 25 = .ok (.aload_n 0, 1) := by decide +kernel
theorem d_J_finishOldest_26 : decode b_J_finishOldest 26 = .ok (.getfield 15, 3) := by decide +kernel
theorem d_J_finishOldest_29 : decode b_J_finishOldest 29 = .ok (.aload_n 0, 1) := by decide +kernel
theorem d_J_finishOldest_30 : decode b_J_finishOldest 30 = .ok (.getfield 22, 3) := by decide +kernel
theorem d_J_finishOldest_33 : decode b_J_finishOldest 33 = .ok (.iload_n 3, 1) := by decide +kernel
theorem d_J_finishOldest_34 : decode b_J_finishOldest 34 = .ok (.iastore, 1) := by decide +kernel
theorem d_J_finishOldest_35 : decode b_J_finishOldest 35 = .ok (.aload_n 0, 1) := by decide +kernel
theorem d_J_finishOldest_36 : decode b_J_finishOldest 36 = .ok (.aload_n 0, 1) := by decide +kernel
theorem d_J_finishOldest_37 : decode b_J_finishOldest 37 = .ok (.getfield 25, 3) := by decide +kernel
theorem d_J_finishOldest_40 : decode b_J_finishOldest 40 = .ok (.iload_n 3, 1) := by decide +kernel
theorem d_J_finishOldest_41 : decode b_J_finishOldest 41 = .ok (.invokestatic 37, 3) := by decide +kernel
theorem d_J_finishOldest_44 : decode b_J_finishOldest 44 = .ok (.putfield 25, 3) := by decide +kernel
theorem d_J_finishOldest_47 : decode b_J_finishOldest 47 = .ok (.iload_n 3, 1) := by decide +kernel
theorem d_J_finishOldest_48 : decode b_J_finishOldest 48 = .ok (.iload_n 2, 1) := by decide +kernel
theorem d_J_finishOldest_49 : decode b_J_finishOldest 49 = .ok (.if_icmp .le 13, 3) := by decide +kernel
theorem d_J_finishOldest_52 : decode b_J_finishOldest 52 = .ok (.aload_n 0, 1) := by decide +kernel
theorem d_J_finishOldest_53 : decode b_J_finishOldest 53 = .ok (.dup, 1) := by decide +kernel
theorem d_J_finishOldest_54 : decode b_J_finishOldest 54 = .ok (.getfield 31, 3) := by decide +kernel
theorem d_J_finishOldest_57 : decode b_J_finishOldest 57 = .ok (.iconst 1, 1) := by decide +kernel
theorem d_J_finishOldest_58 : decode b_J_finishOldest 58 = .ok (.iadd, 1) := by decide +kernel
theorem d_J_finishOldest_59 : decode b_J_finishOldest 59 = .ok (.putfield 31, 3) := by decide +kernel
theorem d_J_finishOldest_62 : decode b_J_finishOldest 62 = .ok (.aload_n 0, 1) := by decide +kernel
theorem d_J_finishOldest_63 : decode b_J_finishOldest 63 = .ok (.dup, 1) := by decide +kernel
theorem d_J_finishOldest_64 : decode b_J_finishOldest 64 = .ok (.getfield 22, 3) := by decide +kernel
theorem d_J_finishOldest_67 : decode b_J_finishOldest 67 = .ok (.iconst 1, 1) := by decide +kernel
theorem d_J_finishOldest_68 : decode b_J_finishOldest 68 = .ok (.iadd, 1) := by decide +kernel
theorem d_J_finishOldest_69 : decode b_J_finishOldest 69 = .ok (.putfield 22, 3) := by decide +kernel
theorem d_J_finishOldest_72 : decode b_J_finishOldest 72 = .ok (.aload_n 0, 1) := by decide +kernel
theorem d_J_finishOldest_73 : decode b_J_finishOldest 73 = .ok (.iconst 0, 1) := by decide +kernel
theorem d_J_finishOldest_74 : decode b_J_finishOldest 74 = .ok (.putfield 34, 3) := by decide +kernel
theorem d_J_finishOldest_77 : decode b_J_finishOldest 77 = .ok (.return_, 1) := by decide +kernel
theorem d_J_notedResponse_0 : decode b_J_notedResponse 0 = .ok (.iload_n 1, 1) := by decide +kernel
theorem d_J_notedResponse_1 : decode b_J_notedResponse 1 = .ok (.ifCond .lt 18, 3) := by decide +kernel
theorem d_J_notedResponse_4 : decode b_J_notedResponse 4 = .ok (.iload_n 1, 1) := by decide +kernel
theorem d_J_notedResponse_5 : decode b_J_notedResponse 5 = .ok (.aload_n 0, 1) := by decide +kernel
theorem d_J_notedResponse_6 : decode b_J_notedResponse 6 = .ok (.getfield 22, 3) := by decide +kernel
theorem d_J_notedResponse_9 : decode b_J_notedResponse 9 = .ok (.if_icmp .ge 10, 3) := by decide +kernel
theorem d_J_notedResponse_12 : decode b_J_notedResponse 12 = .ok (.iload_n 1, 1) := by decide +kernel
theorem d_J_notedResponse_13 : decode b_J_notedResponse 13 = .ok (.sipush 200, 3) := by decide +kernel
theorem d_J_notedResponse_16 : decode b_J_notedResponse 16 = .ok (.if_icmp .lt 7, 3) := by decide +kernel
theorem d_J_notedResponse_19 : decode b_J_notedResponse 19 = .ok (.iconst (-1), 1) := by decide +kernel
theorem d_J_notedResponse_20 : decode b_J_notedResponse 20 = .ok (.goto 9, 3) := by decide +kernel
theorem d_J_notedResponse_23 : decode b_J_notedResponse 23 = .ok (.aload_n 0, 1) := by decide +kernel
theorem d_J_notedResponse_24 : decode b_J_notedResponse 24 = .ok (.getfield 15, 3) := by decide +kernel
theorem d_J_notedResponse_27 : decode b_J_notedResponse 27 = .ok (.iload_n 1, 1) := by decide +kernel
theorem d_J_notedResponse_28 : decode b_J_notedResponse 28 = .ok (.iaload, 1) := by decide +kernel
theorem d_J_notedResponse_29 : decode b_J_notedResponse 29 = .ok (.ireturn, 1) := by decide +kernel
theorem d_Y_init_0 : decode b_Y_init 0 = .ok (.aload_n 0, 1) := by decide +kernel
theorem d_Y_init_1 : decode b_Y_init 1 = .ok (.invokespecial 1, 3) := by decide +kernel
theorem d_Y_init_4 : decode b_Y_init 4 = .ok (.aload_n 0, 1) := by decide +kernel
theorem d_Y_init_5 : decode b_Y_init 5 = .ok (.bipush 9, 2) := by decide +kernel
theorem d_Y_init_7 : decode b_Y_init 7 = .ok (.newarray .boolean, 2) := by decide +kernel
theorem d_Y_init_9 : decode b_Y_init 9 = .ok (.putfield 7, 3) := by decide +kernel
theorem d_Y_init_12 : decode b_Y_init 12 = .ok (.aload_n 0, 1) := by decide +kernel
theorem d_Y_init_13 : decode b_Y_init 13 = .ok (.bipush 9, 2) := by decide +kernel
theorem d_Y_init_15 : decode b_Y_init 15 = .ok (.newarray .int, 2) := by decide +kernel
theorem d_Y_init_17 : decode b_Y_init 17 = .ok (.putfield 13, 3) := by decide +kernel
theorem d_Y_init_20 : decode b_Y_init 20 = .ok (.aload_n 0, 1) := by decide +kernel
theorem d_Y_init_21 : decode b_Y_init 21 = .ok (.bipush 9, 2) := by decide +kernel
theorem d_Y_init_23 : decode b_Y_init 23 = .ok (.newarray .int, 2) := by decide +kernel
theorem d_Y_init_25 : decode b_Y_init 25 = .ok (.putfield 17, 3) := by decide +kernel
theorem d_Y_init_28 : decode b_Y_init 28 = .ok (.aload_n 0, 1) := by decide +kernel
theorem d_Y_init_29 : decode b_Y_init 29 = .ok (.bipush 9, 2) := by decide +kernel
theorem d_Y_init_31 : decode b_Y_init 31 = .ok (.newarray .int, 2) := by decide +kernel
theorem d_Y_init_33 : decode b_Y_init 33 = .ok (.putfield 20, 3) := by decide +kernel
theorem d_Y_init_36 : decode b_Y_init 36 = .ok (.aload_n 0, 1) := by decide +kernel
theorem d_Y_init_37 : decode b_Y_init 37 = .ok (.bipush 9, 2) := by decide +kernel
theorem d_Y_init_39 : decode b_Y_init 39 = .ok (.newarray .int, 2) := by decide +kernel
theorem d_Y_init_41 : decode b_Y_init 41 = .ok (.putfield 23, 3) := by decide +kernel
theorem d_Y_init_44 : decode b_Y_init 44 = .ok (.aload_n 0, 1) := by decide +kernel
theorem d_Y_init_45 : decode b_Y_init 45 = .ok (.bipush 72, 2) := by decide +kernel
theorem d_Y_init_47 : decode b_Y_init 47 = .ok (.newarray .int, 2) := by decide +kernel
theorem d_Y_init_49 : decode b_Y_init 49 = .ok (.putfield 26, 3) := by decide +kernel
theorem d_Y_init_52 : decode b_Y_init 52 = .ok (.aload_n 0, 1) := by decide +kernel
theorem d_Y_init_53 : decode b_Y_init 53 = .ok (.bipush 9, 2) := by decide +kernel
theorem d_Y_init_55 : decode b_Y_init 55 = .ok (.newarray .int, 2) := by decide +kernel
theorem d_Y_init_57 : decode b_Y_init 57 = .ok (.putfield 29, 3) := by decide +kernel
theorem d_Y_init_60 : decode b_Y_init 60 = .ok (.aload_n 0, 1) := by decide +kernel
theorem d_Y_init_61 : decode b_Y_init 61 = .ok (.bipush 9, 2) := by decide +kernel
theorem d_Y_init_63 : decode b_Y_init 63 = .ok (.newarray .int, 2) := by decide +kernel
theorem d_Y_init_65 : decode b_Y_init 65 = .ok (.putfield 32, 3) := by decide +kernel
theorem d_Y_init_68 : decode b_Y_init 68 = .ok (.aload_n 0, 1) := by decide +kernel
theorem d_Y_init_69 : decode b_Y_init 69 = .ok (.bipush 9, 2) := by decide +kernel
theorem d_Y_init_71 : decode b_Y_init 71 = .ok (.newarray .int, 2) := by decide +kernel
theorem d_Y_init_73 : decode b_Y_init 73 = .ok (.putfield 35, 3) := by decide +kernel
theorem d_Y_init_76 : decode b_Y_init 76 = .ok (.aload_n 0, 1) := by decide +kernel
theorem d_Y_init_77 : decode b_Y_init 77 = .ok (.bipush 9, 2) := by decide +kernel
theorem d_Y_init_79 : decode b_Y_init 79 = .ok (.newarray .int, 2) := by decide +kernel
theorem d_Y_init_81 : decode b_Y_init 81 = .ok (.putfield 38, 3) := by decide +kernel
theorem d_Y_init_84 : decode b_Y_init 84 = .ok (.aload_n 0, 1) := by decide +kernel
theorem d_Y_init_85 : decode b_Y_init 85 = .ok (.bipush 9, 2) := by decide +kernel
theorem d_Y_init_87 : decode b_Y_init 87 = .ok (.newarray .int, 2) := by decide +kernel
theorem d_Y_init_89 : decode b_Y_init 89 = .ok (.putfield 41, 3) := by decide +kernel
theorem d_Y_init_92 : decode b_Y_init 92 = .ok (.aload_n 0, 1) := by decide +kernel
theorem d_Y_init_93 : decode b_Y_init 93 = .ok (.bipush 81, 2) := by decide +kernel
theorem d_Y_init_95 : decode b_Y_init 95 = .ok (.newarray .int, 2) := by decide +kernel
theorem d_Y_init_97 : decode b_Y_init 97 = .ok (.putfield 44, 3) := by decide +kernel
theorem d_Y_init_100 : decode b_Y_init 100 = .ok (.aload_n 0, 1) := by decide +kernel
theorem d_Y_init_101 : decode b_Y_init 101 = .ok (.bipush 9, 2) := by decide +kernel
theorem d_Y_init_103 : decode b_Y_init 103 = .ok (.newarray .int, 2) := by decide +kernel
theorem d_Y_init_105 : decode b_Y_init 105 = .ok (.putfield 47, 3) := by decide +kernel
theorem d_Y_init_108 : decode b_Y_init 108 = .ok (.aload_n 0, 1) := by decide +kernel
theorem d_Y_init_109 : decode b_Y_init 109 = .ok (.bipush 9, 2) := by decide +kernel
theorem d_Y_init_111 : decode b_Y_init 111 = .ok (.newarray .int, 2) := by decide +kernel
theorem d_Y_init_113 : decode b_Y_init 113 = .ok (.putfield 50, 3) := by decide +kernel
theorem d_Y_init_116 : decode b_Y_init 116 = .ok (.aload_n 0, 1) := by decide +kernel
theorem d_Y_init_117 : decode b_Y_init 117 = .ok (.bipush 9, 2) := by decide +kernel
theorem d_Y_init_119 : decode b_Y_init 119 = .ok (.newarray .int, 2) := by decide +kernel
theorem d_Y_init_121 : decode b_Y_init 121 = .ok (.putfield 53, 3) := by decide +kernel
theorem d_Y_init_124 : decode b_Y_init 124 = .ok (.aload_n 0, 1) := by decide +kernel
theorem d_Y_init_125 : decode b_Y_init 125 = .ok (.bipush 9, 2) := by decide +kernel
theorem d_Y_init_127 : decode b_Y_init 127 = .ok (.newarray .int, 2) := by decide +kernel
theorem d_Y_init_129 : decode b_Y_init 129 = .ok (.putfield 56, 3) := by decide +kernel
theorem d_Y_init_132 : decode b_Y_init 132 = .ok (.aload_n 0, 1) := by decide +kernel
theorem d_Y_init_133 : decode b_Y_init 133 = .ok (.sipush 1800, 3) := by decide +kernel
theorem d_Y_init_136 : decode b_Y_init 136 = .ok (.newarray .int, 2) := by decide +kernel
theorem d_Y_init_138 : decode b_Y_init 138 = .ok (.putfield 59, 3) := by decide +kernel
theorem d_Y_init_141 : decode b_Y_init 141 = .ok (.return_, 1) := by decide +kernel
theorem d_Y_thrown_0 : decode b_Y_thrown 0 = .ok (.aload_n 0, 1) := by decide +kernel
theorem d_Y_thrown_1 : decode b_Y_thrown 1 = .ok (.getfield 62, 3) := by decide +kernel
theorem d_Y_thrown_4 : decode b_Y_thrown 4 = .ok (.ireturn, 1) := by decide +kernel
theorem d_Y_raise_0 : decode b_Y_raise 0 = .ok (.aload_n 0, 1) := by decide +kernel
theorem d_Y_raise_1 : decode b_Y_raise 1 = .ok (.iload_n 1, 1) := by decide +kernel
theorem d_Y_raise_2 : decode b_Y_raise 2 = .ok (.putfield 62, 3) := by decide +kernel
theorem d_Y_raise_5 : decode b_Y_raise 5 = .ok (.iconst 0, 1) := by decide +kernel
theorem d_Y_raise_6 : decode b_Y_raise 6 = .ok (.ireturn, 1) := by decide +kernel
theorem d_Y_isTask_0 : decode b_Y_isTask 0 = .ok (.iload_n 1, 1) := by decide +kernel
theorem d_Y_isTask_1 : decode b_Y_isTask 1 = .ok (.iconst 1, 1) := by decide +kernel
theorem d_Y_isTask_2 : decode b_Y_isTask 2 = .ok (.if_icmp .lt 22, 3) := by decide +kernel
theorem d_Y_isTask_5 : decode b_Y_isTask 5 = .ok (.iload_n 1, 1) := by decide +kernel
theorem d_Y_isTask_6 : decode b_Y_isTask 6 = .ok (.bipush 8, 2) := by decide +kernel
theorem d_Y_isTask_8 : decode b_Y_isTask 8 = .ok (.if_icmp .gt 16, 3) := by decide +kernel
theorem d_Y_isTask_11 : decode b_Y_isTask 11 = .ok (.aload_n 0, 1) := by decide +kernel
theorem d_Y_isTask_12 : decode b_Y_isTask 12 = .ok (.getfield 7, 3) := by decide +kernel
theorem d_Y_isTask_15 : decode b_Y_isTask 15 = .ok (.iload_n 1, 1) := by decide +kernel
theorem d_Y_isTask_16 : decode b_Y_isTask 16 = .ok (.baload, 1) := by decide +kernel
theorem d_Y_isTask_17 : decode b_Y_isTask 17 = .ok (.ifCond .eq 7, 3) := by decide +kernel
theorem d_Y_isTask_20 : decode b_Y_isTask 20 = .ok (.iconst 1, 1) := by decide +kernel
theorem d_Y_isTask_21 : decode b_Y_isTask 21 = .ok (.goto 4, 3) := by decide +kernel
theorem d_Y_isTask_24 : decode b_Y_isTask 24 = .ok (.iconst 0, 1) := by decide +kernel
theorem d_Y_isTask_25 : decode b_Y_isTask 25 = .ok (.ireturn, 1) := by decide +kernel
theorem d_Y_task_0 : decode b_Y_task 0 = .ok (.aload_n 0, 1) := by decide +kernel
theorem d_Y_task_1 : decode b_Y_task 1 = .ok (.iconst 0, 1) := by decide +kernel
theorem d_Y_task_2 : decode b_Y_task 2 = .ok (.putfield 62, 3) := by decide +kernel
theorem d_Y_task_5 : decode b_Y_task 5 = .ok (.aload_n 0, 1) := by decide +kernel
theorem d_Y_task_6 : decode b_Y_task 6 = .ok (.getfield 66, 3) := by decide +kernel
theorem d_Y_task_9 : decode b_Y_task 9 = .ok (.ifCond .ne 60, 3) := by decide +kernel
theorem d_Y_task_12 : decode b_Y_task 12 = .ok (.iload_n 1, 1) := by decide +kernel
theorem d_Y_task_13 : decode b_Y_task 13 = .ok (.iconst 1, 1) := by decide +kernel
theorem d_Y_task_14 : decode b_Y_task 14 = .ok (.if_icmp .lt 55, 3) := by decide +kernel
theorem d_Y_task_17 : decode b_Y_task 17 = .ok (.iload_n 1, 1) := by decide +kernel
theorem d_Y_task_18 : decode b_Y_task 18 = .ok (.bipush 8, 2) := by decide +kernel
theorem d_Y_task_20 : decode b_Y_task 20 = .ok (.if_icmp .gt 49, 3) := by decide +kernel
theorem d_Y_task_23 : decode b_Y_task 23 = .ok (.aload_n 0, 1) := by decide +kernel
theorem d_Y_task_24 : decode b_Y_task 24 = .ok (.getfield 7, 3) := by decide +kernel
theorem d_Y_task_27 : decode b_Y_task 27 = .ok (.iload_n 1, 1) := by decide +kernel
theorem d_Y_task_28 : decode b_Y_task 28 = .ok (.baload, 1) := by decide +kernel
theorem d_Y_task_29 : decode b_Y_task 29 = .ok (.ifCond .ne 40, 3) := by decide +kernel
theorem d_Y_task_32 : decode b_Y_task 32 = .ok (.iload_n 2, 1) := by decide +kernel
theorem d_Y_task_33 : decode b_Y_task 33 = .ok (.iconst 1, 1) := by decide +kernel
theorem d_Y_task_34 : decode b_Y_task 34 = .ok (.if_icmp .lt 35, 3) := by decide +kernel
theorem d_Y_task_37 : decode b_Y_task 37 = .ok (.iload_n 2, 1) := by decide +kernel
theorem d_Y_task_38 : decode b_Y_task 38 = .ok (.sipush 1000, 3) := by decide +kernel
theorem d_Y_task_41 : decode b_Y_task 41 = .ok (.if_icmp .gt 28, 3) := by decide +kernel
theorem d_Y_task_44 : decode b_Y_task 44 = .ok (.iload_n 3, 1) := by decide +kernel
theorem d_Y_task_45 : decode b_Y_task 45 = .ok (.iconst 1, 1) := by decide +kernel
theorem d_Y_task_46 : decode b_Y_task 46 = .ok (.if_icmp .lt 23, 3) := by decide +kernel
theorem d_Y_task_49 : decode b_Y_task 49 = .ok (.iload_n 3, 1) := by decide +kernel
theorem d_Y_task_50 : decode b_Y_task 50 = .ok (.bipush 8, 2) := by decide +kernel
theorem d_Y_task_52 : decode b_Y_task 52 = .ok (.iload_n 2, 1) := by decide +kernel
theorem d_Y_task_53 : decode b_Y_task 53 = .ok (.imul, 1) := by decide +kernel
theorem d_Y_task_54 : decode b_Y_task 54 = .ok (.if_icmp .gt 15, 3) := by decide +kernel
theorem d_Y_task_57 : decode b_Y_task 57 = .ok (.iload 4, 2) := by decide +kernel
theorem d_Y_task_59 : decode b_Y_task 59 = .ok (.ifCond .lt 10, 3) := by decide +kernel
theorem d_Y_task_62 : decode b_Y_task 62 = .ok (.iload 4, 2) := by decide +kernel
theorem d_Y_task_64 : decode b_Y_task 64 = .ok (.bipush 99, 2) := by decide +kernel
theorem d_Y_task_66 : decode b_Y_task 66 = .ok (.if_icmp .le 5, 3) := by decide +kernel
theorem d_Y_task_69 : decode b_Y_task 69 = .ok (.iconst 0, 1) := by decide +kernel
theorem d_Y_task_70 : decode b_Y_task 70 = .ok (.ireturn, 1) := by decide +kernel
theorem d_Y_task_71 : decode b_Y_task 71 = .ok (.iconst 1, 1) := by decide +kernel
theorem d_Y_task_72 : decode b_Y_task 72 = .ok (.istore 5, 2) := by decide +kernel
theorem d_Y_task_74 : decode b_Y_task 74 = .ok (.iload 5, 2) := by decide +kernel
theorem d_Y_task_76 : decode b_Y_task 76 = .ok (.bipush 8, 2) := by decide +kernel
theorem d_Y_task_78 : decode b_Y_task 78 = .ok (.if_icmp .gt 33, 3) := by decide +kernel
theorem d_Y_task_81 : decode b_Y_task 81 = .ok (.aload_n 0, 1) := by decide +kernel
theorem d_Y_task_82 : decode b_Y_task 82 = .ok (.getfield 7, 3) := by decide +kernel
theorem d_Y_task_85 : decode b_Y_task 85 = .ok (.iload 5, 2) := by decide +kernel
theorem d_Y_task_87 : decode b_Y_task 87 = .ok (.baload, 1) := by decide +kernel
theorem d_Y_task_88 : decode b_Y_task 88 = .ok (.ifCond .eq 17, 3) := by decide +kernel
theorem d_Y_task_91 : decode b_Y_task 91 = .ok (.aload_n 0, 1) := by decide +kernel
theorem d_Y_task_92 : decode b_Y_task 92 = .ok (.getfield 20, 3) := by decide +kernel
theorem d_Y_task_95 : decode b_Y_task 95 = .ok (.iload 5, 2) := by decide +kernel
theorem d_Y_task_97 : decode b_Y_task 97 = .ok (.iaload, 1) := by decide +kernel
theorem d_Y_task_98 : decode b_Y_task 98 = .ok (.iload 4, 2) := by decide +kernel
theorem d_Y_task_100 : decode b_Y_task 100 = .ok (.if_icmp .ne 5, 3) := by decide +kernel
theorem d_Y_task_103 : decode b_Y_task 103 = .ok (.iconst 0, 1) := by decide +kernel
theorem d_Y_task_104 : decode b_Y_task 104 = .ok (.ireturn, 1) := by decide +kernel
theorem d_Y_task_105 : decode b_Y_task 105 = .ok (.iinc 5 1, 3) := by decide +kernel
theorem d_Y_task_108 : decode b_Y_task 108 = .ok (.goto (-34), 3) := by decide +kernel
theorem d_Y_task_111 : decode b_Y_task 111 = .ok (.aload_n 0, 1) := by decide +kernel
theorem d_Y_task_112 : decode b_Y_task 112 = .ok (.getfield 7, 3) := by decide +kernel
theorem d_Y_task_115 : decode b_Y_task 115 = .ok (.iload_n 1, 1) := by decide +kernel
theorem d_Y_task_116 : decode b_Y_task 116 = .ok (.iconst 1, 1) := by decide +kernel
theorem d_Y_task_117 : decode b_Y_task 117 = .ok (.bastore, 1) := by decide +kernel
theorem d_Y_task_118 : decode b_Y_task 118 = .ok (.aload_n 0, 1) := by decide +kernel
theorem d_Y_task_119 : decode b_Y_task 119 = .ok (.getfield 13, 3) := by decide +kernel
theorem d_Y_task_122 : decode b_Y_task 122 = .ok (.iload_n 1, 1) := by decide +kernel
theorem d_Y_task_123 : decode b_Y_task 123 = .ok (.iload_n 2, 1) := by decide +kernel
theorem d_Y_task_124 : decode b_Y_task 124 = .ok (.iastore, 1) := by decide +kernel
theorem d_Y_task_125 : decode b_Y_task 125 = .ok (.aload_n 0, 1) := by decide +kernel
theorem d_Y_task_126 : decode b_Y_task 126 = .ok (.getfield 17, 3) := by decide +kernel
theorem d_Y_task_129 : decode b_Y_task 129 = .ok (.iload_n 1, 1) := by decide +kernel
theorem d_Y_task_130 : decode b_Y_task 130 = .ok (.iload_n 3, 1) := by decide +kernel
theorem d_Y_task_131 : decode b_Y_task 131 = .ok (.iastore, 1) := by decide +kernel
theorem d_Y_task_132 : decode b_Y_task 132 = .ok (.aload_n 0, 1) := by decide +kernel
theorem d_Y_task_133 : decode b_Y_task 133 = .ok (.getfield 20, 3) := by decide +kernel
theorem d_Y_task_136 : decode b_Y_task 136 = .ok (.iload_n 1, 1) := by decide +kernel
theorem d_Y_task_137 : decode b_Y_task 137 = .ok (.iload 4, 2) := by decide +kernel
theorem d_Y_task_139 : decode b_Y_task 139 = .ok (.iastore, 1) := by decide +kernel
theorem d_Y_task_140 : decode b_Y_task 140 = .ok (.aload_n 0, 1) := by decide +kernel
theorem d_Y_task_141 : decode b_Y_task 141 = .ok (.getfield 23, 3) := by decide +kernel
theorem d_Y_task_144 : decode b_Y_task 144 = .ok (.iload_n 1, 1) := by decide +kernel
theorem d_Y_task_145 : decode b_Y_task 145 = .ok (.iconst 0, 1) := by decide +kernel
theorem d_Y_task_146 : decode b_Y_task 146 = .ok (.iastore, 1) := by decide +kernel
theorem d_Y_task_147 : decode b_Y_task 147 = .ok (.iconst 1, 1) := by decide +kernel
theorem d_Y_task_148 : decode b_Y_task 148 = .ok (.ireturn, 1) := by decide +kernel
theorem d_Y_segment_0 : decode b_Y_segment 0 = .ok (.aload_n 0, 1) := by decide +kernel
theorem d_Y_segment_1 : decode b_Y_segment 1 = .ok (.iconst 0, 1) := by decide +kernel
theorem d_Y_segment_2 : decode b_Y_segment 2 = .ok (.putfield 62, 3) := by decide +kernel
theorem d_Y_segment_5 : decode b_Y_segment 5 = .ok (.aload_n 0, 1) := by decide +kernel
theorem d_Y_segment_6 : decode b_Y_segment 6 = .ok (.getfield 66, 3) := by decide +kernel
theorem d_Y_segment_9 : decode b_Y_segment 9 = .ok (.ifCond .ne 33, 3) := by decide +kernel
theorem d_Y_segment_12 : decode b_Y_segment 12 = .ok (.aload_n 0, 1) := by decide +kernel
theorem d_Y_segment_13 : decode b_Y_segment 13 = .ok (.iload_n 1, 1) := by decide +kernel
theorem d_Y_segment_14 : decode b_Y_segment 14 = .ok (.invokevirtual 70, 3) := by decide +kernel
theorem d_Y_segment_17 : decode b_Y_segment 17 = .ok (.ifCond .eq 25, 3) := by decide +kernel
theorem d_Y_segment_20 : decode b_Y_segment 20 = .ok (.aload_n 0, 1) := by decide +kernel
theorem d_Y_segment_21 : decode b_Y_segment 21 = .ok (.getfield 23, 3) := by decide +kernel
theorem d_Y_segment_24 : decode b_Y_segment 24 = .ok (.iload_n 1, 1) := by decide +kernel
theorem d_Y_segment_25 : decode b_Y_segment 25 = .ok (.iaload, 1) := by decide +kernel
theorem d_Y_segment_26 : decode b_Y_segment 26 = .ok (.bipush 8, 2) := by decide +kernel
theorem d_Y_segment_28 : decode b_Y_segment 28 = .ok (.if_icmp .eq 14, 3) := by decide +kernel
theorem d_Y_segment_31 : decode b_Y_segment 31 = .ok (.iload_n 2, 1) := by decide +kernel
theorem d_Y_segment_32 : decode b_Y_segment 32 = .ok (.iconst 1, 1) := by decide +kernel
theorem d_Y_segment_33 : decode b_Y_segment 33 = .ok (.if_icmp .lt 9, 3) := by decide +kernel
theorem d_Y_segment_36 : decode b_Y_segment 36 = .ok (.iload_n 2, 1) := by decide +kernel
theorem d_Y_segment_37 : decode b_Y_segment 37 = .ok (.bipush 100, 2) := by decide +kernel
theorem d_Y_segment_39 : decode b_Y_segment 39 = .ok (.if_icmp .le 5, 3) := by decide +kernel
theorem d_Y_segment_42 : decode b_Y_segment 42 = .ok (.iconst 0, 1) := by decide +kernel
theorem d_Y_segment_43 : decode b_Y_segment 43 = .ok (.ireturn, 1) := by decide +kernel
theorem d_Y_segment_44 : decode b_Y_segment 44 = .ok (.aload_n 0, 1) := by decide +kernel
theorem d_Y_segment_45 : decode b_Y_segment 45 = .ok (.getfield 26, 3) := by decide +kernel
theorem d_Y_segment_48 : decode b_Y_segment 48 = .ok (.bipush 8, 2) := by decide +kernel
theorem d_Y_segment_50 : decode b_Y_segment 50 = .ok (.iload_n 1, 1) := by decide +kernel
theorem d_Y_segment_51 : decode b_Y_segment 51 = .ok (.imul, 1) := by decide +kernel
theorem d_Y_segment_52 : decode b_Y_segment 52 = .ok (.aload_n 0, 1) := by decide +kernel
theorem d_Y_segment_53 : decode b_Y_segment 53 = .ok (.getfield 23, 3) := by decide +kernel
theorem d_Y_segment_56 : decode b_Y_segment 56 = .ok (.iload_n 1, 1) := by decide +kernel
theorem d_Y_segment_57 : decode b_Y_segment 57 = .ok (.iaload, 1) := by decide +kernel
theorem d_Y_segment_58 : decode b_Y_segment 58 = .ok (.iadd, 1) := by decide +kernel
theorem d_Y_segment_59 : decode b_Y_segment 59 = .ok (.iload_n 2, 1) := by decide +kernel
theorem d_Y_segment_60 : decode b_Y_segment 60 = .ok (.iastore, 1) := by decide +kernel
theorem d_Y_segment_61 : decode b_Y_segment 61 = .ok (.aload_n 0, 1) := by decide +kernel
theorem d_Y_segment_62 : decode b_Y_segment 62 = .ok (.getfield 23, 3) := by decide +kernel
theorem d_Y_segment_65 : decode b_Y_segment 65 = .ok (.iload_n 1, 1) := by decide +kernel
theorem d_Y_segment_66 : decode b_Y_segment 66 = .ok (.dup2, 1) := by decide +kernel
theorem d_Y_segment_67 : decode b_Y_segment 67 = .ok (.iaload, 1) := by decide +kernel
theorem d_Y_segment_68 : decode b_Y_segment 68 = .ok (.iconst 1, 1) := by decide +kernel
theorem d_Y_segment_69 : decode b_Y_segment 69 = .ok (.iadd, 1) := by decide +kernel
theorem d_Y_segment_70 : decode b_Y_segment 70 = .ok (.iastore, 1) := by decide +kernel
theorem d_Y_segment_71 : decode b_Y_segment 71 = .ok (.iconst 1, 1) := by decide +kernel
theorem d_Y_segment_72 : decode b_Y_segment 72 = .ok (.ireturn, 1) := by decide +kernel
theorem d_Y_forgetJobs_0 : decode b_Y_forgetJobs 0 = .ok (.aload_n 0, 1) := by decide +kernel
theorem d_Y_forgetJobs_1 : decode b_Y_forgetJobs 1 = .ok (.iconst 0, 1) := by decide +kernel
theorem d_Y_forgetJobs_2 : decode b_Y_forgetJobs 2 = .ok (.putfield 74, 3) := by decide +kernel
theorem d_Y_forgetJobs_5 : decode b_Y_forgetJobs 5 = .ok (.aload_n 0, 1) := by decide +kernel
theorem d_Y_forgetJobs_6 : decode b_Y_forgetJobs 6 = .ok (.iconst 0, 1) := by decide +kernel
theorem d_Y_forgetJobs_7 : decode b_Y_forgetJobs 7 = .ok (.putfield 66, 3) := by decide +kernel
theorem d_Y_forgetJobs_10 : decode b_Y_forgetJobs 10 = .ok (.aload_n 0, 1) := by decide +kernel
theorem d_Y_forgetJobs_11 : decode b_Y_forgetJobs 11 = .ok (.iconst 0, 1) := by decide +kernel
theorem d_Y_forgetJobs_12 : decode b_Y_forgetJobs 12 = .ok (.putfield 77, 3) := by decide +kernel
theorem d_Y_forgetJobs_15 : decode b_Y_forgetJobs 15 = .ok (.aload_n 0, 1) := by decide +kernel
theorem d_Y_forgetJobs_16 : decode b_Y_forgetJobs 16 = .ok (.iconst 0, 1) := by decide +kernel
theorem d_Y_forgetJobs_17 : decode b_Y_forgetJobs 17 = .ok (.putfield 80, 3) := by decide +kernel
theorem d_Y_forgetJobs_20 : decode b_Y_forgetJobs 20 = .ok (.aload_n 0, 1) := by decide +kernel
theorem d_Y_forgetJobs_21 : decode b_Y_forgetJobs 21 = .ok (.iconst 0, 1) := by decide +kernel
theorem d_Y_forgetJobs_22 : decode b_Y_forgetJobs 22 = .ok (.putfield 83, 3) := by decide +kernel
theorem d_Y_forgetJobs_25 : decode b_Y_forgetJobs 25 = .ok (.iconst 0, 1) := by decide +kernel
theorem d_Y_forgetJobs_26 : decode b_Y_forgetJobs 26 = .ok (.istore_n 1, 1) := by decide +kernel
theorem d_Y_forgetJobs_27 : decode b_Y_forgetJobs 27 = .ok (.iload_n 1, 1) := by decide +kernel
theorem d_Y_forgetJobs_28 : decode b_Y_forgetJobs 28 = .ok (.bipush 9, 2) := by decide +kernel
theorem d_Y_forgetJobs_30 : decode b_Y_forgetJobs 30 = .ok (.if_icmp .ge 51, 3) := by decide +kernel
theorem d_Y_forgetJobs_33 : decode b_Y_forgetJobs 33 = .ok (.aload_n 0, 1) := by decide +kernel
theorem d_Y_forgetJobs_34 : decode b_Y_forgetJobs 34 = .ok (.getfield 35, 3) := by decide +kernel
theorem d_Y_forgetJobs_37 : decode b_Y_forgetJobs 37 = .ok (.iload_n 1, 1) := by decide +kernel
theorem d_Y_forgetJobs_38 : decode b_Y_forgetJobs 38 = .ok (.iconst 0, 1) := by decide +kernel
theorem d_Y_forgetJobs_39 : decode b_Y_forgetJobs 39 = .ok (.iastore, 1) := by decide +kernel
theorem d_Y_forgetJobs_40 : decode b_Y_forgetJobs 40 = .ok (.aload_n 0, 1) := by decide +kernel
theorem d_Y_forgetJobs_41 : decode b_Y_forgetJobs 41 = .ok (.getfield 38, 3) := by decide +kernel
theorem d_Y_forgetJobs_44 : decode b_Y_forgetJobs 44 = .ok (.iload_n 1, 1) := by decide +kernel
theorem d_Y_forgetJobs_45 : decode b_Y_forgetJobs 45 = .ok (.iconst 0, 1) := by decide +kernel
theorem d_Y_forgetJobs_46 : decode b_Y_forgetJobs 46 = .ok (.iastore, 1) := by decide +kernel
theorem d_Y_forgetJobs_47 : decode b_Y_forgetJobs 47 = .ok (.aload_n 0, 1) := by decide +kernel
theorem d_Y_forgetJobs_48 : decode b_Y_forgetJobs 48 = .ok (.getfield 47, 3) := by decide +kernel
theorem d_Y_forgetJobs_51 : decode b_Y_forgetJobs 51 = .ok (.iload_n 1, 1) := by decide +kernel
theorem d_Y_forgetJobs_52 : decode b_Y_forgetJobs 52 = .ok (.iconst 0, 1) := by decide +kernel
theorem d_Y_forgetJobs_53 : decode b_Y_forgetJobs 53 = .ok (.iastore, 1) := by decide +kernel
theorem d_Y_forgetJobs_54 : decode b_Y_forgetJobs 54 = .ok (.aload_n 0, 1) := by decide +kernel
theorem d_Y_forgetJobs_55 : decode b_Y_forgetJobs 55 = .ok (.getfield 50, 3) := by decide +kernel
theorem d_Y_forgetJobs_58 : decode b_Y_forgetJobs 58 = .ok (.iload_n 1, 1) := by decide +kernel
theorem d_Y_forgetJobs_59 : decode b_Y_forgetJobs 59 = .ok (.iconst 0, 1) := by decide +kernel
theorem d_Y_forgetJobs_60 : decode b_Y_forgetJobs 60 = .ok (.iastore, 1) := by decide +kernel
theorem d_Y_forgetJobs_61 : decode b_Y_forgetJobs 61 = .ok (.aload_n 0, 1) := by decide +kernel
theorem d_Y_forgetJobs_62 : decode b_Y_forgetJobs 62 = .ok (.getfield 53, 3) := by decide +kernel
theorem d_Y_forgetJobs_65 : decode b_Y_forgetJobs 65 = .ok (.iload_n 1, 1) := by decide +kernel
theorem d_Y_forgetJobs_66 : decode b_Y_forgetJobs 66 = .ok (.iconst 0, 1) := by decide +kernel
theorem d_Y_forgetJobs_67 : decode b_Y_forgetJobs 67 = .ok (.iastore, 1) := by decide +kernel
theorem d_Y_forgetJobs_68 : decode b_Y_forgetJobs 68 = .ok (.aload_n 0, 1) := by decide +kernel
theorem d_Y_forgetJobs_69 : decode b_Y_forgetJobs 69 = .ok (.getfield 56, 3) := by decide +kernel
theorem d_Y_forgetJobs_72 : decode b_Y_forgetJobs 72 = .ok (.iload_n 1, 1) := by decide +kernel
theorem d_Y_forgetJobs_73 : decode b_Y_forgetJobs 73 = .ok (.iconst 0, 1) := by decide +kernel
theorem d_Y_forgetJobs_74 : decode b_Y_forgetJobs 74 = .ok (.iastore, 1) := by decide +kernel
theorem d_Y_forgetJobs_75 : decode b_Y_forgetJobs 75 = .ok (.iinc 1 1, 3) := by decide +kernel
theorem d_Y_forgetJobs_78 : decode b_Y_forgetJobs 78 = .ok (.goto (-51), 3) := by decide +kernel
theorem d_Y_forgetJobs_81 : decode b_Y_forgetJobs 81 = .ok (.return_, 1) := by decide +kernel
theorem d_Y_clear_0 : decode b_Y_clear 0 = .ok (.aload_n 0, 1) := by decide +kernel
theorem d_Y_clear_1 : decode b_Y_clear 1 = .ok (.iconst 0, 1) := by decide +kernel
theorem d_Y_clear_2 : decode b_Y_clear 2 = .ok (.putfield 62, 3) := by decide +kernel
theorem d_Y_clear_5 : decode b_Y_clear 5 = .ok (.iconst 0, 1) := by decide +kernel
theorem d_Y_clear_6 : decode b_Y_clear 6 = .ok (.istore_n 1, 1) := by decide +kernel
theorem d_Y_clear_7 : decode b_Y_clear 7 = .ok (.iload_n 1, 1) := by decide +kernel
theorem d_Y_clear_8 : decode b_Y_clear 8 = .ok (.bipush 9, 2) := by decide +kernel
theorem d_Y_clear_10 : decode b_Y_clear 10 = .ok (.if_icmp .ge 16, 3) := by decide +kernel
theorem d_Y_clear_13 : decode b_Y_clear 13 = .ok (.aload_n 0, 1) := by decide +kernel
theorem d_Y_clear_14 : decode b_Y_clear 14 = .ok (.getfield 7, 3) := by decide +kernel
theorem d_Y_clear_17 : decode b_Y_clear 17 = .ok (.iload_n 1, 1) := by decide +kernel
theorem d_Y_clear_18 : decode b_Y_clear 18 = .ok (.iconst 0, 1) := by decide +kernel
theorem d_Y_clear_19 : decode b_Y_clear 19 = .ok (.bastore, 1) := by decide +kernel
theorem d_Y_clear_20 : decode b_Y_clear 20 = .ok (.iinc 1 1, 3) := by decide +kernel
theorem d_Y_clear_23 : decode b_Y_clear 23 = .ok (.goto (-16), 3) := by decide +kernel
theorem d_Y_clear_26 : decode b_Y_clear 26 = .ok (.aload_n 0, 1) := by decide +kernel
theorem d_Y_clear_27 : decode b_Y_clear 27 = .ok (.invokevirtual 86, 3) := by decide +kernel
theorem d_Y_clear_30 : decode b_Y_clear 30 = .ok (.return_, 1) := by decide +kernel
theorem d_Y_reset_0 : decode b_Y_reset 0 = .ok (.aload_n 0, 1) := by decide +kernel
theorem d_Y_reset_1 : decode b_Y_reset 1 = .ok (.iconst 0, 1) := by decide +kernel
theorem d_Y_reset_2 : decode b_Y_reset 2 = .ok (.putfield 62, 3) := by decide +kernel
theorem d_Y_reset_5 : decode b_Y_reset 5 = .ok (.aload_n 0, 1) := by decide +kernel
theorem d_Y_reset_6 : decode b_Y_reset 6 = .ok (.invokevirtual 86, 3) := by decide +kernel
theorem d_Y_reset_9 : decode b_Y_reset 9 = .ok (.return_, 1) := by decide +kernel
theorem d_Y_isReady_0 : decode b_Y_isReady 0 = .ok (.iconst 0, 1) := by decide +kernel
theorem d_Y_isReady_1 : decode b_Y_isReady 1 = .ok (.istore_n 1, 1) := by decide +kernel
theorem d_Y_isReady_2 : decode b_Y_isReady 2 = .ok (.iconst 1, 1) := by decide +kernel
theorem d_Y_isReady_3 : decode b_Y_isReady 3 = .ok (.istore_n 2, 1) := by decide +kernel
theorem d_Y_isReady_4 : decode b_Y_isReady 4 = .ok (.iload_n 2, 1) := by decide +kernel
theorem d_Y_isReady_5 : decode b_Y_isReady 5 = .ok (.bipush 8, 2) := by decide +kernel
theorem d_Y_isReady_7 : decode b_Y_isReady 7 = .ok (.if_icmp .gt 48, 3) := by decide +kernel
theorem d_Y_isReady_10 : decode b_Y_isReady 10 = .ok (.aload_n 0, 1) := by decide +kernel
theorem d_Y_isReady_11 : decode b_Y_isReady 11 = .ok (.getfield 7, 3) := by decide +kernel
theorem d_Y_isReady_14 : decode b_Y_isReady 14 = .ok (.iload_n 2, 1) := by decide +kernel
theorem d_Y_isReady_15 : decode b_Y_isReady 15 = .ok (.baload, 1) := by decide +kernel
theorem d_Y_isReady_16 : decode b_Y_isReady 16 = .ok (.ifCond .eq 14, 3) := by decide +kernel
theorem d_Y_isReady_19 : decode b_Y_isReady 19 = .ok (.aload_n 0, 1) := by decide +kernel
theorem d_Y_isReady_20 : decode b_Y_isReady 20 = .ok (.getfield 23, 3) := by decide +kernel
theorem d_Y_isReady_23 : decode b_Y_isReady 23 = .ok (.iload_n 2, 1) := by decide +kernel
theorem d_Y_isReady_24 : decode b_Y_isReady 24 = .ok (.iaload, 1) := by decide +kernel
theorem d_Y_isReady_25 : decode b_Y_isReady 25 = .ok (.ifCond .ne 5, 3) := by decide +kernel
theorem d_Y_isReady_28 : decode b_Y_isReady 28 = .ok (.iconst 0, 1) := by decide +kernel
theorem d_Y_isReady_29 : decode b_Y_isReady 29 = .ok (.ireturn, 1) := by decide +kernel
theorem d_Y_isReady_30 : decode b_Y_isReady 30 = .ok (.iload_n 1, 1) := by decide +kernel
