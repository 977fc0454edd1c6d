theorem d_O_init_0 : decode b_O_init 0 = .ok (.aload_n 0, 1) := by decide +kernel
theorem d_O_init_1 : decode b_O_init 1 = .ok (.invokespecial 1, 3) := by decide +kernel
theorem d_O_init_4 : decode b_O_init 4 = .ok (.aload_n 0, 1) := by decide +kernel
theorem d_O_init_5 : decode b_O_init 5 = .ok (.new 7, 3) := by decide +kernel
theorem d_O_init_8 : decode b_O_init 8 = .ok (.dup, 1) := by decide +kernel
theorem d_O_init_9 : decode b_O_init 9 = .ok (.invokespecial 9, 3) := by decide +kernel
theorem d_O_init_12 : decode b_O_init 12 = .ok (.putfield 10, 3) := by decide +kernel
theorem d_O_init_15 : decode b_O_init 15 = .ok (.aload_n 0, 1) := by decide +kernel
theorem d_O_init_16 : decode b_O_init 16 = .ok (.new 16, 3) := by decide +kernel
theorem d_O_init_19 : decode b_O_init 19 = .ok (.dup, 1) := by decide +kernel
theorem d_O_init_20 : decode b_O_init 20 = .ok (.aload_n 0, 1) := by decide +kernel
theorem d_O_init_21 : decode b_O_init 21 = .ok (.getfield 10, 3) := by decide +kernel
theorem d_O_init_24 : decode b_O_init 24 = .ok (.invokespecial 18, 3) := by decide +kernel
theorem d_O_init_27 : decode b_O_init 27 = .ok (.putfield 21, 3) := by decide +kernel
theorem d_O_init_30 : decode b_O_init 30 = .ok (.aload_n 0, 1) := by decide +kernel
theorem d_O_init_31 : decode b_O_init 31 = .ok (.new 25, 3) := by decide +kernel
theorem d_O_init_34 : decode b_O_init 34 = .ok (.dup, 1) := by decide +kernel
theorem d_O_init_35 : decode b_O_init 35 = .ok (.aload_n 0, 1) := by decide +kernel
theorem d_O_init_36 : decode b_O_init 36 = .ok (.getfield 10, 3) := by decide +kernel
theorem d_O_init_39 : decode b_O_init 39 = .ok (.invokespecial 27, 3) := by decide +kernel
theorem d_O_init_42 : decode b_O_init 42 = .ok (.putfield 28, 3) := by decide +kernel
theorem d_O_init_45 : decode b_O_init 45 = .ok (.return_, 1) := by decide +kernel
theorem d_O_task_0 : decode b_O_task 0 = .ok (.aload_n 0, 1) := by decide +kernel
theorem d_O_task_1 : decode b_O_task 1 = .ok (.getfield 28, 3) := by decide +kernel
theorem d_O_task_4 : decode b_O_task 4 = .ok (.getfield 32, 3) := by decide +kernel
theorem d_O_task_7 : decode b_O_task 7 = .ok (.ifCond .ne 22, 3) := by decide +kernel
theorem d_O_task_10 : decode b_O_task 10 = .ok (.aload_n 0, 1) := by decide +kernel
theorem d_O_task_11 : decode b_O_task 11 = .ok (.getfield 10, 3) := by decide +kernel
theorem d_O_task_14 : decode b_O_task 14 = .ok (.iload_n 1, 1) := by decide +kernel
theorem d_O_task_15 : decode b_O_task 15 = .ok (.iload_n 2, 1) := by decide +kernel
theorem d_O_task_16 : decode b_O_task 16 = .ok (.iload_n 3, 1) := by decide +kernel
theorem d_O_task_17 : decode b_O_task 17 = .ok (.iload 4, 2) := by decide +kernel
theorem d_O_task_19 : decode b_O_task 19 = .ok (.invokevirtual 36, 3) := by decide +kernel
theorem d_O_task_22 : decode b_O_task 22 = .ok (.ifCond .eq 7, 3) := by decide +kernel
theorem d_O_task_25 : decode b_O_task 25 = .ok (.iconst 1, 1) := by decide +kernel
theorem d_O_task_26 : decode b_O_task 26 = .ok (.goto 4, 3) := by decide +kernel
theorem d_O_task_29 : decode b_O_task 29 = .ok (.iconst 0, 1) := by decide +kernel
theorem d_O_task_30 : decode b_O_task 30 = .ok (.ireturn, 1) := by decide +kernel
theorem d_O_segment_0 : decode b_O_segment 0 = .ok (.aload_n 0, 1) := by decide +kernel
theorem d_O_segment_1 : decode b_O_segment 1 = .ok (.getfield 28, 3) := by decide +kernel
theorem d_O_segment_4 : decode b_O_segment 4 = .ok (.getfield 32, 3) := by decide +kernel
theorem d_O_segment_7 : decode b_O_segment 7 = .ok (.ifCond .ne 19, 3) := by decide +kernel
theorem d_O_segment_10 : decode b_O_segment 10 = .ok (.aload_n 0, 1) := by decide +kernel
theorem d_O_segment_11 : decode b_O_segment 11 = .ok (.getfield 10, 3) := by decide +kernel
theorem d_O_segment_14 : decode b_O_segment 14 = .ok (.iload_n 1, 1) := by decide +kernel
theorem d_O_segment_15 : decode b_O_segment 15 = .ok (.iload_n 2, 1) := by decide +kernel
theorem d_O_segment_16 : decode b_O_segment 16 = .ok (.invokevirtual 40, 3) := by decide +kernel
theorem d_O_segment_19 : decode b_O_segment 19 = .ok (.ifCond .eq 7, 3) := by decide +kernel
theorem d_O_segment_22 : decode b_O_segment 22 = .ok (.iconst 1, 1) := by decide +kernel
theorem d_O_segment_23 : decode b_O_segment 23 = .ok (.goto 4, 3) := by decide +kernel
theorem d_O_segment_26 : decode b_O_segment 26 = .ok (.iconst 0, 1) := by decide +kernel
theorem d_O_segment_27 : decode b_O_segment 27 = .ok (.ireturn, 1) := by decide +kernel
theorem d_O_clear_0 : decode b_O_clear 0 = .ok (.aload_n 0, 1) := by decide +kernel
theorem d_O_clear_1 : decode b_O_clear 1 = .ok (.getfield 28, 3) := by decide +kernel
theorem d_O_clear_4 : decode b_O_clear 4 = .ok (.invokevirtual 44, 3) := by decide +kernel
theorem d_O_clear_7 : decode b_O_clear 7 = .ok (.aload_n 0, 1) := by decide +kernel
theorem d_O_clear_8 : decode b_O_clear 8 = .ok (.getfield 10, 3) := by decide +kernel
theorem d_O_clear_11 : decode b_O_clear 11 = .ok (.invokevirtual 47, 3) := by decide +kernel
theorem d_O_clear_14 : decode b_O_clear 14 = .ok (.return_, 1) := by decide +kernel
theorem d_O_reset_0 : decode b_O_reset 0 = .ok (.aload_n 0, 1) := by decide +kernel
theorem d_O_reset_1 : decode b_O_reset 1 = .ok (.getfield 28, 3) := by decide +kernel
theorem d_O_reset_4 : decode b_O_reset 4 = .ok (.invokevirtual 44, 3) := by decide +kernel
theorem d_O_reset_7 : decode b_O_reset 7 = .ok (.return_, 1) := by decide +kernel
theorem d_O_about_0 : decode b_O_about 0 = .ok (.aload_n 0, 1) := by decide +kernel
theorem d_O_about_1 : decode b_O_about 1 = .ok (.getfield 10, 3) := by decide +kernel
theorem d_O_about_4 : decode b_O_about 4 = .ok (.iload_n 1, 1) := by decide +kernel
theorem d_O_about_5 : decode b_O_about 5 = .ok (.invokevirtual 50, 3) := by decide +kernel
theorem d_O_about_8 : decode b_O_about 8 = .ok (.astore_n 3, 1) := by decide +kernel
theorem d_O_about_9 : decode b_O_about 9 = .ok (.aload_n 3, 1) := by decide +kernel
theorem d_O_about_10 : decode b_O_about 10 = .ok (.ifnonnull 5, 3) := by decide +kernel
theorem d_O_about_13 : decode b_O_about 13 = .ok (.iconst (-1), 1) := by decide +kernel
theorem d_O_about_14 : decode b_O_about 14 = .ok (.ireturn, 1) := by decide +kernel
theorem d_O_about_15 : decode b_O_about 15 = .ok (.iload_n 2, 1) := by decide +kernel
theorem d_O_about_16 : decode b_O_about 16 = .ok (.tableswitch 74 0 5 #[40, 45, 50, 55, 60, 65], 40) := by decide +kernel
theorem d_O_about_56 : decode b_O_about 56 = .ok (.aload_n 3, 1) := by decide +kernel
theorem d_O_about_57 : decode b_O_about 57 = .ok (.getfield 54, 3) := by decide +kernel
theorem d_O_about_60 : decode b_O_about 60 = .ok (.ireturn, 1) := by decide +kernel
theorem d_O_about_61 : decode b_O_about 61 = .ok (.aload_n 3, 1) := by decide +kernel
theorem d_O_about_62 : decode b_O_about 62 = .ok (.getfield 60, 3) := by decide +kernel
theorem d_O_about_65 : decode b_O_about 65 = .ok (.ireturn, 1) := by decide +kernel
theorem d_O_about_66 : decode b_O_about 66 = .ok (.aload_n 3, 1) := by decide +kernel
theorem d_O_about_67 : decode b_O_about 67 = .ok (.getfield 63, 3) := by decide +kernel
theorem d_O_about_70 : decode b_O_about 70 = .ok (.ireturn, 1) := by decide +kernel
theorem d_O_about_71 : decode b_O_about 71 = .ok (.aload_n 3, 1) := by decide +kernel
theorem d_O_about_72 : decode b_O_about 72 = .ok (.getfield 66, 3) := by decide +kernel
theorem d_O_about_75 : decode b_O_about 75 = .ok (.ireturn, 1) := by decide +kernel
theorem d_O_about_76 : decode b_O_about 76 = .ok (.aload_n 3, 1) := by decide +kernel
theorem d_O_about_77 : decode b_O_about 77 = .ok (.getfield 69, 3) := by decide +kernel
theorem d_O_about_80 : decode b_O_about 80 = .ok (.ireturn, 1) := by decide +kernel
theorem d_O_about_81 : decode b_O_about 81 = .ok (.aload_n 0, 1) := by decide +kernel
theorem d_O_about_82 : decode b_O_about 82 = .ok (.getfield 10, 3) := by decide +kernel
theorem d_O_about_85 : decode b_O_about 85 = .ok (.aload_n 3, 1) := by decide +kernel
theorem d_O_about_86 : decode b_O_about 86 = .ok (.invokevirtual 72, 3) := by decide +kernel
theorem d_O_about_89 : decode b_O_about 89 = .ok (.ireturn, 1) := by decide +kernel
theorem d_O_about_90 : decode b_O_about 90 = .ok (.iload_n 2, 1) := by decide +kernel
theorem d_O_about_91 : decode b_O_about 91 = .ok (.bipush 10, 2) := by decide +kernel
theorem d_O_about_93 : decode b_O_about 93 = .ok (.if_icmp .ge 7, 3) := by decide +kernel
theorem d_O_about_96 : decode b_O_about 96 = .ok (.iconst (-1), 1) := by decide +kernel
theorem d_O_about_97 : decode b_O_about 97 = .ok (.goto 11, 3) := by decide +kernel
theorem d_O_about_100 : decode b_O_about 100 = .ok (.aload_n 3, 1) := by decide +kernel
theorem d_O_about_101 : decode b_O_about 101 = .ok (.iload_n 2, 1) := by decide +kernel
theorem d_O_about_102 : decode b_O_about 102 = .ok (.bipush 10, 2) := by decide +kernel
theorem d_O_about_104 : decode b_O_about 104 = .ok (.isub, 1) := by decide +kernel
theorem d_O_about_105 : decode b_O_about 105 = .ok (.invokevirtual 76, 3) := by decide +kernel
theorem d_O_about_108 : decode b_O_about 108 = .ok (.ireturn, 1) := by decide +kernel
theorem d_O_admit_0 : decode b_O_admit 0 = .ok (.aload_n 0, 1) := by decide +kernel
theorem d_O_admit_1 : decode b_O_admit 1 = .ok (.getfield 10, 3) := by decide +kernel
theorem d_O_admit_4 : decode b_O_admit 4 = .ok (.invokevirtual 80, 3) := by decide +kernel
theorem d_O_admit_7 : decode b_O_admit 7 = .ok (.ifCond .ne 11, 3) := by decide +kernel
theorem d_O_admit_10 : decode b_O_admit 10 = .ok (.new 84, 3) := by decide +kernel
theorem d_O_admit_13 : decode b_O_admit 13 = .ok (.dup, 1) := by decide +kernel
theorem d_O_admit_14 : decode b_O_admit 14 = .ok (.invokespecial 86, 3) := by decide +kernel
theorem d_O_admit_17 : decode b_O_admit 17 = .ok (.athrow, 1) := by decide +kernel
theorem d_O_admit_18 : decode b_O_admit 18 = .ok (.aload_n 0, 1) := by decide +kernel
theorem d_O_admit_19 : decode b_O_admit 19 = .ok (.getfield 21, 3) := by decide +kernel
theorem d_O_admit_22 : decode b_O_admit 22 = .ok (.invokevirtual 87, 3) := by decide +kernel
theorem d_O_admit_25 : decode b_O_admit 25 = .ok (.ireturn, 1) := by decide +kernel
theorem d_O_response_0 : decode b_O_response 0 = .ok (.aload_n 0, 1) := by decide +kernel
theorem d_O_response_1 : decode b_O_response 1 = .ok (.iload_n 1, 1) := by decide +kernel
theorem d_O_response_2 : decode b_O_response 2 = .ok (.invokevirtual 91, 3) := by decide +kernel
theorem d_O_response_5 : decode b_O_response 5 = .ok (.getfield 94, 3) := by decide +kernel
theorem d_O_response_8 : decode b_O_response 8 = .ok (.ireturn, 1) := by decide +kernel
theorem d_O_job_0 : decode b_O_job 0 = .ok (.aload_n 0, 1) := by decide +kernel
theorem d_O_job_1 : decode b_O_job 1 = .ok (.getfield 21, 3) := by decide +kernel
theorem d_O_job_4 : decode b_O_job 4 = .ok (.aload_n 0, 1) := by decide +kernel
theorem d_O_job_5 : decode b_O_job 5 = .ok (.iload_n 1, 1) := by decide +kernel
theorem d_O_job_6 : decode b_O_job 6 = .ok (.invokevirtual 91, 3) := by decide +kernel
theorem d_O_job_9 : decode b_O_job 9 = .ok (.iload_n 2, 1) := by decide +kernel
theorem d_O_job_10 : decode b_O_job 10 = .ok (.invokevirtual 97, 3) := by decide +kernel
theorem d_O_job_13 : decode b_O_job 13 = .ok (.ireturn, 1) := by decide +kernel
theorem d_O_tolerance_0 : decode b_O_tolerance 0 = .ok (.aload_n 0, 1) := by decide +kernel
theorem d_O_tolerance_1 : decode b_O_tolerance 1 = .ok (.getfield 21, 3) := by decide +kernel
theorem d_O_tolerance_4 : decode b_O_tolerance 4 = .ok (.aload_n 0, 1) := by decide +kernel
theorem d_O_tolerance_5 : decode b_O_tolerance 5 = .ok (.iload_n 1, 1) := by decide +kernel
theorem d_O_tolerance_6 : decode b_O_tolerance 6 = .ok (.invokevirtual 101, 3) := by decide +kernel
theorem d_O_tolerance_9 : decode b_O_tolerance 9 = .ok (.invokevirtual 104, 3) := by decide +kernel
theorem d_O_tolerance_12 : decode b_O_tolerance 12 = .ok (.ireturn, 1) := by decide +kernel
theorem d_O_stretch_0 : decode b_O_stretch 0 = .ok (.aload_n 0, 1) := by decide +kernel
theorem d_O_stretch_1 : decode b_O_stretch 1 = .ok (.getfield 10, 3) := by decide +kernel
theorem d_O_stretch_4 : decode b_O_stretch 4 = .ok (.invokevirtual 80, 3) := by decide +kernel
theorem d_O_stretch_7 : decode b_O_stretch 7 = .ok (.ifCond .eq 24, 3) := by decide +kernel
theorem d_O_stretch_10 : decode b_O_stretch 10 = .ok (.aload_n 0, 1) := by decide +kernel
theorem d_O_stretch_11 : decode b_O_stretch 11 = .ok (.getfield 28, 3) := by decide +kernel
theorem d_O_stretch_14 : decode b_O_stretch 14 = .ok (.getfield 32, 3) := by decide +kernel
theorem d_O_stretch_17 : decode b_O_stretch 17 = .ok (.ifCond .ne 14, 3) := by decide +kernel
theorem d_O_stretch_20 : decode b_O_stretch 20 = .ok (.aload_n 0, 1) := by decide +kernel
theorem d_O_stretch_21 : decode b_O_stretch 21 = .ok (.getfield 21, 3) := by decide +kernel
theorem d_O_stretch_24 : decode b_O_stretch 24 = .ok (.invokevirtual 87, 3) := by decide +kernel
theorem d_O_stretch_27 : decode b_O_stretch 27 = .ok (.iconst 1, 1) := by decide +kernel
theorem d_O_stretch_28 : decode b_O_stretch 28 = .ok (.if_icmp .eq 11, 3) := by decide +kernel
theorem d_O_stretch_31 : decode b_O_stretch 31 = .ok (.new 84, 3) := by decide +kernel
theorem d_O_stretch_34 : decode b_O_stretch 34 = .ok (.dup, 1) := by decide +kernel
theorem d_O_stretch_35 : decode b_O_stretch 35 = .ok (.invokespecial 86, 3) := by decide +kernel
theorem d_O_stretch_38 : decode b_O_stretch 38 = .ok (.athrow, 1) := by decide +kernel
theorem d_O_stretch_39 : decode b_O_stretch 39 = .ok (.aload_n 0, 1) := by decide +kernel
theorem d_O_stretch_40 : decode b_O_stretch 40 = .ok (.getfield 21, 3) := by decide +kernel
theorem d_O_stretch_43 : decode b_O_stretch 43 = .ok (.invokevirtual 107, 3) := by decide +kernel
theorem d_O_stretch_46 : decode b_O_stretch 46 = .ok (.ireturn, 1) := by decide +kernel
theorem d_O_scenario_0 : decode b_O_scenario 0 = .ok (.aload_n 0, 1) := by decide +kernel
theorem d_O_scenario_1 : decode b_O_scenario 1 = .ok (.iload_n 1, 1) := by decide +kernel
theorem d_O_scenario_2 : decode b_O_scenario 2 = .ok (.invokevirtual 91, 3) := by decide +kernel
theorem d_O_scenario_5 : decode b_O_scenario 5 = .ok (.astore 4, 2) := by decide +kernel
theorem d_O_scenario_7 : decode b_O_scenario 7 = .ok (.iload_n 2, 1) := by decide +kernel
theorem d_O_scenario_8 : decode b_O_scenario 8 = .ok (.ifCond .lt 12, 3) := by decide +kernel
theorem d_O_scenario_11 : decode b_O_scenario 11 = .ok (.iload_n 3, 1) := by decide +kernel
theorem d_O_scenario_12 : decode b_O_scenario 12 = .ok (.ifCond .lt 8, 3) := by decide +kernel
theorem d_O_scenario_15 : decode b_O_scenario 15 = .ok (.iload_n 3, 1) := by decide +kernel
theorem d_O_scenario_16 : decode b_O_scenario 16 = .ok (.iconst 1, 1) := by decide +kernel
theorem d_O_scenario_17 : decode b_O_scenario 17 = .ok (.if_icmp .le 5, 3) := by decide +kernel
theorem d_O_scenario_20 : decode b_O_scenario 20 = .ok (.iconst (-1), 1) := by decide +kernel
theorem d_O_scenario_21 : decode b_O_scenario 21 = .ok (.ireturn, 1) := by decide +kernel
theorem d_O_scenario_22 : decode b_O_scenario 22 = .ok (.aload_n 0, 1) := by decide +kernel
theorem d_O_scenario_23 : decode b_O_scenario 23 = .ok (.getfield 21, 3) := by decide +kernel
theorem d_O_scenario_26 : decode b_O_scenario 26 = .ok (.aload 4, 2) := by decide +kernel
theorem d_O_scenario_28 : decode b_O_scenario 28 = .ok (.iload_n 2, 1) := by decide +kernel
theorem d_O_scenario_29 : decode b_O_scenario 29 = .ok (.iload_n 3, 1) := by decide +kernel
theorem d_O_scenario_30 : decode b_O_scenario 30 = .ok (.ifCond .ne 7, 3) := by decide +kernel
theorem d_O_scenario_33 : decode b_O_scenario 33 = .ok (.iconst 1, 1) := by decide +kernel
theorem d_O_scenario_34 : decode b_O_scenario 34 = .ok (.goto 4, 3) := by decide +kernel
theorem d_O_scenario_37 : decode b_O_scenario 37 = .ok (.iconst 0, 1) := by decide +kernel
theorem d_O_scenario_38 : decode b_O_scenario 38 = .ok (.invokevirtual 110, 3) := by decide +kernel
theorem d_O_scenario_41 : decode b_O_scenario 41 = .ok (.ireturn, 1) := by decide +kernel
theorem d_O_arrive_0 : decode b_O_arrive 0 = .ok (.aload_n 0, 1) := by decide +kernel
theorem d_O_arrive_1 : decode b_O_arrive 1 = .ok (.getfield 10, 3) := by decide +kernel
theorem d_O_arrive_4 : decode b_O_arrive 4 = .ok (.iload_n 1, 1) := by decide +kernel
theorem d_O_arrive_5 : decode b_O_arrive 5 = .ok (.invokevirtual 50, 3) := by decide +kernel
theorem d_O_arrive_8 : decode b_O_arrive 8 = .ok (.astore_n 2, 1) := by decide +kernel
theorem d_O_arrive_9 : decode b_O_arrive 9 = .ok (.aload_n 2, 1) := by decide +kernel
theorem d_O_arrive_10 : decode b_O_arrive 10 = .ok (.ifnull 28, 3) := by decide +kernel
theorem d_O_arrive_13 : decode b_O_arrive 13 = .ok (.aload_n 0, 1) := by decide +kernel
theorem d_O_arrive_14 : decode b_O_arrive 14 = .ok (.getfield 10, 3) := by decide +kernel
theorem d_O_arrive_17 : decode b_O_arrive 17 = .ok (.invokevirtual 80, 3) := by decide +kernel
theorem d_O_arrive_20 : decode b_O_arrive 20 = .ok (.ifCond .eq 18, 3) := by decide +kernel
theorem d_O_arrive_23 : decode b_O_arrive 23 = .ok (.aload_n 0, 1) := by decide +kernel
theorem d_O_arrive_24 : decode b_O_arrive 24 = .ok (.getfield 28, 3) := by decide +kernel
theorem d_O_arrive_27 : decode b_O_arrive 27 = .ok (.aload_n 2, 1) := by decide +kernel
theorem d_O_arrive_28 : decode b_O_arrive 28 = .ok (.invokevirtual 114, 3) := by decide +kernel
theorem d_O_arrive_31 : decode b_O_arrive 31 = .ok (.ifCond .eq 7, 3) := by decide +kernel
theorem d_O_arrive_34 : decode b_O_arrive 34 = .ok (.iconst 1, 1) := by decide +kernel
theorem d_O_arrive_35 : decode b_O_arrive 35 = .ok (.goto 4, 3) := by decide +kernel
theorem d_O_arrive_38 : decode b_O_arrive 38 = .ok (.iconst 0, 1) := by decide +kernel
theorem d_O_arrive_39 : decode b_O_arrive 39 = .ok (.ireturn, 1) := by decide +kernel
theorem d_O_tick_0 : decode b_O_tick 0 = .ok (.iload_n 1, 1) := by decide +kernel
theorem d_O_tick_1 : decode b_O_tick 1 = .ok (.iconst 1, 1) := by decide +kernel
theorem d_O_tick_2 : decode b_O_tick 2 = .ok (.if_icmp .lt 10, 3) := by decide +kernel
theorem d_O_tick_5 : decode b_O_tick 5 = .ok (.iload_n 1, 1) := by decide +kernel
theorem d_O_tick_6 : decode b_O_tick 6 = .ok (.sipush 2000, 3) := by decide +kernel
theorem d_O_tick_9 : decode b_O_tick 9 = .ok (.if_icmp .le 11, 3) := by decide +kernel
theorem d_O_tick_12 : decode b_O_tick 12 = .ok (.new 118, 3) := by decide +kernel
theorem d_O_tick_15 : decode b_O_tick 15 = .ok (.dup, 1) := by decide +kernel
theorem d_O_tick_16 : decode b_O_tick 16 = .ok (.invokespecial 120, 3) := by decide +kernel
theorem d_O_tick_19 : decode b_O_tick 19 = .ok (.athrow, 1) := by decide +kernel
theorem d_O_tick_20 : decode b_O_tick 20 = .ok (.aload_n 0, 1) := by decide +kernel
theorem d_O_tick_21 : decode b_O_tick 21 = .ok (.getfield 28, 3) := by decide +kernel
theorem d_O_tick_24 : decode b_O_tick 24 = .ok (.iload_n 1, 1) := by decide +kernel
theorem d_O_tick_25 : decode b_O_tick 25 = .ok (.invokevirtual 121, 3) := by decide +kernel
theorem d_O_tick_28 : decode b_O_tick 28 = .ok (.ireturn, 1) := by decide +kernel
theorem d_O_now_0 : decode b_O_now 0 = .ok (.aload_n 0, 1) := by decide +kernel
theorem d_O_now_1 : decode b_O_now 1 = .ok (.getfield 28, 3) := by decide +kernel
theorem d_O_now_4 : decode b_O_now 4 = .ok (.getfield 124, 3) := by decide +kernel
theorem d_O_now_7 : decode b_O_now 7 = .ok (.ireturn, 1) := by decide +kernel
theorem d_O_ended_0 : decode b_O_ended 0 = .ok (.aload_n 0, 1) := by decide +kernel
theorem d_O_ended_1 : decode b_O_ended 1 = .ok (.getfield 10, 3) := by decide +kernel
theorem d_O_ended_4 : decode b_O_ended 4 = .ok (.iload_n 1, 1) := by decide +kernel
theorem d_O_ended_5 : decode b_O_ended 5 = .ok (.invokevirtual 50, 3) := by decide +kernel
theorem d_O_ended_8 : decode b_O_ended 8 = .ok (.astore_n 3, 1) := by decide +kernel
theorem d_O_ended_9 : decode b_O_ended 9 = .ok (.aload_n 3, 1) := by decide +kernel
theorem d_O_ended_10 : decode b_O_ended 10 = .ok (.ifnonnull 7, 3) := by decide +kernel
theorem d_O_ended_13 : decode b_O_ended 13 = .ok (.iconst (-1), 1) := by decide +kernel
theorem d_O_ended_14 : decode b_O_ended 14 = .ok (.goto 11, 3) := by decide +kernel
theorem d_O_ended_17 : decode b_O_ended 17 = .ok (.aload_n 3, 1) := by decide +kernel
theorem d_O_ended_18 : decode b_O_ended 18 = .ok (.getfield 127, 3) := by decide +kernel
theorem d_O_ended_21 : decode b_O_ended 21 = .ok (.iload_n 2, 1) := by decide +kernel
theorem d_O_ended_22 : decode b_O_ended 22 = .ok (.invokevirtual 131, 3) := by decide +kernel
theorem d_O_ended_25 : decode b_O_ended 25 = .ok (.ireturn, 1) := by decide +kernel
theorem d_O_seen_0 : decode b_O_seen 0 = .ok (.aload_n 0, 1) := by decide +kernel
theorem d_O_seen_1 : decode b_O_seen 1 = .ok (.getfield 10, 3) := by decide +kernel
theorem d_O_seen_4 : decode b_O_seen 4 = .ok (.iload_n 1, 1) := by decide +kernel
theorem d_O_seen_5 : decode b_O_seen 5 = .ok (.invokevirtual 50, 3) := by decide +kernel
theorem d_O_seen_8 : decode b_O_seen 8 = .ok (.astore_n 3, 1) := by decide +kernel
theorem d_O_seen_9 : decode b_O_seen 9 = .ok (.aload_n 3, 1) := by decide +kernel
theorem d_O_seen_10 : decode b_O_seen 10 = .ok (.ifnonnull 5, 3) := by decide +kernel
theorem d_O_seen_13 : decode b_O_seen 13 = .ok (.iconst (-1), 1) := by decide +kernel
theorem d_O_seen_14 : decode b_O_seen 14 = .ok (.ireturn, 1) := by decide +kernel
theorem d_O_seen_15 : decode b_O_seen 15 = .ok (.iload_n 2, 1) := by decide +kernel
theorem d_O_seen_16 : decode b_O_seen 16 = .ok (.tableswitch 89 0 5 #[40, 48, 56, 64, 72, 80], 40) := by decide +kernel
theorem d_O_seen_56 : decode b_O_seen 56 = .ok (.aload_n 3, 1) := by decide +kernel
theorem d_O_seen_57 : decode b_O_seen 57 = .ok (.getfield 127, 3) := by decide +kernel
theorem d_O_seen_60 : decode b_O_seen 60 = .ok (.getfield 136, 3) := by decide +kernel
theorem d_O_seen_63 : decode b_O_seen 63 = .ok (.ireturn, 1) := by decide +kernel
theorem d_O_seen_64 : decode b_O_seen 64 = .ok (.aload_n 3, 1) := by decide +kernel
theorem d_O_seen_65 : decode b_O_seen 65 = .ok (.getfield 127, 3) := by decide +kernel
theorem d_O_seen_68 : decode b_O_seen 68 = .ok (.getfield 139, 3) := by decide +kernel
theorem d_O_seen_71 : decode b_O_seen 71 = .ok (.ireturn, 1) := by decide +kernel
theorem d_O_seen_72 : decode b_O_seen 72 = .ok (.aload_n 3, 1) := by decide +kernel
theorem d_O_seen_73 : decode b_O_seen 73 = .ok (.getfield 127, 3) := by decide +kernel
theorem d_O_seen_76 : decode b_O_seen 76 = .ok (.getfield 142, 3) := by decide +kernel
theorem d_O_seen_79 : decode b_O_seen 79 = .ok (.ireturn, 1) := by decide +kernel
theorem d_O_seen_80 : decode b_O_seen 80 = .ok (.aload_n 3, 1) := by decide +kernel
theorem d_O_seen_81 : decode b_O_seen 81 = .ok (.getfield 127, 3) := by decide +kernel
theorem d_O_seen_84 : decode b_O_seen 84 = .ok (.getfield 145, 3) := by decide +kernel
theorem d_O_seen_87 : decode b_O_seen 87 = .ok (.ireturn, 1) := by decide +kernel
theorem d_O_seen_88 : decode b_O_seen 88 = .ok (.aload_n 3, 1) := by decide +kernel
theorem d_O_seen_89 : decode b_O_seen 89 = .ok (.getfield 127, 3) := by decide +kernel
theorem d_O_seen_92 : decode b_O_seen 92 = .ok (.getfield 148, 3) := by decide +kernel
theorem d_O_seen_95 : decode b_O_seen 95 = .ok (.ireturn, 1) := by decide +kernel
theorem d_O_seen_96 : decode b_O_seen 96 = .ok (.aload_n 0, 1) := by decide +kernel
theorem d_O_seen_97 : decode b_O_seen 97 = .ok (.getfield 28, 3) := by decide +kernel
theorem d_O_seen_100 : decode b_O_seen 100 = .ok (.aload_n 3, 1) := by decide +kernel
theorem d_O_seen_101 : decode b_O_seen 101 = .ok (.invokevirtual 151, 3) := by decide +kernel
theorem d_O_seen_104 : decode b_O_seen 104 = .ok (.ireturn, 1) := by decide +kernel
theorem d_O_seen_105 : decode b_O_seen 105 = .ok (.iconst (-1), 1) := by decide +kernel
theorem d_O_seen_106 : decode b_O_seen 106 = .ok (.ireturn, 1) := by decide +kernel
theorem d_O_readyTask_0 : decode b_O_readyTask 0 = .ok (.aload_n 0, 1) := by decide +kernel
theorem d_O_readyTask_1 : decode b_O_readyTask 1 = .ok (.getfield 10, 3) := by decide +kernel
theorem d_O_readyTask_4 : decode b_O_readyTask 4 = .ok (.iload_n 1, 1) := by decide +kernel
theorem d_O_readyTask_5 : decode b_O_readyTask 5 = .ok (.invokevirtual 50, 3) := by decide +kernel
theorem d_O_readyTask_8 : decode b_O_readyTask 8 = .ok (.astore_n 2, 1) := by decide +kernel
theorem d_O_readyTask_9 : decode b_O_readyTask 9 = .ok (.aload_n 2, 1) := by decide +kernel
theorem d_O_readyTask_10 : decode b_O_readyTask 10 = .ok (.ifnonnull 11, 3) := by decide +kernel
theorem d_O_readyTask_13 : decode b_O_readyTask 13 = .ok (.new 154, 3) := by decide +kernel
theorem d_O_readyTask_16 : decode b_O_readyTask 16 = .ok (.dup, 1) := by decide +kernel
theorem d_O_readyTask_17 : decode b_O_readyTask 17 = .ok (.invokespecial 156, 3) := by decide +kernel
theorem d_O_readyTask_20 : decode b_O_readyTask 20 = .ok (.athrow, 1) := by decide +kernel
theorem d_O_readyTask_21 : decode b_O_readyTask 21 = .ok (.aload_n 0, 1) := by decide +kernel
theorem d_O_readyTask_22 : decode b_O_readyTask 22 = .ok (.getfield 10, 3) := by decide +kernel
theorem d_O_readyTask_25 : decode b_O_readyTask 25 = .ok (.invokevirtual 80, 3) := by decide +kernel
theorem d_O_readyTask_28 : decode b_O_readyTask 28 = .ok (.ifCond .ne 11, 3) := by decide +kernel
theorem d_O_readyTask_31 : decode b_O_readyTask 31 = .ok (.new 84, 3) := by decide +kernel
theorem d_O_readyTask_34 : decode b_O_readyTask 34 = .ok (.dup, 1) := by decide +kernel
theorem d_O_readyTask_35 : decode b_O_readyTask 35 = .ok (.invokespecial 86, 3) := by decide +kernel
theorem d_O_readyTask_38 : decode b_O_readyTask 38 = .ok (.athrow, 1) := by decide +kernel
theorem d_O_readyTask_39 : decode b_O_readyTask 39 = .ok (.aload_n 2, 1) := by decide +kernel
theorem d_O_readyTask_40 : decode b_O_readyTask 40 = .ok (.areturn, 1) := by decide +kernel
theorem d_O_surveyedTask_0 : decode b_O_surveyedTask 0 = .ok (.aload_n 0, 1) := by decide +kernel
theorem d_O_surveyedTask_1 : decode b_O_surveyedTask 1 = .ok (.iload_n 1, 1) := by decide +kernel
theorem d_O_surveyedTask_2 : decode b_O_surveyedTask 2 = .ok (.invokevirtual 101, 3) := by decide +kernel
theorem d_O_surveyedTask_5 : decode b_O_surveyedTask 5 = .ok (.astore_n 2, 1) := by decide +kernel
theorem d_O_surveyedTask_6 : decode b_O_surveyedTask 6 = .ok (.aload_n 0, 1) := by decide +kernel
theorem d_O_surveyedTask_7 : decode b_O_surveyedTask 7 = .ok (.getfield 21, 3) := by decide +kernel
theorem d_O_surveyedTask_10 : decode b_O_surveyedTask 10 = .ok (.aload_n 2, 1) := by decide +kernel
theorem d_O_surveyedTask_11 : decode b_O_surveyedTask 11 = .ok (.invokevirtual 157, 3) := by decide +kernel
theorem d_O_surveyedTask_14 : decode b_O_surveyedTask 14 = .ok (.aload_n 2, 1) := by decide +kernel
theorem d_O_surveyedTask_15 : decode b_O_surveyedTask 15 = .ok (.invokevirtual 161, 3) := by decide +kernel
theorem d_O_surveyedTask_18 : decode b_O_surveyedTask 18 = .ok (.ifCond .eq 11, 3) := by decide +kernel
theorem d_O_surveyedTask_21 : decode b_O_surveyedTask 21 = .ok (.new 164, 3) := by decide +kernel
theorem d_O_surveyedTask_24 : decode b_O_surveyedTask 24 = .ok (.dup, 1) := by decide +kernel
theorem d_O_surveyedTask_25 : decode b_O_surveyedTask 25 = .ok (.invokespecial 166, 3) := by decide +kernel
theorem d_O_surveyedTask_28 : decode b_O_surveyedTask 28 = .ok (.athrow, 1) := by decide +kernel
theorem d_O_surveyedTask_29 : decode b_O_surveyedTask 29 = .ok (.aload_n 2, 1) := by decide +kernel
theorem d_O_surveyedTask_30 : decode b_O_surveyedTask 30 = .ok (.areturn, 1) := by decide +kernel
theorem d_S_init_0 : decode b_S_init 0 = .ok (.aload_n 0, 1) := by decide +kernel
theorem d_S_init_1 : decode b_S_init 1 = .ok (.invokespecial 3, 3) := by decide +kernel
theorem d_S_init_4 : decode b_S_init 4 = .ok (.aload_n 0, 1) := by decide +kernel
theorem d_S_init_5 : decode b_S_init 5 = .ok (.bipush 8, 2) := by decide +kernel
theorem d_S_init_7 : decode b_S_init 7 = .ok (.anewarray 9, 3) := by decide +kernel
theorem d_S_init_10 : decode b_S_init 10 = .ok (.putfield 11, 3) := by decide +kernel
theorem d_S_init_13 : decode b_S_init 13 = .ok (.aload_n 0, 1) := by decide +kernel
theorem d_S_init_14 : decode b_S_init 14 = .ok (.bipush 8, 2) := by decide +kernel
theorem d_S_init_16 : decode b_S_init 16 = .ok (.anewarray 9, 3) := by decide +kernel
theorem d_S_init_19 : decode b_S_init 19 = .ok (.putfield 17, 3) := by decide +kernel
theorem d_S_init_22 : decode b_S_init 22 = .ok (.iconst 0, 1) := by decide +kernel
theorem d_S_init_23 : decode b_S_init 23 = .ok (.istore_n 1, 1) := by decide +kernel
theorem d_S_init_24 : decode b_S_init 24 = .ok (.iload_n 1, 1) := by decide +kernel
theorem d_S_init_25 : decode b_S_init 25 = .ok (.bipush 8, 2) := by decide +kernel
theorem d_S_init_27 : decode b_S_init 27 = .ok (.if_icmp .ge 37, 3) := by decide +kernel
theorem d_S_init_30 : decode b_S_init 30 = .ok (.aload_n 0, 1) := by decide +kernel
theorem d_S_init_31 : decode b_S_init 31 = .ok (.getfield 11, 3) := by decide +kernel
theorem d_S_init_34 : decode b_S_init 34 = .ok (.iload_n 1, 1) := by decide +kernel
theorem d_S_init_35 : decode b_S_init 35 = .ok (.new 9, 3) := by decide +kernel
theorem d_S_init_38 : decode b_S_init 38 = .ok (.dup, 1) := by decide +kernel
theorem d_S_init_39 : decode b_S_init 39 = .ok (.iload_n 1, 1) := by decide +kernel
theorem d_S_init_40 : decode b_S_init 40 = .ok (.iconst 1, 1) := by decide +kernel
theorem d_S_init_41 : decode b_S_init 41 = .ok (.iadd, 1) := by decide +kernel
theorem d_S_init_42 : decode b_S_init 42 = .ok (.invokespecial 20, 3) := by decide +kernel
theorem d_S_init_45 : decode b_S_init 45 = .ok (.aastore, 1) := by decide +kernel
theorem d_S_init_46 : decode b_S_init 46 = .ok (.aload_n 0, 1) := by decide +kernel
theorem d_S_init_47 : decode b_S_init 47 = .ok (.getfield 17, 3) := by decide +kernel
theorem d_S_init_50 : decode b_S_init 50 = .ok (.iload_n 1, 1) := by decide +kernel
theorem d_S_init_51 : decode b_S_init 51 = .ok (.aload_n 0, 1) := by decide +kernel
theorem d_S_init_52 : decode b_S_init 52 = .ok (.getfield 11, 3) := by decide +kernel
theorem d_S_init_55 : decode b_S_init 55 = .ok (.iload_n 1, 1) := by decide +kernel
theorem d_S_init_56 : decode b_S_init 56 = .ok (.aaload, 1) := by decide +kernel
theorem d_S_init_57 : decode b_S_init 57 = .ok (.aastore, 1) := by decide +kernel
theorem d_S_init_58 : decode b_S_init 58 = .ok (.iinc 1 1, 3) := by decide +kernel
theorem d_S_init_61 : decode b_S_init 61 = .ok (.goto (-37), 3) := by decide +kernel
theorem d_S_init_64 : decode b_S_init 64 = .ok (.return_, 1) := by decide +kernel
theorem d_S_find_0 : decode b_S_find 0 = .ok (.iload_n 1, 1) := by decide +kernel
theorem d_S_find_1 : decode b_S_find 1 = .ok (.iconst 1, 1) := by decide +kernel
theorem d_S_find_2 : decode b_S_find 2 = .ok (.if_icmp .lt 9, 3) := by decide +kernel
theorem d_S_find_5 : decode b_S_find 5 = .ok (.iload_n 1, 1) := by decide +kernel
theorem d_S_find_6 : decode b_S_find 6 = .ok (.bipush 8, 2) := by decide +kernel
theorem d_S_find_8 : decode b_S_find 8 = .ok (.if_icmp .le 5, 3) := by decide +kernel
theorem d_S_find_11 : decode b_S_find 11 = .ok (.aconst_null, 1) := by decide +kernel
theorem d_S_find_12 : decode b_S_find 12 = .ok (.areturn, 1) := by decide +kernel
theorem d_S_find_13 : decode b_S_find 13 = .ok (.aload_n 0, 1) := by decide +kernel
theorem d_S_find_14 : decode b_S_find 14 = .ok (.getfield 11, 3) := by decide +kernel
theorem d_S_find_17 : decode b_S_find 17 = .ok (.iload_n 1, 1) := by decide +kernel
theorem d_S_find_18 : decode b_S_find 18 = .ok (.iconst 1, 1) := by decide +kernel
theorem d_S_find_19 : decode b_S_find 19 = .ok (.isub, 1) := by decide +kernel
theorem d_S_find_20 : decode b_S_find 20 = .ok (.aaload, 1) := by decide +kernel
theorem d_S_find_21 : decode b_S_find 21 = .ok (.astore_n 2, 1) := by decide +kernel
theorem d_S_find_22 : decode b_S_find 22 = .ok (.aload_n 2, 1) := by decide +kernel
theorem d_S_find_23 : decode b_S_find 23 = .ok (.getfield 23, 3) := by decide +kernel
theorem d_S_find_26 : decode b_S_find 26 = .ok (.aload_n 0, 1) := by decide +kernel
theorem d_S_find_27 : decode b_S_find 27 = .ok (.getfield 27, 3) := by decide +kernel
theorem d_S_find_30 : decode b_S_find 30 = .ok (.if_icmp .ge 7, 3) := by decide +kernel
theorem d_S_find_33 : decode b_S_find 33 = .ok (.aload_n 2, 1) := by decide +kernel
theorem d_S_find_34 : decode b_S_find 34 = .ok (.goto 4, 3) := by decide +kernel
theorem d_S_find_37 : decode b_S_find 37 = .ok (.aconst_null, 1) := by decide +kernel
theorem d_S_find_38 : decode b_S_find 38 = .ok (.areturn, 1) := by decide +kernel
theorem d_S_add_0 : decode b_S_add 0 = .ok (.iload_n 1, 1) := by decide +kernel
theorem d_S_add_1 : decode b_S_add 1 = .ok (.iconst 1, 1) := by decide +kernel
theorem d_S_add_2 : decode b_S_add 2 = .ok (.if_icmp .lt 21, 3) := by decide +kernel
theorem d_S_add_5 : decode b_S_add 5 = .ok (.iload_n 1, 1) := by decide +kernel
theorem d_S_add_6 : decode b_S_add 6 = .ok (.bipush 8, 2) := by decide +kernel
theorem d_S_add_8 : decode b_S_add 8 = .ok (.if_icmp .gt 15, 3) := by decide +kernel
theorem d_S_add_11 : decode b_S_add 11 = .ok (.iload_n 2, 1) := by decide +kernel
theorem d_S_add_12 : decode b_S_add 12 = .ok (.iconst 1, 1) := by decide +kernel
theorem d_S_add_13 : decode b_S_add 13 = .ok (.if_icmp .lt 10, 3) := by decide +kernel
theorem d_S_add_16 : decode b_S_add 16 = .ok (.iload_n 2, 1) := by decide +kernel
theorem d_S_add_17 : decode b_S_add 17 = .ok (.sipush 1000, 3) := by decide +kernel
theorem d_S_add_20 : decode b_S_add 20 = .ok (.if_icmp .le 5, 3) := by decide +kernel
theorem d_S_add_23 : decode b_S_add 23 = .ok (.iconst 0, 1) := by decide +kernel
theorem d_S_add_24 : decode b_S_add 24 = .ok (.ireturn, 1) := by decide +kernel
theorem d_S_add_25 : decode b_S_add 25 = .ok (.iload_n 3, 1) := by decide +kernel
theorem d_S_add_26 : decode b_S_add 26 = .ok (.iconst 1, 1) := by decide +kernel
theorem d_S_add_27 : decode b_S_add 27 = .ok (.if_icmp .lt 11, 3) := by decide +kernel
theorem d_S_add_30 : decode b_S_add 30 = .ok (.iload_n 3, 1) := by decide +kernel
theorem d_S_add_31 : decode b_S_add 31 = .ok (.bipush 8, 2) := by decide +kernel
theorem d_S_add_33 : decode b_S_add 33 = .ok (.iload_n 2, 1) := by decide +kernel
theorem d_S_add_34 : decode b_S_add 34 = .ok (.imul, 1) := by decide +kernel
theorem d_S_add_35 : decode b_S_add 35 = .ok (.if_icmp .le 5, 3) := by decide +kernel
theorem d_S_add_38 : decode b_S_add 38 = .ok (.iconst 0, 1) := by decide +kernel
theorem d_S_add_39 : decode b_S_add 39 = .ok (.ireturn, 1) := by decide +kernel
theorem d_S_add_40 : decode b_S_add 40 = .ok (.iload 4, 2) := by decide +kernel
theorem d_S_add_42 : decode b_S_add 42 = .ok (.ifCond .lt 27, 3) := by decide +kernel
theorem d_S_add_45 : decode b_S_add 45 = .ok (.iload 4, 2) := by decide +kernel
theorem d_S_add_47 : decode b_S_add 47 = .ok (.bipush 99, 2) := by decide +kernel
theorem d_S_add_49 : decode b_S_add 49 = .ok (.if_icmp .gt 20, 3) := by decide +kernel
theorem d_S_add_52 : decode b_S_add 52 = .ok (.aload_n 0, 1) := by decide +kernel
theorem d_S_add_53 : decode b_S_add 53 = .ok (.iload 4, 2) := by decide +kernel
theorem d_S_add_55 : decode b_S_add 55 = .ok (.invokevirtual 30, 3) := by decide +kernel
theorem d_S_add_58 : decode b_S_add 58 = .ok (.ifCond .ne 11, 3) := by decide +kernel
theorem d_S_add_61 : decode b_S_add 61 = .ok (.aload_n 0, 1) := by decide +kernel
theorem d_S_add_62 : decode b_S_add 62 = .ok (.iload_n 1, 1) := by decide +kernel
theorem d_S_add_63 : decode b_S_add 63 = .ok (.invokevirtual 34, 3) := by decide +kernel
theorem d_S_add_66 : decode b_S_add 66 = .ok (.ifnull 5, 3) := by decide +kernel
theorem d_S_add_69 : decode b_S_add 69 = .ok (.iconst 0, 1) := by decide +kernel
theorem d_S_add_70 : decode b_S_add 70 = .ok (.ireturn, 1) := by decide +kernel
theorem d_S_add_71 : decode b_S_add 71 = .ok (.aload_n 0, 1) := by decide +kernel
theorem d_S_add_72 : decode b_S_add 72 = .ok (.getfield 11, 3) := by decide +kernel
theorem d_S_add_75 : decode b_S_add 75 = .ok (.iload_n 1, 1) := by decide +kernel
theorem d_S_add_76 : decode b_S_add 76 = .ok (.iconst 1, 1) := by decide +kernel
theorem d_S_add_77 : decode b_S_add 77 = .ok (.isub, 1) := by decide +kernel
theorem d_S_add_78 : decode b_S_add 78 = .ok (.aaload, 1) := by decide +kernel
theorem d_S_add_79 : decode b_S_add 79 = .ok (.iload_n 2, 1) := by decide +kernel
theorem d_S_add_80 : decode b_S_add 80 = .ok (.iload_n 3, 1) := by decide +kernel
theorem d_S_add_81 : decode b_S_add 81 = .ok (.iload 4, 2) := by decide +kernel
theorem d_S_add_83 : decode b_S_add 83 = .ok (.invokevirtual 38, 3) := by decide +kernel
theorem d_S_add_86 : decode b_S_add 86 = .ok (.aload_n 0, 1) := by decide +kernel
theorem d_S_add_87 : decode b_S_add 87 = .ok (.aload_n 0, 1) := by decide +kernel
theorem d_S_add_88 : decode b_S_add 88 = .ok (.getfield 11, 3) := by decide +kernel
theorem d_S_add_91 : decode b_S_add 91 = .ok (.iload_n 1, 1) := by decide +kernel
theorem d_S_add_92 : decode b_S_add 92 = .ok (.iconst 1, 1) := by decide +kernel
theorem d_S_add_93 : decode b_S_add 93 = .ok (.isub, 1) := by decide +kernel
theorem d_S_add_94 : decode b_S_add 94 = .ok (.aaload, 1) := by decide +kernel
theorem d_S_add_95 : decode b_S_add 95 = .ok (.invokevirtual 42, 3) := by decide +kernel
theorem d_S_add_98 : decode b_S_add 98 = .ok (.aload_n 0, 1) := by decide +kernel
theorem d_S_add_99 : decode b_S_add 99 = .ok (.invokevirtual 46, 3) := by decide +kernel
theorem d_S_add_102 : decode b_S_add 102 = .ok (.iconst 1, 1) := by decide +kernel
theorem d_S_add_103 : decode b_S_add 103 = .ok (.ireturn, 1) := by decide +kernel
theorem d_S_addSegment_0 : decode b_S_addSegment 0 = .ok (.aload_n 0, 1) := by decide +kernel
theorem d_S_addSegment_1 : decode b_S_addSegment 1 = .ok (.iload_n 1, 1) := by decide +kernel
theorem d_S_addSegment_2 : decode b_S_addSegment 2 = .ok (.invokevirtual 34, 3) := by decide +kernel
theorem d_S_addSegment_5 : decode b_S_addSegment 5 = .ok (.astore_n 3, 1) := by decide +kernel
theorem d_S_addSegment_6 : decode b_S_addSegment 6 = .ok (.aload_n 3, 1) := by decide +kernel
theorem d_S_addSegment_7 : decode b_S_addSegment 7 = .ok (.ifnull 11, 3) := by decide +kernel
theorem d_S_addSegment_10 : decode b_S_addSegment 10 = .ok (.aload_n 3, 1) := by decide +kernel
theorem d_S_addSegment_11 : decode b_S_addSegment 11 = .ok (.iload_n 2, 1) := by decide +kernel
theorem d_S_addSegment_12 : decode b_S_addSegment 12 = .ok (.invokevirtual 49, 3) := by decide +kernel
theorem d_S_addSegment_15 : decode b_S_addSegment 15 = .ok (.ifCond .ne 5, 3) := by decide +kernel
theorem d_S_addSegment_18 : decode b_S_addSegment 18 = .ok (.iconst 0, 1) := by decide +kernel
theorem d_S_addSegment_19 : decode b_S_addSegment 19 = .ok (.ireturn, 1) := by decide +kernel
theorem d_S_addSegment_20 : decode b_S_addSegment 20 = .ok (.aload_n 0, 1) := by decide +kernel
theorem d_S_addSegment_21 : decode b_S_addSegment 21 = .ok (.invokevirtual 46, 3) := by decide +kernel
theorem d_S_addSegment_24 : decode b_S_addSegment 24 = .ok (.iconst 1, 1) := by decide +kernel
theorem d_S_addSegment_25 : decode b_S_addSegment 25 = .ok (.ireturn, 1) := by decide +kernel
theorem d_S_forgetTasks_0 : decode b_S_forgetTasks 0 = .ok (.aload_n 0, 1) := by decide +kernel
theorem d_S_forgetTasks_1 : decode b_S_forgetTasks 1 = .ok (.iconst 0, 1) := by decide +kernel
theorem d_S_forgetTasks_2 : decode b_S_forgetTasks 2 = .ok (.putfield 27, 3) := by decide +kernel
theorem d_S_forgetTasks_5 : decode b_S_forgetTasks 5 = .ok (.return_, 1) := by decide +kernel
theorem d_S_forgetFindings_0 : decode b_S_forgetFindings 0 = .ok (.iconst 0, 1) := by decide +kernel
theorem d_S_forgetFindings_1 : decode b_S_forgetFindings 1 = .ok (.istore_n 1, 1) := by decide +kernel
theorem d_S_forgetFindings_2 : decode b_S_forgetFindings 2 = .ok (.iload_n 1, 1) := by decide +kernel
theorem d_S_forgetFindings_3 : decode b_S_forgetFindings 3 = .ok (.aload_n 0, 1) := by decide +kernel
theorem d_S_forgetFindings_4 : decode b_S_forgetFindings 4 = .ok (.getfield 27, 3) := by decide +kernel
theorem d_S_forgetFindings_7 : decode b_S_forgetFindings 7 = .ok (.if_icmp .ge 18, 3) := by decide +kernel
theorem d_S_forgetFindings_10 : decode b_S_forgetFindings 10 = .ok (.aload_n 0, 1) := by decide +kernel
theorem d_S_forgetFindings_11 : decode b_S_forgetFindings 11 = .ok (.getfield 17, 3) := by decide +kernel
theorem d_S_forgetFindings_14 : decode b_S_forgetFindings 14 = .ok (.iload_n 1, 1) := by decide +kernel
theorem d_S_forgetFindings_15 : decode b_S_forgetFindings 15 = .ok (.aaload, 1) := by decide +kernel
theorem d_S_forgetFindings_16 : decode b_S_forgetFindings 16 = .ok (.invokevirtual 52, 3) := by decide +kernel
theorem d_S_forgetFindings_19 : decode b_S_forgetFindings 19 = .ok (.iinc 1 1, 3) := by decide +kernel
theorem d_S_forgetFindings_22 : decode b_S_forgetFindings 22 = .ok (.goto (-20), 3) := by decide +kernel
theorem d_S_forgetFindings_25 : decode b_S_forgetFindings 25 = .ok (.return_, 1) := by decide +kernel
theorem d_S_isReady_0 : decode b_S_isReady 0 = .ok (.iconst 0, 1) := by decide +kernel
theorem d_S_isReady_1 : decode b_S_isReady 1 = .ok (.istore_n 1, 1) := by decide +kernel
theorem d_S_isReady_2 : decode b_S_isReady 2 = .ok (.iload_n 1, 1) := by decide +kernel
theorem d_S_isReady_3 : decode b_S_isReady 3 = .ok (.aload_n 0, 1) := by decide +kernel
theorem d_S_isReady_4 : decode b_S_isReady 4 = .ok (.getfield 27, 3) := by decide +kernel
theorem d_S_isReady_7 : decode b_S_isReady 7 = .ok (.if_icmp .ge 23, 3) := by decide +kernel
theorem d_S_isReady_10 : decode b_S_isReady 10 = .ok (.aload_n 0, 1) := by decide +kernel
theorem d_S_isReady_11 : decode b_S_isReady 11 = .ok (.getfield 17, 3) := by decide +kernel
theorem d_S_isReady_14 : decode b_S_isReady 14 = .ok (.iload_n 1, 1) := by decide +kernel
theorem d_S_isReady_15 : decode b_S_isReady 15 = .ok (.aaload, 1) := by decide +kernel
theorem d_S_isReady_16 : decode b_S_isReady 16 = .ok (.getfield 53, 3) := by decide +kernel
theorem d_S_isReady_19 : decode b_S_isReady 19 = .ok (.ifCond .ne 5, 3) := by decide +kernel
theorem d_S_isReady_22 : decode b_S_isReady 22 = .ok (.iconst 0, 1) := by decide +kernel
theorem d_S_isReady_23 : decode b_S_isReady 23 = .ok (.ireturn, 1) := by decide +kernel
theorem d_S_isReady_24 : decode b_S_isReady 24 = .ok (.iinc 1 1, 3) := by decide +kernel
theorem d_S_isReady_27 : decode b_S_isReady 27 = .ok (.goto (-25), 3) := by decide +kernel
theorem d_S_isReady_30 : decode b_S_isReady 30 = .ok (.aload_n 0, 1) := by decide +kernel
theorem d_S_isReady_31 : decode b_S_isReady 31 = .ok (.getfield 27, 3) := by decide +kernel
theorem d_S_isReady_34 : decode b_S_isReady 34 = .ok (.ifCond .le 7, 3) := by decide +kernel
theorem d_S_isReady_37 : decode b_S_isReady 37 = .ok (.iconst 1, 1) := by decide +kernel
theorem d_S_isReady_38 : decode b_S_isReady 38 = .ok (.goto 4, 3) := by decide +kernel
theorem d_S_isReady_41 : decode b_S_isReady 41 = .ok (.iconst 0, 1) := by decide +kernel
theorem d_S_isReady_42 : decode b_S_isReady 42 = .ok (.ireturn, 1) := by decide +kernel
theorem d_S_longestBelow_0 : decode b_S_longestBelow 0 = .ok (.iconst 0, 1) := by decide +kernel
theorem d_S_longestBelow_1 : decode b_S_longestBelow 1 = .ok (.istore_n 2, 1) := by decide +kernel
theorem d_S_longestBelow_2 : decode b_S_longestBelow 2 = .ok (.aload_n 1, 1) := by decide +kernel
theorem d_S_longestBelow_3 : decode b_S_longestBelow 3 = .ok (.getfield 23, 3) := by decide +kernel
theorem d_S_longestBelow_6 : decode b_S_longestBelow 6 = .ok (.iconst 1, 1) := by decide +kernel
theorem d_S_longestBelow_7 : decode b_S_longestBelow 7 = .ok (.iadd, 1) := by decide +kernel
theorem d_S_longestBelow_8 : decode b_S_longestBelow 8 = .ok (.istore_n 3, 1) := by decide +kernel
theorem d_S_longestBelow_9 : decode b_S_longestBelow 9 = .ok (.iload_n 3, 1) := by decide +kernel
theorem d_S_longestBelow_10 : decode b_S_longestBelow 10 = .ok (.aload_n 0, 1) := by decide +kernel
theorem d_S_longestBelow_11 : decode b_S_longestBelow 11 = .ok (.getfield 27, 3) := by decide +kernel
theorem d_S_longestBelow_14 : decode b_S_longestBelow 14 = .ok (.if_icmp .ge 23, 3) := by decide +kernel
theorem d_S_longestBelow_17 : decode b_S_longestBelow 17 = .ok (.iload_n 2, 1) := by decide +kernel
theorem d_S_longestBelow_18 : decode b_S_longestBelow 18 = .ok (.aload_n 0, 1) := by decide +kernel
theorem d_S_longestBelow_19 : decode b_S_longestBelow 19 = .ok (.getfield 17, 3) := by decide +kernel
theorem d_S_longestBelow_22 : decode b_S_longestBelow 22 = .ok (.iload_n 3, 1) := by decide +kernel
theorem d_S_longestBelow_23 : decode b_S_longestBelow 23 = .ok (.aaload, 1) := by decide +kernel
theorem d_S_longestBelow_24 : decode b_S_longestBelow 24 = .ok (.invokevirtual 56, 3) := by decide +kernel
theorem d_S_longestBelow_27 : decode b_S_longestBelow 27 = .ok (.invokestatic 60, 3) := by decide +kernel
theorem d_S_longestBelow_30 : decode b_S_longestBelow 30 = .ok (.istore_n 2, 1) := by decide +kernel
theorem d_S_longestBelow_31 : decode b_S_longestBelow 31 = .ok (.iinc 3 1, 3) := by decide +kernel
theorem d_S_longestBelow_34 : decode b_S_longestBelow 34 = .ok (.goto (-25), 3) := by decide +kernel
theorem d_S_longestBelow_37 : decode b_S_longestBelow 37 = .ok (.iload_n 2, 1) := by decide +kernel
theorem d_S_longestBelow_38 : decode b_S_longestBelow 38 = .ok (.ireturn, 1) := by decide +kernel
theorem d_S_blockingOf_0 : decode b_S_blockingOf 0 = .ok (.iconst 0, 1) := by decide +kernel
theorem d_S_blockingOf_1 : decode b_S_blockingOf 1 = .ok (.aload_n 0, 1) := by decide +kernel
theorem d_S_blockingOf_2 : decode b_S_blockingOf 2 = .ok (.aload_n 1, 1) := by decide +kernel
theorem d_S_blockingOf_3 : decode b_S_blockingOf 3 = .ok (.invokevirtual 66, 3) := by decide +kernel
theorem d_S_blockingOf_6 : decode b_S_blockingOf 6 = .ok (.iconst 1, 1) := by decide +kernel
theorem d_S_blockingOf_7 : decode b_S_blockingOf 7 = .ok (.isub, 1) := by decide +kernel
theorem d_S_blockingOf_8 : decode b_S_blockingOf 8 = .ok (.invokestatic 60, 3) := by decide +kernel
theorem d_S_blockingOf_11 : decode b_S_blockingOf 11 = .ok (.ireturn, 1) := by decide +kernel
theorem d_S_hasPriority_0 : decode b_S_hasPriority 0 = .ok (.iconst 0, 1) := by decide +kernel
theorem d_S_hasPriority_1 : decode b_S_hasPriority 1 = .ok (.istore_n 2, 1) := by decide +kernel
theorem d_S_hasPriority_2 : decode b_S_hasPriority 2 = .ok (.iload_n 2, 1) := by decide +kernel
theorem d_S_hasPriority_3 : decode b_S_hasPriority 3 = .ok (.aload_n 0, 1) := by decide +kernel
theorem d_S_hasPriority_4 : decode b_S_hasPriority 4 = .ok (.getfield 27, 3) := by decide +kernel
theorem d_S_hasPriority_7 : decode b_S_hasPriority 7 = .ok (.if_icmp .ge 24, 3) := by decide +kernel
theorem d_S_hasPriority_10 : decode b_S_hasPriority 10 = .ok (.aload_n 0, 1) := by decide +kernel
theorem d_S_hasPriority_11 : decode b_S_hasPriority 11 = .ok (.getfield 17, 3) := by decide +kernel
theorem d_S_hasPriority_14 : decode b_S_hasPriority 14 = .ok (.iload_n 2, 1) := by decide +kernel
theorem d_S_hasPriority_15 : decode b_S_hasPriority 15 = .ok (.aaload, 1) := by decide +kernel
theorem d_S_hasPriority_16 : decode b_S_hasPriority 16 = .ok (.getfield 70, 3) := by decide +kernel
theorem d_S_hasPriority_19 : decode b_S_hasPriority 19 = .ok (.iload_n 1, 1) := by decide +kernel
theorem d_S_hasPriority_20 : decode b_S_hasPriority 20 = .ok (.if_icmp .ne 5, 3) := by decide +kernel
theorem d_S_hasPriority_23 : decode b_S_hasPriority 23 = .ok (.iconst 1, 1) := by decide +kernel
theorem d_S_hasPriority_24 : decode b_S_hasPriority 24 = .ok (.ireturn, 1) := by decide +kernel
theorem d_S_hasPriority_25 : decode b_S_hasPriority 25 = .ok (.iinc 2 1, 3) := by decide +kernel
theorem d_S_hasPriority_28 : decode b_S_hasPriority 28 = .ok (.goto (-26), 3) := by decide +kernel
theorem d_S_hasPriority_31 : decode b_S_hasPriority 31 = .ok (.iconst 0, 1) := by decide +kernel
theorem d_S_hasPriority_32 : decode b_S_hasPriority 32 = .ok (.ireturn, 1) := by decide +kernel
theorem d_S_place_0 : decode b_S_place 0 = .ok (.aload_n 0, 1) := by decide +kernel
theorem d_S_place_1 : decode b_S_place 1 = .ok (.aload_n 1, 1) := by decide +kernel
theorem d_S_place_2 : decode b_S_place 2 = .ok (.getfield 23, 3) := by decide +kernel
theorem d_S_place_5 : decode b_S_place 5 = .ok (.aload_n 0, 1) := by decide +kernel
theorem d_S_place_6 : decode b_S_place 6 = .ok (.getfield 27, 3) := by decide +kernel
theorem d_S_place_9 : decode b_S_place 9 = .ok (.invokevirtual 73, 3) := by decide +kernel
theorem d_S_place_12 : decode b_S_place 12 = .ok (.aload_n 0, 1) := by decide +kernel
theorem d_S_place_13 : decode b_S_place 13 = .ok (.getfield 27, 3) := by decide +kernel
theorem d_S_place_16 : decode b_S_place 16 = .ok (.istore_n 2, 1) := by decide +kernel
theorem d_S_place_17 : decode b_S_place 17 = .ok (.iload_n 2, 1) := by decide +kernel
theorem d_S_place_18 : decode b_S_place 18 = .ok (.ifCond .le 40, 3) := by decide +kernel
theorem d_S_place_21 : decode b_S_place 21 = .ok (.aload_n 0, 1) := by decide +kernel
theorem d_S_place_22 : decode b_S_place 22 = .ok (.getfield 17, 3) := by decide +kernel
theorem d_S_place_25 : decode b_S_place 25 = .ok (.iload_n 2, 1) := by decide +kernel
theorem d_S_place_26 : decode b_S_place 26 = .ok (.iconst 1, 1) := by decide +kernel
theorem d_S_place_27 : decode b_S_place 27 = .ok (.isub, 1) := by decide +kernel
theorem d_S_place_28 : decode b_S_place 28 = .ok (.aaload, 1) := by decide +kernel
theorem d_S_place_29 : decode b_S_place 29 = .ok (.getfield 70, 3) := by decide +kernel
theorem d_S_place_32 : decode b_S_place 32 = .ok (.aload_n 0, 1) := by decide +kernel
theorem d_S_place_33 : decode b_S_place 33 = .ok (.getfield 17, 3) := by decide +kernel
theorem d_S_place_36 : decode b_S_place 36 = .ok (.iload_n 2, 1) := by decide +kernel
theorem d_S_place_37 : decode b_S_place 37 = .ok (.aaload, 1) := by decide +kernel
theorem d_S_place_38 : decode b_S_place 38 = .ok (.getfield 70, 3) := by decide +kernel
theorem d_S_place_41 : decode b_S_place 41 = .ok (.if_icmp .ge 17, 3) := by decide +kernel
theorem d_S_place_44 : decode b_S_place 44 = .ok (.aload_n 0, 1) := by decide +kernel
theorem d_S_place_45 : decode b_S_place 45 = .ok (.iload_n 2, 1) := by decide +kernel
theorem d_S_place_46 : decode b_S_place 46 = .ok (.iconst 1, 1) := by decide +kernel
theorem d_S_place_47 : decode b_S_place 47 = .ok (.isub, 1) := by decide +kernel
theorem d_S_place_48 : decode b_S_place 48 = .ok (.iload_n 2, 1) := by decide +kernel
theorem d_S_place_49 : decode b_S_place 49 = .ok (.invokevirtual 73, 3) := by decide +kernel
theorem d_S_place_52 : decode b_S_place 52 = .ok (.iinc 2 (-1), 3) := by decide +kernel
theorem d_S_place_55 : decode b_S_place 55 = .ok (.goto (-38), 3) := by decide +kernel
theorem d_S_place_58 : decode b_S_place 58 = .ok (.aload_n 0, 1) := by decide +kernel
theorem d_S_place_59 : decode b_S_place 59 = .ok (.dup, 1) := by decide +kernel
theorem d_S_place_60 : decode b_S_place 60 = .ok (.getfield 27, 3) := by decide +kernel
theorem d_S_place_63 : decode b_S_place 63 = .ok (.iconst 1, 1) := by decide +kernel
theorem d_S_place_64 : decode b_S_place 64 = .ok (.iadd, 1) := by decide +kernel
theorem d_S_place_65 : decode b_S_place 65 = .ok (.putfield 27, 3) := by decide +kernel
theorem d_S_place_68 : decode b_S_place 68 = .ok (.return_, 1) := by decide +kernel
theorem d_S_swap_0 : decode b_S_swap 0 = .ok (.aload_n 0, 1) := by decide +kernel
theorem d_S_swap_1 : decode b_S_swap 1 = .ok (.getfield 17, 3) := by decide +kernel
theorem d_S_swap_4 : decode b_S_swap 4 = .ok (.iload_n 1, 1) := by decide +kernel
theorem d_S_swap_5 : decode b_S_swap 5 = .ok (.aaload, 1) := by decide +kernel
theorem d_S_swap_6 : decode b_S_swap 6 = .ok (.astore_n 3, 1) := by decide +kernel
theorem d_S_swap_7 : decode b_S_swap 7 = .ok (.aload_n 0, 1) := by decide +kernel
theorem d_S_swap_8 : decode b_S_swap 8 = .ok (.getfield 17, 3) := by decide +kernel
theorem d_S_swap_11 : decode b_S_swap 11 = .ok (.iload_n 1, 1) := by decide +kernel
theorem d_S_swap_12 : decode b_S_swap 12 = .ok (.aload_n 0, 1) := by decide +kernel
theorem d_S_swap_13 : decode b_S_swap 13 = .ok (.getfield 17, 3) := by decide +kernel
theorem d_S_swap_16 : decode b_S_swap 16 = .ok (.iload_n 2, 1) := by decide +kernel
theorem d_S_swap_17 : decode b_S_swap 17 = .ok (.aaload, 1) := by decide +kernel
theorem d_S_swap_18 : decode b_S_swap 18 = .ok (.aastore, 1) := by decide +kernel
theorem d_S_swap_19 : decode b_S_swap 19 = .ok (.aload_n 0, 1) := by decide +kernel
theorem d_S_swap_20 : decode b_S_swap 20 = .ok (.getfield 17, 3) := by decide +kernel
theorem d_S_swap_23 : decode b_S_swap 23 = .ok (.iload_n 2, 1) := by decide +kernel
theorem d_S_swap_24 : decode b_S_swap 24 = .ok (.aload_n 3, 1) := by decide +kernel
theorem d_S_swap_25 : decode b_S_swap 25 = .ok (.aastore, 1) := by decide +kernel
theorem d_S_swap_26 : decode b_S_swap 26 = .ok (.aload_n 0, 1) := by decide +kernel
theorem d_S_swap_27 : decode b_S_swap 27 = .ok (.getfield 17, 3) := by decide +kernel
theorem d_S_swap_30 : decode b_S_swap 30 = .ok (.iload_n 1, 1) := by decide +kernel
theorem d_S_swap_31 : decode b_S_swap 31 = .ok (.aaload, 1) := by decide +kernel
theorem d_S_swap_32 : decode b_S_swap 32 = .ok (.iload_n 1, 1) := by decide +kernel
theorem d_S_swap_33 : decode b_S_swap 33 = .ok (.putfield 23, 3) := by decide +kernel
theorem d_S_swap_36 : decode b_S_swap 36 = .ok (.aload_n 0, 1) := by decide +kernel
theorem d_S_swap_37 : decode b_S_swap 37 = .ok (.getfield 17, 3) := by decide +kernel
theorem d_S_swap_40 : decode b_S_swap 40 = .ok (.iload_n 2, 1) := by decide +kernel
theorem d_S_swap_41 : decode b_S_swap 41 = .ok (.aaload, 1) := by decide +kernel
theorem d_S_swap_42 : decode b_S_swap 42 = .ok (.iload_n 2, 1) := by decide +kernel
theorem d_S_swap_43 : decode b_S_swap 43 = .ok (.putfield 23, 3) := by decide +kernel
theorem d_S_swap_46 : decode b_S_swap 46 = .ok (.return_, 1) := by decide +kernel
theorem d_A_init_0 : decode b_A_init 0 = .ok (.aload_n 0, 1) := by decide +kernel
theorem d_A_init_1 : decode b_A_init 1 = .ok (.invokespecial 3, 3) := by decide +kernel
theorem d_A_init_4 : decode b_A_init 4 = .ok (.aload_n 0, 1) := by decide +kernel
theorem d_A_init_5 : decode b_A_init 5 = .ok (.aload_n 1, 1) := by decide +kernel
theorem d_A_init_6 : decode b_A_init 6 = .ok (.putfield 9, 3) := by decide +kernel
theorem d_A_init_9 : decode b_A_init 9 = .ok (.return_, 1) := by decide +kernel
theorem d_A_survey_0 : decode b_A_survey 0 = .ok (.aload_n 1, 1) := by decide +kernel
theorem d_A_survey_1 : decode b_A_survey 1 = .ok (.getfield 15, 3) := by decide +kernel
theorem d_A_survey_4 : decode b_A_survey 4 = .ok (.bipush (-2), 2) := by decide +kernel
theorem d_A_survey_6 : decode b_A_survey 6 = .ok (.if_icmp .eq 4, 3) := by decide +kernel
theorem d_A_survey_9 : decode b_A_survey 9 = .ok (.return_, 1) := by decide +kernel
theorem d_A_survey_10 : decode b_A_survey 10 = .ok (.aload_n 1, 1) := by decide +kernel
theorem d_A_survey_11 : decode b_A_survey 11 = .ok (.aload_n 0, 1) := by decide +kernel
theorem d_A_survey_12 : decode b_A_survey 12 = .ok (.aload_n 1, 1) := by decide +kernel
theorem d_A_survey_13 : decode b_A_survey 13 = .ok (.aload_n 0, 1) := by decide +kernel
theorem d_A_survey_14 : decode b_A_survey 14 = .ok (.getfield 9, 3) := by decide +kernel
theorem d_A_survey_17 : decode b_A_survey 17 = .ok (.aload_n 1, 1) := by decide +kernel
theorem d_A_survey_18 : decode b_A_survey 18 = .ok (.invokevirtual 21, 3) := by decide +kernel
theorem d_A_survey_21 : decode b_A_survey 21 = .ok (.invokevirtual 27, 3) := by decide +kernel
theorem d_A_survey_24 : decode b_A_survey 24 = .ok (.putfield 15, 3) := by decide +kernel
theorem d_A_survey_27 : decode b_A_survey 27 = .ok (.aload_n 1, 1) := by decide +kernel
theorem d_A_survey_28 : decode b_A_survey 28 = .ok (.aload_n 0, 1) := by decide +kernel
theorem d_A_survey_29 : decode b_A_survey 29 = .ok (.getfield 31, 3) := by decide +kernel
theorem d_A_survey_32 : decode b_A_survey 32 = .ok (.putfield 34, 3) := by decide +kernel
theorem d_A_survey_35 : decode b_A_survey 35 = .ok (.aload_n 1, 1) := by decide +kernel
theorem d_A_survey_36 : decode b_A_survey 36 = .ok (.aload_n 0, 1) := by decide +kernel
theorem d_A_survey_37 : decode b_A_survey 37 = .ok (.getfield 37, 3) := by decide +kernel
theorem d_A_survey_40 : decode b_A_survey 40 = .ok (.putfield 40, 3) := by decide +kernel
theorem d_A_survey_43 : decode b_A_survey 43 = .ok (.return_, 1) := by decide +kernel
theorem d_A_verdict_0 : decode b_A_verdict 0 = .ok (.iconst 0, 1) := by decide +kernel
theorem d_A_verdict_1 : decode b_A_verdict 1 = .ok (.istore_n 1, 1) := by decide +kernel
theorem d_A_verdict_2 : decode b_A_verdict 2 = .ok (.iload_n 1, 1) := by decide +kernel
theorem d_A_verdict_3 : decode b_A_verdict 3 = .ok (.aload_n 0, 1) := by decide +kernel
theorem d_A_verdict_4 : decode b_A_verdict 4 = .ok (.getfield 9, 3) := by decide +kernel
theorem d_A_verdict_7 : decode b_A_verdict 7 = .ok (.getfield 43, 3) := by decide +kernel
theorem d_A_verdict_10 : decode b_A_verdict 10 = .ok (.if_icmp .ge 57, 3) := by decide +kernel
theorem d_A_verdict_13 : decode b_A_verdict 13 = .ok (.aload_n 0, 1) := by decide +kernel
theorem d_A_verdict_14 : decode b_A_verdict 14 = .ok (.getfield 9, 3) := by decide +kernel
theorem d_A_verdict_17 : decode b_A_verdict 17 = .ok (.getfield 46, 3) := by decide +kernel
theorem d_A_verdict_20 : decode b_A_verdict 20 = .ok (.iload_n 1, 1) := by decide +kernel
theorem d_A_verdict_21 : decode b_A_verdict 21 = .ok (.aaload, 1) := by decide +kernel
theorem d_A_verdict_22 : decode b_A_verdict 22 = .ok (.astore_n 2, 1) := by decide +kernel
theorem d_A_verdict_23 : decode b_A_verdict 23 = .ok (.aload_n 0, 1) := by decide +kernel
theorem d_A_verdict_24 : decode b_A_verdict 24 = .ok (.aload_n 2, 1) := by decide +kernel
theorem d_A_verdict_25 : decode b_A_verdict 25 = .ok (.invokevirtual 50, 3) := by decide +kernel
theorem d_A_verdict_28 : decode b_A_verdict 28 = .ok (.aload_n 2, 1) := by decide +kernel
theorem d_A_verdict_29 : decode b_A_verdict 29 = .ok (.invokevirtual 54, 3) := by decide +kernel
theorem d_A_verdict_32 : decode b_A_verdict 32 = .ok (.ifCond .eq 12, 3) := by decide +kernel
theorem d_A_verdict_35 : decode b_A_verdict 35 = .ok (.aload_n 2, 1) := by decide +kernel
theorem d_A_verdict_36 : decode b_A_verdict 36 = .ok (.getfield 58, 3) := by decide +kernel
theorem d_A_verdict_39 : decode b_A_verdict 39 = .ok (.ineg, 1) := by decide +kernel
theorem d_A_verdict_40 : decode b_A_verdict 40 = .ok (.bipush 100, 2) := by decide +kernel
theorem d_A_verdict_42 : decode b_A_verdict 42 = .ok (.isub, 1) := by decide +kernel
theorem d_A_verdict_43 : decode b_A_verdict 43 = .ok (.ireturn, 1) := by decide +kernel
theorem d_A_verdict_44 : decode b_A_verdict 44 = .ok (.aload_n 2, 1) := by decide +kernel
theorem d_A_verdict_45 : decode b_A_verdict 45 = .ok (.getfield 15, 3) := by decide +kernel
theorem d_A_verdict_48 : decode b_A_verdict 48 = .ok (.aload_n 2, 1) := by decide +kernel
theorem d_A_verdict_49 : decode b_A_verdict 49 = .ok (.getfield 61, 3) := by decide +kernel
theorem d_A_verdict_52 : decode b_A_verdict 52 = .ok (.if_icmp .le 9, 3) := by decide +kernel
theorem d_A_verdict_55 : decode b_A_verdict 55 = .ok (.aload_n 2, 1) := by decide +kernel
theorem d_A_verdict_56 : decode b_A_verdict 56 = .ok (.getfield 58, 3) := by decide +kernel
theorem d_A_verdict_59 : decode b_A_verdict 59 = .ok (.ineg, 1) := by decide +kernel
theorem d_A_verdict_60 : decode b_A_verdict 60 = .ok (.ireturn, 1) := by decide +kernel
theorem d_A_verdict_61 : decode b_A_verdict 61 = .ok (.iinc 1 1, 3) := by decide +kernel
theorem d_A_verdict_64 : decode b_A_verdict 64 = .ok (.goto (-62), 3) := by decide +kernel
theorem d_A_verdict_67 : decode b_A_verdict 67 = .ok (.iconst 1, 1) := by decide +kernel
theorem d_A_verdict_68 : decode b_A_verdict 68 = .ok (.ireturn, 1) := by decide +kernel
theorem d_A_responseOfJob_0 : decode b_A_responseOfJob 0 = .ok (.iload_n 2, 1) := by decide +kernel
theorem d_A_responseOfJob_1 : decode b_A_responseOfJob 1 = .ok (.ifCond .lt 11, 3) := by decide +kernel
theorem d_A_responseOfJob_4 : decode b_A_responseOfJob 4 = .ok (.iload_n 2, 1) := by decide +kernel
theorem d_A_responseOfJob_5 : decode b_A_responseOfJob 5 = .ok (.aload_n 1, 1) := by decide +kernel
theorem d_A_responseOfJob_6 : decode b_A_responseOfJob 6 = .ok (.getfield 40, 3) := by decide +kernel
theorem d_A_responseOfJob_9 : decode b_A_responseOfJob 9 = .ok (.if_icmp .lt 5, 3) := by decide +kernel
theorem d_A_responseOfJob_12 : decode b_A_responseOfJob 12 = .ok (.iconst (-1), 1) := by decide +kernel
theorem d_A_responseOfJob_13 : decode b_A_responseOfJob 13 = .ok (.ireturn, 1) := by decide +kernel
theorem d_A_responseOfJob_14 : decode b_A_responseOfJob 14 = .ok (.aload_n 0, 1) := by decide +kernel
theorem d_A_responseOfJob_15 : decode b_A_responseOfJob 15 = .ok (.aload_n 1, 1) := by decide +kernel
theorem d_A_responseOfJob_16 : decode b_A_responseOfJob 16 = .ok (.aload_n 0, 1) := by decide +kernel
theorem d_A_responseOfJob_17 : decode b_A_responseOfJob 17 = .ok (.getfield 9, 3) := by decide +kernel
theorem d_A_responseOfJob_20 : decode b_A_responseOfJob 20 = .ok (.aload_n 1, 1) := by decide +kernel
theorem d_A_responseOfJob_21 : decode b_A_responseOfJob 21 = .ok (.invokevirtual 21, 3) := by decide +kernel
theorem d_A_responseOfJob_24 : decode b_A_responseOfJob 24 = .ok (.iload_n 2, 1) := by decide +kernel
theorem d_A_responseOfJob_25 : decode b_A_responseOfJob 25 = .ok (.iconst 0, 1) := by decide +kernel
theorem d_A_responseOfJob_26 : decode b_A_responseOfJob 26 = .ok (.invokevirtual 64, 3) := by decide +kernel
theorem d_A_responseOfJob_29 : decode b_A_responseOfJob 29 = .ok (.aload_n 1, 1) := by decide +kernel
theorem d_A_responseOfJob_30 : decode b_A_responseOfJob 30 = .ok (.invokevirtual 68, 3) := by decide +kernel
theorem d_A_responseOfJob_33 : decode b_A_responseOfJob 33 = .ok (.iadd, 1) := by decide +kernel
theorem d_A_responseOfJob_34 : decode b_A_responseOfJob 34 = .ok (.iload_n 2, 1) := by decide +kernel
theorem d_A_responseOfJob_35 : decode b_A_responseOfJob 35 = .ok (.aload_n 1, 1) := by decide +kernel
theorem d_A_responseOfJob_36 : decode b_A_responseOfJob 36 = .ok (.getfield 72, 3) := by decide +kernel
theorem d_A_responseOfJob_39 : decode b_A_responseOfJob 39 = .ok (.imul, 1) := by decide +kernel
