theorem d_A_responseOfJob_40 : decode b_A_responseOfJob 40 = .ok (.isub, 1) := by decide +kernel
theorem d_A_responseOfJob_41 : decode b_A_responseOfJob 41 = .ok (.ireturn, 1) := by decide +kernel
theorem d_A_bearableBy_0 : decode b_A_bearableBy 0 = .ok (.aload_n 1, 1) := by decide +kernel
theorem d_A_bearableBy_1 : decode b_A_bearableBy 1 = .ok (.getfield 75, 3) := by decide +kernel
theorem d_A_bearableBy_4 : decode b_A_bearableBy 4 = .ok (.bipush (-2), 2) := by decide +kernel
theorem d_A_bearableBy_6 : decode b_A_bearableBy 6 = .ok (.if_icmp .ne 12, 3) := by decide +kernel
theorem d_A_bearableBy_9 : decode b_A_bearableBy 9 = .ok (.aload_n 1, 1) := by decide +kernel
theorem d_A_bearableBy_10 : decode b_A_bearableBy 10 = .ok (.aload_n 0, 1) := by decide +kernel
theorem d_A_bearableBy_11 : decode b_A_bearableBy 11 = .ok (.aload_n 1, 1) := by decide +kernel
theorem d_A_bearableBy_12 : decode b_A_bearableBy 12 = .ok (.invokevirtual 78, 3) := by decide +kernel
theorem d_A_bearableBy_15 : decode b_A_bearableBy 15 = .ok (.putfield 75, 3) := by decide +kernel
theorem d_A_bearableBy_18 : decode b_A_bearableBy 18 = .ok (.aload_n 1, 1) := by decide +kernel
theorem d_A_bearableBy_19 : decode b_A_bearableBy 19 = .ok (.getfield 75, 3) := by decide +kernel
theorem d_A_bearableBy_22 : decode b_A_bearableBy 22 = .ok (.ireturn, 1) := by decide +kernel
theorem d_A_stretchTasks_0 : decode b_A_stretchTasks 0 = .ok (.iconst 0, 1) := by decide +kernel
theorem d_A_stretchTasks_1 : decode b_A_stretchTasks 1 = .ok (.istore_n 1, 1) := by decide +kernel
theorem d_A_stretchTasks_2 : decode b_A_stretchTasks 2 = .ok (.ldc 81, 2) := by decide +kernel
theorem d_A_stretchTasks_4 : decode b_A_stretchTasks 4 = .ok (.istore_n 2, 1) := by decide +kernel
theorem d_A_stretchTasks_5 : decode b_A_stretchTasks 5 = .ok (.iconst 0, 1) := by decide +kernel
theorem d_A_stretchTasks_6 : decode b_A_stretchTasks 6 = .ok (.istore_n 3, 1) := by decide +kernel
theorem d_A_stretchTasks_7 : decode b_A_stretchTasks 7 = .ok (.iload_n 3, 1) := by decide +kernel
theorem d_A_stretchTasks_8 : decode b_A_stretchTasks 8 = .ok (.aload_n 0, 1) := by decide +kernel
theorem d_A_stretchTasks_9 : decode b_A_stretchTasks 9 = .ok (.getfield 9, 3) := by decide +kernel
theorem d_A_stretchTasks_12 : decode b_A_stretchTasks 12 = .ok (.getfield 43, 3) := by decide +kernel
theorem d_A_stretchTasks_15 : decode b_A_stretchTasks 15 = .ok (.if_icmp .ge 50, 3) := by decide +kernel
theorem d_A_stretchTasks_18 : decode b_A_stretchTasks 18 = .ok (.aload_n 0, 1) := by decide +kernel
theorem d_A_stretchTasks_19 : decode b_A_stretchTasks 19 = .ok (.getfield 9, 3) := by decide +kernel
theorem d_A_stretchTasks_22 : decode b_A_stretchTasks 22 = .ok (.getfield 46, 3) := by decide +kernel
theorem d_A_stretchTasks_25 : decode b_A_stretchTasks 25 = .ok (.iload_n 3, 1) := by decide +kernel
theorem d_A_stretchTasks_26 : decode b_A_stretchTasks 26 = .ok (.aaload, 1) := by decide +kernel
theorem d_A_stretchTasks_27 : decode b_A_stretchTasks 27 = .ok (.astore 4, 2) := by decide +kernel
theorem d_A_stretchTasks_29 : decode b_A_stretchTasks 29 = .ok (.iload_n 1, 1) := by decide +kernel
theorem d_A_stretchTasks_30 : decode b_A_stretchTasks 30 = .ok (.aload 4, 2) := by decide +kernel
theorem d_A_stretchTasks_32 : decode b_A_stretchTasks 32 = .ok (.aload 4, 2) := by decide +kernel
theorem d_A_stretchTasks_34 : decode b_A_stretchTasks 34 = .ok (.getfield 82, 3) := by decide +kernel
theorem d_A_stretchTasks_37 : decode b_A_stretchTasks 37 = .ok (.iload_n 2, 1) := by decide +kernel
theorem d_A_stretchTasks_38 : decode b_A_stretchTasks 38 = .ok (.invokestatic 85, 3) := by decide +kernel
theorem d_A_stretchTasks_41 : decode b_A_stretchTasks 41 = .ok (.invokevirtual 91, 3) := by decide +kernel
theorem d_A_stretchTasks_44 : decode b_A_stretchTasks 44 = .ok (.iadd, 1) := by decide +kernel
theorem d_A_stretchTasks_45 : decode b_A_stretchTasks 45 = .ok (.istore_n 1, 1) := by decide +kernel
theorem d_A_stretchTasks_46 : decode b_A_stretchTasks 46 = .ok (.iload_n 2, 1) := by decide +kernel
theorem d_A_stretchTasks_47 : decode b_A_stretchTasks 47 = .ok (.aload_n 0, 1) := by decide +kernel
theorem d_A_stretchTasks_48 : decode b_A_stretchTasks 48 = .ok (.aload 4, 2) := by decide +kernel
theorem d_A_stretchTasks_50 : decode b_A_stretchTasks 50 = .ok (.invokevirtual 78, 3) := by decide +kernel
theorem d_A_stretchTasks_53 : decode b_A_stretchTasks 53 = .ok (.iconst 1, 1) := by decide +kernel
theorem d_A_stretchTasks_54 : decode b_A_stretchTasks 54 = .ok (.iadd, 1) := by decide +kernel
theorem d_A_stretchTasks_55 : decode b_A_stretchTasks 55 = .ok (.invokestatic 85, 3) := by decide +kernel
theorem d_A_stretchTasks_58 : decode b_A_stretchTasks 58 = .ok (.istore_n 2, 1) := by decide +kernel
theorem d_A_stretchTasks_59 : decode b_A_stretchTasks 59 = .ok (.iinc 3 1, 3) := by decide +kernel
theorem d_A_stretchTasks_62 : decode b_A_stretchTasks 62 = .ok (.goto (-55), 3) := by decide +kernel
theorem d_A_stretchTasks_65 : decode b_A_stretchTasks 65 = .ok (.aload_n 0, 1) := by decide +kernel
theorem d_A_stretchTasks_66 : decode b_A_stretchTasks 66 = .ok (.getfield 9, 3) := by decide +kernel
theorem d_A_stretchTasks_69 : decode b_A_stretchTasks 69 = .ok (.invokevirtual 95, 3) := by decide +kernel
theorem d_A_stretchTasks_72 : decode b_A_stretchTasks 72 = .ok (.iload_n 1, 1) := by decide +kernel
theorem d_A_stretchTasks_73 : decode b_A_stretchTasks 73 = .ok (.ireturn, 1) := by decide +kernel
theorem d_A_scenarioItem_0 : decode b_A_scenarioItem 0 = .ok (.iload_n 2, 1) := by decide +kernel
theorem d_A_scenarioItem_1 : decode b_A_scenarioItem 1 = .ok (.istore 4, 2) := by decide +kernel
theorem d_A_scenarioItem_3 : decode b_A_scenarioItem 3 = .ok (.iconst 0, 1) := by decide +kernel
theorem d_A_scenarioItem_4 : decode b_A_scenarioItem 4 = .ok (.istore 5, 2) := by decide +kernel
theorem d_A_scenarioItem_6 : decode b_A_scenarioItem 6 = .ok (.aload_n 0, 1) := by decide +kernel
theorem d_A_scenarioItem_7 : decode b_A_scenarioItem 7 = .ok (.getfield 9, 3) := by decide +kernel
theorem d_A_scenarioItem_10 : decode b_A_scenarioItem 10 = .ok (.aload_n 1, 1) := by decide +kernel
theorem d_A_scenarioItem_11 : decode b_A_scenarioItem 11 = .ok (.invokevirtual 21, 3) := by decide +kernel
theorem d_A_scenarioItem_14 : decode b_A_scenarioItem 14 = .ok (.ifCond .le 56, 3) := by decide +kernel
theorem d_A_scenarioItem_17 : decode b_A_scenarioItem 17 = .ok (.aload_n 0, 1) := by decide +kernel
theorem d_A_scenarioItem_18 : decode b_A_scenarioItem 18 = .ok (.getfield 9, 3) := by decide +kernel
theorem d_A_scenarioItem_21 : decode b_A_scenarioItem 21 = .ok (.aload_n 1, 1) := by decide +kernel
theorem d_A_scenarioItem_22 : decode b_A_scenarioItem 22 = .ok (.invokevirtual 98, 3) := by decide +kernel
theorem d_A_scenarioItem_25 : decode b_A_scenarioItem 25 = .ok (.istore 6, 2) := by decide +kernel
theorem d_A_scenarioItem_27 : decode b_A_scenarioItem 27 = .ok (.aload_n 0, 1) := by decide +kernel
theorem d_A_scenarioItem_28 : decode b_A_scenarioItem 28 = .ok (.aload_n 1, 1) := by decide +kernel
theorem d_A_scenarioItem_29 : decode b_A_scenarioItem 29 = .ok (.iload 6, 2) := by decide +kernel
theorem d_A_scenarioItem_31 : decode b_A_scenarioItem 31 = .ok (.invokevirtual 101, 3) := by decide +kernel
theorem d_A_scenarioItem_34 : decode b_A_scenarioItem 34 = .ok (.astore 7, 2) := by decide +kernel
theorem d_A_scenarioItem_36 : decode b_A_scenarioItem 36 = .ok (.iload_n 2, 1) := by decide +kernel
theorem d_A_scenarioItem_37 : decode b_A_scenarioItem 37 = .ok (.ifCond .ne 17, 3) := by decide +kernel
theorem d_A_scenarioItem_40 : decode b_A_scenarioItem 40 = .ok (.iload_n 3, 1) := by decide +kernel
theorem d_A_scenarioItem_41 : decode b_A_scenarioItem 41 = .ok (.ifCond .eq 7, 3) := by decide +kernel
theorem d_A_scenarioItem_44 : decode b_A_scenarioItem 44 = .ok (.iconst 0, 1) := by decide +kernel
theorem d_A_scenarioItem_45 : decode b_A_scenarioItem 45 = .ok (.goto 8, 3) := by decide +kernel
theorem d_A_scenarioItem_48 : decode b_A_scenarioItem 48 = .ok (.aload 7, 2) := by decide +kernel
theorem d_A_scenarioItem_50 : decode b_A_scenarioItem 50 = .ok (.getfield 58, 3) := by decide +kernel
theorem d_A_scenarioItem_53 : decode b_A_scenarioItem 53 = .ok (.ireturn, 1) := by decide +kernel
theorem d_A_scenarioItem_54 : decode b_A_scenarioItem 54 = .ok (.iload_n 2, 1) := by decide +kernel
theorem d_A_scenarioItem_55 : decode b_A_scenarioItem 55 = .ok (.iconst 1, 1) := by decide +kernel
theorem d_A_scenarioItem_56 : decode b_A_scenarioItem 56 = .ok (.isub, 1) := by decide +kernel
theorem d_A_scenarioItem_57 : decode b_A_scenarioItem 57 = .ok (.istore 4, 2) := by decide +kernel
theorem d_A_scenarioItem_59 : decode b_A_scenarioItem 59 = .ok (.aload 7, 2) := by decide +kernel
theorem d_A_scenarioItem_61 : decode b_A_scenarioItem 61 = .ok (.iload 6, 2) := by decide +kernel
theorem d_A_scenarioItem_63 : decode b_A_scenarioItem 63 = .ok (.invokevirtual 105, 3) := by decide +kernel
theorem d_A_scenarioItem_66 : decode b_A_scenarioItem 66 = .ok (.iconst 1, 1) := by decide +kernel
theorem d_A_scenarioItem_67 : decode b_A_scenarioItem 67 = .ok (.iadd, 1) := by decide +kernel
theorem d_A_scenarioItem_68 : decode b_A_scenarioItem 68 = .ok (.istore 5, 2) := by decide +kernel
theorem d_A_scenarioItem_70 : decode b_A_scenarioItem 70 = .ok (.aload_n 1, 1) := by decide +kernel
theorem d_A_scenarioItem_71 : decode b_A_scenarioItem 71 = .ok (.getfield 34, 3) := by decide +kernel
theorem d_A_scenarioItem_74 : decode b_A_scenarioItem 74 = .ok (.aload_n 1, 1) := by decide +kernel
theorem d_A_scenarioItem_75 : decode b_A_scenarioItem 75 = .ok (.getfield 72, 3) := by decide +kernel
theorem d_A_scenarioItem_78 : decode b_A_scenarioItem 78 = .ok (.imul, 1) := by decide +kernel
theorem d_A_scenarioItem_79 : decode b_A_scenarioItem 79 = .ok (.aload_n 1, 1) := by decide +kernel
theorem d_A_scenarioItem_80 : decode b_A_scenarioItem 80 = .ok (.getfield 15, 3) := by decide +kernel
theorem d_A_scenarioItem_83 : decode b_A_scenarioItem 83 = .ok (.iadd, 1) := by decide +kernel
theorem d_A_scenarioItem_84 : decode b_A_scenarioItem 84 = .ok (.istore 6, 2) := by decide +kernel
theorem d_A_scenarioItem_86 : decode b_A_scenarioItem 86 = .ok (.iload 4, 2) := by decide +kernel
theorem d_A_scenarioItem_88 : decode b_A_scenarioItem 88 = .ok (.aload_n 0, 1) := by decide +kernel
theorem d_A_scenarioItem_89 : decode b_A_scenarioItem 89 = .ok (.aload_n 1, 1) := by decide +kernel
theorem d_A_scenarioItem_90 : decode b_A_scenarioItem 90 = .ok (.iload 6, 2) := by decide +kernel
theorem d_A_scenarioItem_92 : decode b_A_scenarioItem 92 = .ok (.iconst 1, 1) := by decide +kernel
theorem d_A_scenarioItem_93 : decode b_A_scenarioItem 93 = .ok (.isub, 1) := by decide +kernel
theorem d_A_scenarioItem_94 : decode b_A_scenarioItem 94 = .ok (.invokevirtual 108, 3) := by decide +kernel
theorem d_A_scenarioItem_97 : decode b_A_scenarioItem 97 = .ok (.if_icmp .lt 5, 3) := by decide +kernel
theorem d_A_scenarioItem_100 : decode b_A_scenarioItem 100 = .ok (.iconst (-1), 1) := by decide +kernel
theorem d_A_scenarioItem_101 : decode b_A_scenarioItem 101 = .ok (.ireturn, 1) := by decide +kernel
theorem d_A_scenarioItem_102 : decode b_A_scenarioItem 102 = .ok (.aload_n 0, 1) := by decide +kernel
theorem d_A_scenarioItem_103 : decode b_A_scenarioItem 103 = .ok (.aload_n 1, 1) := by decide +kernel
theorem d_A_scenarioItem_104 : decode b_A_scenarioItem 104 = .ok (.iload 4, 2) := by decide +kernel
theorem d_A_scenarioItem_106 : decode b_A_scenarioItem 106 = .ok (.iload 6, 2) := by decide +kernel
theorem d_A_scenarioItem_108 : decode b_A_scenarioItem 108 = .ok (.invokevirtual 111, 3) := by decide +kernel
theorem d_A_scenarioItem_111 : decode b_A_scenarioItem 111 = .ok (.istore 7, 2) := by decide +kernel
theorem d_A_scenarioItem_113 : decode b_A_scenarioItem 113 = .ok (.iload_n 3, 1) := by decide +kernel
theorem d_A_scenarioItem_114 : decode b_A_scenarioItem 114 = .ok (.ifCond .eq 11, 3) := by decide +kernel
theorem d_A_scenarioItem_117 : decode b_A_scenarioItem 117 = .ok (.iload 5, 2) := by decide +kernel
theorem d_A_scenarioItem_119 : decode b_A_scenarioItem 119 = .ok (.iload 7, 2) := by decide +kernel
theorem d_A_scenarioItem_121 : decode b_A_scenarioItem 121 = .ok (.iadd, 1) := by decide +kernel
theorem d_A_scenarioItem_122 : decode b_A_scenarioItem 122 = .ok (.goto 12, 3) := by decide +kernel
theorem d_A_scenarioItem_125 : decode b_A_scenarioItem 125 = .ok (.aload_n 0, 1) := by decide +kernel
theorem d_A_scenarioItem_126 : decode b_A_scenarioItem 126 = .ok (.aload_n 1, 1) := by decide +kernel
theorem d_A_scenarioItem_127 : decode b_A_scenarioItem 127 = .ok (.iload 4, 2) := by decide +kernel
theorem d_A_scenarioItem_129 : decode b_A_scenarioItem 129 = .ok (.iload 7, 2) := by decide +kernel
theorem d_A_scenarioItem_131 : decode b_A_scenarioItem 131 = .ok (.invokevirtual 115, 3) := by decide +kernel
theorem d_A_scenarioItem_134 : decode b_A_scenarioItem 134 = .ok (.ireturn, 1) := by decide +kernel
theorem d_A_highestBelowWith_0 : decode b_A_highestBelowWith 0 = .ok (.aload_n 1, 1) := by decide +kernel
theorem d_A_highestBelowWith_1 : decode b_A_highestBelowWith 1 = .ok (.getfield 118, 3) := by decide +kernel
theorem d_A_highestBelowWith_4 : decode b_A_highestBelowWith 4 = .ok (.iconst 1, 1) := by decide +kernel
theorem d_A_highestBelowWith_5 : decode b_A_highestBelowWith 5 = .ok (.iadd, 1) := by decide +kernel
theorem d_A_highestBelowWith_6 : decode b_A_highestBelowWith 6 = .ok (.istore_n 3, 1) := by decide +kernel
theorem d_A_highestBelowWith_7 : decode b_A_highestBelowWith 7 = .ok (.iload_n 3, 1) := by decide +kernel
theorem d_A_highestBelowWith_8 : decode b_A_highestBelowWith 8 = .ok (.aload_n 0, 1) := by decide +kernel
theorem d_A_highestBelowWith_9 : decode b_A_highestBelowWith 9 = .ok (.getfield 9, 3) := by decide +kernel
theorem d_A_highestBelowWith_12 : decode b_A_highestBelowWith 12 = .ok (.getfield 43, 3) := by decide +kernel
theorem d_A_highestBelowWith_15 : decode b_A_highestBelowWith 15 = .ok (.if_icmp .ge 35, 3) := by decide +kernel
theorem d_A_highestBelowWith_18 : decode b_A_highestBelowWith 18 = .ok (.aload_n 0, 1) := by decide +kernel
theorem d_A_highestBelowWith_19 : decode b_A_highestBelowWith 19 = .ok (.getfield 9, 3) := by decide +kernel
theorem d_A_highestBelowWith_22 : decode b_A_highestBelowWith 22 = .ok (.getfield 46, 3) := by decide +kernel
theorem d_A_highestBelowWith_25 : decode b_A_highestBelowWith 25 = .ok (.iload_n 3, 1) := by decide +kernel
theorem d_A_highestBelowWith_26 : decode b_A_highestBelowWith 26 = .ok (.aaload, 1) := by decide +kernel
theorem d_A_highestBelowWith_27 : decode b_A_highestBelowWith 27 = .ok (.invokevirtual 121, 3) := by decide +kernel
theorem d_A_highestBelowWith_30 : decode b_A_highestBelowWith 30 = .ok (.iload_n 2, 1) := by decide +kernel
theorem d_A_highestBelowWith_31 : decode b_A_highestBelowWith 31 = .ok (.if_icmp .ne 13, 3) := by decide +kernel
theorem d_A_highestBelowWith_34 : decode b_A_highestBelowWith 34 = .ok (.aload_n 0, 1) := by decide +kernel
theorem d_A_highestBelowWith_35 : decode b_A_highestBelowWith 35 = .ok (.getfield 9, 3) := by decide +kernel
theorem d_A_highestBelowWith_38 : decode b_A_highestBelowWith 38 = .ok (.getfield 46, 3) := by decide +kernel
theorem d_A_highestBelowWith_41 : decode b_A_highestBelowWith 41 = .ok (.iload_n 3, 1) := by decide +kernel
theorem d_A_highestBelowWith_42 : decode b_A_highestBelowWith 42 = .ok (.aaload, 1) := by decide +kernel
theorem d_A_highestBelowWith_43 : decode b_A_highestBelowWith 43 = .ok (.areturn, 1) := by decide +kernel
theorem d_A_highestBelowWith_44 : decode b_A_highestBelowWith 44 = .ok (.iinc 3 1, 3) := by decide +kernel
theorem d_A_highestBelowWith_47 : decode b_A_highestBelowWith 47 = .ok (.goto (-40), 3) := by decide +kernel
theorem d_A_highestBelowWith_50 : decode b_A_highestBelowWith 50 = .ok (.aload_n 1, 1) := by decide +kernel
theorem d_A_highestBelowWith_51 : decode b_A_highestBelowWith 51 = .ok (.areturn, 1) := by decide +kernel
theorem d_A_ownArrivalsBy_0 : decode b_A_ownArrivalsBy 0 = .ok (.aload_n 1, 1) := by decide +kernel
theorem d_A_ownArrivalsBy_1 : decode b_A_ownArrivalsBy 1 = .ok (.getfield 34, 3) := by decide +kernel
theorem d_A_ownArrivalsBy_4 : decode b_A_ownArrivalsBy 4 = .ok (.iconst 1, 1) := by decide +kernel
theorem d_A_ownArrivalsBy_5 : decode b_A_ownArrivalsBy 5 = .ok (.iadd, 1) := by decide +kernel
theorem d_A_ownArrivalsBy_6 : decode b_A_ownArrivalsBy 6 = .ok (.aload_n 1, 1) := by decide +kernel
theorem d_A_ownArrivalsBy_7 : decode b_A_ownArrivalsBy 7 = .ok (.iload_n 2, 1) := by decide +kernel
theorem d_A_ownArrivalsBy_8 : decode b_A_ownArrivalsBy 8 = .ok (.invokevirtual 124, 3) := by decide +kernel
theorem d_A_ownArrivalsBy_11 : decode b_A_ownArrivalsBy 11 = .ok (.invokestatic 85, 3) := by decide +kernel
theorem d_A_ownArrivalsBy_14 : decode b_A_ownArrivalsBy 14 = .ok (.ireturn, 1) := by decide +kernel
theorem d_A_scenarioArrivalsBy_0 : decode b_A_scenarioArrivalsBy 0 = .ok (.aload_n 0, 1) := by decide +kernel
theorem d_A_scenarioArrivalsBy_1 : decode b_A_scenarioArrivalsBy 1 = .ok (.aload_n 1, 1) := by decide +kernel
theorem d_A_scenarioArrivalsBy_2 : decode b_A_scenarioArrivalsBy 2 = .ok (.iload_n 2, 1) := by decide +kernel
theorem d_A_scenarioArrivalsBy_3 : decode b_A_scenarioArrivalsBy 3 = .ok (.invokevirtual 127, 3) := by decide +kernel
theorem d_A_scenarioArrivalsBy_6 : decode b_A_scenarioArrivalsBy 6 = .ok (.istore_n 3, 1) := by decide +kernel
theorem d_A_scenarioArrivalsBy_7 : decode b_A_scenarioArrivalsBy 7 = .ok (.iconst 0, 1) := by decide +kernel
theorem d_A_scenarioArrivalsBy_8 : decode b_A_scenarioArrivalsBy 8 = .ok (.istore 4, 2) := by decide +kernel
theorem d_A_scenarioArrivalsBy_10 : decode b_A_scenarioArrivalsBy 10 = .ok (.iload 4, 2) := by decide +kernel
theorem d_A_scenarioArrivalsBy_12 : decode b_A_scenarioArrivalsBy 12 = .ok (.aload_n 1, 1) := by decide +kernel
theorem d_A_scenarioArrivalsBy_13 : decode b_A_scenarioArrivalsBy 13 = .ok (.getfield 118, 3) := by decide +kernel
theorem d_A_scenarioArrivalsBy_16 : decode b_A_scenarioArrivalsBy 16 = .ok (.if_icmp .ge 26, 3) := by decide +kernel
theorem d_A_scenarioArrivalsBy_19 : decode b_A_scenarioArrivalsBy 19 = .ok (.iload_n 3, 1) := by decide +kernel
theorem d_A_scenarioArrivalsBy_20 : decode b_A_scenarioArrivalsBy 20 = .ok (.aload_n 0, 1) := by decide +kernel
theorem d_A_scenarioArrivalsBy_21 : decode b_A_scenarioArrivalsBy 21 = .ok (.getfield 9, 3) := by decide +kernel
theorem d_A_scenarioArrivalsBy_24 : decode b_A_scenarioArrivalsBy 24 = .ok (.getfield 46, 3) := by decide +kernel
theorem d_A_scenarioArrivalsBy_27 : decode b_A_scenarioArrivalsBy 27 = .ok (.iload 4, 2) := by decide +kernel
theorem d_A_scenarioArrivalsBy_29 : decode b_A_scenarioArrivalsBy 29 = .ok (.aaload, 1) := by decide +kernel
theorem d_A_scenarioArrivalsBy_30 : decode b_A_scenarioArrivalsBy 30 = .ok (.iload_n 2, 1) := by decide +kernel
theorem d_A_scenarioArrivalsBy_31 : decode b_A_scenarioArrivalsBy 31 = .ok (.invokevirtual 124, 3) := by decide +kernel
theorem d_A_scenarioArrivalsBy_34 : decode b_A_scenarioArrivalsBy 34 = .ok (.iadd, 1) := by decide +kernel
theorem d_A_scenarioArrivalsBy_35 : decode b_A_scenarioArrivalsBy 35 = .ok (.istore_n 3, 1) := by decide +kernel
theorem d_A_scenarioArrivalsBy_36 : decode b_A_scenarioArrivalsBy 36 = .ok (.iinc 4 1, 3) := by decide +kernel
theorem d_A_scenarioArrivalsBy_39 : decode b_A_scenarioArrivalsBy 39 = .ok (.goto (-29), 3) := by decide +kernel
theorem d_A_scenarioArrivalsBy_42 : decode b_A_scenarioArrivalsBy 42 = .ok (.iload_n 3, 1) := by decide +kernel
theorem d_A_scenarioArrivalsBy_43 : decode b_A_scenarioArrivalsBy 43 = .ok (.ireturn, 1) := by decide +kernel
theorem d_A_timeOfArrival_0 : decode b_A_timeOfArrival 0 = .ok (.iconst 0, 1) := by decide +kernel
theorem d_A_timeOfArrival_1 : decode b_A_timeOfArrival 1 = .ok (.istore 4, 2) := by decide +kernel
theorem d_A_timeOfArrival_3 : decode b_A_timeOfArrival 3 = .ok (.iload_n 3, 1) := by decide +kernel
theorem d_A_timeOfArrival_4 : decode b_A_timeOfArrival 4 = .ok (.iconst 1, 1) := by decide +kernel
theorem d_A_timeOfArrival_5 : decode b_A_timeOfArrival 5 = .ok (.isub, 1) := by decide +kernel
theorem d_A_timeOfArrival_6 : decode b_A_timeOfArrival 6 = .ok (.istore 5, 2) := by decide +kernel
theorem d_A_timeOfArrival_8 : decode b_A_timeOfArrival 8 = .ok (.iconst 0, 1) := by decide +kernel
theorem d_A_timeOfArrival_9 : decode b_A_timeOfArrival 9 = .ok (.istore 6, 2) := by decide +kernel
theorem d_A_timeOfArrival_11 : decode b_A_timeOfArrival 11 = .ok (.iload 6, 2) := by decide +kernel
theorem d_A_timeOfArrival_13 : decode b_A_timeOfArrival 13 = .ok (.bipush 64, 2) := by decide +kernel
theorem d_A_timeOfArrival_15 : decode b_A_timeOfArrival 15 = .ok (.if_icmp .ge 49, 3) := by decide +kernel
theorem d_A_timeOfArrival_18 : decode b_A_timeOfArrival 18 = .ok (.iload 4, 2) := by decide +kernel
theorem d_A_timeOfArrival_20 : decode b_A_timeOfArrival 20 = .ok (.iload 5, 2) := by decide +kernel
theorem d_A_timeOfArrival_22 : decode b_A_timeOfArrival 22 = .ok (.if_icmp .ge 42, 3) := by decide +kernel
theorem d_A_timeOfArrival_25 : decode b_A_timeOfArrival 25 = .ok (.iload 4, 2) := by decide +kernel
theorem d_A_timeOfArrival_27 : decode b_A_timeOfArrival 27 = .ok (.iload 5, 2) := by decide +kernel
theorem d_A_timeOfArrival_29 : decode b_A_timeOfArrival 29 = .ok (.iadd, 1) := by decide +kernel
theorem d_A_timeOfArrival_30 : decode b_A_timeOfArrival 30 = .ok (.iconst 2, 1) := by decide +kernel
theorem d_A_timeOfArrival_31 : decode b_A_timeOfArrival 31 = .ok (.idiv, 1) := by decide +kernel
theorem d_A_timeOfArrival_32 : decode b_A_timeOfArrival 32 = .ok (.istore 7, 2) := by decide +kernel
theorem d_A_timeOfArrival_34 : decode b_A_timeOfArrival 34 = .ok (.aload_n 0, 1) := by decide +kernel
theorem d_A_timeOfArrival_35 : decode b_A_timeOfArrival 35 = .ok (.aload_n 1, 1) := by decide +kernel
theorem d_A_timeOfArrival_36 : decode b_A_timeOfArrival 36 = .ok (.iload 7, 2) := by decide +kernel
theorem d_A_timeOfArrival_38 : decode b_A_timeOfArrival 38 = .ok (.invokevirtual 108, 3) := by decide +kernel
theorem d_A_timeOfArrival_41 : decode b_A_timeOfArrival 41 = .ok (.iload_n 2, 1) := by decide +kernel
theorem d_A_timeOfArrival_42 : decode b_A_timeOfArrival 42 = .ok (.if_icmp .le 10, 3) := by decide +kernel
theorem d_A_timeOfArrival_45 : decode b_A_timeOfArrival 45 = .ok (.iload 7, 2) := by decide +kernel
theorem d_A_timeOfArrival_47 : decode b_A_timeOfArrival 47 = .ok (.istore 5, 2) := by decide +kernel
theorem d_A_timeOfArrival_49 : decode b_A_timeOfArrival 49 = .ok (.goto 9, 3) := by decide +kernel
theorem d_A_timeOfArrival_52 : decode b_A_timeOfArrival 52 = .ok (.iload 7, 2) := by decide +kernel
theorem d_A_timeOfArrival_54 : decode b_A_timeOfArrival 54 = .ok (.iconst 1, 1) := by decide +kernel
theorem d_A_timeOfArrival_55 : decode b_A_timeOfArrival 55 = .ok (.iadd, 1) := by decide +kernel
theorem d_A_timeOfArrival_56 : decode b_A_timeOfArrival 56 = .ok (.istore 4, 2) := by decide +kernel
theorem d_A_timeOfArrival_58 : decode b_A_timeOfArrival 58 = .ok (.iinc 6 1, 3) := by decide +kernel
theorem d_A_timeOfArrival_61 : decode b_A_timeOfArrival 61 = .ok (.goto (-50), 3) := by decide +kernel
theorem d_A_timeOfArrival_64 : decode b_A_timeOfArrival 64 = .ok (.iload 4, 2) := by decide +kernel
theorem d_A_timeOfArrival_66 : decode b_A_timeOfArrival 66 = .ok (.ireturn, 1) := by decide +kernel
theorem d_A_taskOfArrival_0 : decode b_A_taskOfArrival 0 = .ok (.aload_n 0, 1) := by decide +kernel
theorem d_A_taskOfArrival_1 : decode b_A_taskOfArrival 1 = .ok (.aload_n 1, 1) := by decide +kernel
theorem d_A_taskOfArrival_2 : decode b_A_taskOfArrival 2 = .ok (.iload_n 3, 1) := by decide +kernel
theorem d_A_taskOfArrival_3 : decode b_A_taskOfArrival 3 = .ok (.iconst 1, 1) := by decide +kernel
theorem d_A_taskOfArrival_4 : decode b_A_taskOfArrival 4 = .ok (.isub, 1) := by decide +kernel
theorem d_A_taskOfArrival_5 : decode b_A_taskOfArrival 5 = .ok (.invokevirtual 108, 3) := by decide +kernel
theorem d_A_taskOfArrival_8 : decode b_A_taskOfArrival 8 = .ok (.istore 4, 2) := by decide +kernel
theorem d_A_taskOfArrival_10 : decode b_A_taskOfArrival 10 = .ok (.iconst 0, 1) := by decide +kernel
theorem d_A_taskOfArrival_11 : decode b_A_taskOfArrival 11 = .ok (.istore 5, 2) := by decide +kernel
theorem d_A_taskOfArrival_13 : decode b_A_taskOfArrival 13 = .ok (.iload 5, 2) := by decide +kernel
theorem d_A_taskOfArrival_15 : decode b_A_taskOfArrival 15 = .ok (.aload_n 1, 1) := by decide +kernel
theorem d_A_taskOfArrival_16 : decode b_A_taskOfArrival 16 = .ok (.getfield 118, 3) := by decide +kernel
theorem d_A_taskOfArrival_19 : decode b_A_taskOfArrival 19 = .ok (.if_icmp .ge 53, 3) := by decide +kernel
theorem d_A_taskOfArrival_22 : decode b_A_taskOfArrival 22 = .ok (.aload_n 0, 1) := by decide +kernel
theorem d_A_taskOfArrival_23 : decode b_A_taskOfArrival 23 = .ok (.getfield 9, 3) := by decide +kernel
theorem d_A_taskOfArrival_26 : decode b_A_taskOfArrival 26 = .ok (.getfield 46, 3) := by decide +kernel
theorem d_A_taskOfArrival_29 : decode b_A_taskOfArrival 29 = .ok (.iload 5, 2) := by decide +kernel
theorem d_A_taskOfArrival_31 : decode b_A_taskOfArrival 31 = .ok (.aaload, 1) := by decide +kernel
theorem d_A_taskOfArrival_32 : decode b_A_taskOfArrival 32 = .ok (.astore 6, 2) := by decide +kernel
theorem d_A_taskOfArrival_34 : decode b_A_taskOfArrival 34 = .ok (.iload 4, 2) := by decide +kernel
theorem d_A_taskOfArrival_36 : decode b_A_taskOfArrival 36 = .ok (.aload 6, 2) := by decide +kernel
theorem d_A_taskOfArrival_38 : decode b_A_taskOfArrival 38 = .ok (.iload_n 3, 1) := by decide +kernel
theorem d_A_taskOfArrival_39 : decode b_A_taskOfArrival 39 = .ok (.invokevirtual 124, 3) := by decide +kernel
theorem d_A_taskOfArrival_42 : decode b_A_taskOfArrival 42 = .ok (.aload 6, 2) := by decide +kernel
theorem d_A_taskOfArrival_44 : decode b_A_taskOfArrival 44 = .ok (.iload_n 3, 1) := by decide +kernel
theorem d_A_taskOfArrival_45 : decode b_A_taskOfArrival 45 = .ok (.iconst 1, 1) := by decide +kernel
theorem d_A_taskOfArrival_46 : decode b_A_taskOfArrival 46 = .ok (.isub, 1) := by decide +kernel
theorem d_A_taskOfArrival_47 : decode b_A_taskOfArrival 47 = .ok (.invokevirtual 124, 3) := by decide +kernel
theorem d_A_taskOfArrival_50 : decode b_A_taskOfArrival 50 = .ok (.isub, 1) := by decide +kernel
theorem d_A_taskOfArrival_51 : decode b_A_taskOfArrival 51 = .ok (.iadd, 1) := by decide +kernel
theorem d_A_taskOfArrival_52 : decode b_A_taskOfArrival 52 = .ok (.istore 4, 2) := by decide +kernel
theorem d_A_taskOfArrival_54 : decode b_A_taskOfArrival 54 = .ok (.iload 4, 2) := by decide +kernel
theorem d_A_taskOfArrival_56 : decode b_A_taskOfArrival 56 = .ok (.iload_n 2, 1) := by decide +kernel
theorem d_A_taskOfArrival_57 : decode b_A_taskOfArrival 57 = .ok (.if_icmp .le 9, 3) := by decide +kernel
theorem d_A_taskOfArrival_60 : decode b_A_taskOfArrival 60 = .ok (.aload 6, 2) := by decide +kernel
theorem d_A_taskOfArrival_62 : decode b_A_taskOfArrival 62 = .ok (.getfield 58, 3) := by decide +kernel
theorem d_A_taskOfArrival_65 : decode b_A_taskOfArrival 65 = .ok (.ireturn, 1) := by decide +kernel
theorem d_A_taskOfArrival_66 : decode b_A_taskOfArrival 66 = .ok (.iinc 5 1, 3) := by decide +kernel
theorem d_A_taskOfArrival_69 : decode b_A_taskOfArrival 69 = .ok (.goto (-56), 3) := by decide +kernel
theorem d_A_taskOfArrival_72 : decode b_A_taskOfArrival 72 = .ok (.aload_n 1, 1) := by decide +kernel
theorem d_A_taskOfArrival_73 : decode b_A_taskOfArrival 73 = .ok (.getfield 58, 3) := by decide +kernel
theorem d_A_taskOfArrival_76 : decode b_A_taskOfArrival 76 = .ok (.ireturn, 1) := by decide +kernel
theorem d_A_greatestBorne_0 : decode b_A_greatestBorne 0 = .ok (.iconst (-1), 1) := by decide +kernel
theorem d_A_greatestBorne_1 : decode b_A_greatestBorne 1 = .ok (.istore_n 2, 1) := by decide +kernel
theorem d_A_greatestBorne_2 : decode b_A_greatestBorne 2 = .ok (.iconst 0, 1) := by decide +kernel
theorem d_A_greatestBorne_3 : decode b_A_greatestBorne 3 = .ok (.aload_n 1, 1) := by decide +kernel
theorem d_A_greatestBorne_4 : decode b_A_greatestBorne 4 = .ok (.getfield 61, 3) := by decide +kernel
theorem d_A_greatestBorne_7 : decode b_A_greatestBorne 7 = .ok (.aload_n 1, 1) := by decide +kernel
theorem d_A_greatestBorne_8 : decode b_A_greatestBorne 8 = .ok (.getfield 82, 3) := by decide +kernel
theorem d_A_greatestBorne_11 : decode b_A_greatestBorne 11 = .ok (.isub, 1) := by decide +kernel
theorem d_A_greatestBorne_12 : decode b_A_greatestBorne 12 = .ok (.iconst 1, 1) := by decide +kernel
theorem d_A_greatestBorne_13 : decode b_A_greatestBorne 13 = .ok (.iadd, 1) := by decide +kernel
theorem d_A_greatestBorne_14 : decode b_A_greatestBorne 14 = .ok (.invokestatic 130, 3) := by decide +kernel
theorem d_A_greatestBorne_17 : decode b_A_greatestBorne 17 = .ok (.istore_n 3, 1) := by decide +kernel
theorem d_A_greatestBorne_18 : decode b_A_greatestBorne 18 = .ok (.iconst 0, 1) := by decide +kernel
theorem d_A_greatestBorne_19 : decode b_A_greatestBorne 19 = .ok (.istore 4, 2) := by decide +kernel
theorem d_A_greatestBorne_21 : decode b_A_greatestBorne 21 = .ok (.iload 4, 2) := by decide +kernel
theorem d_A_greatestBorne_23 : decode b_A_greatestBorne 23 = .ok (.bipush 64, 2) := by decide +kernel
theorem d_A_greatestBorne_25 : decode b_A_greatestBorne 25 = .ok (.if_icmp .ge 46, 3) := by decide +kernel
theorem d_A_greatestBorne_28 : decode b_A_greatestBorne 28 = .ok (.iload_n 3, 1) := by decide +kernel
theorem d_A_greatestBorne_29 : decode b_A_greatestBorne 29 = .ok (.iload_n 2, 1) := by decide +kernel
theorem d_A_greatestBorne_30 : decode b_A_greatestBorne 30 = .ok (.isub, 1) := by decide +kernel
theorem d_A_greatestBorne_31 : decode b_A_greatestBorne 31 = .ok (.iconst 1, 1) := by decide +kernel
theorem d_A_greatestBorne_32 : decode b_A_greatestBorne 32 = .ok (.if_icmp .le 39, 3) := by decide +kernel
theorem d_A_greatestBorne_35 : decode b_A_greatestBorne 35 = .ok (.iload_n 2, 1) := by decide +kernel
theorem d_A_greatestBorne_36 : decode b_A_greatestBorne 36 = .ok (.iload_n 3, 1) := by decide +kernel
theorem d_A_greatestBorne_37 : decode b_A_greatestBorne 37 = .ok (.iadd, 1) := by decide +kernel
theorem d_A_greatestBorne_38 : decode b_A_greatestBorne 38 = .ok (.iconst 2, 1) := by decide +kernel
theorem d_A_greatestBorne_39 : decode b_A_greatestBorne 39 = .ok (.idiv, 1) := by decide +kernel
theorem d_A_greatestBorne_40 : decode b_A_greatestBorne 40 = .ok (.istore 5, 2) := by decide +kernel
theorem d_A_greatestBorne_42 : decode b_A_greatestBorne 42 = .ok (.aload_n 0, 1) := by decide +kernel
theorem d_A_greatestBorne_43 : decode b_A_greatestBorne 43 = .ok (.aload_n 1, 1) := by decide +kernel
theorem d_A_greatestBorne_44 : decode b_A_greatestBorne 44 = .ok (.iload 5, 2) := by decide +kernel
theorem d_A_greatestBorne_46 : decode b_A_greatestBorne 46 = .ok (.invokevirtual 27, 3) := by decide +kernel
theorem d_A_greatestBorne_49 : decode b_A_greatestBorne 49 = .ok (.aload_n 1, 1) := by decide +kernel
theorem d_A_greatestBorne_50 : decode b_A_greatestBorne 50 = .ok (.getfield 61, 3) := by decide +kernel
theorem d_A_greatestBorne_53 : decode b_A_greatestBorne 53 = .ok (.if_icmp .gt 9, 3) := by decide +kernel
theorem d_A_greatestBorne_56 : decode b_A_greatestBorne 56 = .ok (.iload 5, 2) := by decide +kernel
theorem d_A_greatestBorne_58 : decode b_A_greatestBorne 58 = .ok (.istore_n 2, 1) := by decide +kernel
theorem d_A_greatestBorne_59 : decode b_A_greatestBorne 59 = .ok (.goto 6, 3) := by decide +kernel
theorem d_A_greatestBorne_62 : decode b_A_greatestBorne 62 = .ok (.iload 5, 2) := by decide +kernel
theorem d_A_greatestBorne_64 : decode b_A_greatestBorne 64 = .ok (.istore_n 3, 1) := by decide +kernel
theorem d_A_greatestBorne_65 : decode b_A_greatestBorne 65 = .ok (.iinc 4 1, 3) := by decide +kernel
theorem d_A_greatestBorne_68 : decode b_A_greatestBorne 68 = .ok (.goto (-47), 3) := by decide +kernel
theorem d_A_greatestBorne_71 : decode b_A_greatestBorne 71 = .ok (.iload_n 2, 1) := by decide +kernel
theorem d_A_greatestBorne_72 : decode b_A_greatestBorne 72 = .ok (.ireturn, 1) := by decide +kernel
theorem d_A_greatestWith_0 : decode b_A_greatestWith 0 = .ok (.aload_n 0, 1) := by decide +kernel
theorem d_A_greatestWith_1 : decode b_A_greatestWith 1 = .ok (.aload_n 1, 1) := by decide +kernel
theorem d_A_greatestWith_2 : decode b_A_greatestWith 2 = .ok (.iload_n 2, 1) := by decide +kernel
theorem d_A_greatestWith_3 : decode b_A_greatestWith 3 = .ok (.invokevirtual 133, 3) := by decide +kernel
theorem d_A_greatestWith_6 : decode b_A_greatestWith 6 = .ok (.istore_n 3, 1) := by decide +kernel
theorem d_A_greatestWith_7 : decode b_A_greatestWith 7 = .ok (.iconst 0, 1) := by decide +kernel
theorem d_A_greatestWith_8 : decode b_A_greatestWith 8 = .ok (.istore 4, 2) := by decide +kernel
theorem d_A_greatestWith_10 : decode b_A_greatestWith 10 = .ok (.iconst 0, 1) := by decide +kernel
theorem d_A_greatestWith_11 : decode b_A_greatestWith 11 = .ok (.istore 5, 2) := by decide +kernel
theorem d_A_greatestWith_13 : decode b_A_greatestWith 13 = .ok (.aload_n 0, 1) := by decide +kernel
theorem d_A_greatestWith_14 : decode b_A_greatestWith 14 = .ok (.iconst 0, 1) := by decide +kernel
theorem d_A_greatestWith_15 : decode b_A_greatestWith 15 = .ok (.putfield 31, 3) := by decide +kernel
theorem d_A_greatestWith_18 : decode b_A_greatestWith 18 = .ok (.aload_n 0, 1) := by decide +kernel
theorem d_A_greatestWith_19 : decode b_A_greatestWith 19 = .ok (.iload_n 3, 1) := by decide +kernel
theorem d_A_greatestWith_20 : decode b_A_greatestWith 20 = .ok (.sipush 20000, 3) := by decide +kernel
theorem d_A_greatestWith_23 : decode b_A_greatestWith 23 = .ok (.if_icmp .le 7, 3) := by decide +kernel
theorem d_A_greatestWith_26 : decode b_A_greatestWith 26 = .ok (.iconst 0, 1) := by decide +kernel
theorem d_A_greatestWith_27 : decode b_A_greatestWith 27 = .ok (.goto 10, 3) := by decide +kernel
theorem d_A_greatestWith_30 : decode b_A_greatestWith 30 = .ok (.aload_n 1, 1) := by decide +kernel
theorem d_A_greatestWith_31 : decode b_A_greatestWith 31 = .ok (.iload_n 3, 1) := by decide +kernel
theorem d_A_greatestWith_32 : decode b_A_greatestWith 32 = .ok (.iconst 1, 1) := by decide +kernel
theorem d_A_greatestWith_33 : decode b_A_greatestWith 33 = .ok (.isub, 1) := by decide +kernel
theorem d_A_greatestWith_34 : decode b_A_greatestWith 34 = .ok (.invokevirtual 124, 3) := by decide +kernel
theorem d_A_greatestWith_37 : decode b_A_greatestWith 37 = .ok (.putfield 37, 3) := by decide +kernel
theorem d_A_greatestWith_40 : decode b_A_greatestWith 40 = .ok (.iconst 0, 1) := by decide +kernel
theorem d_A_greatestWith_41 : decode b_A_greatestWith 41 = .ok (.istore 6, 2) := by decide +kernel
theorem d_A_greatestWith_43 : decode b_A_greatestWith 43 = .ok (.iload 6, 2) := by decide +kernel
theorem d_A_greatestWith_45 : decode b_A_greatestWith 45 = .ok (.aload_n 0, 1) := by decide +kernel
theorem d_A_greatestWith_46 : decode b_A_greatestWith 46 = .ok (.getfield 37, 3) := by decide +kernel
theorem d_A_greatestWith_49 : decode b_A_greatestWith 49 = .ok (.if_icmp .ge 55, 3) := by decide +kernel
theorem d_A_greatestWith_52 : decode b_A_greatestWith 52 = .ok (.aload_n 0, 1) := by decide +kernel
theorem d_A_greatestWith_53 : decode b_A_greatestWith 53 = .ok (.aload_n 1, 1) := by decide +kernel
theorem d_A_greatestWith_54 : decode b_A_greatestWith 54 = .ok (.iload_n 2, 1) := by decide +kernel
theorem d_A_greatestWith_55 : decode b_A_greatestWith 55 = .ok (.iload 6, 2) := by decide +kernel
theorem d_A_greatestWith_57 : decode b_A_greatestWith 57 = .ok (.iload 5, 2) := by decide +kernel
theorem d_A_greatestWith_59 : decode b_A_greatestWith 59 = .ok (.invokevirtual 64, 3) := by decide +kernel
theorem d_A_greatestWith_62 : decode b_A_greatestWith 62 = .ok (.istore 5, 2) := by decide +kernel
theorem d_A_greatestWith_64 : decode b_A_greatestWith 64 = .ok (.iload 5, 2) := by decide +kernel
theorem d_A_greatestWith_66 : decode b_A_greatestWith 66 = .ok (.aload_n 1, 1) := by decide +kernel
theorem d_A_greatestWith_67 : decode b_A_greatestWith 67 = .ok (.invokevirtual 68, 3) := by decide +kernel
theorem d_A_greatestWith_70 : decode b_A_greatestWith 70 = .ok (.iadd, 1) := by decide +kernel
theorem d_A_greatestWith_71 : decode b_A_greatestWith 71 = .ok (.iload 6, 2) := by decide +kernel
theorem d_A_greatestWith_73 : decode b_A_greatestWith 73 = .ok (.aload_n 1, 1) := by decide +kernel
theorem d_A_greatestWith_74 : decode b_A_greatestWith 74 = .ok (.getfield 72, 3) := by decide +kernel
theorem d_A_greatestWith_77 : decode b_A_greatestWith 77 = .ok (.imul, 1) := by decide +kernel
theorem d_A_greatestWith_78 : decode b_A_greatestWith 78 = .ok (.isub, 1) := by decide +kernel
theorem d_A_greatestWith_79 : decode b_A_greatestWith 79 = .ok (.istore 7, 2) := by decide +kernel
theorem d_A_greatestWith_81 : decode b_A_greatestWith 81 = .ok (.iload 7, 2) := by decide +kernel
theorem d_A_greatestWith_83 : decode b_A_greatestWith 83 = .ok (.iload 4, 2) := by decide +kernel
theorem d_A_greatestWith_85 : decode b_A_greatestWith 85 = .ok (.if_icmp .le 13, 3) := by decide +kernel
theorem d_A_greatestWith_88 : decode b_A_greatestWith 88 = .ok (.iload 7, 2) := by decide +kernel
theorem d_A_greatestWith_90 : decode b_A_greatestWith 90 = .ok (.istore 4, 2) := by decide +kernel
theorem d_A_greatestWith_92 : decode b_A_greatestWith 92 = .ok (.aload_n 0, 1) := by decide +kernel
theorem d_A_greatestWith_93 : decode b_A_greatestWith 93 = .ok (.iload 6, 2) := by decide +kernel
theorem d_A_greatestWith_95 : decode b_A_greatestWith 95 = .ok (.putfield 31, 3) := by decide +kernel
theorem d_A_greatestWith_98 : decode b_A_greatestWith 98 = .ok (.iinc 6 1, 3) := by decide +kernel
theorem d_A_greatestWith_101 : decode b_A_greatestWith 101 = .ok (.goto (-58), 3) := by decide +kernel
theorem d_A_greatestWith_104 : decode b_A_greatestWith 104 = .ok (.aload_n 0, 1) := by decide +kernel
theorem d_A_greatestWith_105 : decode b_A_greatestWith 105 = .ok (.getfield 37, 3) := by decide +kernel
theorem d_A_greatestWith_108 : decode b_A_greatestWith 108 = .ok (.ifCond .ne 8, 3) := by decide +kernel
theorem d_A_greatestWith_111 : decode b_A_greatestWith 111 = .ok (.ldc 81, 2) := by decide +kernel
theorem d_A_greatestWith_113 : decode b_A_greatestWith 113 = .ok (.goto 5, 3) := by decide +kernel
theorem d_A_greatestWith_116 : decode b_A_greatestWith 116 = .ok (.iload 4, 2) := by decide +kernel
theorem d_A_greatestWith_118 : decode b_A_greatestWith 118 = .ok (.ireturn, 1) := by decide +kernel
theorem d_A_busyWith_0 : decode b_A_busyWith 0 = .ok (.iload_n 2, 1) := by decide +kernel
theorem d_A_busyWith_1 : decode b_A_busyWith 1 = .ok (.iconst 1, 1) := by decide +kernel
theorem d_A_busyWith_2 : decode b_A_busyWith 2 = .ok (.iadd, 1) := by decide +kernel
theorem d_A_busyWith_3 : decode b_A_busyWith 3 = .ok (.istore_n 3, 1) := by decide +kernel
theorem d_A_busyWith_4 : decode b_A_busyWith 4 = .ok (.iconst 0, 1) := by decide +kernel
theorem d_A_busyWith_5 : decode b_A_busyWith 5 = .ok (.istore 4, 2) := by decide +kernel
theorem d_A_busyWith_7 : decode b_A_busyWith 7 = .ok (.iload 4, 2) := by decide +kernel
theorem d_A_busyWith_9 : decode b_A_busyWith 9 = .ok (.sipush 20000, 3) := by decide +kernel
theorem d_A_busyWith_12 : decode b_A_busyWith 12 = .ok (.if_icmp .gt 52, 3) := by decide +kernel
theorem d_A_busyWith_15 : decode b_A_busyWith 15 = .ok (.iload_n 3, 1) := by decide +kernel
theorem d_A_busyWith_16 : decode b_A_busyWith 16 = .ok (.sipush 20000, 3) := by decide +kernel
theorem d_A_busyWith_19 : decode b_A_busyWith 19 = .ok (.if_icmp .gt 45, 3) := by decide +kernel
theorem d_A_busyWith_22 : decode b_A_busyWith 22 = .ok (.iload_n 2, 1) := by decide +kernel
theorem d_A_busyWith_23 : decode b_A_busyWith 23 = .ok (.aload_n 1, 1) := by decide +kernel
theorem d_A_busyWith_24 : decode b_A_busyWith 24 = .ok (.iload_n 3, 1) := by decide +kernel
theorem d_A_busyWith_25 : decode b_A_busyWith 25 = .ok (.iconst 1, 1) := by decide +kernel
theorem d_A_busyWith_26 : decode b_A_busyWith 26 = .ok (.isub, 1) := by decide +kernel
theorem d_A_busyWith_27 : decode b_A_busyWith 27 = .ok (.invokevirtual 124, 3) := by decide +kernel
theorem d_A_busyWith_30 : decode b_A_busyWith 30 = .ok (.aload_n 1, 1) := by decide +kernel
theorem d_A_busyWith_31 : decode b_A_busyWith 31 = .ok (.getfield 82, 3) := by decide +kernel
theorem d_A_busyWith_34 : decode b_A_busyWith 34 = .ok (.imul, 1) := by decide +kernel
theorem d_A_busyWith_35 : decode b_A_busyWith 35 = .ok (.iadd, 1) := by decide +kernel
theorem d_A_busyWith_36 : decode b_A_busyWith 36 = .ok (.aload_n 0, 1) := by decide +kernel
theorem d_A_busyWith_37 : decode b_A_busyWith 37 = .ok (.aload_n 1, 1) := by decide +kernel
theorem d_A_busyWith_38 : decode b_A_busyWith 38 = .ok (.iload_n 3, 1) := by decide +kernel
theorem d_A_busyWith_39 : decode b_A_busyWith 39 = .ok (.iconst 1, 1) := by decide +kernel
theorem d_A_busyWith_40 : decode b_A_busyWith 40 = .ok (.isub, 1) := by decide +kernel
theorem d_A_busyWith_41 : decode b_A_busyWith 41 = .ok (.invokevirtual 136, 3) := by decide +kernel
theorem d_A_busyWith_44 : decode b_A_busyWith 44 = .ok (.iadd, 1) := by decide +kernel
theorem d_A_busyWith_45 : decode b_A_busyWith 45 = .ok (.istore 5, 2) := by decide +kernel
theorem d_A_busyWith_47 : decode b_A_busyWith 47 = .ok (.iload 5, 2) := by decide +kernel
theorem d_A_busyWith_49 : decode b_A_busyWith 49 = .ok (.iload_n 3, 1) := by decide +kernel
theorem d_A_busyWith_50 : decode b_A_busyWith 50 = .ok (.if_icmp .gt 5, 3) := by decide +kernel
theorem d_A_busyWith_53 : decode b_A_busyWith 53 = .ok (.iload_n 3, 1) := by decide +kernel
theorem d_A_busyWith_54 : decode b_A_busyWith 54 = .ok (.ireturn, 1) := by decide +kernel
theorem d_A_busyWith_55 : decode b_A_busyWith 55 = .ok (.iload 5, 2) := by decide +kernel
theorem d_A_busyWith_57 : decode b_A_busyWith 57 = .ok (.istore_n 3, 1) := by decide +kernel
theorem d_A_busyWith_58 : decode b_A_busyWith 58 = .ok (.iinc 4 1, 3) := by decide +kernel
theorem d_A_busyWith_61 : decode b_A_busyWith 61 = .ok (.goto (-54), 3) := by decide +kernel
theorem d_A_busyWith_64 : decode b_A_busyWith 64 = .ok (.sipush 20001, 3) := by decide +kernel
theorem d_A_busyWith_67 : decode b_A_busyWith 67 = .ok (.ireturn, 1) := by decide +kernel
theorem d_A_lastBegin_0 : decode b_A_lastBegin 0 = .ok (.iload_n 2, 1) := by decide +kernel
theorem d_A_lastBegin_1 : decode b_A_lastBegin 1 = .ok (.iload_n 3, 1) := by decide +kernel
theorem d_A_lastBegin_2 : decode b_A_lastBegin 2 = .ok (.iconst 1, 1) := by decide +kernel
theorem d_A_lastBegin_3 : decode b_A_lastBegin 3 = .ok (.iadd, 1) := by decide +kernel
theorem d_A_lastBegin_4 : decode b_A_lastBegin 4 = .ok (.aload_n 1, 1) := by decide +kernel
theorem d_A_lastBegin_5 : decode b_A_lastBegin 5 = .ok (.getfield 82, 3) := by decide +kernel
theorem d_A_lastBegin_8 : decode b_A_lastBegin 8 = .ok (.imul, 1) := by decide +kernel
theorem d_A_lastBegin_9 : decode b_A_lastBegin 9 = .ok (.iadd, 1) := by decide +kernel
theorem d_A_lastBegin_10 : decode b_A_lastBegin 10 = .ok (.aload_n 1, 1) := by decide +kernel
theorem d_A_lastBegin_11 : decode b_A_lastBegin 11 = .ok (.invokevirtual 68, 3) := by decide +kernel
theorem d_A_lastBegin_14 : decode b_A_lastBegin 14 = .ok (.isub, 1) := by decide +kernel
theorem d_A_lastBegin_15 : decode b_A_lastBegin 15 = .ok (.istore 5, 2) := by decide +kernel
theorem d_A_lastBegin_17 : decode b_A_lastBegin 17 = .ok (.iload 4, 2) := by decide +kernel
theorem d_A_lastBegin_19 : decode b_A_lastBegin 19 = .ok (.istore 6, 2) := by decide +kernel
theorem d_A_lastBegin_21 : decode b_A_lastBegin 21 = .ok (.iconst 0, 1) := by decide +kernel
theorem d_A_lastBegin_22 : decode b_A_lastBegin 22 = .ok (.istore 7, 2) := by decide +kernel
theorem d_A_lastBegin_24 : decode b_A_lastBegin 24 = .ok (.iload 7, 2) := by decide +kernel
theorem d_A_lastBegin_26 : decode b_A_lastBegin 26 = .ok (.sipush 20000, 3) := by decide +kernel
theorem d_A_lastBegin_29 : decode b_A_lastBegin 29 = .ok (.if_icmp .gt 35, 3) := by decide +kernel
theorem d_A_lastBegin_32 : decode b_A_lastBegin 32 = .ok (.iload 5, 2) := by decide +kernel
theorem d_A_lastBegin_34 : decode b_A_lastBegin 34 = .ok (.aload_n 0, 1) := by decide +kernel
theorem d_A_lastBegin_35 : decode b_A_lastBegin 35 = .ok (.aload_n 1, 1) := by decide +kernel
theorem d_A_lastBegin_36 : decode b_A_lastBegin 36 = .ok (.iload 6, 2) := by decide +kernel
theorem d_A_lastBegin_38 : decode b_A_lastBegin 38 = .ok (.invokevirtual 136, 3) := by decide +kernel
theorem d_A_lastBegin_41 : decode b_A_lastBegin 41 = .ok (.iadd, 1) := by decide +kernel
theorem d_A_lastBegin_42 : decode b_A_lastBegin 42 = .ok (.istore 8, 2) := by decide +kernel
theorem d_A_lastBegin_44 : decode b_A_lastBegin 44 = .ok (.iload 8, 2) := by decide +kernel
theorem d_A_lastBegin_46 : decode b_A_lastBegin 46 = .ok (.iload 6, 2) := by decide +kernel
theorem d_A_lastBegin_48 : decode b_A_lastBegin 48 = .ok (.if_icmp .gt 6, 3) := by decide +kernel
theorem d_A_lastBegin_51 : decode b_A_lastBegin 51 = .ok (.iload 6, 2) := by decide +kernel
theorem d_A_lastBegin_53 : decode b_A_lastBegin 53 = .ok (.ireturn, 1) := by decide +kernel
theorem d_A_lastBegin_54 : decode b_A_lastBegin 54 = .ok (.iload 8, 2) := by decide +kernel
theorem d_A_lastBegin_56 : decode b_A_lastBegin 56 = .ok (.istore 6, 2) := by decide +kernel
theorem d_A_lastBegin_58 : decode b_A_lastBegin 58 = .ok (.iinc 7 1, 3) := by decide +kernel
theorem d_A_lastBegin_61 : decode b_A_lastBegin 61 = .ok (.goto (-37), 3) := by decide +kernel
theorem d_A_lastBegin_64 : decode b_A_lastBegin 64 = .ok (.iload 6, 2) := by decide +kernel
theorem d_A_lastBegin_66 : decode b_A_lastBegin 66 = .ok (.ireturn, 1) := by decide +kernel
theorem d_A_higherWorkBy_0 : decode b_A_higherWorkBy 0 = .ok (.iconst 0, 1) := by decide +kernel
theorem d_A_higherWorkBy_1 : decode b_A_higherWorkBy 1 = .ok (.istore_n 3, 1) := by decide +kernel
theorem d_A_higherWorkBy_2 : decode b_A_higherWorkBy 2 = .ok (.iconst 0, 1) := by decide +kernel
theorem d_A_higherWorkBy_3 : decode b_A_higherWorkBy 3 = .ok (.istore 4, 2) := by decide +kernel
theorem d_A_higherWorkBy_5 : decode b_A_higherWorkBy 5 = .ok (.iload 4, 2) := by decide +kernel
theorem d_A_higherWorkBy_7 : decode b_A_higherWorkBy 7 = .ok (.aload_n 1, 1) := by decide +kernel
theorem d_A_higherWorkBy_8 : decode b_A_higherWorkBy 8 = .ok (.getfield 118, 3) := by decide +kernel
theorem d_A_higherWorkBy_11 : decode b_A_higherWorkBy 11 = .ok (.if_icmp .ge 36, 3) := by decide +kernel
theorem d_A_higherWorkBy_14 : decode b_A_higherWorkBy 14 = .ok (.aload_n 0, 1) := by decide +kernel
theorem d_A_higherWorkBy_15 : decode b_A_higherWorkBy 15 = .ok (.getfield 9, 3) := by decide +kernel
theorem d_A_higherWorkBy_18 : decode b_A_higherWorkBy 18 = .ok (.getfield 46, 3) := by decide +kernel
theorem d_A_higherWorkBy_21 : decode b_A_higherWorkBy 21 = .ok (.iload 4, 2) := by decide +kernel
theorem d_A_higherWorkBy_23 : decode b_A_higherWorkBy 23 = .ok (.aaload, 1) := by decide +kernel
theorem d_A_higherWorkBy_24 : decode b_A_higherWorkBy 24 = .ok (.astore 5, 2) := by decide +kernel
theorem d_A_higherWorkBy_26 : decode b_A_higherWorkBy 26 = .ok (.iload_n 3, 1) := by decide +kernel
theorem d_A_higherWorkBy_27 : decode b_A_higherWorkBy 27 = .ok (.aload 5, 2) := by decide +kernel
theorem d_A_higherWorkBy_29 : decode b_A_higherWorkBy 29 = .ok (.iload_n 2, 1) := by decide +kernel
theorem d_A_higherWorkBy_30 : decode b_A_higherWorkBy 30 = .ok (.invokevirtual 124, 3) := by decide +kernel
theorem d_A_higherWorkBy_33 : decode b_A_higherWorkBy 33 = .ok (.aload 5, 2) := by decide +kernel
theorem d_A_higherWorkBy_35 : decode b_A_higherWorkBy 35 = .ok (.getfield 82, 3) := by decide +kernel
theorem d_A_higherWorkBy_38 : decode b_A_higherWorkBy 38 = .ok (.imul, 1) := by decide +kernel
theorem d_A_higherWorkBy_39 : decode b_A_higherWorkBy 39 = .ok (.iadd, 1) := by decide +kernel
theorem d_A_higherWorkBy_40 : decode b_A_higherWorkBy 40 = .ok (.istore_n 3, 1) := by decide +kernel
theorem d_A_higherWorkBy_41 : decode b_A_higherWorkBy 41 = .ok (.iinc 4 1, 3) := by decide +kernel
theorem d_A_higherWorkBy_44 : decode b_A_higherWorkBy 44 = .ok (.goto (-39), 3) := by decide +kernel
theorem d_A_higherWorkBy_47 : decode b_A_higherWorkBy 47 = .ok (.iload_n 3, 1) := by decide +kernel
theorem d_A_higherWorkBy_48 : decode b_A_higherWorkBy 48 = .ok (.ireturn, 1) := by decide +kernel
theorem d_K_init_0 : decode b_K_init 0 = .ok (.aload_n 0, 1) := by decide +kernel
theorem d_K_init_1 : decode b_K_init 1 = .ok (.invokespecial 1, 3) := by decide +kernel
theorem d_K_init_4 : decode b_K_init 4 = .ok (.aload_n 0, 1) := by decide +kernel
theorem d_K_init_5 : decode b_K_init 5 = .ok (.aload_n 1, 1) := by decide +kernel
theorem d_K_init_6 : decode b_K_init 6 = .ok (.putfield 7, 3) := by decide +kernel
theorem d_K_init_9 : decode b_K_init 9 = .ok (.return_, 1) := by decide +kernel
theorem d_K_forgetJobs_0 : decode b_K_forgetJobs 0 = .ok (.iconst 0, 1) := by decide +kernel
theorem d_K_forgetJobs_1 : decode b_K_forgetJobs 1 = .ok (.istore_n 1, 1) := by decide +kernel
theorem d_K_forgetJobs_2 : decode b_K_forgetJobs 2 = .ok (.iload_n 1, 1) := by decide +kernel
theorem d_K_forgetJobs_3 : decode b_K_forgetJobs 3 = .ok (.aload_n 0, 1) := by decide +kernel
theorem d_K_forgetJobs_4 : decode b_K_forgetJobs 4 = .ok (.getfield 7, 3) := by decide +kernel
theorem d_K_forgetJobs_7 : decode b_K_forgetJobs 7 = .ok (.getfield 13, 3) := by decide +kernel
theorem d_K_forgetJobs_10 : decode b_K_forgetJobs 10 = .ok (.if_icmp .ge 24, 3) := by decide +kernel
theorem d_K_forgetJobs_13 : decode b_K_forgetJobs 13 = .ok (.aload_n 0, 1) := by decide +kernel
theorem d_K_forgetJobs_14 : decode b_K_forgetJobs 14 = .ok (.getfield 7, 3) := by decide +kernel
theorem d_K_forgetJobs_17 : decode b_K_forgetJobs 17 = .ok (.getfield 19, 3) := by decide +kernel
theorem d_K_forgetJobs_20 : decode b_K_forgetJobs 20 = .ok (.iload_n 1, 1) := by decide +kernel
theorem d_K_forgetJobs_21 : decode b_K_forgetJobs 21 = .ok (.aaload, 1) := by decide +kernel
theorem d_K_forgetJobs_22 : decode b_K_forgetJobs 22 = .ok (.getfield 23, 3) := by decide +kernel
theorem d_K_forgetJobs_25 : decode b_K_forgetJobs 25 = .ok (.invokevirtual 29, 3) := by decide +kernel
theorem d_K_forgetJobs_28 : decode b_K_forgetJobs 28 = .ok (.iinc 1 1, 3) := by decide +kernel
theorem d_K_forgetJobs_31 : decode b_K_forgetJobs 31 = .ok (.goto (-29), 3) := by decide +kernel
theorem d_K_forgetJobs_34 : decode b_K_forgetJobs 34 = .ok (.aload_n 0, 1) := by decide +kernel
theorem d_K_forgetJobs_35 : decode b_K_forgetJobs 35 = .ok (.iconst 0, 1) := by decide +kernel
theorem d_K_forgetJobs_36 : decode b_K_forgetJobs 36 = .ok (.putfield 34, 3) := by decide +kernel
theorem d_K_forgetJobs_39 : decode b_K_forgetJobs 39 = .ok (.aload_n 0, 1) := by decide +kernel
theorem d_K_forgetJobs_40 : decode b_K_forgetJobs 40 = .ok (.iconst 0, 1) := by decide +kernel
theorem d_K_forgetJobs_41 : decode b_K_forgetJobs 41 = .ok (.putfield 38, 3) := by decide +kernel
theorem d_K_forgetJobs_44 : decode b_K_forgetJobs 44 = .ok (.aload_n 0, 1) := by decide +kernel
theorem d_K_forgetJobs_45 : decode b_K_forgetJobs 45 = .ok (.iconst 0, 1) := by decide +kernel
theorem d_K_forgetJobs_46 : decode b_K_forgetJobs 46 = .ok (.putfield 41, 3) := by decide +kernel
theorem d_K_forgetJobs_49 : decode b_K_forgetJobs 49 = .ok (.aload_n 0, 1) := by decide +kernel
theorem d_K_forgetJobs_50 : decode b_K_forgetJobs 50 = .ok (.aconst_null, 1) := by decide +kernel
theorem d_K_forgetJobs_51 : decode b_K_forgetJobs 51 = .ok (.putfield 44, 3) := by decide +kernel
theorem d_K_forgetJobs_54 : decode b_K_forgetJobs 54 = .ok (.aload_n 0, 1) := by decide +kernel
theorem d_K_forgetJobs_55 : decode b_K_forgetJobs 55 = .ok (.aconst_null, 1) := by decide +kernel
theorem d_K_forgetJobs_56 : decode b_K_forgetJobs 56 = .ok (.putfield 48, 3) := by decide +kernel
theorem d_K_forgetJobs_59 : decode b_K_forgetJobs 59 = .ok (.return_, 1) := by decide +kernel
theorem d_K_accept_0 : decode b_K_accept 0 = .ok (.aload_n 1, 1) := by decide +kernel
theorem d_K_accept_1 : decode b_K_accept 1 = .ok (.getfield 23, 3) := by decide +kernel
theorem d_K_accept_4 : decode b_K_accept 4 = .ok (.aload_n 0, 1) := by decide +kernel
theorem d_K_accept_5 : decode b_K_accept 5 = .ok (.getfield 38, 3) := by decide +kernel
theorem d_K_accept_8 : decode b_K_accept 8 = .ok (.aload_n 1, 1) := by decide +kernel
theorem d_K_accept_9 : decode b_K_accept 9 = .ok (.getfield 51, 3) := by decide +kernel
theorem d_K_accept_12 : decode b_K_accept 12 = .ok (.invokevirtual 54, 3) := by decide +kernel
theorem d_K_accept_15 : decode b_K_accept 15 = .ok (.ifCond .ne 5, 3) := by decide +kernel
theorem d_K_accept_18 : decode b_K_accept 18 = .ok (.iconst 0, 1) := by decide +kernel
theorem d_K_accept_19 : decode b_K_accept 19 = .ok (.ireturn, 1) := by decide +kernel
theorem d_K_accept_20 : decode b_K_accept 20 = .ok (.aload_n 0, 1) := by decide +kernel
theorem d_K_accept_21 : decode b_K_accept 21 = .ok (.iconst 1, 1) := by decide +kernel
theorem d_K_accept_22 : decode b_K_accept 22 = .ok (.putfield 34, 3) := by decide +kernel
theorem d_K_accept_25 : decode b_K_accept 25 = .ok (.iconst 1, 1) := by decide +kernel
theorem d_K_accept_26 : decode b_K_accept 26 = .ok (.ireturn, 1) := by decide +kernel
theorem d_K_leftOf_0 : decode b_K_leftOf 0 = .ok (.aload_n 1, 1) := by decide +kernel
theorem d_K_leftOf_1 : decode b_K_leftOf 1 = .ok (.aload_n 0, 1) := by decide +kernel
theorem d_K_leftOf_2 : decode b_K_leftOf 2 = .ok (.getfield 44, 3) := by decide +kernel
theorem d_K_leftOf_5 : decode b_K_leftOf 5 = .ok (.if_acmp .ne 10, 3) := by decide +kernel
theorem d_K_leftOf_8 : decode b_K_leftOf 8 = .ok (.aload_n 0, 1) := by decide +kernel
theorem d_K_leftOf_9 : decode b_K_leftOf 9 = .ok (.getfield 41, 3) := by decide +kernel
theorem d_K_leftOf_12 : decode b_K_leftOf 12 = .ok (.goto 4, 3) := by decide +kernel
theorem d_K_leftOf_15 : decode b_K_leftOf 15 = .ok (.iconst 0, 1) := by decide +kernel
theorem d_K_leftOf_16 : decode b_K_leftOf 16 = .ok (.ireturn, 1) := by decide +kernel
theorem d_K_advance_0 : decode b_K_advance 0 = .ok (.iconst 0, 1) := by decide +kernel
theorem d_K_advance_1 : decode b_K_advance 1 = .ok (.istore_n 2, 1) := by decide +kernel
theorem d_K_advance_2 : decode b_K_advance 2 = .ok (.iload_n 1, 1) := by decide +kernel
theorem d_K_advance_3 : decode b_K_advance 3 = .ok (.istore_n 3, 1) := by decide +kernel
theorem d_K_advance_4 : decode b_K_advance 4 = .ok (.iconst 0, 1) := by decide +kernel
theorem d_K_advance_5 : decode b_K_advance 5 = .ok (.istore 4, 2) := by decide +kernel
theorem d_K_advance_7 : decode b_K_advance 7 = .ok (.iload 4, 2) := by decide +kernel
theorem d_K_advance_9 : decode b_K_advance 9 = .ok (.iload_n 1, 1) := by decide +kernel
theorem d_K_advance_10 : decode b_K_advance 10 = .ok (.if_icmp .ge 76, 3) := by decide +kernel
theorem d_K_advance_13 : decode b_K_advance 13 = .ok (.iload_n 3, 1) := by decide +kernel
theorem d_K_advance_14 : decode b_K_advance 14 = .ok (.ifCond .le 72, 3) := by decide +kernel
theorem d_K_advance_17 : decode b_K_advance 17 = .ok (.aload_n 0, 1) := by decide +kernel
theorem d_K_advance_18 : decode b_K_advance 18 = .ok (.getfield 44, 3) := by decide +kernel
theorem d_K_advance_21 : decode b_K_advance 21 = .ok (.ifnonnull 7, 3) := by decide +kernel
theorem d_K_advance_24 : decode b_K_advance 24 = .ok (.aload_n 0, 1) := by decide +kernel
theorem d_K_advance_25 : decode b_K_advance 25 = .ok (.invokevirtual 58, 3) := by decide +kernel
theorem d_K_advance_28 : decode b_K_advance 28 = .ok (.aload_n 0, 1) := by decide +kernel
theorem d_K_advance_29 : decode b_K_advance 29 = .ok (.getfield 44, 3) := by decide +kernel
theorem d_K_advance_32 : decode b_K_advance 32 = .ok (.ifnonnull 15, 3) := by decide +kernel
theorem d_K_advance_35 : decode b_K_advance 35 = .ok (.aload_n 0, 1) := by decide +kernel
theorem d_K_advance_36 : decode b_K_advance 36 = .ok (.dup, 1) := by decide +kernel
theorem d_K_advance_37 : decode b_K_advance 37 = .ok (.getfield 38, 3) := by decide +kernel
theorem d_K_advance_40 : decode b_K_advance 40 = .ok (.iload_n 3, 1) := by decide +kernel
theorem d_K_advance_41 : decode b_K_advance 41 = .ok (.iadd, 1) := by decide +kernel
theorem d_K_advance_42 : decode b_K_advance 42 = .ok (.putfield 38, 3) := by decide +kernel
theorem d_K_advance_45 : decode b_K_advance 45 = .ok (.iconst 0, 1) := by decide +kernel
theorem d_K_advance_46 : decode b_K_advance 46 = .ok (.ireturn, 1) := by decide +kernel
theorem d_K_advance_47 : decode b_K_advance 47 = .ok (.aload_n 0, 1) := by decide +kernel
theorem d_K_advance_48 : decode b_K_advance 48 = .ok (.getfield 44, 3) := by decide +kernel
theorem d_K_advance_51 : decode b_K_advance 51 = .ok (.getfield 61, 3) := by decide +kernel
theorem d_K_advance_54 : decode b_K_advance 54 = .ok (.istore_n 2, 1) := by decide +kernel
theorem d_K_advance_55 : decode b_K_advance 55 = .ok (.aload_n 0, 1) := by decide +kernel
theorem d_K_advance_56 : decode b_K_advance 56 = .ok (.getfield 41, 3) := by decide +kernel
theorem d_K_advance_59 : decode b_K_advance 59 = .ok (.iload_n 3, 1) := by decide +kernel
theorem d_K_advance_60 : decode b_K_advance 60 = .ok (.invokestatic 64, 3) := by decide +kernel
theorem d_K_advance_63 : decode b_K_advance 63 = .ok (.istore 5, 2) := by decide +kernel
theorem d_K_advance_65 : decode b_K_advance 65 = .ok (.iload_n 3, 1) := by decide +kernel
theorem d_K_advance_66 : decode b_K_advance 66 = .ok (.iload 5, 2) := by decide +kernel
theorem d_K_advance_68 : decode b_K_advance 68 = .ok (.isub, 1) := by decide +kernel
theorem d_K_advance_69 : decode b_K_advance 69 = .ok (.istore_n 3, 1) := by decide +kernel
theorem d_K_advance_70 : decode b_K_advance 70 = .ok (.aload_n 0, 1) := by decide +kernel
theorem d_K_advance_71 : decode b_K_advance 71 = .ok (.aload_n 0, 1) := by decide +kernel
theorem d_K_advance_72 : decode b_K_advance 72 = .ok (.getfield 44, 3) := by decide +kernel
theorem d_K_advance_75 : decode b_K_advance 75 = .ok (.iload 5, 2) := by decide +kernel
theorem d_K_advance_77 : decode b_K_advance 77 = .ok (.invokevirtual 70, 3) := by decide +kernel
theorem d_K_advance_80 : decode b_K_advance 80 = .ok (.iinc 4 1, 3) := by decide +kernel
theorem d_K_advance_83 : decode b_K_advance 83 = .ok (.goto (-76), 3) := by decide +kernel
theorem d_K_advance_86 : decode b_K_advance 86 = .ok (.iload_n 2, 1) := by decide +kernel
theorem d_K_advance_87 : decode b_K_advance 87 = .ok (.ireturn, 1) := by decide +kernel
theorem d_K_run_0 : decode b_K_run 0 = .ok (.aload_n 0, 1) := by decide +kernel
theorem d_K_run_1 : decode b_K_run 1 = .ok (.dup, 1) := by decide +kernel
theorem d_K_run_2 : decode b_K_run 2 = .ok (.getfield 38, 3) := by decide +kernel
theorem d_K_run_5 : decode b_K_run 5 = .ok (.iload_n 2, 1) := by decide +kernel
theorem d_K_run_6 : decode b_K_run 6 = .ok (.iadd, 1) := by decide +kernel
theorem d_K_run_7 : decode b_K_run 7 = .ok (.putfield 38, 3) := by decide +kernel
theorem d_K_run_10 : decode b_K_run 10 = .ok (.aload_n 0, 1) := by decide +kernel
theorem d_K_run_11 : decode b_K_run 11 = .ok (.dup, 1) := by decide +kernel
theorem d_K_run_12 : decode b_K_run 12 = .ok (.getfield 41, 3) := by decide +kernel
theorem d_K_run_15 : decode b_K_run 15 = .ok (.iload_n 2, 1) := by decide +kernel
theorem d_K_run_16 : decode b_K_run 16 = .ok (.isub, 1) := by decide +kernel
theorem d_K_run_17 : decode b_K_run 17 = .ok (.putfield 41, 3) := by decide +kernel
theorem d_K_run_20 : decode b_K_run 20 = .ok (.aload_n 0, 1) := by decide +kernel
theorem d_K_run_21 : decode b_K_run 21 = .ok (.getfield 41, 3) := by decide +kernel
theorem d_K_run_24 : decode b_K_run 24 = .ok (.ifCond .ne 8, 3) := by decide +kernel
theorem d_K_run_27 : decode b_K_run 27 = .ok (.aload_n 0, 1) := by decide +kernel
theorem d_K_run_28 : decode b_K_run 28 = .ok (.aload_n 1, 1) := by decide +kernel
theorem d_K_run_29 : decode b_K_run 29 = .ok (.invokevirtual 74, 3) := by decide +kernel
theorem d_K_run_32 : decode b_K_run 32 = .ok (.return_, 1) := by decide +kernel
theorem d_K_beginSegment_0 : decode b_K_beginSegment 0 = .ok (.aload_n 0, 1) := by decide +kernel
theorem d_K_beginSegment_1 : decode b_K_beginSegment 1 = .ok (.invokevirtual 78, 3) := by decide +kernel
theorem d_K_beginSegment_4 : decode b_K_beginSegment 4 = .ok (.astore_n 1, 1) := by decide +kernel
theorem d_K_beginSegment_5 : decode b_K_beginSegment 5 = .ok (.aload_n 1, 1) := by decide +kernel
theorem d_K_beginSegment_6 : decode b_K_beginSegment 6 = .ok (.ifnonnull 4, 3) := by decide +kernel
theorem d_K_beginSegment_9 : decode b_K_beginSegment 9 = .ok (.return_, 1) := by decide +kernel
theorem d_K_beginSegment_10 : decode b_K_beginSegment 10 = .ok (.aload_n 0, 1) := by decide +kernel
theorem d_K_beginSegment_11 : decode b_K_beginSegment 11 = .ok (.getfield 48, 3) := by decide +kernel
theorem d_K_beginSegment_14 : decode b_K_beginSegment 14 = .ok (.ifnull 27, 3) := by decide +kernel
theorem d_K_beginSegment_17 : decode b_K_beginSegment 17 = .ok (.aload_n 0, 1) := by decide +kernel
theorem d_K_beginSegment_18 : decode b_K_beginSegment 18 = .ok (.getfield 48, 3) := by decide +kernel
theorem d_K_beginSegment_21 : decode b_K_beginSegment 21 = .ok (.aload_n 1, 1) := by decide +kernel
theorem d_K_beginSegment_22 : decode b_K_beginSegment 22 = .ok (.if_acmp .eq 19, 3) := by decide +kernel
theorem d_K_beginSegment_25 : decode b_K_beginSegment 25 = .ok (.aload_n 0, 1) := by decide +kernel
theorem d_K_beginSegment_26 : decode b_K_beginSegment 26 = .ok (.getfield 48, 3) := by decide +kernel
theorem d_K_beginSegment_29 : decode b_K_beginSegment 29 = .ok (.getfield 23, 3) := by decide +kernel
theorem d_K_beginSegment_32 : decode b_K_beginSegment 32 = .ok (.dup, 1) := by decide +kernel
theorem d_K_beginSegment_33 : decode b_K_beginSegment 33 = .ok (.getfield 82, 3) := by decide +kernel
theorem d_K_beginSegment_36 : decode b_K_beginSegment 36 = .ok (.iconst 1, 1) := by decide +kernel
theorem d_K_beginSegment_37 : decode b_K_beginSegment 37 = .ok (.iadd, 1) := by decide +kernel
theorem d_K_beginSegment_38 : decode b_K_beginSegment 38 = .ok (.putfield 82, 3) := by decide +kernel
theorem d_K_beginSegment_41 : decode b_K_beginSegment 41 = .ok (.aload_n 0, 1) := by decide +kernel
theorem d_K_beginSegment_42 : decode b_K_beginSegment 42 = .ok (.aconst_null, 1) := by decide +kernel
theorem d_K_beginSegment_43 : decode b_K_beginSegment 43 = .ok (.putfield 48, 3) := by decide +kernel
theorem d_K_beginSegment_46 : decode b_K_beginSegment 46 = .ok (.aload_n 0, 1) := by decide +kernel
theorem d_K_beginSegment_47 : decode b_K_beginSegment 47 = .ok (.aload_n 1, 1) := by decide +kernel
theorem d_K_beginSegment_48 : decode b_K_beginSegment 48 = .ok (.putfield 44, 3) := by decide +kernel
theorem d_K_beginSegment_51 : decode b_K_beginSegment 51 = .ok (.aload_n 0, 1) := by decide +kernel
theorem d_K_beginSegment_52 : decode b_K_beginSegment 52 = .ok (.aload_n 1, 1) := by decide +kernel
theorem d_K_beginSegment_53 : decode b_K_beginSegment 53 = .ok (.aload_n 1, 1) := by decide +kernel
theorem d_K_beginSegment_54 : decode b_K_beginSegment 54 = .ok (.getfield 23, 3) := by decide +kernel
theorem d_K_beginSegment_57 : decode b_K_beginSegment 57 = .ok (.getfield 85, 3) := by decide +kernel
theorem d_K_beginSegment_60 : decode b_K_beginSegment 60 = .ok (.invokevirtual 88, 3) := by decide +kernel
theorem d_K_beginSegment_63 : decode b_K_beginSegment 63 = .ok (.putfield 41, 3) := by decide +kernel
theorem d_K_beginSegment_66 : decode b_K_beginSegment 66 = .ok (.return_, 1) := by decide +kernel
theorem d_K_endSegment_0 : decode b_K_endSegment 0 = .ok (.aload_n 0, 1) := by decide +kernel
theorem d_K_endSegment_1 : decode b_K_endSegment 1 = .ok (.aconst_null, 1) := by decide +kernel
theorem d_K_endSegment_2 : decode b_K_endSegment 2 = .ok (.putfield 44, 3) := by decide +kernel
theorem d_K_endSegment_5 : decode b_K_endSegment 5 = .ok (.aload_n 1, 1) := by decide +kernel
theorem d_K_endSegment_6 : decode b_K_endSegment 6 = .ok (.getfield 23, 3) := by decide +kernel
theorem d_K_endSegment_9 : decode b_K_endSegment 9 = .ok (.dup, 1) := by decide +kernel
theorem d_K_endSegment_10 : decode b_K_endSegment 10 = .ok (.getfield 85, 3) := by decide +kernel
theorem d_K_endSegment_13 : decode b_K_endSegment 13 = .ok (.iconst 1, 1) := by decide +kernel
theorem d_K_endSegment_14 : decode b_K_endSegment 14 = .ok (.iadd, 1) := by decide +kernel
theorem d_K_endSegment_15 : decode b_K_endSegment 15 = .ok (.putfield 85, 3) := by decide +kernel
theorem d_K_endSegment_18 : decode b_K_endSegment 18 = .ok (.aload_n 1, 1) := by decide +kernel
theorem d_K_endSegment_19 : decode b_K_endSegment 19 = .ok (.getfield 23, 3) := by decide +kernel
theorem d_K_endSegment_22 : decode b_K_endSegment 22 = .ok (.getfield 85, 3) := by decide +kernel
theorem d_K_endSegment_25 : decode b_K_endSegment 25 = .ok (.aload_n 1, 1) := by decide +kernel
theorem d_K_endSegment_26 : decode b_K_endSegment 26 = .ok (.getfield 92, 3) := by decide +kernel
theorem d_K_endSegment_29 : decode b_K_endSegment 29 = .ok (.if_icmp .ge 11, 3) := by decide +kernel
theorem d_K_endSegment_32 : decode b_K_endSegment 32 = .ok (.aload_n 0, 1) := by decide +kernel
theorem d_K_endSegment_33 : decode b_K_endSegment 33 = .ok (.aload_n 1, 1) := by decide +kernel
theorem d_K_endSegment_34 : decode b_K_endSegment 34 = .ok (.putfield 48, 3) := by decide +kernel
theorem d_K_endSegment_37 : decode b_K_endSegment 37 = .ok (.goto 18, 3) := by decide +kernel
theorem d_K_endSegment_40 : decode b_K_endSegment 40 = .ok (.aload_n 1, 1) := by decide +kernel
theorem d_K_endSegment_41 : decode b_K_endSegment 41 = .ok (.getfield 23, 3) := by decide +kernel
theorem d_K_endSegment_44 : decode b_K_endSegment 44 = .ok (.aload_n 0, 1) := by decide +kernel
theorem d_K_endSegment_45 : decode b_K_endSegment 45 = .ok (.getfield 38, 3) := by decide +kernel
theorem d_K_endSegment_48 : decode b_K_endSegment 48 = .ok (.aload_n 1, 1) := by decide +kernel
theorem d_K_endSegment_49 : decode b_K_endSegment 49 = .ok (.getfield 95, 3) := by decide +kernel
theorem d_K_endSegment_52 : decode b_K_endSegment 52 = .ok (.invokevirtual 98, 3) := by decide +kernel
theorem d_K_endSegment_55 : decode b_K_endSegment 55 = .ok (.return_, 1) := by decide +kernel
theorem d_K_highestWithJob_0 : decode b_K_highestWithJob 0 = .ok (.iconst 0, 1) := by decide +kernel
theorem d_K_highestWithJob_1 : decode b_K_highestWithJob 1 = .ok (.istore_n 1, 1) := by decide +kernel
theorem d_K_highestWithJob_2 : decode b_K_highestWithJob 2 = .ok (.iload_n 1, 1) := by decide +kernel
theorem d_K_highestWithJob_3 : decode b_K_highestWithJob 3 = .ok (.aload_n 0, 1) := by decide +kernel
theorem d_K_highestWithJob_4 : decode b_K_highestWithJob 4 = .ok (.getfield 7, 3) := by decide +kernel
theorem d_K_highestWithJob_7 : decode b_K_highestWithJob 7 = .ok (.getfield 13, 3) := by decide +kernel
theorem d_K_highestWithJob_10 : decode b_K_highestWithJob 10 = .ok (.if_icmp .ge 37, 3) := by decide +kernel
theorem d_K_highestWithJob_13 : decode b_K_highestWithJob 13 = .ok (.aload_n 0, 1) := by decide +kernel
theorem d_K_highestWithJob_14 : decode b_K_highestWithJob 14 = .ok (.getfield 7, 3) := by decide +kernel
theorem d_K_highestWithJob_17 : decode b_K_highestWithJob 17 = .ok (.getfield 19, 3) := by decide +kernel
theorem d_K_highestWithJob_20 : decode b_K_highestWithJob 20 = .ok (.iload_n 1, 1) := by decide +kernel
theorem d_K_highestWithJob_21 : decode b_K_highestWithJob 21 = .ok (.aaload, 1) := by decide +kernel
theorem d_K_highestWithJob_22 : decode b_K_highestWithJob 22 = .ok (.getfield 23, 3) := by decide +kernel
theorem d_K_highestWithJob_25 : decode b_K_highestWithJob 25 = .ok (.invokevirtual 102, 3) := by decide +kernel
theorem d_K_highestWithJob_28 : decode b_K_highestWithJob 28 = .ok (.ifCond .eq 13, 3) := by decide +kernel
theorem d_K_highestWithJob_31 : decode b_K_highestWithJob 31 = .ok (.aload_n 0, 1) := by decide +kernel
theorem d_K_highestWithJob_32 : decode b_K_highestWithJob 32 = .ok (.getfield 7, 3) := by decide +kernel
theorem d_K_highestWithJob_35 : decode b_K_highestWithJob 35 = .ok (.getfield 19, 3) := by decide +kernel
theorem d_K_highestWithJob_38 : decode b_K_highestWithJob 38 = .ok (.iload_n 1, 1) := by decide +kernel
theorem d_K_highestWithJob_39 : decode b_K_highestWithJob 39 = .ok (.aaload, 1) := by decide +kernel
theorem d_K_highestWithJob_40 : decode b_K_highestWithJob 40 = .ok (.areturn, 1) := by decide +kernel
theorem d_K_highestWithJob_41 : decode b_K_highestWithJob 41 = .ok (.iinc 1 1, 3) := by decide +kernel
theorem d_K_highestWithJob_44 : decode b_K_highestWithJob 44 = .ok (.goto (-42), 3) := by decide +kernel
