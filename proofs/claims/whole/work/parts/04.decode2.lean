theorem d_Mo_isDone_1 : decode c_Mo_isDone 1 = .ok (.istore_n 1, 1) := by decide +kernel
theorem d_Mo_isDone_2 : decode c_Mo_isDone 2 = .ok (.iconst 0, 1) := by decide +kernel
theorem d_Mo_isDone_3 : decode c_Mo_isDone 3 = .ok (.istore_n 2, 1) := by decide +kernel
theorem d_Mo_isDone_4 : decode c_Mo_isDone 4 = .ok (.iload_n 2, 1) := by decide +kernel
theorem d_Mo_isDone_5 : decode c_Mo_isDone 5 = .ok (.aload_n 0, 1) := by decide +kernel
theorem d_Mo_isDone_6 : decode c_Mo_isDone 6 = .ok (.getfield 73, 3) := by decide +kernel
theorem d_Mo_isDone_9 : decode c_Mo_isDone 9 = .ok (.if_icmp .ge 33, 3) := by decide +kernel
theorem d_Mo_isDone_12 : decode c_Mo_isDone 12 = .ok (.iload_n 1, 1) := by decide +kernel
theorem d_Mo_isDone_13 : decode c_Mo_isDone 13 = .ok (.ifCond .eq 21, 3) := by decide +kernel
theorem d_Mo_isDone_16 : decode c_Mo_isDone 16 = .ok (.aload_n 0, 1) := by decide +kernel
theorem d_Mo_isDone_17 : decode c_Mo_isDone 17 = .ok (.getfield 56, 3) := by decide +kernel
theorem d_Mo_isDone_20 : decode c_Mo_isDone 20 = .ok (.iload_n 2, 1) := by decide +kernel
theorem d_Mo_isDone_21 : decode c_Mo_isDone 21 = .ok (.iaload, 1) := by decide +kernel
theorem d_Mo_isDone_22 : decode c_Mo_isDone 22 = .ok (.aload_n 0, 1) := by decide +kernel
theorem d_Mo_isDone_23 : decode c_Mo_isDone 23 = .ok (.iload_n 2, 1) := by decide +kernel
theorem d_Mo_isDone_24 : decode c_Mo_isDone 24 = .ok (.invokevirtual 143, 3) := by decide +kernel
theorem d_Mo_isDone_27 : decode c_Mo_isDone 27 = .ok (.if_icmp .ne 7, 3) := by decide +kernel
theorem d_Mo_isDone_30 : decode c_Mo_isDone 30 = .ok (.iconst 1, 1) := by decide +kernel
theorem d_Mo_isDone_31 : decode c_Mo_isDone 31 = .ok (.goto 4, 3) := by decide +kernel
theorem d_Mo_isDone_34 : decode c_Mo_isDone 34 = .ok (.iconst 0, 1) := by decide +kernel
theorem d_Mo_isDone_35 : decode c_Mo_isDone 35 = .ok (.istore_n 1, 1) := by decide +kernel
theorem d_Mo_isDone_36 : decode c_Mo_isDone 36 = .ok (.iinc 2 1, 3) := by decide +kernel
theorem d_Mo_isDone_39 : decode c_Mo_isDone 39 = .ok (.goto (-35), 3) := by decide +kernel
theorem d_Mo_isDone_42 : decode c_Mo_isDone 42 = .ok (.iload_n 1, 1) := by decide +kernel
theorem d_Mo_isDone_43 : decode c_Mo_isDone 43 = .ok (.ireturn, 1) := by decide +kernel
theorem d_Mo_isWorker_0 : decode c_Mo_isWorker 0 = .ok (.iload_n 1, 1) := by decide +kernel
theorem d_Mo_isWorker_1 : decode c_Mo_isWorker 1 = .ok (.ifCond .lt 15, 3) := by decide +kernel
theorem d_Mo_isWorker_4 : decode c_Mo_isWorker 4 = .ok (.iload_n 1, 1) := by decide +kernel
theorem d_Mo_isWorker_5 : decode c_Mo_isWorker 5 = .ok (.aload_n 0, 1) := by decide +kernel
theorem d_Mo_isWorker_6 : decode c_Mo_isWorker 6 = .ok (.getfield 73, 3) := by decide +kernel
theorem d_Mo_isWorker_9 : decode c_Mo_isWorker 9 = .ok (.if_icmp .ge 7, 3) := by decide +kernel
theorem d_Mo_isWorker_12 : decode c_Mo_isWorker 12 = .ok (.iconst 1, 1) := by decide +kernel
theorem d_Mo_isWorker_13 : decode c_Mo_isWorker 13 = .ok (.goto 4, 3) := by decide +kernel
theorem d_Mo_isWorker_16 : decode c_Mo_isWorker 16 = .ok (.iconst 0, 1) := by decide +kernel
theorem d_Mo_isWorker_17 : decode c_Mo_isWorker 17 = .ok (.ireturn, 1) := by decide +kernel
theorem d_Mo_start_0 : decode c_Mo_start 0 = .ok (.aload_n 0, 1) := by decide +kernel
theorem d_Mo_start_1 : decode c_Mo_start 1 = .ok (.getfield 130, 3) := by decide +kernel
theorem d_Mo_start_4 : decode c_Mo_start 4 = .ok (.ifCond .ne 6, 3) := by decide +kernel
theorem d_Mo_start_7 : decode c_Mo_start 7 = .ok (.bipush (-4), 2) := by decide +kernel
theorem d_Mo_start_9 : decode c_Mo_start 9 = .ok (.ireturn, 1) := by decide +kernel
theorem d_Mo_start_10 : decode c_Mo_start 10 = .ok (.iload_n 1, 1) := by decide +kernel
theorem d_Mo_start_11 : decode c_Mo_start 11 = .ok (.iconst 1, 1) := by decide +kernel
theorem d_Mo_start_12 : decode c_Mo_start 12 = .ok (.if_icmp .lt 8, 3) := by decide +kernel
theorem d_Mo_start_15 : decode c_Mo_start 15 = .ok (.iload_n 1, 1) := by decide +kernel
theorem d_Mo_start_16 : decode c_Mo_start 16 = .ok (.iconst 4, 1) := by decide +kernel
theorem d_Mo_start_17 : decode c_Mo_start 17 = .ok (.if_icmp .le 5, 3) := by decide +kernel
theorem d_Mo_start_20 : decode c_Mo_start 20 = .ok (.iconst (-1), 1) := by decide +kernel
theorem d_Mo_start_21 : decode c_Mo_start 21 = .ok (.ireturn, 1) := by decide +kernel
theorem d_Mo_start_22 : decode c_Mo_start 22 = .ok (.aload_n 0, 1) := by decide +kernel
theorem d_Mo_start_23 : decode c_Mo_start 23 = .ok (.iload_n 1, 1) := by decide +kernel
theorem d_Mo_start_24 : decode c_Mo_start 24 = .ok (.putfield 73, 3) := by decide +kernel
theorem d_Mo_start_27 : decode c_Mo_start 27 = .ok (.iconst 0, 1) := by decide +kernel
theorem d_Mo_start_28 : decode c_Mo_start 28 = .ok (.istore_n 2, 1) := by decide +kernel
theorem d_Mo_start_29 : decode c_Mo_start 29 = .ok (.iload_n 2, 1) := by decide +kernel
theorem d_Mo_start_30 : decode c_Mo_start 30 = .ok (.iconst 4, 1) := by decide +kernel
theorem d_Mo_start_31 : decode c_Mo_start 31 = .ok (.if_icmp .ge 16, 3) := by decide +kernel
theorem d_Mo_start_34 : decode c_Mo_start 34 = .ok (.aload_n 0, 1) := by decide +kernel
theorem d_Mo_start_35 : decode c_Mo_start 35 = .ok (.getfield 56, 3) := by decide +kernel
theorem d_Mo_start_38 : decode c_Mo_start 38 = .ok (.iload_n 2, 1) := by decide +kernel
theorem d_Mo_start_39 : decode c_Mo_start 39 = .ok (.iconst 0, 1) := by decide +kernel
theorem d_Mo_start_40 : decode c_Mo_start 40 = .ok (.iastore, 1) := by decide +kernel
theorem d_Mo_start_41 : decode c_Mo_start 41 = .ok (.iinc 2 1, 3) := by decide +kernel
theorem d_Mo_start_44 : decode c_Mo_start 44 = .ok (.goto (-15), 3) := by decide +kernel
theorem d_Mo_start_47 : decode c_Mo_start 47 = .ok (.aload_n 0, 1) := by decide +kernel
theorem d_Mo_start_48 : decode c_Mo_start 48 = .ok (.getfield 65, 3) := by decide +kernel
theorem d_Mo_start_51 : decode c_Mo_start 51 = .ok (.ireturn, 1) := by decide +kernel
theorem d_Mo_work_0 : decode c_Mo_work 0 = .ok (.aload_n 0, 1) := by decide +kernel
theorem d_Mo_work_1 : decode c_Mo_work 1 = .ok (.getfield 73, 3) := by decide +kernel
theorem d_Mo_work_4 : decode c_Mo_work 4 = .ok (.ifCond .ne 6, 3) := by decide +kernel
theorem d_Mo_work_7 : decode c_Mo_work 7 = .ok (.bipush (-4), 2) := by decide +kernel
theorem d_Mo_work_9 : decode c_Mo_work 9 = .ok (.ireturn, 1) := by decide +kernel
theorem d_Mo_work_10 : decode c_Mo_work 10 = .ok (.aload_n 0, 1) := by decide +kernel
theorem d_Mo_work_11 : decode c_Mo_work 11 = .ok (.iload_n 1, 1) := by decide +kernel
theorem d_Mo_work_12 : decode c_Mo_work 12 = .ok (.invokevirtual 146, 3) := by decide +kernel
theorem d_Mo_work_15 : decode c_Mo_work 15 = .ok (.ifCond .ne 5, 3) := by decide +kernel
theorem d_Mo_work_18 : decode c_Mo_work 18 = .ok (.iconst (-1), 1) := by decide +kernel
theorem d_Mo_work_19 : decode c_Mo_work 19 = .ok (.ireturn, 1) := by decide +kernel
theorem d_Mo_work_20 : decode c_Mo_work 20 = .ok (.aload_n 0, 1) := by decide +kernel
theorem d_Mo_work_21 : decode c_Mo_work 21 = .ok (.getfield 56, 3) := by decide +kernel
theorem d_Mo_work_24 : decode c_Mo_work 24 = .ok (.iload_n 1, 1) := by decide +kernel
theorem d_Mo_work_25 : decode c_Mo_work 25 = .ok (.iaload, 1) := by decide +kernel
theorem d_Mo_work_26 : decode c_Mo_work 26 = .ok (.aload_n 0, 1) := by decide +kernel
theorem d_Mo_work_27 : decode c_Mo_work 27 = .ok (.iload_n 1, 1) := by decide +kernel
theorem d_Mo_work_28 : decode c_Mo_work 28 = .ok (.invokevirtual 143, 3) := by decide +kernel
theorem d_Mo_work_31 : decode c_Mo_work 31 = .ok (.if_icmp .ne 6, 3) := by decide +kernel
theorem d_Mo_work_34 : decode c_Mo_work 34 = .ok (.bipush (-5), 2) := by decide +kernel
theorem d_Mo_work_36 : decode c_Mo_work 36 = .ok (.ireturn, 1) := by decide +kernel
theorem d_Mo_work_37 : decode c_Mo_work 37 = .ok (.iload_n 1, 1) := by decide +kernel
theorem d_Mo_work_38 : decode c_Mo_work 38 = .ok (.aload_n 0, 1) := by decide +kernel
theorem d_Mo_work_39 : decode c_Mo_work 39 = .ok (.getfield 56, 3) := by decide +kernel
theorem d_Mo_work_42 : decode c_Mo_work 42 = .ok (.iload_n 1, 1) := by decide +kernel
theorem d_Mo_work_43 : decode c_Mo_work 43 = .ok (.iaload, 1) := by decide +kernel
theorem d_Mo_work_44 : decode c_Mo_work 44 = .ok (.aload_n 0, 1) := by decide +kernel
theorem d_Mo_work_45 : decode c_Mo_work 45 = .ok (.getfield 73, 3) := by decide +kernel
theorem d_Mo_work_48 : decode c_Mo_work 48 = .ok (.imul, 1) := by decide +kernel
theorem d_Mo_work_49 : decode c_Mo_work 49 = .ok (.iadd, 1) := by decide +kernel
theorem d_Mo_work_50 : decode c_Mo_work 50 = .ok (.istore_n 2, 1) := by decide +kernel
theorem d_Mo_work_51 : decode c_Mo_work 51 = .ok (.aload_n 0, 1) := by decide +kernel
theorem d_Mo_work_52 : decode c_Mo_work 52 = .ok (.getfield 56, 3) := by decide +kernel
theorem d_Mo_work_55 : decode c_Mo_work 55 = .ok (.iload_n 1, 1) := by decide +kernel
theorem d_Mo_work_56 : decode c_Mo_work 56 = .ok (.dup2, 1) := by decide +kernel
theorem d_Mo_work_57 : decode c_Mo_work 57 = .ok (.iaload, 1) := by decide +kernel
theorem d_Mo_work_58 : decode c_Mo_work 58 = .ok (.iconst 1, 1) := by decide +kernel
theorem d_Mo_work_59 : decode c_Mo_work 59 = .ok (.iadd, 1) := by decide +kernel
theorem d_Mo_work_60 : decode c_Mo_work 60 = .ok (.iastore, 1) := by decide +kernel
theorem d_Mo_work_61 : decode c_Mo_work 61 = .ok (.iconst 0, 1) := by decide +kernel
theorem d_Mo_work_62 : decode c_Mo_work 62 = .ok (.istore_n 3, 1) := by decide +kernel
theorem d_Mo_work_63 : decode c_Mo_work 63 = .ok (.iconst 0, 1) := by decide +kernel
theorem d_Mo_work_64 : decode c_Mo_work 64 = .ok (.istore 4, 2) := by decide +kernel
theorem d_Mo_work_66 : decode c_Mo_work 66 = .ok (.iload 4, 2) := by decide +kernel
theorem d_Mo_work_68 : decode c_Mo_work 68 = .ok (.iload_n 2, 1) := by decide +kernel
theorem d_Mo_work_69 : decode c_Mo_work 69 = .ok (.if_icmp .ge 31, 3) := by decide +kernel
theorem d_Mo_work_72 : decode c_Mo_work 72 = .ok (.aload_n 0, 1) := by decide +kernel
theorem d_Mo_work_73 : decode c_Mo_work 73 = .ok (.iload 4, 2) := by decide +kernel
theorem d_Mo_work_75 : decode c_Mo_work 75 = .ok (.iload_n 2, 1) := by decide +kernel
theorem d_Mo_work_76 : decode c_Mo_work 76 = .ok (.invokevirtual 140, 3) := by decide +kernel
theorem d_Mo_work_79 : decode c_Mo_work 79 = .ok (.istore 5, 2) := by decide +kernel
theorem d_Mo_work_81 : decode c_Mo_work 81 = .ok (.iload_n 3, 1) := by decide +kernel
theorem d_Mo_work_82 : decode c_Mo_work 82 = .ok (.iload 5, 2) := by decide +kernel
theorem d_Mo_work_84 : decode c_Mo_work 84 = .ok (.ifCond .eq 7, 3) := by decide +kernel
theorem d_Mo_work_87 : decode c_Mo_work 87 = .ok (.iconst 1, 1) := by decide +kernel
theorem d_Mo_work_88 : decode c_Mo_work 88 = .ok (.goto 4, 3) := by decide +kernel
theorem d_Mo_work_91 : decode c_Mo_work 91 = .ok (.iconst 0, 1) := by decide +kernel
theorem d_Mo_work_92 : decode c_Mo_work 92 = .ok (.iadd, 1) := by decide +kernel
theorem d_Mo_work_93 : decode c_Mo_work 93 = .ok (.istore_n 3, 1) := by decide +kernel
theorem d_Mo_work_94 : decode c_Mo_work 94 = .ok (.iinc 4 1, 3) := by decide +kernel
theorem d_Mo_work_97 : decode c_Mo_work 97 = .ok (.goto (-31), 3) := by decide +kernel
theorem d_Mo_work_100 : decode c_Mo_work 100 = .ok (.iload_n 3, 1) := by decide +kernel
theorem d_Mo_work_101 : decode c_Mo_work 101 = .ok (.ireturn, 1) := by decide +kernel
theorem d_Mo_crash_0 : decode c_Mo_crash 0 = .ok (.aload_n 0, 1) := by decide +kernel
theorem d_Mo_crash_1 : decode c_Mo_crash 1 = .ok (.getfield 73, 3) := by decide +kernel
theorem d_Mo_crash_4 : decode c_Mo_crash 4 = .ok (.ifCond .ne 6, 3) := by decide +kernel
theorem d_Mo_crash_7 : decode c_Mo_crash 7 = .ok (.bipush (-4), 2) := by decide +kernel
theorem d_Mo_crash_9 : decode c_Mo_crash 9 = .ok (.ireturn, 1) := by decide +kernel
theorem d_Mo_crash_10 : decode c_Mo_crash 10 = .ok (.aload_n 0, 1) := by decide +kernel
theorem d_Mo_crash_11 : decode c_Mo_crash 11 = .ok (.iload_n 1, 1) := by decide +kernel
theorem d_Mo_crash_12 : decode c_Mo_crash 12 = .ok (.invokevirtual 146, 3) := by decide +kernel
theorem d_Mo_crash_15 : decode c_Mo_crash 15 = .ok (.ifCond .ne 5, 3) := by decide +kernel
theorem d_Mo_crash_18 : decode c_Mo_crash 18 = .ok (.iconst (-1), 1) := by decide +kernel
theorem d_Mo_crash_19 : decode c_Mo_crash 19 = .ok (.ireturn, 1) := by decide +kernel
theorem d_Mo_crash_20 : decode c_Mo_crash 20 = .ok (.aload_n 0, 1) := by decide +kernel
theorem d_Mo_crash_21 : decode c_Mo_crash 21 = .ok (.invokevirtual 149, 3) := by decide +kernel
theorem d_Mo_crash_24 : decode c_Mo_crash 24 = .ok (.ifCond .eq 6, 3) := by decide +kernel
theorem d_Mo_crash_27 : decode c_Mo_crash 27 = .ok (.bipush (-5), 2) := by decide +kernel
theorem d_Mo_crash_29 : decode c_Mo_crash 29 = .ok (.ireturn, 1) := by decide +kernel
theorem d_Mo_crash_30 : decode c_Mo_crash 30 = .ok (.aload_n 0, 1) := by decide +kernel
theorem d_Mo_crash_31 : decode c_Mo_crash 31 = .ok (.getfield 56, 3) := by decide +kernel
theorem d_Mo_crash_34 : decode c_Mo_crash 34 = .ok (.iload_n 1, 1) := by decide +kernel
theorem d_Mo_crash_35 : decode c_Mo_crash 35 = .ok (.iaload, 1) := by decide +kernel
theorem d_Mo_crash_36 : decode c_Mo_crash 36 = .ok (.istore_n 2, 1) := by decide +kernel
theorem d_Mo_crash_37 : decode c_Mo_crash 37 = .ok (.aload_n 0, 1) := by decide +kernel
theorem d_Mo_crash_38 : decode c_Mo_crash 38 = .ok (.getfield 56, 3) := by decide +kernel
theorem d_Mo_crash_41 : decode c_Mo_crash 41 = .ok (.iload_n 1, 1) := by decide +kernel
theorem d_Mo_crash_42 : decode c_Mo_crash 42 = .ok (.iconst 0, 1) := by decide +kernel
theorem d_Mo_crash_43 : decode c_Mo_crash 43 = .ok (.iastore, 1) := by decide +kernel
theorem d_Mo_crash_44 : decode c_Mo_crash 44 = .ok (.iload_n 2, 1) := by decide +kernel
theorem d_Mo_crash_45 : decode c_Mo_crash 45 = .ok (.ireturn, 1) := by decide +kernel
theorem d_Mo_isFound_0 : decode c_Mo_isFound 0 = .ok (.iload_n 1, 1) := by decide +kernel
theorem d_Mo_isFound_1 : decode c_Mo_isFound 1 = .ok (.iload_n 2, 1) := by decide +kernel
theorem d_Mo_isFound_2 : decode c_Mo_isFound 2 = .ok (.if_icmp .ge 7, 3) := by decide +kernel
theorem d_Mo_isFound_5 : decode c_Mo_isFound 5 = .ok (.iload_n 1, 1) := by decide +kernel
theorem d_Mo_isFound_6 : decode c_Mo_isFound 6 = .ok (.goto 4, 3) := by decide +kernel
theorem d_Mo_isFound_9 : decode c_Mo_isFound 9 = .ok (.iload_n 2, 1) := by decide +kernel
theorem d_Mo_isFound_10 : decode c_Mo_isFound 10 = .ok (.istore_n 3, 1) := by decide +kernel
theorem d_Mo_isFound_11 : decode c_Mo_isFound 11 = .ok (.iload_n 1, 1) := by decide +kernel
theorem d_Mo_isFound_12 : decode c_Mo_isFound 12 = .ok (.iload_n 2, 1) := by decide +kernel
theorem d_Mo_isFound_13 : decode c_Mo_isFound 13 = .ok (.if_icmp .ge 7, 3) := by decide +kernel
theorem d_Mo_isFound_16 : decode c_Mo_isFound 16 = .ok (.iload_n 2, 1) := by decide +kernel
theorem d_Mo_isFound_17 : decode c_Mo_isFound 17 = .ok (.goto 4, 3) := by decide +kernel
theorem d_Mo_isFound_20 : decode c_Mo_isFound 20 = .ok (.iload_n 1, 1) := by decide +kernel
theorem d_Mo_isFound_21 : decode c_Mo_isFound 21 = .ok (.istore 4, 2) := by decide +kernel
theorem d_Mo_isFound_23 : decode c_Mo_isFound 23 = .ok (.iload 4, 2) := by decide +kernel
theorem d_Mo_isFound_25 : decode c_Mo_isFound 25 = .ok (.aload_n 0, 1) := by decide +kernel
theorem d_Mo_isFound_26 : decode c_Mo_isFound 26 = .ok (.getfield 73, 3) := by decide +kernel
theorem d_Mo_isFound_29 : decode c_Mo_isFound 29 = .ok (.idiv, 1) := by decide +kernel
theorem d_Mo_isFound_30 : decode c_Mo_isFound 30 = .ok (.aload_n 0, 1) := by decide +kernel
theorem d_Mo_isFound_31 : decode c_Mo_isFound 31 = .ok (.getfield 56, 3) := by decide +kernel
theorem d_Mo_isFound_34 : decode c_Mo_isFound 34 = .ok (.iload 4, 2) := by decide +kernel
theorem d_Mo_isFound_36 : decode c_Mo_isFound 36 = .ok (.aload_n 0, 1) := by decide +kernel
theorem d_Mo_isFound_37 : decode c_Mo_isFound 37 = .ok (.getfield 73, 3) := by decide +kernel
theorem d_Mo_isFound_40 : decode c_Mo_isFound 40 = .ok (.irem, 1) := by decide +kernel
theorem d_Mo_isFound_41 : decode c_Mo_isFound 41 = .ok (.iaload, 1) := by decide +kernel
theorem d_Mo_isFound_42 : decode c_Mo_isFound 42 = .ok (.if_icmp .ge 17, 3) := by decide +kernel
theorem d_Mo_isFound_45 : decode c_Mo_isFound 45 = .ok (.aload_n 0, 1) := by decide +kernel
theorem d_Mo_isFound_46 : decode c_Mo_isFound 46 = .ok (.iload_n 3, 1) := by decide +kernel
theorem d_Mo_isFound_47 : decode c_Mo_isFound 47 = .ok (.iload 4, 2) := by decide +kernel
theorem d_Mo_isFound_49 : decode c_Mo_isFound 49 = .ok (.invokevirtual 140, 3) := by decide +kernel
theorem d_Mo_isFound_52 : decode c_Mo_isFound 52 = .ok (.ifCond .eq 7, 3) := by decide +kernel
theorem d_Mo_isFound_55 : decode c_Mo_isFound 55 = .ok (.iconst 1, 1) := by decide +kernel
theorem d_Mo_isFound_56 : decode c_Mo_isFound 56 = .ok (.goto 4, 3) := by decide +kernel
theorem d_Mo_isFound_59 : decode c_Mo_isFound 59 = .ok (.iconst 0, 1) := by decide +kernel
theorem d_Mo_isFound_60 : decode c_Mo_isFound 60 = .ok (.ireturn, 1) := by decide +kernel
theorem d_Mo_pairs_0 : decode c_Mo_pairs 0 = .ok (.aload_n 0, 1) := by decide +kernel
theorem d_Mo_pairs_1 : decode c_Mo_pairs 1 = .ok (.getfield 73, 3) := by decide +kernel
theorem d_Mo_pairs_4 : decode c_Mo_pairs 4 = .ok (.ifCond .ne 6, 3) := by decide +kernel
theorem d_Mo_pairs_7 : decode c_Mo_pairs 7 = .ok (.bipush (-4), 2) := by decide +kernel
theorem d_Mo_pairs_9 : decode c_Mo_pairs 9 = .ok (.ireturn, 1) := by decide +kernel
theorem d_Mo_pairs_10 : decode c_Mo_pairs 10 = .ok (.iconst 0, 1) := by decide +kernel
theorem d_Mo_pairs_11 : decode c_Mo_pairs 11 = .ok (.istore_n 1, 1) := by decide +kernel
theorem d_Mo_pairs_12 : decode c_Mo_pairs 12 = .ok (.iconst 0, 1) := by decide +kernel
theorem d_Mo_pairs_13 : decode c_Mo_pairs 13 = .ok (.istore_n 2, 1) := by decide +kernel
theorem d_Mo_pairs_14 : decode c_Mo_pairs 14 = .ok (.iload_n 2, 1) := by decide +kernel
theorem d_Mo_pairs_15 : decode c_Mo_pairs 15 = .ok (.aload_n 0, 1) := by decide +kernel
theorem d_Mo_pairs_16 : decode c_Mo_pairs 16 = .ok (.getfield 65, 3) := by decide +kernel
theorem d_Mo_pairs_19 : decode c_Mo_pairs 19 = .ok (.if_icmp .ge 43, 3) := by decide +kernel
theorem d_Mo_pairs_22 : decode c_Mo_pairs 22 = .ok (.iconst 0, 1) := by decide +kernel
theorem d_Mo_pairs_23 : decode c_Mo_pairs 23 = .ok (.istore_n 3, 1) := by decide +kernel
theorem d_Mo_pairs_24 : decode c_Mo_pairs 24 = .ok (.iload_n 3, 1) := by decide +kernel
theorem d_Mo_pairs_25 : decode c_Mo_pairs 25 = .ok (.iload_n 2, 1) := by decide +kernel
theorem d_Mo_pairs_26 : decode c_Mo_pairs 26 = .ok (.if_icmp .ge 30, 3) := by decide +kernel
theorem d_Mo_pairs_29 : decode c_Mo_pairs 29 = .ok (.aload_n 0, 1) := by decide +kernel
theorem d_Mo_pairs_30 : decode c_Mo_pairs 30 = .ok (.iload_n 3, 1) := by decide +kernel
theorem d_Mo_pairs_31 : decode c_Mo_pairs 31 = .ok (.iload_n 2, 1) := by decide +kernel
theorem d_Mo_pairs_32 : decode c_Mo_pairs 32 = .ok (.invokevirtual 152, 3) := by decide +kernel
theorem d_Mo_pairs_35 : decode c_Mo_pairs 35 = .ok (.istore 4, 2) := by decide +kernel
theorem d_Mo_pairs_37 : decode c_Mo_pairs 37 = .ok (.iload_n 1, 1) := by decide +kernel
theorem d_Mo_pairs_38 : decode c_Mo_pairs 38 = .ok (.iload 4, 2) := by decide +kernel
theorem d_Mo_pairs_40 : decode c_Mo_pairs 40 = .ok (.ifCond .eq 7, 3) := by decide +kernel
theorem d_Mo_pairs_43 : decode c_Mo_pairs 43 = .ok (.iconst 1, 1) := by decide +kernel
theorem d_Mo_pairs_44 : decode c_Mo_pairs 44 = .ok (.goto 4, 3) := by decide +kernel
theorem d_Mo_pairs_47 : decode c_Mo_pairs 47 = .ok (.iconst 0, 1) := by decide +kernel
theorem d_Mo_pairs_48 : decode c_Mo_pairs 48 = .ok (.iadd, 1) := by decide +kernel
theorem d_Mo_pairs_49 : decode c_Mo_pairs 49 = .ok (.istore_n 1, 1) := by decide +kernel
theorem d_Mo_pairs_50 : decode c_Mo_pairs 50 = .ok (.iinc 3 1, 3) := by decide +kernel
theorem d_Mo_pairs_53 : decode c_Mo_pairs 53 = .ok (.goto (-29), 3) := by decide +kernel
theorem d_Mo_pairs_56 : decode c_Mo_pairs 56 = .ok (.iinc 2 1, 3) := by decide +kernel
theorem d_Mo_pairs_59 : decode c_Mo_pairs 59 = .ok (.goto (-45), 3) := by decide +kernel
theorem d_Mo_pairs_62 : decode c_Mo_pairs 62 = .ok (.iload_n 1, 1) := by decide +kernel
theorem d_Mo_pairs_63 : decode c_Mo_pairs 63 = .ok (.ireturn, 1) := by decide +kernel
theorem d_Mo_found_0 : decode c_Mo_found 0 = .ok (.aload_n 0, 1) := by decide +kernel
theorem d_Mo_found_1 : decode c_Mo_found 1 = .ok (.getfield 73, 3) := by decide +kernel
theorem d_Mo_found_4 : decode c_Mo_found 4 = .ok (.ifCond .ne 6, 3) := by decide +kernel
theorem d_Mo_found_7 : decode c_Mo_found 7 = .ok (.bipush (-4), 2) := by decide +kernel
theorem d_Mo_found_9 : decode c_Mo_found 9 = .ok (.ireturn, 1) := by decide +kernel
theorem d_Mo_found_10 : decode c_Mo_found 10 = .ok (.aload_n 0, 1) := by decide +kernel
theorem d_Mo_found_11 : decode c_Mo_found 11 = .ok (.iload_n 1, 1) := by decide +kernel
theorem d_Mo_found_12 : decode c_Mo_found 12 = .ok (.invokevirtual 95, 3) := by decide +kernel
theorem d_Mo_found_15 : decode c_Mo_found 15 = .ok (.ifCond .eq 16, 3) := by decide +kernel
theorem d_Mo_found_18 : decode c_Mo_found 18 = .ok (.aload_n 0, 1) := by decide +kernel
theorem d_Mo_found_19 : decode c_Mo_found 19 = .ok (.iload_n 2, 1) := by decide +kernel
theorem d_Mo_found_20 : decode c_Mo_found 20 = .ok (.invokevirtual 95, 3) := by decide +kernel
theorem d_Mo_found_23 : decode c_Mo_found 23 = .ok (.ifCond .eq 8, 3) := by decide +kernel
theorem d_Mo_found_26 : decode c_Mo_found 26 = .ok (.iload_n 1, 1) := by decide +kernel
theorem d_Mo_found_27 : decode c_Mo_found 27 = .ok (.iload_n 2, 1) := by decide +kernel
theorem d_Mo_found_28 : decode c_Mo_found 28 = .ok (.if_icmp .ne 5, 3) := by decide +kernel
theorem d_Mo_found_31 : decode c_Mo_found 31 = .ok (.iconst (-1), 1) := by decide +kernel
theorem d_Mo_found_32 : decode c_Mo_found 32 = .ok (.ireturn, 1) := by decide +kernel
theorem d_Mo_found_33 : decode c_Mo_found 33 = .ok (.aload_n 0, 1) := by decide +kernel
theorem d_Mo_found_34 : decode c_Mo_found 34 = .ok (.iload_n 1, 1) := by decide +kernel
theorem d_Mo_found_35 : decode c_Mo_found 35 = .ok (.iload_n 2, 1) := by decide +kernel
theorem d_Mo_found_36 : decode c_Mo_found 36 = .ok (.invokevirtual 152, 3) := by decide +kernel
theorem d_Mo_found_39 : decode c_Mo_found 39 = .ok (.ifCond .eq 7, 3) := by decide +kernel
theorem d_Mo_found_42 : decode c_Mo_found 42 = .ok (.iconst 1, 1) := by decide +kernel
theorem d_Mo_found_43 : decode c_Mo_found 43 = .ok (.goto 4, 3) := by decide +kernel
theorem d_Mo_found_46 : decode c_Mo_found 46 = .ok (.iconst 0, 1) := by decide +kernel
theorem d_Mo_found_47 : decode c_Mo_found 47 = .ok (.ireturn, 1) := by decide +kernel
theorem d_Mo_spread_0 : decode c_Mo_spread 0 = .ok (.iconst 0, 1) := by decide +kernel
theorem d_Mo_spread_1 : decode c_Mo_spread 1 = .ok (.istore_n 1, 1) := by decide +kernel
theorem d_Mo_spread_2 : decode c_Mo_spread 2 = .ok (.iload_n 1, 1) := by decide +kernel
theorem d_Mo_spread_3 : decode c_Mo_spread 3 = .ok (.aload_n 0, 1) := by decide +kernel
theorem d_Mo_spread_4 : decode c_Mo_spread 4 = .ok (.getfield 65, 3) := by decide +kernel
theorem d_Mo_spread_7 : decode c_Mo_spread 7 = .ok (.if_icmp .ge 16, 3) := by decide +kernel
theorem d_Mo_spread_10 : decode c_Mo_spread 10 = .ok (.aload_n 0, 1) := by decide +kernel
theorem d_Mo_spread_11 : decode c_Mo_spread 11 = .ok (.getfield 62, 3) := by decide +kernel
theorem d_Mo_spread_14 : decode c_Mo_spread 14 = .ok (.iload_n 1, 1) := by decide +kernel
theorem d_Mo_spread_15 : decode c_Mo_spread 15 = .ok (.iload_n 1, 1) := by decide +kernel
theorem d_Mo_spread_16 : decode c_Mo_spread 16 = .ok (.iastore, 1) := by decide +kernel
theorem d_Mo_spread_17 : decode c_Mo_spread 17 = .ok (.iinc 1 1, 3) := by decide +kernel
theorem d_Mo_spread_20 : decode c_Mo_spread 20 = .ok (.goto (-18), 3) := by decide +kernel
theorem d_Mo_spread_23 : decode c_Mo_spread 23 = .ok (.iconst 1, 1) := by decide +kernel
theorem d_Mo_spread_24 : decode c_Mo_spread 24 = .ok (.istore_n 1, 1) := by decide +kernel
theorem d_Mo_spread_25 : decode c_Mo_spread 25 = .ok (.iload_n 1, 1) := by decide +kernel
theorem d_Mo_spread_26 : decode c_Mo_spread 26 = .ok (.ifCond .eq 90, 3) := by decide +kernel
theorem d_Mo_spread_29 : decode c_Mo_spread 29 = .ok (.iconst 0, 1) := by decide +kernel
theorem d_Mo_spread_30 : decode c_Mo_spread 30 = .ok (.istore_n 1, 1) := by decide +kernel
theorem d_Mo_spread_31 : decode c_Mo_spread 31 = .ok (.iconst 0, 1) := by decide +kernel
theorem d_Mo_spread_32 : decode c_Mo_spread 32 = .ok (.istore_n 2, 1) := by decide +kernel
theorem d_Mo_spread_33 : decode c_Mo_spread 33 = .ok (.iload_n 2, 1) := by decide +kernel
theorem d_Mo_spread_34 : decode c_Mo_spread 34 = .ok (.aload_n 0, 1) := by decide +kernel
theorem d_Mo_spread_35 : decode c_Mo_spread 35 = .ok (.getfield 65, 3) := by decide +kernel
theorem d_Mo_spread_38 : decode c_Mo_spread 38 = .ok (.if_icmp .ge 75, 3) := by decide +kernel
theorem d_Mo_spread_41 : decode c_Mo_spread 41 = .ok (.iconst 0, 1) := by decide +kernel
theorem d_Mo_spread_42 : decode c_Mo_spread 42 = .ok (.istore_n 3, 1) := by decide +kernel
theorem d_Mo_spread_43 : decode c_Mo_spread 43 = .ok (.iload_n 3, 1) := by decide +kernel
theorem d_Mo_spread_44 : decode c_Mo_spread 44 = .ok (.aload_n 0, 1) := by decide +kernel
theorem d_Mo_spread_45 : decode c_Mo_spread 45 = .ok (.getfield 65, 3) := by decide +kernel
theorem d_Mo_spread_48 : decode c_Mo_spread 48 = .ok (.if_icmp .ge 59, 3) := by decide +kernel
theorem d_Mo_spread_51 : decode c_Mo_spread 51 = .ok (.aload_n 0, 1) := by decide +kernel
theorem d_Mo_spread_52 : decode c_Mo_spread 52 = .ok (.getfield 62, 3) := by decide +kernel
theorem d_Mo_spread_55 : decode c_Mo_spread 55 = .ok (.iload_n 3, 1) := by decide +kernel
theorem d_Mo_spread_56 : decode c_Mo_spread 56 = .ok (.iaload, 1) := by decide +kernel
theorem d_Mo_spread_57 : decode c_Mo_spread 57 = .ok (.aload_n 0, 1) := by decide +kernel
theorem d_Mo_spread_58 : decode c_Mo_spread 58 = .ok (.getfield 62, 3) := by decide +kernel
theorem d_Mo_spread_61 : decode c_Mo_spread 61 = .ok (.iload_n 2, 1) := by decide +kernel
theorem d_Mo_spread_62 : decode c_Mo_spread 62 = .ok (.iaload, 1) := by decide +kernel
theorem d_Mo_spread_63 : decode c_Mo_spread 63 = .ok (.if_icmp .ge 7, 3) := by decide +kernel
theorem d_Mo_spread_66 : decode c_Mo_spread 66 = .ok (.iconst 1, 1) := by decide +kernel
theorem d_Mo_spread_67 : decode c_Mo_spread 67 = .ok (.goto 4, 3) := by decide +kernel
theorem d_Mo_spread_70 : decode c_Mo_spread 70 = .ok (.iconst 0, 1) := by decide +kernel
theorem d_Mo_spread_71 : decode c_Mo_spread 71 = .ok (.istore 4, 2) := by decide +kernel
theorem d_Mo_spread_73 : decode c_Mo_spread 73 = .ok (.iload 4, 2) := by decide +kernel
theorem d_Mo_spread_75 : decode c_Mo_spread 75 = .ok (.ifCond .eq 26, 3) := by decide +kernel
theorem d_Mo_spread_78 : decode c_Mo_spread 78 = .ok (.aload_n 0, 1) := by decide +kernel
theorem d_Mo_spread_79 : decode c_Mo_spread 79 = .ok (.iload_n 2, 1) := by decide +kernel
theorem d_Mo_spread_80 : decode c_Mo_spread 80 = .ok (.iload_n 3, 1) := by decide +kernel
theorem d_Mo_spread_81 : decode c_Mo_spread 81 = .ok (.invokevirtual 152, 3) := by decide +kernel
theorem d_Mo_spread_84 : decode c_Mo_spread 84 = .ok (.ifCond .eq 17, 3) := by decide +kernel
theorem d_Mo_spread_87 : decode c_Mo_spread 87 = .ok (.aload_n 0, 1) := by decide +kernel
theorem d_Mo_spread_88 : decode c_Mo_spread 88 = .ok (.getfield 62, 3) := by decide +kernel
theorem d_Mo_spread_91 : decode c_Mo_spread 91 = .ok (.iload_n 2, 1) := by decide +kernel
theorem d_Mo_spread_92 : decode c_Mo_spread 92 = .ok (.aload_n 0, 1) := by decide +kernel
theorem d_Mo_spread_93 : decode c_Mo_spread 93 = .ok (.getfield 62, 3) := by decide +kernel
theorem d_Mo_spread_96 : decode c_Mo_spread 96 = .ok (.iload_n 3, 1) := by decide +kernel
theorem d_Mo_spread_97 : decode c_Mo_spread 97 = .ok (.iaload, 1) := by decide +kernel
theorem d_Mo_spread_98 : decode c_Mo_spread 98 = .ok (.iastore, 1) := by decide +kernel
theorem d_Mo_spread_99 : decode c_Mo_spread 99 = .ok (.iconst 1, 1) := by decide +kernel
theorem d_Mo_spread_100 : decode c_Mo_spread 100 = .ok (.istore_n 1, 1) := by decide +kernel
theorem d_Mo_spread_101 : decode c_Mo_spread 101 = .ok (.iinc 3 1, 3) := by decide +kernel
theorem d_Mo_spread_104 : decode c_Mo_spread 104 = .ok (.goto (-61), 3) := by decide +kernel
theorem d_Mo_spread_107 : decode c_Mo_spread 107 = .ok (.iinc 2 1, 3) := by decide +kernel
theorem d_Mo_spread_110 : decode c_Mo_spread 110 = .ok (.goto (-77), 3) := by decide +kernel
theorem d_Mo_spread_113 : decode c_Mo_spread 113 = .ok (.goto (-88), 3) := by decide +kernel
theorem d_Mo_spread_116 : decode c_Mo_spread 116 = .ok (.return_, 1) := by decide +kernel
theorem d_Mo_cluster_0 : decode c_Mo_cluster 0 = .ok (.aload_n 0, 1) := by decide +kernel
theorem d_Mo_cluster_1 : decode c_Mo_cluster 1 = .ok (.getfield 73, 3) := by decide +kernel
theorem d_Mo_cluster_4 : decode c_Mo_cluster 4 = .ok (.ifCond .ne 6, 3) := by decide +kernel
theorem d_Mo_cluster_7 : decode c_Mo_cluster 7 = .ok (.bipush (-4), 2) := by decide +kernel
theorem d_Mo_cluster_9 : decode c_Mo_cluster 9 = .ok (.ireturn, 1) := by decide +kernel
theorem d_Mo_cluster_10 : decode c_Mo_cluster 10 = .ok (.aload_n 0, 1) := by decide +kernel
theorem d_Mo_cluster_11 : decode c_Mo_cluster 11 = .ok (.iload_n 1, 1) := by decide +kernel
theorem d_Mo_cluster_12 : decode c_Mo_cluster 12 = .ok (.invokevirtual 95, 3) := by decide +kernel
theorem d_Mo_cluster_15 : decode c_Mo_cluster 15 = .ok (.ifCond .ne 5, 3) := by decide +kernel
theorem d_Mo_cluster_18 : decode c_Mo_cluster 18 = .ok (.iconst (-1), 1) := by decide +kernel
theorem d_Mo_cluster_19 : decode c_Mo_cluster 19 = .ok (.ireturn, 1) := by decide +kernel
theorem d_Mo_cluster_20 : decode c_Mo_cluster 20 = .ok (.aload_n 0, 1) := by decide +kernel
theorem d_Mo_cluster_21 : decode c_Mo_cluster 21 = .ok (.invokevirtual 149, 3) := by decide +kernel
theorem d_Mo_cluster_24 : decode c_Mo_cluster 24 = .ok (.ifCond .ne 6, 3) := by decide +kernel
theorem d_Mo_cluster_27 : decode c_Mo_cluster 27 = .ok (.bipush (-6), 2) := by decide +kernel
theorem d_Mo_cluster_29 : decode c_Mo_cluster 29 = .ok (.ireturn, 1) := by decide +kernel
theorem d_Mo_cluster_30 : decode c_Mo_cluster 30 = .ok (.aload_n 0, 1) := by decide +kernel
theorem d_Mo_cluster_31 : decode c_Mo_cluster 31 = .ok (.invokevirtual 155, 3) := by decide +kernel
theorem d_Mo_cluster_34 : decode c_Mo_cluster 34 = .ok (.aload_n 0, 1) := by decide +kernel
theorem d_Mo_cluster_35 : decode c_Mo_cluster 35 = .ok (.getfield 62, 3) := by decide +kernel
theorem d_Mo_cluster_38 : decode c_Mo_cluster 38 = .ok (.iload_n 1, 1) := by decide +kernel
theorem d_Mo_cluster_39 : decode c_Mo_cluster 39 = .ok (.iaload, 1) := by decide +kernel
theorem d_Mo_cluster_40 : decode c_Mo_cluster 40 = .ok (.ireturn, 1) := by decide +kernel
theorem d_Mo_keep_0 : decode c_Mo_keep 0 = .ok (.iload_n 1, 1) := by decide +kernel
theorem d_Mo_keep_1 : decode c_Mo_keep 1 = .ok (.invokestatic 69, 3) := by decide +kernel
theorem d_Mo_keep_4 : decode c_Mo_keep 4 = .ok (.ifCond .eq 12, 3) := by decide +kernel
theorem d_Mo_keep_7 : decode c_Mo_keep 7 = .ok (.iload_n 2, 1) := by decide +kernel
theorem d_Mo_keep_8 : decode c_Mo_keep 8 = .ok (.ifCond .lt 8, 3) := by decide +kernel
theorem d_Mo_keep_11 : decode c_Mo_keep 11 = .ok (.iload_n 2, 1) := by decide +kernel
theorem d_Mo_keep_12 : decode c_Mo_keep 12 = .ok (.iconst 2, 1) := by decide +kernel
theorem d_Mo_keep_13 : decode c_Mo_keep 13 = .ok (.if_icmp .le 5, 3) := by decide +kernel
theorem d_Mo_keep_16 : decode c_Mo_keep 16 = .ok (.iconst 0, 1) := by decide +kernel
theorem d_Mo_keep_17 : decode c_Mo_keep 17 = .ok (.ireturn, 1) := by decide +kernel
theorem d_Mo_keep_18 : decode c_Mo_keep 18 = .ok (.aload_n 0, 1) := by decide +kernel
theorem d_Mo_keep_19 : decode c_Mo_keep 19 = .ok (.getfield 59, 3) := by decide +kernel
theorem d_Mo_keep_22 : decode c_Mo_keep 22 = .ok (.iload_n 1, 1) := by decide +kernel
theorem d_Mo_keep_23 : decode c_Mo_keep 23 = .ok (.iload_n 2, 1) := by decide +kernel
theorem d_Mo_keep_24 : decode c_Mo_keep 24 = .ok (.iastore, 1) := by decide +kernel
theorem d_Mo_keep_25 : decode c_Mo_keep 25 = .ok (.iconst 1, 1) := by decide +kernel
theorem d_Mo_keep_26 : decode c_Mo_keep 26 = .ok (.ireturn, 1) := by decide +kernel
theorem d_Mo_sizeOf_0 : decode c_Mo_sizeOf 0 = .ok (.aload_n 0, 1) := by decide +kernel
theorem d_Mo_sizeOf_1 : decode c_Mo_sizeOf 1 = .ok (.iconst 0, 1) := by decide +kernel
theorem d_Mo_sizeOf_2 : decode c_Mo_sizeOf 2 = .ok (.iload_n 1, 1) := by decide +kernel
theorem d_Mo_sizeOf_3 : decode c_Mo_sizeOf 3 = .ok (.iload_n 2, 1) := by decide +kernel
theorem d_Mo_sizeOf_4 : decode c_Mo_sizeOf 4 = .ok (.invokevirtual 98, 3) := by decide +kernel
theorem d_Mo_sizeOf_7 : decode c_Mo_sizeOf 7 = .ok (.aload_n 0, 1) := by decide +kernel
theorem d_Mo_sizeOf_8 : decode c_Mo_sizeOf 8 = .ok (.getfield 19, 3) := by decide +kernel
theorem d_Mo_sizeOf_11 : decode c_Mo_sizeOf 11 = .ok (.iconst 0, 1) := by decide +kernel
theorem d_Mo_sizeOf_12 : decode c_Mo_sizeOf 12 = .ok (.iaload, 1) := by decide +kernel
theorem d_Mo_sizeOf_13 : decode c_Mo_sizeOf 13 = .ok (.ireturn, 1) := by decide +kernel
theorem d_Mo_compare_0 : decode c_Mo_compare 0 = .ok (.aload_n 0, 1) := by decide +kernel
theorem d_Mo_compare_1 : decode c_Mo_compare 1 = .ok (.iconst 0, 1) := by decide +kernel
theorem d_Mo_compare_2 : decode c_Mo_compare 2 = .ok (.iload_n 1, 1) := by decide +kernel
theorem d_Mo_compare_3 : decode c_Mo_compare 3 = .ok (.iload_n 3, 1) := by decide +kernel
theorem d_Mo_compare_4 : decode c_Mo_compare 4 = .ok (.invokevirtual 98, 3) := by decide +kernel
theorem d_Mo_compare_7 : decode c_Mo_compare 7 = .ok (.aload_n 0, 1) := by decide +kernel
theorem d_Mo_compare_8 : decode c_Mo_compare 8 = .ok (.iconst 1, 1) := by decide +kernel
theorem d_Mo_compare_9 : decode c_Mo_compare 9 = .ok (.iload_n 2, 1) := by decide +kernel
theorem d_Mo_compare_10 : decode c_Mo_compare 10 = .ok (.iload_n 3, 1) := by decide +kernel
theorem d_Mo_compare_11 : decode c_Mo_compare 11 = .ok (.invokevirtual 98, 3) := by decide +kernel
theorem d_Mo_compare_14 : decode c_Mo_compare 14 = .ok (.iconst 0, 1) := by decide +kernel
theorem d_Mo_compare_15 : decode c_Mo_compare 15 = .ok (.istore 4, 2) := by decide +kernel
theorem d_Mo_compare_17 : decode c_Mo_compare 17 = .ok (.iload 4, 2) := by decide +kernel
theorem d_Mo_compare_19 : decode c_Mo_compare 19 = .ok (.bipush 12, 2) := by decide +kernel
theorem d_Mo_compare_21 : decode c_Mo_compare 21 = .ok (.if_icmp .ge 80, 3) := by decide +kernel
theorem d_Mo_compare_24 : decode c_Mo_compare 24 = .ok (.iload 4, 2) := by decide +kernel
theorem d_Mo_compare_26 : decode c_Mo_compare 26 = .ok (.aload_n 0, 1) := by decide +kernel
theorem d_Mo_compare_27 : decode c_Mo_compare 27 = .ok (.getfield 19, 3) := by decide +kernel
theorem d_Mo_compare_30 : decode c_Mo_compare 30 = .ok (.iconst 0, 1) := by decide +kernel
theorem d_Mo_compare_31 : decode c_Mo_compare 31 = .ok (.iaload, 1) := by decide +kernel
theorem d_Mo_compare_32 : decode c_Mo_compare 32 = .ok (.if_icmp .ge 13, 3) := by decide +kernel
theorem d_Mo_compare_35 : decode c_Mo_compare 35 = .ok (.aload_n 0, 1) := by decide +kernel
theorem d_Mo_compare_36 : decode c_Mo_compare 36 = .ok (.getfield 16, 3) := by decide +kernel
theorem d_Mo_compare_39 : decode c_Mo_compare 39 = .ok (.iload 4, 2) := by decide +kernel
theorem d_Mo_compare_41 : decode c_Mo_compare 41 = .ok (.iaload, 1) := by decide +kernel
theorem d_Mo_compare_42 : decode c_Mo_compare 42 = .ok (.goto 4, 3) := by decide +kernel
theorem d_Mo_compare_45 : decode c_Mo_compare 45 = .ok (.iconst (-1), 1) := by decide +kernel
theorem d_Mo_compare_46 : decode c_Mo_compare 46 = .ok (.istore 5, 2) := by decide +kernel
theorem d_Mo_compare_48 : decode c_Mo_compare 48 = .ok (.iload 4, 2) := by decide +kernel
theorem d_Mo_compare_50 : decode c_Mo_compare 50 = .ok (.aload_n 0, 1) := by decide +kernel
theorem d_Mo_compare_51 : decode c_Mo_compare 51 = .ok (.getfield 19, 3) := by decide +kernel
theorem d_Mo_compare_54 : decode c_Mo_compare 54 = .ok (.iconst 1, 1) := by decide +kernel
theorem d_Mo_compare_55 : decode c_Mo_compare 55 = .ok (.iaload, 1) := by decide +kernel
theorem d_Mo_compare_56 : decode c_Mo_compare 56 = .ok (.if_icmp .ge 16, 3) := by decide +kernel
theorem d_Mo_compare_59 : decode c_Mo_compare 59 = .ok (.aload_n 0, 1) := by decide +kernel
theorem d_Mo_compare_60 : decode c_Mo_compare 60 = .ok (.getfield 16, 3) := by decide +kernel
theorem d_Mo_compare_63 : decode c_Mo_compare 63 = .ok (.bipush 12, 2) := by decide +kernel
theorem d_Mo_compare_65 : decode c_Mo_compare 65 = .ok (.iload 4, 2) := by decide +kernel
theorem d_Mo_compare_67 : decode c_Mo_compare 67 = .ok (.iadd, 1) := by decide +kernel
theorem d_Mo_compare_68 : decode c_Mo_compare 68 = .ok (.iaload, 1) := by decide +kernel
theorem d_Mo_compare_69 : decode c_Mo_compare 69 = .ok (.goto 4, 3) := by decide +kernel
theorem d_Mo_compare_72 : decode c_Mo_compare 72 = .ok (.iconst (-1), 1) := by decide +kernel
theorem d_Mo_compare_73 : decode c_Mo_compare 73 = .ok (.istore 6, 2) := by decide +kernel
theorem d_Mo_compare_75 : decode c_Mo_compare 75 = .ok (.iload 5, 2) := by decide +kernel
theorem d_Mo_compare_77 : decode c_Mo_compare 77 = .ok (.iload 6, 2) := by decide +kernel
theorem d_Mo_compare_79 : decode c_Mo_compare 79 = .ok (.if_icmp .eq 16, 3) := by decide +kernel
theorem d_Mo_compare_82 : decode c_Mo_compare 82 = .ok (.iload 5, 2) := by decide +kernel
theorem d_Mo_compare_84 : decode c_Mo_compare 84 = .ok (.iload 6, 2) := by decide +kernel
theorem d_Mo_compare_86 : decode c_Mo_compare 86 = .ok (.if_icmp .ge 7, 3) := by decide +kernel
theorem d_Mo_compare_89 : decode c_Mo_compare 89 = .ok (.iconst (-1), 1) := by decide +kernel
theorem d_Mo_compare_90 : decode c_Mo_compare 90 = .ok (.goto 4, 3) := by decide +kernel
theorem d_Mo_compare_93 : decode c_Mo_compare 93 = .ok (.iconst 1, 1) := by decide +kernel
theorem d_Mo_compare_94 : decode c_Mo_compare 94 = .ok (.ireturn, 1) := by decide +kernel
theorem d_Mo_compare_95 : decode c_Mo_compare 95 = .ok (.iinc 4 1, 3) := by decide +kernel
theorem d_Mo_compare_98 : decode c_Mo_compare 98 = .ok (.goto (-81), 3) := by decide +kernel
theorem d_Mo_compare_101 : decode c_Mo_compare 101 = .ok (.iconst 0, 1) := by decide +kernel
theorem d_Mo_compare_102 : decode c_Mo_compare 102 = .ok (.ireturn, 1) := by decide +kernel
theorem d_Mo_same_0 : decode c_Mo_same 0 = .ok (.iconst 0, 1) := by decide +kernel
theorem d_Mo_same_1 : decode c_Mo_same 1 = .ok (.istore 4, 2) := by decide +kernel
theorem d_Mo_same_3 : decode c_Mo_same 3 = .ok (.iconst 0, 1) := by decide +kernel
theorem d_Mo_same_4 : decode c_Mo_same 4 = .ok (.istore 5, 2) := by decide +kernel
theorem d_Mo_same_6 : decode c_Mo_same 6 = .ok (.iload 5, 2) := by decide +kernel
theorem d_Mo_same_8 : decode c_Mo_same 8 = .ok (.aload_n 0, 1) := by decide +kernel
theorem d_Mo_same_9 : decode c_Mo_same 9 = .ok (.getfield 65, 3) := by decide +kernel
theorem d_Mo_same_12 : decode c_Mo_same 12 = .ok (.if_icmp .ge 53, 3) := by decide +kernel
theorem d_Mo_same_15 : decode c_Mo_same 15 = .ok (.aload_n 0, 1) := by decide +kernel
theorem d_Mo_same_16 : decode c_Mo_same 16 = .ok (.getfield 62, 3) := by decide +kernel
theorem d_Mo_same_19 : decode c_Mo_same 19 = .ok (.iload 5, 2) := by decide +kernel
theorem d_Mo_same_21 : decode c_Mo_same 21 = .ok (.iaload, 1) := by decide +kernel
theorem d_Mo_same_22 : decode c_Mo_same 22 = .ok (.iload_n 1, 1) := by decide +kernel
theorem d_Mo_same_23 : decode c_Mo_same 23 = .ok (.if_icmp .ne 18, 3) := by decide +kernel
theorem d_Mo_same_26 : decode c_Mo_same 26 = .ok (.aload_n 0, 1) := by decide +kernel
theorem d_Mo_same_27 : decode c_Mo_same 27 = .ok (.iload 5, 2) := by decide +kernel
theorem d_Mo_same_29 : decode c_Mo_same 29 = .ok (.iload_n 2, 1) := by decide +kernel
theorem d_Mo_same_30 : decode c_Mo_same 30 = .ok (.iload_n 3, 1) := by decide +kernel
theorem d_Mo_same_31 : decode c_Mo_same 31 = .ok (.invokevirtual 158, 3) := by decide +kernel
theorem d_Mo_same_34 : decode c_Mo_same 34 = .ok (.ifCond .ne 7, 3) := by decide +kernel
theorem d_Mo_same_37 : decode c_Mo_same 37 = .ok (.iconst 1, 1) := by decide +kernel
theorem d_Mo_same_38 : decode c_Mo_same 38 = .ok (.goto 4, 3) := by decide +kernel
theorem d_Mo_same_41 : decode c_Mo_same 41 = .ok (.iconst 0, 1) := by decide +kernel
theorem d_Mo_same_42 : decode c_Mo_same 42 = .ok (.istore 6, 2) := by decide +kernel
theorem d_Mo_same_44 : decode c_Mo_same 44 = .ok (.iload 4, 2) := by decide +kernel
theorem d_Mo_same_46 : decode c_Mo_same 46 = .ok (.iload 6, 2) := by decide +kernel
theorem d_Mo_same_48 : decode c_Mo_same 48 = .ok (.ifCond .eq 7, 3) := by decide +kernel
theorem d_Mo_same_51 : decode c_Mo_same 51 = .ok (.iconst 1, 1) := by decide +kernel
theorem d_Mo_same_52 : decode c_Mo_same 52 = .ok (.goto 4, 3) := by decide +kernel
theorem d_Mo_same_55 : decode c_Mo_same 55 = .ok (.iconst 0, 1) := by decide +kernel
theorem d_Mo_same_56 : decode c_Mo_same 56 = .ok (.iadd, 1) := by decide +kernel
theorem d_Mo_same_57 : decode c_Mo_same 57 = .ok (.istore 4, 2) := by decide +kernel
theorem d_Mo_same_59 : decode c_Mo_same 59 = .ok (.iinc 5 1, 3) := by decide +kernel
theorem d_Mo_same_62 : decode c_Mo_same 62 = .ok (.goto (-56), 3) := by decide +kernel
theorem d_Mo_same_65 : decode c_Mo_same 65 = .ok (.iload 4, 2) := by decide +kernel
theorem d_Mo_same_67 : decode c_Mo_same 67 = .ok (.ireturn, 1) := by decide +kernel
theorem d_Mo_better_0 : decode c_Mo_better 0 = .ok (.aload_n 0, 1) := by decide +kernel
theorem d_Mo_better_1 : decode c_Mo_better 1 = .ok (.iload_n 2, 1) := by decide +kernel
theorem d_Mo_better_2 : decode c_Mo_better 2 = .ok (.iload 4, 2) := by decide +kernel
theorem d_Mo_better_4 : decode c_Mo_better 4 = .ok (.invokevirtual 162, 3) := by decide +kernel
theorem d_Mo_better_7 : decode c_Mo_better 7 = .ok (.istore 5, 2) := by decide +kernel
theorem d_Mo_better_9 : decode c_Mo_better 9 = .ok (.aload_n 0, 1) := by decide +kernel
theorem d_Mo_better_10 : decode c_Mo_better 10 = .ok (.iload_n 3, 1) := by decide +kernel
theorem d_Mo_better_11 : decode c_Mo_better 11 = .ok (.iload 4, 2) := by decide +kernel
theorem d_Mo_better_13 : decode c_Mo_better 13 = .ok (.invokevirtual 162, 3) := by decide +kernel
theorem d_Mo_better_16 : decode c_Mo_better 16 = .ok (.istore 6, 2) := by decide +kernel
theorem d_Mo_better_18 : decode c_Mo_better 18 = .ok (.aload_n 0, 1) := by decide +kernel
theorem d_Mo_better_19 : decode c_Mo_better 19 = .ok (.getfield 59, 3) := by decide +kernel
theorem d_Mo_better_22 : decode c_Mo_better 22 = .ok (.iload 4, 2) := by decide +kernel
theorem d_Mo_better_24 : decode c_Mo_better 24 = .ok (.iaload, 1) := by decide +kernel
theorem d_Mo_better_25 : decode c_Mo_better 25 = .ok (.ifCond .ne 16, 3) := by decide +kernel
theorem d_Mo_better_28 : decode c_Mo_better 28 = .ok (.iload 5, 2) := by decide +kernel
theorem d_Mo_better_30 : decode c_Mo_better 30 = .ok (.iload 6, 2) := by decide +kernel
theorem d_Mo_better_32 : decode c_Mo_better 32 = .ok (.if_icmp .le 7, 3) := by decide +kernel
theorem d_Mo_better_35 : decode c_Mo_better 35 = .ok (.iconst 1, 1) := by decide +kernel
theorem d_Mo_better_36 : decode c_Mo_better 36 = .ok (.goto 4, 3) := by decide +kernel
theorem d_Mo_better_39 : decode c_Mo_better 39 = .ok (.iconst 0, 1) := by decide +kernel
theorem d_Mo_better_40 : decode c_Mo_better 40 = .ok (.ireturn, 1) := by decide +kernel
theorem d_Mo_better_41 : decode c_Mo_better 41 = .ok (.iload 5, 2) := by decide +kernel
theorem d_Mo_better_43 : decode c_Mo_better 43 = .ok (.ifCond .eq 8, 3) := by decide +kernel
theorem d_Mo_better_46 : decode c_Mo_better 46 = .ok (.iload 6, 2) := by decide +kernel
theorem d_Mo_better_48 : decode c_Mo_better 48 = .ok (.ifCond .ne 19, 3) := by decide +kernel
theorem d_Mo_better_51 : decode c_Mo_better 51 = .ok (.iload 6, 2) := by decide +kernel
theorem d_Mo_better_53 : decode c_Mo_better 53 = .ok (.ifCond .ne 12, 3) := by decide +kernel
theorem d_Mo_better_56 : decode c_Mo_better 56 = .ok (.iload 5, 2) := by decide +kernel
theorem d_Mo_better_58 : decode c_Mo_better 58 = .ok (.ifCond .le 7, 3) := by decide +kernel
theorem d_Mo_better_61 : decode c_Mo_better 61 = .ok (.iconst 1, 1) := by decide +kernel
theorem d_Mo_better_62 : decode c_Mo_better 62 = .ok (.goto 4, 3) := by decide +kernel
theorem d_Mo_better_65 : decode c_Mo_better 65 = .ok (.iconst 0, 1) := by decide +kernel
theorem d_Mo_better_66 : decode c_Mo_better 66 = .ok (.ireturn, 1) := by decide +kernel
theorem d_Mo_better_67 : decode c_Mo_better 67 = .ok (.aload_n 0, 1) := by decide +kernel
theorem d_Mo_better_68 : decode c_Mo_better 68 = .ok (.getfield 59, 3) := by decide +kernel
theorem d_Mo_better_71 : decode c_Mo_better 71 = .ok (.iload 4, 2) := by decide +kernel
theorem d_Mo_better_73 : decode c_Mo_better 73 = .ok (.iaload, 1) := by decide +kernel
theorem d_Mo_better_74 : decode c_Mo_better 74 = .ok (.iconst 2, 1) := by decide +kernel
theorem d_Mo_better_75 : decode c_Mo_better 75 = .ok (.if_icmp .ne 20, 3) := by decide +kernel
theorem d_Mo_better_78 : decode c_Mo_better 78 = .ok (.aload_n 0, 1) := by decide +kernel
theorem d_Mo_better_79 : decode c_Mo_better 79 = .ok (.iload_n 2, 1) := by decide +kernel
theorem d_Mo_better_80 : decode c_Mo_better 80 = .ok (.iload_n 3, 1) := by decide +kernel
theorem d_Mo_better_81 : decode c_Mo_better 81 = .ok (.iload 4, 2) := by decide +kernel
theorem d_Mo_better_83 : decode c_Mo_better 83 = .ok (.invokevirtual 158, 3) := by decide +kernel
theorem d_Mo_better_86 : decode c_Mo_better 86 = .ok (.ifCond .ge 7, 3) := by decide +kernel
theorem d_Mo_better_89 : decode c_Mo_better 89 = .ok (.iconst 1, 1) := by decide +kernel
theorem d_Mo_better_90 : decode c_Mo_better 90 = .ok (.goto 4, 3) := by decide +kernel
theorem d_Mo_better_93 : decode c_Mo_better 93 = .ok (.iconst 0, 1) := by decide +kernel
theorem d_Mo_better_94 : decode c_Mo_better 94 = .ok (.ireturn, 1) := by decide +kernel
theorem d_Mo_better_95 : decode c_Mo_better 95 = .ok (.aload_n 0, 1) := by decide +kernel
theorem d_Mo_better_96 : decode c_Mo_better 96 = .ok (.iload_n 1, 1) := by decide +kernel
theorem d_Mo_better_97 : decode c_Mo_better 97 = .ok (.iload_n 2, 1) := by decide +kernel
theorem d_Mo_better_98 : decode c_Mo_better 98 = .ok (.iload 4, 2) := by decide +kernel
theorem d_Mo_better_100 : decode c_Mo_better 100 = .ok (.invokevirtual 165, 3) := by decide +kernel
theorem d_Mo_better_103 : decode c_Mo_better 103 = .ok (.istore 7, 2) := by decide +kernel
theorem d_Mo_better_105 : decode c_Mo_better 105 = .ok (.iload 7, 2) := by decide +kernel
theorem d_Mo_better_107 : decode c_Mo_better 107 = .ok (.aload_n 0, 1) := by decide +kernel
theorem d_Mo_better_108 : decode c_Mo_better 108 = .ok (.iload_n 1, 1) := by decide +kernel
theorem d_Mo_better_109 : decode c_Mo_better 109 = .ok (.iload_n 3, 1) := by decide +kernel
theorem d_Mo_better_110 : decode c_Mo_better 110 = .ok (.iload 4, 2) := by decide +kernel
theorem d_Mo_better_112 : decode c_Mo_better 112 = .ok (.invokevirtual 165, 3) := by decide +kernel
theorem d_Mo_better_115 : decode c_Mo_better 115 = .ok (.if_icmp .le 7, 3) := by decide +kernel
theorem d_Mo_better_118 : decode c_Mo_better 118 = .ok (.iconst 1, 1) := by decide +kernel
theorem d_Mo_better_119 : decode c_Mo_better 119 = .ok (.goto 4, 3) := by decide +kernel
theorem d_Mo_better_122 : decode c_Mo_better 122 = .ok (.iconst 0, 1) := by decide +kernel
theorem d_Mo_better_123 : decode c_Mo_better 123 = .ok (.ireturn, 1) := by decide +kernel
theorem d_Mo_kept_0 : decode c_Mo_kept 0 = .ok (.aload_n 0, 1) := by decide +kernel
theorem d_Mo_kept_1 : decode c_Mo_kept 1 = .ok (.getfield 73, 3) := by decide +kernel
theorem d_Mo_kept_4 : decode c_Mo_kept 4 = .ok (.ifCond .ne 6, 3) := by decide +kernel
theorem d_Mo_kept_7 : decode c_Mo_kept 7 = .ok (.bipush (-4), 2) := by decide +kernel
theorem d_Mo_kept_9 : decode c_Mo_kept 9 = .ok (.ireturn, 1) := by decide +kernel
theorem d_Mo_kept_10 : decode c_Mo_kept 10 = .ok (.aload_n 0, 1) := by decide +kernel
theorem d_Mo_kept_11 : decode c_Mo_kept 11 = .ok (.iload_n 1, 1) := by decide +kernel
theorem d_Mo_kept_12 : decode c_Mo_kept 12 = .ok (.invokevirtual 95, 3) := by decide +kernel
theorem d_Mo_kept_15 : decode c_Mo_kept 15 = .ok (.ifCond .eq 10, 3) := by decide +kernel
theorem d_Mo_kept_18 : decode c_Mo_kept 18 = .ok (.iload_n 2, 1) := by decide +kernel
theorem d_Mo_kept_19 : decode c_Mo_kept 19 = .ok (.invokestatic 69, 3) := by decide +kernel
theorem d_Mo_kept_22 : decode c_Mo_kept 22 = .ok (.ifCond .ne 5, 3) := by decide +kernel
theorem d_Mo_kept_25 : decode c_Mo_kept 25 = .ok (.iconst (-1), 1) := by decide +kernel
theorem d_Mo_kept_26 : decode c_Mo_kept 26 = .ok (.ireturn, 1) := by decide +kernel
theorem d_Mo_kept_27 : decode c_Mo_kept 27 = .ok (.aload_n 0, 1) := by decide +kernel
theorem d_Mo_kept_28 : decode c_Mo_kept 28 = .ok (.invokevirtual 149, 3) := by decide +kernel
theorem d_Mo_kept_31 : decode c_Mo_kept 31 = .ok (.ifCond .ne 6, 3) := by decide +kernel
theorem d_Mo_kept_34 : decode c_Mo_kept 34 = .ok (.bipush (-6), 2) := by decide +kernel
theorem d_Mo_kept_36 : decode c_Mo_kept 36 = .ok (.ireturn, 1) := by decide +kernel
theorem d_Mo_kept_37 : decode c_Mo_kept 37 = .ok (.aload_n 0, 1) := by decide +kernel
theorem d_Mo_kept_38 : decode c_Mo_kept 38 = .ok (.invokevirtual 155, 3) := by decide +kernel
theorem d_Mo_kept_41 : decode c_Mo_kept 41 = .ok (.aload_n 0, 1) := by decide +kernel
theorem d_Mo_kept_42 : decode c_Mo_kept 42 = .ok (.getfield 62, 3) := by decide +kernel
theorem d_Mo_kept_45 : decode c_Mo_kept 45 = .ok (.iload_n 1, 1) := by decide +kernel
theorem d_Mo_kept_46 : decode c_Mo_kept 46 = .ok (.iaload, 1) := by decide +kernel
theorem d_Mo_kept_47 : decode c_Mo_kept 47 = .ok (.istore_n 3, 1) := by decide +kernel
theorem d_Mo_kept_48 : decode c_Mo_kept 48 = .ok (.iload_n 3, 1) := by decide +kernel
theorem d_Mo_kept_49 : decode c_Mo_kept 49 = .ok (.istore 4, 2) := by decide +kernel
theorem d_Mo_kept_51 : decode c_Mo_kept 51 = .ok (.iload_n 3, 1) := by decide +kernel
theorem d_Mo_kept_52 : decode c_Mo_kept 52 = .ok (.iconst 1, 1) := by decide +kernel
theorem d_Mo_kept_53 : decode c_Mo_kept 53 = .ok (.iadd, 1) := by decide +kernel
theorem d_Mo_kept_54 : decode c_Mo_kept 54 = .ok (.istore 5, 2) := by decide +kernel
theorem d_Mo_kept_56 : decode c_Mo_kept 56 = .ok (.iload 5, 2) := by decide +kernel
theorem d_Mo_kept_58 : decode c_Mo_kept 58 = .ok (.aload_n 0, 1) := by decide +kernel
theorem d_Mo_kept_59 : decode c_Mo_kept 59 = .ok (.getfield 65, 3) := by decide +kernel
theorem d_Mo_kept_62 : decode c_Mo_kept 62 = .ok (.if_icmp .ge 54, 3) := by decide +kernel
theorem d_Mo_kept_65 : decode c_Mo_kept 65 = .ok (.aload_n 0, 1) := by decide +kernel
theorem d_Mo_kept_66 : decode c_Mo_kept 66 = .ok (.getfield 62, 3) := by decide +kernel
theorem d_Mo_kept_69 : decode c_Mo_kept 69 = .ok (.iload 5, 2) := by decide +kernel
theorem d_Mo_kept_71 : decode c_Mo_kept 71 = .ok (.iaload, 1) := by decide +kernel
theorem d_Mo_kept_72 : decode c_Mo_kept 72 = .ok (.iload_n 3, 1) := by decide +kernel
theorem d_Mo_kept_73 : decode c_Mo_kept 73 = .ok (.if_icmp .ne 20, 3) := by decide +kernel
theorem d_Mo_kept_76 : decode c_Mo_kept 76 = .ok (.aload_n 0, 1) := by decide +kernel
theorem d_Mo_kept_77 : decode c_Mo_kept 77 = .ok (.iload_n 3, 1) := by decide +kernel
theorem d_Mo_kept_78 : decode c_Mo_kept 78 = .ok (.iload 5, 2) := by decide +kernel
theorem d_Mo_kept_80 : decode c_Mo_kept 80 = .ok (.iload 4, 2) := by decide +kernel
theorem d_Mo_kept_82 : decode c_Mo_kept 82 = .ok (.iload_n 2, 1) := by decide +kernel
theorem d_Mo_kept_83 : decode c_Mo_kept 83 = .ok (.invokevirtual 168, 3) := by decide +kernel
theorem d_Mo_kept_86 : decode c_Mo_kept 86 = .ok (.ifCond .eq 7, 3) := by decide +kernel
theorem d_Mo_kept_89 : decode c_Mo_kept 89 = .ok (.iconst 1, 1) := by decide +kernel
theorem d_Mo_kept_90 : decode c_Mo_kept 90 = .ok (.goto 4, 3) := by decide +kernel
theorem d_Mo_kept_93 : decode c_Mo_kept 93 = .ok (.iconst 0, 1) := by decide +kernel
theorem d_Mo_kept_94 : decode c_Mo_kept 94 = .ok (.istore 6, 2) := by decide +kernel
theorem d_Mo_kept_96 : decode c_Mo_kept 96 = .ok (.iload 6, 2) := by decide +kernel
theorem d_Mo_kept_98 : decode c_Mo_kept 98 = .ok (.ifCond .eq 8, 3) := by decide +kernel
theorem d_Mo_kept_101 : decode c_Mo_kept 101 = .ok (.iload 5, 2) := by decide +kernel
theorem d_Mo_kept_103 : decode c_Mo_kept 103 = .ok (.goto 5, 3) := by decide +kernel
theorem d_Mo_kept_106 : decode c_Mo_kept 106 = .ok (.iload 4, 2) := by decide +kernel
theorem d_Mo_kept_108 : decode c_Mo_kept 108 = .ok (.istore 4, 2) := by decide +kernel
theorem d_Mo_kept_110 : decode c_Mo_kept 110 = .ok (.iinc 5 1, 3) := by decide +kernel
theorem d_Mo_kept_113 : decode c_Mo_kept 113 = .ok (.goto (-57), 3) := by decide +kernel
theorem d_Mo_kept_116 : decode c_Mo_kept 116 = .ok (.iload 4, 2) := by decide +kernel
theorem d_Mo_kept_118 : decode c_Mo_kept 118 = .ok (.ireturn, 1) := by decide +kernel
theorem d_Ed_init_0 : decode c_Ed_init 0 = .ok (.aload_n 0, 1) := by decide +kernel
theorem d_Ed_init_1 : decode c_Ed_init 1 = .ok (.iconst 1, 1) := by decide +kernel
theorem d_Ed_init_2 : decode c_Ed_init 2 = .ok (.iconst 0, 1) := by decide +kernel
theorem d_Ed_init_3 : decode c_Ed_init 3 = .ok (.invokespecial 3, 3) := by decide +kernel
theorem d_Ed_init_6 : decode c_Ed_init 6 = .ok (.aload_n 0, 1) := by decide +kernel
theorem d_Ed_init_7 : decode c_Ed_init 7 = .ok (.bipush 13, 2) := by decide +kernel
theorem d_Ed_init_9 : decode c_Ed_init 9 = .ok (.newarray .int, 2) := by decide +kernel
theorem d_Ed_init_11 : decode c_Ed_init 11 = .ok (.putfield 9, 3) := by decide +kernel
theorem d_Ed_init_14 : decode c_Ed_init 14 = .ok (.aload_n 0, 1) := by decide +kernel
theorem d_Ed_init_15 : decode c_Ed_init 15 = .ok (.iload_n 1, 1) := by decide +kernel
theorem d_Ed_init_16 : decode c_Ed_init 16 = .ok (.putfield 15, 3) := by decide +kernel
theorem d_Ed_init_19 : decode c_Ed_init 19 = .ok (.aload_n 0, 1) := by decide +kernel
theorem d_Ed_init_20 : decode c_Ed_init 20 = .ok (.iload_n 2, 1) := by decide +kernel
theorem d_Ed_init_21 : decode c_Ed_init 21 = .ok (.putfield 19, 3) := by decide +kernel
theorem d_Ed_init_24 : decode c_Ed_init 24 = .ok (.return_, 1) := by decide +kernel
theorem d_Ed_holdsOf_0 : decode c_Ed_holdsOf 0 = .ok (.aload_n 0, 1) := by decide +kernel
theorem d_Ed_holdsOf_1 : decode c_Ed_holdsOf 1 = .ok (.aload_n 1, 1) := by decide +kernel
theorem d_Ed_holdsOf_2 : decode c_Ed_holdsOf 2 = .ok (.aload_n 0, 1) := by decide +kernel
theorem d_Ed_holdsOf_3 : decode c_Ed_holdsOf 3 = .ok (.getfield 15, 3) := by decide +kernel
theorem d_Ed_holdsOf_6 : decode c_Ed_holdsOf 6 = .ok (.invokevirtual 22, 3) := by decide +kernel
theorem d_Ed_holdsOf_9 : decode c_Ed_holdsOf 9 = .ok (.aload_n 2, 1) := by decide +kernel
theorem d_Ed_holdsOf_10 : decode c_Ed_holdsOf 10 = .ok (.aload_n 0, 1) := by decide +kernel
theorem d_Ed_holdsOf_11 : decode c_Ed_holdsOf 11 = .ok (.getfield 15, 3) := by decide +kernel
theorem d_Ed_holdsOf_14 : decode c_Ed_holdsOf 14 = .ok (.invokevirtual 22, 3) := by decide +kernel
theorem d_Ed_holdsOf_17 : decode c_Ed_holdsOf 17 = .ok (.invokevirtual 28, 3) := by decide +kernel
theorem d_Ed_holdsOf_20 : decode c_Ed_holdsOf 20 = .ok (.aload_n 0, 1) := by decide +kernel
theorem d_Ed_holdsOf_21 : decode c_Ed_holdsOf 21 = .ok (.getfield 19, 3) := by decide +kernel
theorem d_Ed_holdsOf_24 : decode c_Ed_holdsOf 24 = .ok (.if_icmp .gt 7, 3) := by decide +kernel
theorem d_Ed_holdsOf_27 : decode c_Ed_holdsOf 27 = .ok (.iconst 1, 1) := by decide +kernel
theorem d_Ed_holdsOf_28 : decode c_Ed_holdsOf 28 = .ok (.goto 4, 3) := by decide +kernel
theorem d_Ed_holdsOf_31 : decode c_Ed_holdsOf 31 = .ok (.iconst 0, 1) := by decide +kernel
theorem d_Ed_holdsOf_32 : decode c_Ed_holdsOf 32 = .ok (.ireturn, 1) := by decide +kernel
theorem d_Ed_countSteps_0 : decode c_Ed_countSteps 0 = .ok (.iconst 0, 1) := by decide +kernel
theorem d_Ed_countSteps_1 : decode c_Ed_countSteps 1 = .ok (.istore_n 3, 1) := by decide +kernel
theorem d_Ed_countSteps_2 : decode c_Ed_countSteps 2 = .ok (.iload_n 3, 1) := by decide +kernel
theorem d_Ed_countSteps_3 : decode c_Ed_countSteps 3 = .ok (.aload_n 2, 1) := by decide +kernel
theorem d_Ed_countSteps_4 : decode c_Ed_countSteps 4 = .ok (.getfield 32, 3) := by decide +kernel
theorem d_Ed_countSteps_7 : decode c_Ed_countSteps 7 = .ok (.if_icmp .gt 16, 3) := by decide +kernel
theorem d_Ed_countSteps_10 : decode c_Ed_countSteps 10 = .ok (.aload_n 0, 1) := by decide +kernel
theorem d_Ed_countSteps_11 : decode c_Ed_countSteps 11 = .ok (.getfield 9, 3) := by decide +kernel
theorem d_Ed_countSteps_14 : decode c_Ed_countSteps 14 = .ok (.iload_n 3, 1) := by decide +kernel
theorem d_Ed_countSteps_15 : decode c_Ed_countSteps 15 = .ok (.iload_n 3, 1) := by decide +kernel
theorem d_Ed_countSteps_16 : decode c_Ed_countSteps 16 = .ok (.iastore, 1) := by decide +kernel
theorem d_Ed_countSteps_17 : decode c_Ed_countSteps 17 = .ok (.iinc 3 1, 3) := by decide +kernel
theorem d_Ed_countSteps_20 : decode c_Ed_countSteps 20 = .ok (.goto (-18), 3) := by decide +kernel
theorem d_Ed_countSteps_23 : decode c_Ed_countSteps 23 = .ok (.iconst 0, 1) := by decide +kernel
theorem d_Ed_countSteps_24 : decode c_Ed_countSteps 24 = .ok (.istore_n 3, 1) := by decide +kernel
theorem d_Ed_countSteps_25 : decode c_Ed_countSteps 25 = .ok (.iload_n 3, 1) := by decide +kernel
theorem d_Ed_countSteps_26 : decode c_Ed_countSteps 26 = .ok (.aload_n 1, 1) := by decide +kernel
theorem d_Ed_countSteps_27 : decode c_Ed_countSteps 27 = .ok (.getfield 32, 3) := by decide +kernel
theorem d_Ed_countSteps_30 : decode c_Ed_countSteps 30 = .ok (.if_icmp .ge 20, 3) := by decide +kernel
theorem d_Ed_countSteps_33 : decode c_Ed_countSteps 33 = .ok (.aload_n 0, 1) := by decide +kernel
theorem d_Ed_countSteps_34 : decode c_Ed_countSteps 34 = .ok (.aload_n 1, 1) := by decide +kernel
theorem d_Ed_countSteps_35 : decode c_Ed_countSteps 35 = .ok (.getfield 37, 3) := by decide +kernel
theorem d_Ed_countSteps_38 : decode c_Ed_countSteps 38 = .ok (.iload_n 3, 1) := by decide +kernel
theorem d_Ed_countSteps_39 : decode c_Ed_countSteps 39 = .ok (.caload, 1) := by decide +kernel
theorem d_Ed_countSteps_40 : decode c_Ed_countSteps 40 = .ok (.aload_n 2, 1) := by decide +kernel
theorem d_Ed_countSteps_41 : decode c_Ed_countSteps 41 = .ok (.invokevirtual 41, 3) := by decide +kernel
theorem d_Ed_countSteps_44 : decode c_Ed_countSteps 44 = .ok (.iinc 3 1, 3) := by decide +kernel
theorem d_Ed_countSteps_47 : decode c_Ed_countSteps 47 = .ok (.goto (-22), 3) := by decide +kernel
theorem d_Ed_countSteps_50 : decode c_Ed_countSteps 50 = .ok (.aload_n 0, 1) := by decide +kernel
theorem d_Ed_countSteps_51 : decode c_Ed_countSteps 51 = .ok (.getfield 9, 3) := by decide +kernel
theorem d_Ed_countSteps_54 : decode c_Ed_countSteps 54 = .ok (.aload_n 2, 1) := by decide +kernel
theorem d_Ed_countSteps_55 : decode c_Ed_countSteps 55 = .ok (.getfield 32, 3) := by decide +kernel
theorem d_Ed_countSteps_58 : decode c_Ed_countSteps 58 = .ok (.iaload, 1) := by decide +kernel
theorem d_Ed_countSteps_59 : decode c_Ed_countSteps 59 = .ok (.ireturn, 1) := by decide +kernel
theorem d_Ed_goThrough_0 : decode c_Ed_goThrough 0 = .ok (.aload_n 0, 1) := by decide +kernel
theorem d_Ed_goThrough_1 : decode c_Ed_goThrough 1 = .ok (.getfield 9, 3) := by decide +kernel
theorem d_Ed_goThrough_4 : decode c_Ed_goThrough 4 = .ok (.iconst 0, 1) := by decide +kernel
theorem d_Ed_goThrough_5 : decode c_Ed_goThrough 5 = .ok (.iaload, 1) := by decide +kernel
theorem d_Ed_goThrough_6 : decode c_Ed_goThrough 6 = .ok (.istore_n 3, 1) := by decide +kernel
theorem d_Ed_goThrough_7 : decode c_Ed_goThrough 7 = .ok (.aload_n 0, 1) := by decide +kernel
theorem d_Ed_goThrough_8 : decode c_Ed_goThrough 8 = .ok (.getfield 9, 3) := by decide +kernel
theorem d_Ed_goThrough_11 : decode c_Ed_goThrough 11 = .ok (.iconst 0, 1) := by decide +kernel
theorem d_Ed_goThrough_12 : decode c_Ed_goThrough 12 = .ok (.dup2, 1) := by decide +kernel
theorem d_Ed_goThrough_13 : decode c_Ed_goThrough 13 = .ok (.iaload, 1) := by decide +kernel
theorem d_Ed_goThrough_14 : decode c_Ed_goThrough 14 = .ok (.iconst 1, 1) := by decide +kernel
theorem d_Ed_goThrough_15 : decode c_Ed_goThrough 15 = .ok (.iadd, 1) := by decide +kernel
theorem d_Ed_goThrough_16 : decode c_Ed_goThrough 16 = .ok (.iastore, 1) := by decide +kernel
theorem d_Ed_goThrough_17 : decode c_Ed_goThrough 17 = .ok (.iconst 1, 1) := by decide +kernel
theorem d_Ed_goThrough_18 : decode c_Ed_goThrough 18 = .ok (.istore 4, 2) := by decide +kernel
theorem d_Ed_goThrough_20 : decode c_Ed_goThrough 20 = .ok (.iload 4, 2) := by decide +kernel
theorem d_Ed_goThrough_22 : decode c_Ed_goThrough 22 = .ok (.aload_n 2, 1) := by decide +kernel
theorem d_Ed_goThrough_23 : decode c_Ed_goThrough 23 = .ok (.getfield 32, 3) := by decide +kernel
theorem d_Ed_goThrough_26 : decode c_Ed_goThrough 26 = .ok (.if_icmp .gt 72, 3) := by decide +kernel
theorem d_Ed_goThrough_29 : decode c_Ed_goThrough 29 = .ok (.aload_n 2, 1) := by decide +kernel
theorem d_Ed_goThrough_30 : decode c_Ed_goThrough 30 = .ok (.getfield 37, 3) := by decide +kernel
theorem d_Ed_goThrough_33 : decode c_Ed_goThrough 33 = .ok (.iload 4, 2) := by decide +kernel
theorem d_Ed_goThrough_35 : decode c_Ed_goThrough 35 = .ok (.iconst 1, 1) := by decide +kernel
theorem d_Ed_goThrough_36 : decode c_Ed_goThrough 36 = .ok (.isub, 1) := by decide +kernel
theorem d_Ed_goThrough_37 : decode c_Ed_goThrough 37 = .ok (.caload, 1) := by decide +kernel
theorem d_Ed_goThrough_38 : decode c_Ed_goThrough 38 = .ok (.iload_n 1, 1) := by decide +kernel
theorem d_Ed_goThrough_39 : decode c_Ed_goThrough 39 = .ok (.if_icmp .ne 7, 3) := by decide +kernel
theorem d_Ed_goThrough_42 : decode c_Ed_goThrough 42 = .ok (.iload_n 3, 1) := by decide +kernel
theorem d_Ed_goThrough_43 : decode c_Ed_goThrough 43 = .ok (.goto 6, 3) := by decide +kernel
theorem d_Ed_goThrough_46 : decode c_Ed_goThrough 46 = .ok (.iload_n 3, 1) := by decide +kernel
theorem d_Ed_goThrough_47 : decode c_Ed_goThrough 47 = .ok (.iconst 1, 1) := by decide +kernel
theorem d_Ed_goThrough_48 : decode c_Ed_goThrough 48 = .ok (.iadd, 1) := by decide +kernel
theorem d_Ed_goThrough_49 : decode c_Ed_goThrough 49 = .ok (.istore 5, 2) := by decide +kernel
theorem d_Ed_goThrough_51 : decode c_Ed_goThrough 51 = .ok (.aload_n 0, 1) := by decide +kernel
theorem d_Ed_goThrough_52 : decode c_Ed_goThrough 52 = .ok (.getfield 9, 3) := by decide +kernel
theorem d_Ed_goThrough_55 : decode c_Ed_goThrough 55 = .ok (.iload 4, 2) := by decide +kernel
theorem d_Ed_goThrough_57 : decode c_Ed_goThrough 57 = .ok (.iaload, 1) := by decide +kernel
theorem d_Ed_goThrough_58 : decode c_Ed_goThrough 58 = .ok (.istore_n 3, 1) := by decide +kernel
theorem d_Ed_goThrough_59 : decode c_Ed_goThrough 59 = .ok (.aload_n 0, 1) := by decide +kernel
theorem d_Ed_goThrough_60 : decode c_Ed_goThrough 60 = .ok (.getfield 9, 3) := by decide +kernel
theorem d_Ed_goThrough_63 : decode c_Ed_goThrough 63 = .ok (.iload 4, 2) := by decide +kernel
theorem d_Ed_goThrough_65 : decode c_Ed_goThrough 65 = .ok (.iload 5, 2) := by decide +kernel
theorem d_Ed_goThrough_67 : decode c_Ed_goThrough 67 = .ok (.aload_n 0, 1) := by decide +kernel
theorem d_Ed_goThrough_68 : decode c_Ed_goThrough 68 = .ok (.getfield 9, 3) := by decide +kernel
theorem d_Ed_goThrough_71 : decode c_Ed_goThrough 71 = .ok (.iload 4, 2) := by decide +kernel
theorem d_Ed_goThrough_73 : decode c_Ed_goThrough 73 = .ok (.iaload, 1) := by decide +kernel
theorem d_Ed_goThrough_74 : decode c_Ed_goThrough 74 = .ok (.aload_n 0, 1) := by decide +kernel
theorem d_Ed_goThrough_75 : decode c_Ed_goThrough 75 = .ok (.getfield 9, 3) := by decide +kernel
theorem d_Ed_goThrough_78 : decode c_Ed_goThrough 78 = .ok (.iload 4, 2) := by decide +kernel
theorem d_Ed_goThrough_80 : decode c_Ed_goThrough 80 = .ok (.iconst 1, 1) := by decide +kernel
theorem d_Ed_goThrough_81 : decode c_Ed_goThrough 81 = .ok (.isub, 1) := by decide +kernel
theorem d_Ed_goThrough_82 : decode c_Ed_goThrough 82 = .ok (.iaload, 1) := by decide +kernel
theorem d_Ed_goThrough_83 : decode c_Ed_goThrough 83 = .ok (.invokestatic 45, 3) := by decide +kernel
theorem d_Ed_goThrough_86 : decode c_Ed_goThrough 86 = .ok (.iconst 1, 1) := by decide +kernel
theorem d_Ed_goThrough_87 : decode c_Ed_goThrough 87 = .ok (.iadd, 1) := by decide +kernel
theorem d_Ed_goThrough_88 : decode c_Ed_goThrough 88 = .ok (.invokestatic 45, 3) := by decide +kernel
theorem d_Ed_goThrough_91 : decode c_Ed_goThrough 91 = .ok (.iastore, 1) := by decide +kernel
theorem d_Ed_goThrough_92 : decode c_Ed_goThrough 92 = .ok (.iinc 4 1, 3) := by decide +kernel
theorem d_Ed_goThrough_95 : decode c_Ed_goThrough 95 = .ok (.goto (-75), 3) := by decide +kernel
theorem d_Ed_goThrough_98 : decode c_Ed_goThrough 98 = .ok (.return_, 1) := by decide +kernel
theorem d_En_init_0 : decode c_En_init 0 = .ok (.aload_n 0, 1) := by decide +kernel
theorem d_En_init_1 : decode c_En_init 1 = .ok (.invokespecial 1, 3) := by decide +kernel
theorem d_En_init_4 : decode c_En_init 4 = .ok (.aload_n 0, 1) := by decide +kernel
theorem d_En_init_5 : decode c_En_init 5 = .ok (.new 7, 3) := by decide +kernel
theorem d_En_init_8 : decode c_En_init 8 = .ok (.dup, 1) := by decide +kernel
theorem d_En_init_9 : decode c_En_init 9 = .ok (.invokespecial 9, 3) := by decide +kernel
theorem d_En_init_12 : decode c_En_init 12 = .ok (.putfield 10, 3) := by decide +kernel
theorem d_En_init_15 : decode c_En_init 15 = .ok (.aload_n 0, 1) := by decide +kernel
theorem d_En_init_16 : decode c_En_init 16 = .ok (.new 7, 3) := by decide +kernel
theorem d_En_init_19 : decode c_En_init 19 = .ok (.dup, 1) := by decide +kernel
theorem d_En_init_20 : decode c_En_init 20 = .ok (.invokespecial 9, 3) := by decide +kernel
theorem d_En_init_23 : decode c_En_init 23 = .ok (.putfield 16, 3) := by decide +kernel
theorem d_En_init_26 : decode c_En_init 26 = .ok (.return_, 1) := by decide +kernel
theorem d_En_text_0 : decode c_En_text 0 = .ok (.iload_n 1, 1) := by decide +kernel
theorem d_En_text_1 : decode c_En_text 1 = .ok (.ifCond .ne 10, 3) := by decide +kernel
theorem d_En_text_4 : decode c_En_text 4 = .ok (.aload_n 0, 1) := by decide +kernel
theorem d_En_text_5 : decode c_En_text 5 = .ok (.getfield 10, 3) := by decide +kernel
theorem d_En_text_8 : decode c_En_text 8 = .ok (.goto 7, 3) := by decide +kernel
theorem d_En_text_11 : decode c_En_text 11 = .ok (.aload_n 0, 1) := by decide +kernel
theorem d_En_text_12 : decode c_En_text 12 = .ok (.getfield 16, 3) := by decide +kernel
theorem d_En_text_15 : decode c_En_text 15 = .ok (.areturn, 1) := by decide +kernel
theorem d_Ex_init_0 : decode c_Ex_init 0 = .ok (.aload_n 0, 1) := by decide +kernel
theorem d_Ex_init_1 : decode c_Ex_init 1 = .ok (.invokespecial 1, 3) := by decide +kernel
theorem d_Ex_init_4 : decode c_Ex_init 4 = .ok (.aload_n 0, 1) := by decide +kernel
theorem d_Ex_init_5 : decode c_Ex_init 5 = .ok (.iload_n 1, 1) := by decide +kernel
theorem d_Ex_init_6 : decode c_Ex_init 6 = .ok (.putfield 7, 3) := by decide +kernel
theorem d_Ex_init_9 : decode c_Ex_init 9 = .ok (.aload_n 0, 1) := by decide +kernel
theorem d_Ex_init_10 : decode c_Ex_init 10 = .ok (.iload_n 2, 1) := by decide +kernel
theorem d_Ex_init_11 : decode c_Ex_init 11 = .ok (.putfield 13, 3) := by decide +kernel
theorem d_Ex_init_14 : decode c_Ex_init 14 = .ok (.return_, 1) := by decide +kernel
theorem d_Ja_init_0 : decode c_Ja_init 0 = .ok (.aload_n 0, 1) := by decide +kernel
theorem d_Ja_init_1 : decode c_Ja_init 1 = .ok (.iconst 1, 1) := by decide +kernel
theorem d_Ja_init_2 : decode c_Ja_init 2 = .ok (.iconst 1, 1) := by decide +kernel
theorem d_Ja_init_3 : decode c_Ja_init 3 = .ok (.invokespecial 1, 3) := by decide +kernel
theorem d_Ja_init_6 : decode c_Ja_init 6 = .ok (.aload_n 0, 1) := by decide +kernel
theorem d_Ja_init_7 : decode c_Ja_init 7 = .ok (.iload_n 1, 1) := by decide +kernel
theorem d_Ja_init_8 : decode c_Ja_init 8 = .ok (.putfield 7, 3) := by decide +kernel
theorem d_Ja_init_11 : decode c_Ja_init 11 = .ok (.aload_n 0, 1) := by decide +kernel
theorem d_Ja_init_12 : decode c_Ja_init 12 = .ok (.iload_n 2, 1) := by decide +kernel
theorem d_Ja_init_13 : decode c_Ja_init 13 = .ok (.putfield 13, 3) := by decide +kernel
theorem d_Ja_init_16 : decode c_Ja_init 16 = .ok (.aload_n 0, 1) := by decide +kernel
theorem d_Ja_init_17 : decode c_Ja_init 17 = .ok (.iload_n 3, 1) := by decide +kernel
theorem d_Ja_init_18 : decode c_Ja_init 18 = .ok (.putfield 16, 3) := by decide +kernel
theorem d_Ja_init_21 : decode c_Ja_init 21 = .ok (.return_, 1) := by decide +kernel
theorem d_Ja_holdsOf_0 : decode c_Ja_holdsOf 0 = .ok (.aload_n 1, 1) := by decide +kernel
theorem d_Ja_holdsOf_1 : decode c_Ja_holdsOf 1 = .ok (.aload_n 0, 1) := by decide +kernel
theorem d_Ja_holdsOf_2 : decode c_Ja_holdsOf 2 = .ok (.getfield 7, 3) := by decide +kernel
theorem d_Ja_holdsOf_5 : decode c_Ja_holdsOf 5 = .ok (.invokevirtual 19, 3) := by decide +kernel
theorem d_Ja_holdsOf_8 : decode c_Ja_holdsOf 8 = .ok (.astore_n 3, 1) := by decide +kernel
theorem d_Ja_holdsOf_9 : decode c_Ja_holdsOf 9 = .ok (.aload_n 2, 1) := by decide +kernel
theorem d_Ja_holdsOf_10 : decode c_Ja_holdsOf 10 = .ok (.aload_n 0, 1) := by decide +kernel
theorem d_Ja_holdsOf_11 : decode c_Ja_holdsOf 11 = .ok (.getfield 7, 3) := by decide +kernel
theorem d_Ja_holdsOf_14 : decode c_Ja_holdsOf 14 = .ok (.invokevirtual 19, 3) := by decide +kernel
theorem d_Ja_holdsOf_17 : decode c_Ja_holdsOf 17 = .ok (.astore 4, 2) := by decide +kernel
theorem d_Ja_holdsOf_19 : decode c_Ja_holdsOf 19 = .ok (.aload_n 3, 1) := by decide +kernel
theorem d_Ja_holdsOf_20 : decode c_Ja_holdsOf 20 = .ok (.aload 4, 2) := by decide +kernel
theorem d_Ja_holdsOf_22 : decode c_Ja_holdsOf 22 = .ok (.invokevirtual 25, 3) := by decide +kernel
theorem d_Ja_holdsOf_25 : decode c_Ja_holdsOf 25 = .ok (.istore 5, 2) := by decide +kernel
theorem d_Ja_holdsOf_27 : decode c_Ja_holdsOf 27 = .ok (.aload_n 3, 1) := by decide +kernel
theorem d_Ja_holdsOf_28 : decode c_Ja_holdsOf 28 = .ok (.invokevirtual 31, 3) := by decide +kernel
theorem d_Ja_holdsOf_31 : decode c_Ja_holdsOf 31 = .ok (.aload 4, 2) := by decide +kernel
theorem d_Ja_holdsOf_33 : decode c_Ja_holdsOf 33 = .ok (.invokevirtual 31, 3) := by decide +kernel
theorem d_Ja_holdsOf_36 : decode c_Ja_holdsOf 36 = .ok (.iadd, 1) := by decide +kernel
theorem d_Ja_holdsOf_37 : decode c_Ja_holdsOf 37 = .ok (.iload 5, 2) := by decide +kernel
theorem d_Ja_holdsOf_39 : decode c_Ja_holdsOf 39 = .ok (.isub, 1) := by decide +kernel
theorem d_Ja_holdsOf_40 : decode c_Ja_holdsOf 40 = .ok (.istore 6, 2) := by decide +kernel
theorem d_Ja_holdsOf_42 : decode c_Ja_holdsOf 42 = .ok (.iload 6, 2) := by decide +kernel
theorem d_Ja_holdsOf_44 : decode c_Ja_holdsOf 44 = .ok (.ifCond .le 24, 3) := by decide +kernel
theorem d_Ja_holdsOf_47 : decode c_Ja_holdsOf 47 = .ok (.iload 5, 2) := by decide +kernel
theorem d_Ja_holdsOf_49 : decode c_Ja_holdsOf 49 = .ok (.aload_n 0, 1) := by decide +kernel
theorem d_Ja_holdsOf_50 : decode c_Ja_holdsOf 50 = .ok (.getfield 16, 3) := by decide +kernel
theorem d_Ja_holdsOf_53 : decode c_Ja_holdsOf 53 = .ok (.imul, 1) := by decide +kernel
theorem d_Ja_holdsOf_54 : decode c_Ja_holdsOf 54 = .ok (.aload_n 0, 1) := by decide +kernel
theorem d_Ja_holdsOf_55 : decode c_Ja_holdsOf 55 = .ok (.getfield 13, 3) := by decide +kernel
theorem d_Ja_holdsOf_58 : decode c_Ja_holdsOf 58 = .ok (.iload 6, 2) := by decide +kernel
theorem d_Ja_holdsOf_60 : decode c_Ja_holdsOf 60 = .ok (.imul, 1) := by decide +kernel
theorem d_Ja_holdsOf_61 : decode c_Ja_holdsOf 61 = .ok (.if_icmp .lt 7, 3) := by decide +kernel
theorem d_Ja_holdsOf_64 : decode c_Ja_holdsOf 64 = .ok (.iconst 1, 1) := by decide +kernel
theorem d_Ja_holdsOf_65 : decode c_Ja_holdsOf 65 = .ok (.goto 4, 3) := by decide +kernel
theorem d_Ja_holdsOf_68 : decode c_Ja_holdsOf 68 = .ok (.iconst 0, 1) := by decide +kernel
theorem d_Ja_holdsOf_69 : decode c_Ja_holdsOf 69 = .ok (.ireturn, 1) := by decide +kernel
theorem d_Jo_init_0 : decode c_Jo_init 0 = .ok (.aload_n 0, 1) := by decide +kernel
theorem d_Jo_init_1 : decode c_Jo_init 1 = .ok (.aload_n 2, 1) := by decide +kernel
theorem d_Jo_init_2 : decode c_Jo_init 2 = .ok (.getfield 1, 3) := by decide +kernel
theorem d_Jo_init_5 : decode c_Jo_init 5 = .ok (.aload_n 3, 1) := by decide +kernel
theorem d_Jo_init_6 : decode c_Jo_init 6 = .ok (.getfield 1, 3) := by decide +kernel
theorem d_Jo_init_9 : decode c_Jo_init 9 = .ok (.iadd, 1) := by decide +kernel
theorem d_Jo_init_10 : decode c_Jo_init 10 = .ok (.iload_n 1, 1) := by decide +kernel
theorem d_Jo_init_11 : decode c_Jo_init 11 = .ok (.ifCond .eq 25, 3) := by decide +kernel
theorem d_Jo_init_14 : decode c_Jo_init 14 = .ok (.aload_n 2, 1) := by decide +kernel
theorem d_Jo_init_15 : decode c_Jo_init 15 = .ok (.getfield 7, 3) := by decide +kernel
theorem d_Jo_init_18 : decode c_Jo_init 18 = .ok (.ifCond .ne 10, 3) := by decide +kernel
theorem d_Jo_init_21 : decode c_Jo_init 21 = .ok (.aload_n 3, 1) := by decide +kernel
theorem d_Jo_init_22 : decode c_Jo_init 22 = .ok (.getfield 7, 3) := by decide +kernel
theorem d_Jo_init_25 : decode c_Jo_init 25 = .ok (.ifCond .eq 7, 3) := by decide +kernel
theorem d_Jo_init_28 : decode c_Jo_init 28 = .ok (.iconst 1, 1) := by decide +kernel
theorem d_Jo_init_29 : decode c_Jo_init 29 = .ok (.goto 26, 3) := by decide +kernel
theorem d_Jo_init_32 : decode c_Jo_init 32 = .ok (.iconst 0, 1) := by decide +kernel
theorem d_Jo_init_33 : decode c_Jo_init 33 = .ok (.goto 22, 3) := by decide +kernel
theorem d_Jo_init_36 : decode c_Jo_init 36 = .ok (.aload_n 2, 1) := by decide +kernel
theorem d_Jo_init_37 : decode c_Jo_init 37 = .ok (.getfield 7, 3) := by decide +kernel
theorem d_Jo_init_40 : decode c_Jo_init 40 = .ok (.ifCond .eq 14, 3) := by decide +kernel
theorem d_Jo_init_43 : decode c_Jo_init 43 = .ok (.aload_n 3, 1) := by decide +kernel
theorem d_Jo_init_44 : decode c_Jo_init 44 = .ok (.getfield 7, 3) := by decide +kernel
theorem d_Jo_init_47 : decode c_Jo_init 47 = .ok (.ifCond .eq 7, 3) := by decide +kernel
theorem d_Jo_init_50 : decode c_Jo_init 50 = .ok (.iconst 1, 1) := by decide +kernel
theorem d_Jo_init_51 : decode c_Jo_init 51 = .ok (.goto 4, 3) := by decide +kernel
theorem d_Jo_init_54 : decode c_Jo_init 54 = .ok (.iconst 0, 1) := by decide +kernel
theorem d_Jo_init_55 : decode c_Jo_init 55 = .ok (.invokespecial 11, 3) := by decide +kernel
theorem d_Jo_init_58 : decode c_Jo_init 58 = .ok (.aload_n 0, 1) := by decide +kernel
theorem d_Jo_init_59 : decode c_Jo_init 59 = .ok (.iload_n 1, 1) := by decide +kernel
theorem d_Jo_init_60 : decode c_Jo_init 60 = .ok (.putfield 15, 3) := by decide +kernel
theorem d_Jo_init_63 : decode c_Jo_init 63 = .ok (.aload_n 0, 1) := by decide +kernel
theorem d_Jo_init_64 : decode c_Jo_init 64 = .ok (.aload_n 2, 1) := by decide +kernel
theorem d_Jo_init_65 : decode c_Jo_init 65 = .ok (.putfield 20, 3) := by decide +kernel
theorem d_Jo_init_68 : decode c_Jo_init 68 = .ok (.aload_n 0, 1) := by decide +kernel
theorem d_Jo_init_69 : decode c_Jo_init 69 = .ok (.aload_n 3, 1) := by decide +kernel
theorem d_Jo_init_70 : decode c_Jo_init 70 = .ok (.putfield 24, 3) := by decide +kernel
theorem d_Jo_init_73 : decode c_Jo_init 73 = .ok (.return_, 1) := by decide +kernel
theorem d_Jo_holdsOf_0 : decode c_Jo_holdsOf 0 = .ok (.aload_n 0, 1) := by decide +kernel
theorem d_Jo_holdsOf_1 : decode c_Jo_holdsOf 1 = .ok (.getfield 15, 3) := by decide +kernel
theorem d_Jo_holdsOf_4 : decode c_Jo_holdsOf 4 = .ok (.ifCond .eq 35, 3) := by decide +kernel
theorem d_Jo_holdsOf_7 : decode c_Jo_holdsOf 7 = .ok (.aload_n 0, 1) := by decide +kernel
theorem d_Jo_holdsOf_8 : decode c_Jo_holdsOf 8 = .ok (.getfield 20, 3) := by decide +kernel
theorem d_Jo_holdsOf_11 : decode c_Jo_holdsOf 11 = .ok (.aload_n 1, 1) := by decide +kernel
theorem d_Jo_holdsOf_12 : decode c_Jo_holdsOf 12 = .ok (.aload_n 2, 1) := by decide +kernel
theorem d_Jo_holdsOf_13 : decode c_Jo_holdsOf 13 = .ok (.invokevirtual 27, 3) := by decide +kernel
theorem d_Jo_holdsOf_16 : decode c_Jo_holdsOf 16 = .ok (.ifCond .eq 19, 3) := by decide +kernel
theorem d_Jo_holdsOf_19 : decode c_Jo_holdsOf 19 = .ok (.aload_n 0, 1) := by decide +kernel
theorem d_Jo_holdsOf_20 : decode c_Jo_holdsOf 20 = .ok (.getfield 24, 3) := by decide +kernel
theorem d_Jo_holdsOf_23 : decode c_Jo_holdsOf 23 = .ok (.aload_n 1, 1) := by decide +kernel
theorem d_Jo_holdsOf_24 : decode c_Jo_holdsOf 24 = .ok (.aload_n 2, 1) := by decide +kernel
theorem d_Jo_holdsOf_25 : decode c_Jo_holdsOf 25 = .ok (.invokevirtual 27, 3) := by decide +kernel
theorem d_Jo_holdsOf_28 : decode c_Jo_holdsOf 28 = .ok (.ifCond .eq 7, 3) := by decide +kernel
theorem d_Jo_holdsOf_31 : decode c_Jo_holdsOf 31 = .ok (.iconst 1, 1) := by decide +kernel
theorem d_Jo_holdsOf_32 : decode c_Jo_holdsOf 32 = .ok (.goto 36, 3) := by decide +kernel
theorem d_Jo_holdsOf_35 : decode c_Jo_holdsOf 35 = .ok (.iconst 0, 1) := by decide +kernel
theorem d_Jo_holdsOf_36 : decode c_Jo_holdsOf 36 = .ok (.goto 32, 3) := by decide +kernel
theorem d_Jo_holdsOf_39 : decode c_Jo_holdsOf 39 = .ok (.aload_n 0, 1) := by decide +kernel
theorem d_Jo_holdsOf_40 : decode c_Jo_holdsOf 40 = .ok (.getfield 20, 3) := by decide +kernel
theorem d_Jo_holdsOf_43 : decode c_Jo_holdsOf 43 = .ok (.aload_n 1, 1) := by decide +kernel
theorem d_Jo_holdsOf_44 : decode c_Jo_holdsOf 44 = .ok (.aload_n 2, 1) := by decide +kernel
theorem d_Jo_holdsOf_45 : decode c_Jo_holdsOf 45 = .ok (.invokevirtual 27, 3) := by decide +kernel
theorem d_Jo_holdsOf_48 : decode c_Jo_holdsOf 48 = .ok (.ifCond .ne 15, 3) := by decide +kernel
theorem d_Jo_holdsOf_51 : decode c_Jo_holdsOf 51 = .ok (.aload_n 0, 1) := by decide +kernel
theorem d_Jo_holdsOf_52 : decode c_Jo_holdsOf 52 = .ok (.getfield 24, 3) := by decide +kernel
theorem d_Jo_holdsOf_55 : decode c_Jo_holdsOf 55 = .ok (.aload_n 1, 1) := by decide +kernel
theorem d_Jo_holdsOf_56 : decode c_Jo_holdsOf 56 = .ok (.aload_n 2, 1) := by decide +kernel
theorem d_Jo_holdsOf_57 : decode c_Jo_holdsOf 57 = .ok (.invokevirtual 27, 3) := by decide +kernel
theorem d_Jo_holdsOf_60 : decode c_Jo_holdsOf 60 = .ok (.ifCond .eq 7, 3) := by decide +kernel
theorem d_Jo_holdsOf_63 : decode c_Jo_holdsOf 63 = .ok (.iconst 1, 1) := by decide +kernel
theorem d_Jo_holdsOf_64 : decode c_Jo_holdsOf 64 = .ok (.goto 4, 3) := by decide +kernel
theorem d_Jo_holdsOf_67 : decode c_Jo_holdsOf 67 = .ok (.iconst 0, 1) := by decide +kernel
theorem d_Jo_holdsOf_68 : decode c_Jo_holdsOf 68 = .ok (.ireturn, 1) := by decide +kernel
theorem d_Ru_init_0 : decode c_Ru_init 0 = .ok (.aload_n 0, 1) := by decide +kernel
theorem d_Ru_init_1 : decode c_Ru_init 1 = .ok (.invokespecial 3, 3) := by decide +kernel
theorem d_Ru_init_4 : decode c_Ru_init 4 = .ok (.aload_n 0, 1) := by decide +kernel
theorem d_Ru_init_5 : decode c_Ru_init 5 = .ok (.iconst 4, 1) := by decide +kernel
theorem d_Ru_init_6 : decode c_Ru_init 6 = .ok (.newarray .int, 2) := by decide +kernel
theorem d_Ru_init_8 : decode c_Ru_init 8 = .ok (.putfield 9, 3) := by decide +kernel
theorem d_Ru_init_11 : decode c_Ru_init 11 = .ok (.aload_n 0, 1) := by decide +kernel
theorem d_Ru_init_12 : decode c_Ru_init 12 = .ok (.sipush 144, 3) := by decide +kernel
theorem d_Ru_init_15 : decode c_Ru_init 15 = .ok (.newarray .boolean, 2) := by decide +kernel
theorem d_Ru_init_17 : decode c_Ru_init 17 = .ok (.putfield 15, 3) := by decide +kernel
theorem d_Ru_init_20 : decode c_Ru_init 20 = .ok (.aload_n 0, 1) := by decide +kernel
theorem d_Ru_init_21 : decode c_Ru_init 21 = .ok (.bipush 12, 2) := by decide +kernel
theorem d_Ru_init_23 : decode c_Ru_init 23 = .ok (.newarray .int, 2) := by decide +kernel
theorem d_Ru_init_25 : decode c_Ru_init 25 = .ok (.putfield 19, 3) := by decide +kernel
theorem d_Ru_init_28 : decode c_Ru_init 28 = .ok (.return_, 1) := by decide +kernel
theorem d_Ru_begin_0 : decode c_Ru_begin 0 = .ok (.aload_n 0, 1) := by decide +kernel
theorem d_Ru_begin_1 : decode c_Ru_begin 1 = .ok (.iload_n 1, 1) := by decide +kernel
theorem d_Ru_begin_2 : decode c_Ru_begin 2 = .ok (.putfield 22, 3) := by decide +kernel
theorem d_Ru_begin_5 : decode c_Ru_begin 5 = .ok (.aload_n 0, 1) := by decide +kernel
theorem d_Ru_begin_6 : decode c_Ru_begin 6 = .ok (.iload_n 2, 1) := by decide +kernel
theorem d_Ru_begin_7 : decode c_Ru_begin 7 = .ok (.putfield 26, 3) := by decide +kernel
theorem d_Ru_begin_10 : decode c_Ru_begin 10 = .ok (.iconst 0, 1) := by decide +kernel
theorem d_Ru_begin_11 : decode c_Ru_begin 11 = .ok (.istore_n 3, 1) := by decide +kernel
theorem d_Ru_begin_12 : decode c_Ru_begin 12 = .ok (.iload_n 3, 1) := by decide +kernel
theorem d_Ru_begin_13 : decode c_Ru_begin 13 = .ok (.aload_n 0, 1) := by decide +kernel
theorem d_Ru_begin_14 : decode c_Ru_begin 14 = .ok (.getfield 9, 3) := by decide +kernel
theorem d_Ru_begin_17 : decode c_Ru_begin 17 = .ok (.arraylength, 1) := by decide +kernel
theorem d_Ru_begin_18 : decode c_Ru_begin 18 = .ok (.if_icmp .ge 16, 3) := by decide +kernel
theorem d_Ru_begin_21 : decode c_Ru_begin 21 = .ok (.aload_n 0, 1) := by decide +kernel
theorem d_Ru_begin_22 : decode c_Ru_begin 22 = .ok (.getfield 9, 3) := by decide +kernel
theorem d_Ru_begin_25 : decode c_Ru_begin 25 = .ok (.iload_n 3, 1) := by decide +kernel
theorem d_Ru_begin_26 : decode c_Ru_begin 26 = .ok (.iconst 0, 1) := by decide +kernel
theorem d_Ru_begin_27 : decode c_Ru_begin 27 = .ok (.iastore, 1) := by decide +kernel
theorem d_Ru_begin_28 : decode c_Ru_begin 28 = .ok (.iinc 3 1, 3) := by decide +kernel
theorem d_Ru_begin_31 : decode c_Ru_begin 31 = .ok (.goto (-19), 3) := by decide +kernel
theorem d_Ru_begin_34 : decode c_Ru_begin 34 = .ok (.iconst 0, 1) := by decide +kernel
theorem d_Ru_begin_35 : decode c_Ru_begin 35 = .ok (.istore_n 3, 1) := by decide +kernel
theorem d_Ru_begin_36 : decode c_Ru_begin 36 = .ok (.iload_n 3, 1) := by decide +kernel
theorem d_Ru_begin_37 : decode c_Ru_begin 37 = .ok (.aload_n 0, 1) := by decide +kernel
theorem d_Ru_begin_38 : decode c_Ru_begin 38 = .ok (.getfield 15, 3) := by decide +kernel
theorem d_Ru_begin_41 : decode c_Ru_begin 41 = .ok (.arraylength, 1) := by decide +kernel
theorem d_Ru_begin_42 : decode c_Ru_begin 42 = .ok (.if_icmp .ge 16, 3) := by decide +kernel
theorem d_Ru_begin_45 : decode c_Ru_begin 45 = .ok (.aload_n 0, 1) := by decide +kernel
theorem d_Ru_begin_46 : decode c_Ru_begin 46 = .ok (.getfield 15, 3) := by decide +kernel
theorem d_Ru_begin_49 : decode c_Ru_begin 49 = .ok (.iload_n 3, 1) := by decide +kernel
theorem d_Ru_begin_50 : decode c_Ru_begin 50 = .ok (.iconst 0, 1) := by decide +kernel
theorem d_Ru_begin_51 : decode c_Ru_begin 51 = .ok (.bastore, 1) := by decide +kernel
theorem d_Ru_begin_52 : decode c_Ru_begin 52 = .ok (.iinc 3 1, 3) := by decide +kernel
theorem d_Ru_begin_55 : decode c_Ru_begin 55 = .ok (.goto (-19), 3) := by decide +kernel
theorem d_Ru_begin_58 : decode c_Ru_begin 58 = .ok (.return_, 1) := by decide +kernel
theorem d_Ru_end_0 : decode c_Ru_end 0 = .ok (.aload_n 0, 1) := by decide +kernel
theorem d_Ru_end_1 : decode c_Ru_end 1 = .ok (.iconst 0, 1) := by decide +kernel
theorem d_Ru_end_2 : decode c_Ru_end 2 = .ok (.putfield 22, 3) := by decide +kernel
theorem d_Ru_end_5 : decode c_Ru_end 5 = .ok (.return_, 1) := by decide +kernel
theorem d_Ru_isOpen_0 : decode c_Ru_isOpen 0 = .ok (.aload_n 0, 1) := by decide +kernel
theorem d_Ru_isOpen_1 : decode c_Ru_isOpen 1 = .ok (.getfield 22, 3) := by decide +kernel
theorem d_Ru_isOpen_4 : decode c_Ru_isOpen 4 = .ok (.ifCond .le 7, 3) := by decide +kernel
theorem d_Ru_isOpen_7 : decode c_Ru_isOpen 7 = .ok (.iconst 1, 1) := by decide +kernel
theorem d_Ru_isOpen_8 : decode c_Ru_isOpen 8 = .ok (.goto 4, 3) := by decide +kernel
theorem d_Ru_isOpen_11 : decode c_Ru_isOpen 11 = .ok (.iconst 0, 1) := by decide +kernel
theorem d_Ru_isOpen_12 : decode c_Ru_isOpen 12 = .ok (.ireturn, 1) := by decide +kernel
theorem d_Ru_hasWorker_0 : decode c_Ru_hasWorker 0 = .ok (.iload_n 1, 1) := by decide +kernel
theorem d_Ru_hasWorker_1 : decode c_Ru_hasWorker 1 = .ok (.ifCond .lt 15, 3) := by decide +kernel
theorem d_Ru_hasWorker_4 : decode c_Ru_hasWorker 4 = .ok (.iload_n 1, 1) := by decide +kernel
theorem d_Ru_hasWorker_5 : decode c_Ru_hasWorker 5 = .ok (.aload_n 0, 1) := by decide +kernel
theorem d_Ru_hasWorker_6 : decode c_Ru_hasWorker 6 = .ok (.getfield 22, 3) := by decide +kernel
theorem d_Ru_hasWorker_9 : decode c_Ru_hasWorker 9 = .ok (.if_icmp .ge 7, 3) := by decide +kernel
theorem d_Ru_hasWorker_12 : decode c_Ru_hasWorker 12 = .ok (.iconst 1, 1) := by decide +kernel
theorem d_Ru_hasWorker_13 : decode c_Ru_hasWorker 13 = .ok (.goto 4, 3) := by decide +kernel
