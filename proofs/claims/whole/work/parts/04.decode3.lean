theorem d_Ru_hasWorker_16 : decode c_Ru_hasWorker 16 = .ok (.iconst 0, 1) := by decide +kernel
theorem d_Ru_hasWorker_17 : decode c_Ru_hasWorker 17 = .ok (.ireturn, 1) := by decide +kernel
theorem d_Ru_isDone_0 : decode c_Ru_isDone 0 = .ok (.iconst 0, 1) := by decide +kernel
theorem d_Ru_isDone_1 : decode c_Ru_isDone 1 = .ok (.istore_n 1, 1) := by decide +kernel
theorem d_Ru_isDone_2 : decode c_Ru_isDone 2 = .ok (.iconst 0, 1) := by decide +kernel
theorem d_Ru_isDone_3 : decode c_Ru_isDone 3 = .ok (.istore_n 2, 1) := by decide +kernel
theorem d_Ru_isDone_4 : decode c_Ru_isDone 4 = .ok (.iload_n 2, 1) := by decide +kernel
theorem d_Ru_isDone_5 : decode c_Ru_isDone 5 = .ok (.aload_n 0, 1) := by decide +kernel
theorem d_Ru_isDone_6 : decode c_Ru_isDone 6 = .ok (.getfield 22, 3) := by decide +kernel
theorem d_Ru_isDone_9 : decode c_Ru_isDone 9 = .ok (.if_icmp .ge 18, 3) := by decide +kernel
theorem d_Ru_isDone_12 : decode c_Ru_isDone 12 = .ok (.iload_n 1, 1) := by decide +kernel
theorem d_Ru_isDone_13 : decode c_Ru_isDone 13 = .ok (.aload_n 0, 1) := by decide +kernel
theorem d_Ru_isDone_14 : decode c_Ru_isDone 14 = .ok (.getfield 9, 3) := by decide +kernel
theorem d_Ru_isDone_17 : decode c_Ru_isDone 17 = .ok (.iload_n 2, 1) := by decide +kernel
theorem d_Ru_isDone_18 : decode c_Ru_isDone 18 = .ok (.iaload, 1) := by decide +kernel
theorem d_Ru_isDone_19 : decode c_Ru_isDone 19 = .ok (.iadd, 1) := by decide +kernel
theorem d_Ru_isDone_20 : decode c_Ru_isDone 20 = .ok (.istore_n 1, 1) := by decide +kernel
theorem d_Ru_isDone_21 : decode c_Ru_isDone 21 = .ok (.iinc 2 1, 3) := by decide +kernel
theorem d_Ru_isDone_24 : decode c_Ru_isDone 24 = .ok (.goto (-20), 3) := by decide +kernel
theorem d_Ru_isDone_27 : decode c_Ru_isDone 27 = .ok (.iload_n 1, 1) := by decide +kernel
theorem d_Ru_isDone_28 : decode c_Ru_isDone 28 = .ok (.aload_n 0, 1) := by decide +kernel
theorem d_Ru_isDone_29 : decode c_Ru_isDone 29 = .ok (.getfield 26, 3) := by decide +kernel
theorem d_Ru_isDone_32 : decode c_Ru_isDone 32 = .ok (.if_icmp .ne 7, 3) := by decide +kernel
theorem d_Ru_isDone_35 : decode c_Ru_isDone 35 = .ok (.iconst 1, 1) := by decide +kernel
theorem d_Ru_isDone_36 : decode c_Ru_isDone 36 = .ok (.goto 4, 3) := by decide +kernel
theorem d_Ru_isDone_39 : decode c_Ru_isDone 39 = .ok (.iconst 0, 1) := by decide +kernel
theorem d_Ru_isDone_40 : decode c_Ru_isDone 40 = .ok (.ireturn, 1) := by decide +kernel
theorem d_Ru_nextTask_0 : decode c_Ru_nextTask 0 = .ok (.aload_n 0, 1) := by decide +kernel
theorem d_Ru_nextTask_1 : decode c_Ru_nextTask 1 = .ok (.iload_n 1, 1) := by decide +kernel
theorem d_Ru_nextTask_2 : decode c_Ru_nextTask 2 = .ok (.aload_n 0, 1) := by decide +kernel
theorem d_Ru_nextTask_3 : decode c_Ru_nextTask 3 = .ok (.getfield 9, 3) := by decide +kernel
theorem d_Ru_nextTask_6 : decode c_Ru_nextTask 6 = .ok (.iload_n 1, 1) := by decide +kernel
theorem d_Ru_nextTask_7 : decode c_Ru_nextTask 7 = .ok (.iaload, 1) := by decide +kernel
theorem d_Ru_nextTask_8 : decode c_Ru_nextTask 8 = .ok (.invokevirtual 29, 3) := by decide +kernel
theorem d_Ru_nextTask_11 : decode c_Ru_nextTask 11 = .ok (.ireturn, 1) := by decide +kernel
theorem d_Ru_taskOf_0 : decode c_Ru_taskOf 0 = .ok (.iload_n 1, 1) := by decide +kernel
theorem d_Ru_taskOf_1 : decode c_Ru_taskOf 1 = .ok (.iload_n 2, 1) := by decide +kernel
theorem d_Ru_taskOf_2 : decode c_Ru_taskOf 2 = .ok (.aload_n 0, 1) := by decide +kernel
theorem d_Ru_taskOf_3 : decode c_Ru_taskOf 3 = .ok (.getfield 22, 3) := by decide +kernel
theorem d_Ru_taskOf_6 : decode c_Ru_taskOf 6 = .ok (.imul, 1) := by decide +kernel
theorem d_Ru_taskOf_7 : decode c_Ru_taskOf 7 = .ok (.iadd, 1) := by decide +kernel
theorem d_Ru_taskOf_8 : decode c_Ru_taskOf 8 = .ok (.ireturn, 1) := by decide +kernel
theorem d_Ru_finishTask_0 : decode c_Ru_finishTask 0 = .ok (.aload_n 0, 1) := by decide +kernel
theorem d_Ru_finishTask_1 : decode c_Ru_finishTask 1 = .ok (.getfield 9, 3) := by decide +kernel
theorem d_Ru_finishTask_4 : decode c_Ru_finishTask 4 = .ok (.iload_n 1, 1) := by decide +kernel
theorem d_Ru_finishTask_5 : decode c_Ru_finishTask 5 = .ok (.dup2, 1) := by decide +kernel
theorem d_Ru_finishTask_6 : decode c_Ru_finishTask 6 = .ok (.iaload, 1) := by decide +kernel
theorem d_Ru_finishTask_7 : decode c_Ru_finishTask 7 = .ok (.iconst 1, 1) := by decide +kernel
theorem d_Ru_finishTask_8 : decode c_Ru_finishTask 8 = .ok (.iadd, 1) := by decide +kernel
theorem d_Ru_finishTask_9 : decode c_Ru_finishTask 9 = .ok (.iastore, 1) := by decide +kernel
theorem d_Ru_finishTask_10 : decode c_Ru_finishTask 10 = .ok (.return_, 1) := by decide +kernel
theorem d_Ru_undoTasks_0 : decode c_Ru_undoTasks 0 = .ok (.aload_n 0, 1) := by decide +kernel
theorem d_Ru_undoTasks_1 : decode c_Ru_undoTasks 1 = .ok (.getfield 9, 3) := by decide +kernel
theorem d_Ru_undoTasks_4 : decode c_Ru_undoTasks 4 = .ok (.iload_n 1, 1) := by decide +kernel
theorem d_Ru_undoTasks_5 : decode c_Ru_undoTasks 5 = .ok (.iaload, 1) := by decide +kernel
theorem d_Ru_undoTasks_6 : decode c_Ru_undoTasks 6 = .ok (.istore_n 2, 1) := by decide +kernel
theorem d_Ru_undoTasks_7 : decode c_Ru_undoTasks 7 = .ok (.iconst 0, 1) := by decide +kernel
theorem d_Ru_undoTasks_8 : decode c_Ru_undoTasks 8 = .ok (.istore_n 3, 1) := by decide +kernel
theorem d_Ru_undoTasks_9 : decode c_Ru_undoTasks 9 = .ok (.iload_n 3, 1) := by decide +kernel
theorem d_Ru_undoTasks_10 : decode c_Ru_undoTasks 10 = .ok (.iload_n 2, 1) := by decide +kernel
theorem d_Ru_undoTasks_11 : decode c_Ru_undoTasks 11 = .ok (.if_icmp .ge 19, 3) := by decide +kernel
theorem d_Ru_undoTasks_14 : decode c_Ru_undoTasks 14 = .ok (.aload_n 0, 1) := by decide +kernel
theorem d_Ru_undoTasks_15 : decode c_Ru_undoTasks 15 = .ok (.aload_n 0, 1) := by decide +kernel
theorem d_Ru_undoTasks_16 : decode c_Ru_undoTasks 16 = .ok (.iload_n 1, 1) := by decide +kernel
theorem d_Ru_undoTasks_17 : decode c_Ru_undoTasks 17 = .ok (.iload_n 3, 1) := by decide +kernel
theorem d_Ru_undoTasks_18 : decode c_Ru_undoTasks 18 = .ok (.invokevirtual 29, 3) := by decide +kernel
theorem d_Ru_undoTasks_21 : decode c_Ru_undoTasks 21 = .ok (.invokevirtual 33, 3) := by decide +kernel
theorem d_Ru_undoTasks_24 : decode c_Ru_undoTasks 24 = .ok (.iinc 3 1, 3) := by decide +kernel
theorem d_Ru_undoTasks_27 : decode c_Ru_undoTasks 27 = .ok (.goto (-18), 3) := by decide +kernel
theorem d_Ru_undoTasks_30 : decode c_Ru_undoTasks 30 = .ok (.aload_n 0, 1) := by decide +kernel
theorem d_Ru_undoTasks_31 : decode c_Ru_undoTasks 31 = .ok (.getfield 9, 3) := by decide +kernel
theorem d_Ru_undoTasks_34 : decode c_Ru_undoTasks 34 = .ok (.iload_n 1, 1) := by decide +kernel
theorem d_Ru_undoTasks_35 : decode c_Ru_undoTasks 35 = .ok (.iconst 0, 1) := by decide +kernel
theorem d_Ru_undoTasks_36 : decode c_Ru_undoTasks 36 = .ok (.iastore, 1) := by decide +kernel
theorem d_Ru_undoTasks_37 : decode c_Ru_undoTasks 37 = .ok (.iload_n 2, 1) := by decide +kernel
theorem d_Ru_undoTasks_38 : decode c_Ru_undoTasks 38 = .ok (.ireturn, 1) := by decide +kernel
theorem d_Ru_forgetPairsOf_0 : decode c_Ru_forgetPairsOf 0 = .ok (.iconst 0, 1) := by decide +kernel
theorem d_Ru_forgetPairsOf_1 : decode c_Ru_forgetPairsOf 1 = .ok (.istore_n 2, 1) := by decide +kernel
theorem d_Ru_forgetPairsOf_2 : decode c_Ru_forgetPairsOf 2 = .ok (.iload_n 2, 1) := by decide +kernel
theorem d_Ru_forgetPairsOf_3 : decode c_Ru_forgetPairsOf 3 = .ok (.iload_n 1, 1) := by decide +kernel
theorem d_Ru_forgetPairsOf_4 : decode c_Ru_forgetPairsOf 4 = .ok (.if_icmp .ge 20, 3) := by decide +kernel
theorem d_Ru_forgetPairsOf_7 : decode c_Ru_forgetPairsOf 7 = .ok (.aload_n 0, 1) := by decide +kernel
theorem d_Ru_forgetPairsOf_8 : decode c_Ru_forgetPairsOf 8 = .ok (.getfield 15, 3) := by decide +kernel
theorem d_Ru_forgetPairsOf_11 : decode c_Ru_forgetPairsOf 11 = .ok (.iload_n 2, 1) := by decide +kernel
theorem d_Ru_forgetPairsOf_12 : decode c_Ru_forgetPairsOf 12 = .ok (.iload_n 1, 1) := by decide +kernel
theorem d_Ru_forgetPairsOf_13 : decode c_Ru_forgetPairsOf 13 = .ok (.invokestatic 37, 3) := by decide +kernel
theorem d_Ru_forgetPairsOf_16 : decode c_Ru_forgetPairsOf 16 = .ok (.iconst 0, 1) := by decide +kernel
theorem d_Ru_forgetPairsOf_17 : decode c_Ru_forgetPairsOf 17 = .ok (.bastore, 1) := by decide +kernel
theorem d_Ru_forgetPairsOf_18 : decode c_Ru_forgetPairsOf 18 = .ok (.iinc 2 1, 3) := by decide +kernel
theorem d_Ru_forgetPairsOf_21 : decode c_Ru_forgetPairsOf 21 = .ok (.goto (-19), 3) := by decide +kernel
theorem d_Ru_forgetPairsOf_24 : decode c_Ru_forgetPairsOf 24 = .ok (.return_, 1) := by decide +kernel
theorem d_Ru_note_0 : decode c_Ru_note 0 = .ok (.aload_n 0, 1) := by decide +kernel
theorem d_Ru_note_1 : decode c_Ru_note 1 = .ok (.getfield 15, 3) := by decide +kernel
theorem d_Ru_note_4 : decode c_Ru_note 4 = .ok (.iload_n 1, 1) := by decide +kernel
theorem d_Ru_note_5 : decode c_Ru_note 5 = .ok (.iload_n 2, 1) := by decide +kernel
theorem d_Ru_note_6 : decode c_Ru_note 6 = .ok (.invokestatic 37, 3) := by decide +kernel
theorem d_Ru_note_9 : decode c_Ru_note 9 = .ok (.iconst 1, 1) := by decide +kernel
theorem d_Ru_note_10 : decode c_Ru_note 10 = .ok (.bastore, 1) := by decide +kernel
theorem d_Ru_note_11 : decode c_Ru_note 11 = .ok (.return_, 1) := by decide +kernel
theorem d_Ru_isNoted_0 : decode c_Ru_isNoted 0 = .ok (.aload_n 0, 1) := by decide +kernel
theorem d_Ru_isNoted_1 : decode c_Ru_isNoted 1 = .ok (.getfield 15, 3) := by decide +kernel
theorem d_Ru_isNoted_4 : decode c_Ru_isNoted 4 = .ok (.iload_n 1, 1) := by decide +kernel
theorem d_Ru_isNoted_5 : decode c_Ru_isNoted 5 = .ok (.iload_n 2, 1) := by decide +kernel
theorem d_Ru_isNoted_6 : decode c_Ru_isNoted 6 = .ok (.invokestatic 37, 3) := by decide +kernel
theorem d_Ru_isNoted_9 : decode c_Ru_isNoted 9 = .ok (.baload, 1) := by decide +kernel
theorem d_Ru_isNoted_10 : decode c_Ru_isNoted 10 = .ok (.ireturn, 1) := by decide +kernel
theorem d_Ru_placeOf_0 : decode c_Ru_placeOf 0 = .ok (.iload_n 1, 1) := by decide +kernel
theorem d_Ru_placeOf_1 : decode c_Ru_placeOf 1 = .ok (.bipush 12, 2) := by decide +kernel
theorem d_Ru_placeOf_3 : decode c_Ru_placeOf 3 = .ok (.imul, 1) := by decide +kernel
theorem d_Ru_placeOf_4 : decode c_Ru_placeOf 4 = .ok (.iload_n 0, 1) := by decide +kernel
theorem d_Ru_placeOf_5 : decode c_Ru_placeOf 5 = .ok (.iadd, 1) := by decide +kernel
theorem d_Ru_placeOf_6 : decode c_Ru_placeOf 6 = .ok (.ireturn, 1) := by decide +kernel
theorem d_Ru_countPairs_0 : decode c_Ru_countPairs 0 = .ok (.iconst 0, 1) := by decide +kernel
theorem d_Ru_countPairs_1 : decode c_Ru_countPairs 1 = .ok (.istore_n 1, 1) := by decide +kernel
theorem d_Ru_countPairs_2 : decode c_Ru_countPairs 2 = .ok (.iconst 0, 1) := by decide +kernel
theorem d_Ru_countPairs_3 : decode c_Ru_countPairs 3 = .ok (.istore_n 2, 1) := by decide +kernel
theorem d_Ru_countPairs_4 : decode c_Ru_countPairs 4 = .ok (.iload_n 2, 1) := by decide +kernel
theorem d_Ru_countPairs_5 : decode c_Ru_countPairs 5 = .ok (.aload_n 0, 1) := by decide +kernel
theorem d_Ru_countPairs_6 : decode c_Ru_countPairs 6 = .ok (.getfield 26, 3) := by decide +kernel
theorem d_Ru_countPairs_9 : decode c_Ru_countPairs 9 = .ok (.if_icmp .ge 34, 3) := by decide +kernel
theorem d_Ru_countPairs_12 : decode c_Ru_countPairs 12 = .ok (.iconst 0, 1) := by decide +kernel
theorem d_Ru_countPairs_13 : decode c_Ru_countPairs 13 = .ok (.istore_n 3, 1) := by decide +kernel
theorem d_Ru_countPairs_14 : decode c_Ru_countPairs 14 = .ok (.iload_n 3, 1) := by decide +kernel
theorem d_Ru_countPairs_15 : decode c_Ru_countPairs 15 = .ok (.iload_n 2, 1) := by decide +kernel
theorem d_Ru_countPairs_16 : decode c_Ru_countPairs 16 = .ok (.if_icmp .ge 21, 3) := by decide +kernel
theorem d_Ru_countPairs_19 : decode c_Ru_countPairs 19 = .ok (.aload_n 0, 1) := by decide +kernel
theorem d_Ru_countPairs_20 : decode c_Ru_countPairs 20 = .ok (.iload_n 3, 1) := by decide +kernel
theorem d_Ru_countPairs_21 : decode c_Ru_countPairs 21 = .ok (.iload_n 2, 1) := by decide +kernel
theorem d_Ru_countPairs_22 : decode c_Ru_countPairs 22 = .ok (.invokevirtual 40, 3) := by decide +kernel
theorem d_Ru_countPairs_25 : decode c_Ru_countPairs 25 = .ok (.ifCond .eq 6, 3) := by decide +kernel
theorem d_Ru_countPairs_28 : decode c_Ru_countPairs 28 = .ok (.iinc 1 1, 3) := by decide +kernel
theorem d_Ru_countPairs_31 : decode c_Ru_countPairs 31 = .ok (.iinc 3 1, 3) := by decide +kernel
theorem d_Ru_countPairs_34 : decode c_Ru_countPairs 34 = .ok (.goto (-20), 3) := by decide +kernel
theorem d_Ru_countPairs_37 : decode c_Ru_countPairs 37 = .ok (.iinc 2 1, 3) := by decide +kernel
theorem d_Ru_countPairs_40 : decode c_Ru_countPairs 40 = .ok (.goto (-36), 3) := by decide +kernel
theorem d_Ru_countPairs_43 : decode c_Ru_countPairs 43 = .ok (.iload_n 1, 1) := by decide +kernel
theorem d_Ru_countPairs_44 : decode c_Ru_countPairs 44 = .ok (.ireturn, 1) := by decide +kernel
theorem d_Ru_gather_0 : decode c_Ru_gather 0 = .ok (.iconst 0, 1) := by decide +kernel
theorem d_Ru_gather_1 : decode c_Ru_gather 1 = .ok (.istore_n 1, 1) := by decide +kernel
theorem d_Ru_gather_2 : decode c_Ru_gather 2 = .ok (.iload_n 1, 1) := by decide +kernel
theorem d_Ru_gather_3 : decode c_Ru_gather 3 = .ok (.aload_n 0, 1) := by decide +kernel
theorem d_Ru_gather_4 : decode c_Ru_gather 4 = .ok (.getfield 26, 3) := by decide +kernel
theorem d_Ru_gather_7 : decode c_Ru_gather 7 = .ok (.if_icmp .ge 16, 3) := by decide +kernel
theorem d_Ru_gather_10 : decode c_Ru_gather 10 = .ok (.aload_n 0, 1) := by decide +kernel
theorem d_Ru_gather_11 : decode c_Ru_gather 11 = .ok (.getfield 19, 3) := by decide +kernel
theorem d_Ru_gather_14 : decode c_Ru_gather 14 = .ok (.iload_n 1, 1) := by decide +kernel
theorem d_Ru_gather_15 : decode c_Ru_gather 15 = .ok (.iload_n 1, 1) := by decide +kernel
theorem d_Ru_gather_16 : decode c_Ru_gather 16 = .ok (.iastore, 1) := by decide +kernel
theorem d_Ru_gather_17 : decode c_Ru_gather 17 = .ok (.iinc 1 1, 3) := by decide +kernel
theorem d_Ru_gather_20 : decode c_Ru_gather 20 = .ok (.goto (-18), 3) := by decide +kernel
theorem d_Ru_gather_23 : decode c_Ru_gather 23 = .ok (.iconst 0, 1) := by decide +kernel
theorem d_Ru_gather_24 : decode c_Ru_gather 24 = .ok (.istore_n 1, 1) := by decide +kernel
theorem d_Ru_gather_25 : decode c_Ru_gather 25 = .ok (.iload_n 1, 1) := by decide +kernel
theorem d_Ru_gather_26 : decode c_Ru_gather 26 = .ok (.aload_n 0, 1) := by decide +kernel
theorem d_Ru_gather_27 : decode c_Ru_gather 27 = .ok (.getfield 26, 3) := by decide +kernel
theorem d_Ru_gather_30 : decode c_Ru_gather 30 = .ok (.if_icmp .ge 47, 3) := by decide +kernel
theorem d_Ru_gather_33 : decode c_Ru_gather 33 = .ok (.iconst 0, 1) := by decide +kernel
theorem d_Ru_gather_34 : decode c_Ru_gather 34 = .ok (.istore_n 2, 1) := by decide +kernel
theorem d_Ru_gather_35 : decode c_Ru_gather 35 = .ok (.iload_n 2, 1) := by decide +kernel
theorem d_Ru_gather_36 : decode c_Ru_gather 36 = .ok (.iload_n 1, 1) := by decide +kernel
theorem d_Ru_gather_37 : decode c_Ru_gather 37 = .ok (.if_icmp .ge 34, 3) := by decide +kernel
theorem d_Ru_gather_40 : decode c_Ru_gather 40 = .ok (.aload_n 0, 1) := by decide +kernel
theorem d_Ru_gather_41 : decode c_Ru_gather 41 = .ok (.iload_n 2, 1) := by decide +kernel
theorem d_Ru_gather_42 : decode c_Ru_gather 42 = .ok (.iload_n 1, 1) := by decide +kernel
theorem d_Ru_gather_43 : decode c_Ru_gather 43 = .ok (.invokevirtual 40, 3) := by decide +kernel
theorem d_Ru_gather_46 : decode c_Ru_gather 46 = .ok (.ifCond .eq 19, 3) := by decide +kernel
theorem d_Ru_gather_49 : decode c_Ru_gather 49 = .ok (.aload_n 0, 1) := by decide +kernel
theorem d_Ru_gather_50 : decode c_Ru_gather 50 = .ok (.aload_n 0, 1) := by decide +kernel
theorem d_Ru_gather_51 : decode c_Ru_gather 51 = .ok (.getfield 19, 3) := by decide +kernel
theorem d_Ru_gather_54 : decode c_Ru_gather 54 = .ok (.iload_n 2, 1) := by decide +kernel
theorem d_Ru_gather_55 : decode c_Ru_gather 55 = .ok (.iaload, 1) := by decide +kernel
theorem d_Ru_gather_56 : decode c_Ru_gather 56 = .ok (.aload_n 0, 1) := by decide +kernel
theorem d_Ru_gather_57 : decode c_Ru_gather 57 = .ok (.getfield 19, 3) := by decide +kernel
theorem d_Ru_gather_60 : decode c_Ru_gather 60 = .ok (.iload_n 1, 1) := by decide +kernel
theorem d_Ru_gather_61 : decode c_Ru_gather 61 = .ok (.iaload, 1) := by decide +kernel
theorem d_Ru_gather_62 : decode c_Ru_gather 62 = .ok (.invokevirtual 44, 3) := by decide +kernel
theorem d_Ru_gather_65 : decode c_Ru_gather 65 = .ok (.iinc 2 1, 3) := by decide +kernel
theorem d_Ru_gather_68 : decode c_Ru_gather 68 = .ok (.goto (-33), 3) := by decide +kernel
theorem d_Ru_gather_71 : decode c_Ru_gather 71 = .ok (.iinc 1 1, 3) := by decide +kernel
theorem d_Ru_gather_74 : decode c_Ru_gather 74 = .ok (.goto (-49), 3) := by decide +kernel
theorem d_Ru_gather_77 : decode c_Ru_gather 77 = .ok (.return_, 1) := by decide +kernel
theorem d_Ru_unite_0 : decode c_Ru_unite 0 = .ok (.iload_n 1, 1) := by decide +kernel
theorem d_Ru_unite_1 : decode c_Ru_unite 1 = .ok (.iload_n 2, 1) := by decide +kernel
theorem d_Ru_unite_2 : decode c_Ru_unite 2 = .ok (.invokestatic 48, 3) := by decide +kernel
theorem d_Ru_unite_5 : decode c_Ru_unite 5 = .ok (.istore_n 3, 1) := by decide +kernel
theorem d_Ru_unite_6 : decode c_Ru_unite 6 = .ok (.iload_n 1, 1) := by decide +kernel
theorem d_Ru_unite_7 : decode c_Ru_unite 7 = .ok (.iload_n 2, 1) := by decide +kernel
theorem d_Ru_unite_8 : decode c_Ru_unite 8 = .ok (.invokestatic 53, 3) := by decide +kernel
theorem d_Ru_unite_11 : decode c_Ru_unite 11 = .ok (.istore 4, 2) := by decide +kernel
theorem d_Ru_unite_13 : decode c_Ru_unite 13 = .ok (.iconst 0, 1) := by decide +kernel
theorem d_Ru_unite_14 : decode c_Ru_unite 14 = .ok (.istore 5, 2) := by decide +kernel
theorem d_Ru_unite_16 : decode c_Ru_unite 16 = .ok (.iload 5, 2) := by decide +kernel
theorem d_Ru_unite_18 : decode c_Ru_unite 18 = .ok (.aload_n 0, 1) := by decide +kernel
theorem d_Ru_unite_19 : decode c_Ru_unite 19 = .ok (.getfield 26, 3) := by decide +kernel
theorem d_Ru_unite_22 : decode c_Ru_unite 22 = .ok (.if_icmp .ge 29, 3) := by decide +kernel
theorem d_Ru_unite_25 : decode c_Ru_unite 25 = .ok (.aload_n 0, 1) := by decide +kernel
theorem d_Ru_unite_26 : decode c_Ru_unite 26 = .ok (.getfield 19, 3) := by decide +kernel
theorem d_Ru_unite_29 : decode c_Ru_unite 29 = .ok (.iload 5, 2) := by decide +kernel
theorem d_Ru_unite_31 : decode c_Ru_unite 31 = .ok (.iaload, 1) := by decide +kernel
theorem d_Ru_unite_32 : decode c_Ru_unite 32 = .ok (.iload 4, 2) := by decide +kernel
theorem d_Ru_unite_34 : decode c_Ru_unite 34 = .ok (.if_icmp .ne 11, 3) := by decide +kernel
theorem d_Ru_unite_37 : decode c_Ru_unite 37 = .ok (.aload_n 0, 1) := by decide +kernel
theorem d_Ru_unite_38 : decode c_Ru_unite 38 = .ok (.getfield 19, 3) := by decide +kernel
theorem d_Ru_unite_41 : decode c_Ru_unite 41 = .ok (.iload 5, 2) := by decide +kernel
theorem d_Ru_unite_43 : decode c_Ru_unite 43 = .ok (.iload_n 3, 1) := by decide +kernel
theorem d_Ru_unite_44 : decode c_Ru_unite 44 = .ok (.iastore, 1) := by decide +kernel
theorem d_Ru_unite_45 : decode c_Ru_unite 45 = .ok (.iinc 5 1, 3) := by decide +kernel
theorem d_Ru_unite_48 : decode c_Ru_unite 48 = .ok (.goto (-32), 3) := by decide +kernel
theorem d_Ru_unite_51 : decode c_Ru_unite 51 = .ok (.return_, 1) := by decide +kernel
theorem d_Te_init_0 : decode c_Te_init 0 = .ok (.aload_n 0, 1) := by decide +kernel
theorem d_Te_init_1 : decode c_Te_init 1 = .ok (.invokespecial 3, 3) := by decide +kernel
theorem d_Te_init_4 : decode c_Te_init 4 = .ok (.aload_n 0, 1) := by decide +kernel
theorem d_Te_init_5 : decode c_Te_init 5 = .ok (.bipush 12, 2) := by decide +kernel
theorem d_Te_init_7 : decode c_Te_init 7 = .ok (.newarray .char, 2) := by decide +kernel
theorem d_Te_init_9 : decode c_Te_init 9 = .ok (.putfield 9, 3) := by decide +kernel
theorem d_Te_init_12 : decode c_Te_init 12 = .ok (.return_, 1) := by decide +kernel
theorem d_Te_take_0 : decode c_Te_take 0 = .ok (.aload_n 0, 1) := by decide +kernel
theorem d_Te_take_1 : decode c_Te_take 1 = .ok (.getfield 15, 3) := by decide +kernel
theorem d_Te_take_4 : decode c_Te_take 4 = .ok (.bipush 12, 2) := by decide +kernel
theorem d_Te_take_6 : decode c_Te_take 6 = .ok (.if_icmp .lt 5, 3) := by decide +kernel
theorem d_Te_take_9 : decode c_Te_take 9 = .ok (.iconst 0, 1) := by decide +kernel
theorem d_Te_take_10 : decode c_Te_take 10 = .ok (.ireturn, 1) := by decide +kernel
theorem d_Te_take_11 : decode c_Te_take 11 = .ok (.aload_n 0, 1) := by decide +kernel
theorem d_Te_take_12 : decode c_Te_take 12 = .ok (.dup, 1) := by decide +kernel
theorem d_Te_take_13 : decode c_Te_take 13 = .ok (.getfield 15, 3) := by decide +kernel
theorem d_Te_take_16 : decode c_Te_take 16 = .ok (.iconst 1, 1) := by decide +kernel
theorem d_Te_take_17 : decode c_Te_take 17 = .ok (.iadd, 1) := by decide +kernel
theorem d_Te_take_18 : decode c_Te_take 18 = .ok (.putfield 15, 3) := by decide +kernel
theorem d_Te_take_21 : decode c_Te_take 21 = .ok (.aload_n 0, 1) := by decide +kernel
theorem d_Te_take_22 : decode c_Te_take 22 = .ok (.getfield 19, 3) := by decide +kernel
theorem d_Te_take_25 : decode c_Te_take 25 = .ok (.istore_n 2, 1) := by decide +kernel
theorem d_Te_take_26 : decode c_Te_take 26 = .ok (.aload_n 0, 1) := by decide +kernel
theorem d_Te_take_27 : decode c_Te_take 27 = .ok (.iload_n 1, 1) := by decide +kernel
theorem d_Te_take_28 : decode c_Te_take 28 = .ok (.invokestatic 23, 3) := by decide +kernel
theorem d_Te_take_31 : decode c_Te_take 31 = .ok (.putfield 19, 3) := by decide +kernel
theorem d_Te_take_34 : decode c_Te_take 34 = .ok (.aload_n 0, 1) := by decide +kernel
theorem d_Te_take_35 : decode c_Te_take 35 = .ok (.getfield 19, 3) := by decide +kernel
theorem d_Te_take_38 : decode c_Te_take 38 = .ok (.ifCond .ne 5, 3) := by decide +kernel
theorem d_Te_take_41 : decode c_Te_take 41 = .ok (.iconst 1, 1) := by decide +kernel
theorem d_Te_take_42 : decode c_Te_take 42 = .ok (.ireturn, 1) := by decide +kernel
theorem d_Te_take_43 : decode c_Te_take 43 = .ok (.iload_n 2, 1) := by decide +kernel
theorem d_Te_take_44 : decode c_Te_take 44 = .ok (.ifCond .ne 16, 3) := by decide +kernel
theorem d_Te_take_47 : decode c_Te_take 47 = .ok (.aload_n 0, 1) := by decide +kernel
theorem d_Te_take_48 : decode c_Te_take 48 = .ok (.getfield 27, 3) := by decide +kernel
theorem d_Te_take_51 : decode c_Te_take 51 = .ok (.ifCond .le 9, 3) := by decide +kernel
theorem d_Te_take_54 : decode c_Te_take 54 = .ok (.aload_n 0, 1) := by decide +kernel
theorem d_Te_take_55 : decode c_Te_take 55 = .ok (.bipush 32, 2) := by decide +kernel
theorem d_Te_take_57 : decode c_Te_take 57 = .ok (.invokevirtual 30, 3) := by decide +kernel
theorem d_Te_take_60 : decode c_Te_take 60 = .ok (.aload_n 0, 1) := by decide +kernel
theorem d_Te_take_61 : decode c_Te_take 61 = .ok (.iload_n 1, 1) := by decide +kernel
theorem d_Te_take_62 : decode c_Te_take 62 = .ok (.invokestatic 34, 3) := by decide +kernel
theorem d_Te_take_65 : decode c_Te_take 65 = .ok (.invokevirtual 30, 3) := by decide +kernel
theorem d_Te_take_68 : decode c_Te_take 68 = .ok (.iconst 1, 1) := by decide +kernel
theorem d_Te_take_69 : decode c_Te_take 69 = .ok (.ireturn, 1) := by decide +kernel
theorem d_Te_put_0 : decode c_Te_put 0 = .ok (.aload_n 0, 1) := by decide +kernel
theorem d_Te_put_1 : decode c_Te_put 1 = .ok (.getfield 9, 3) := by decide +kernel
theorem d_Te_put_4 : decode c_Te_put 4 = .ok (.aload_n 0, 1) := by decide +kernel
theorem d_Te_put_5 : decode c_Te_put 5 = .ok (.getfield 27, 3) := by decide +kernel
theorem d_Te_put_8 : decode c_Te_put 8 = .ok (.iload_n 1, 1) := by decide +kernel
theorem d_Te_put_9 : decode c_Te_put 9 = .ok (.castore, 1) := by decide +kernel
theorem d_Te_put_10 : decode c_Te_put 10 = .ok (.aload_n 0, 1) := by decide +kernel
theorem d_Te_put_11 : decode c_Te_put 11 = .ok (.dup, 1) := by decide +kernel
theorem d_Te_put_12 : decode c_Te_put 12 = .ok (.getfield 27, 3) := by decide +kernel
theorem d_Te_put_15 : decode c_Te_put 15 = .ok (.iconst 1, 1) := by decide +kernel
theorem d_Te_put_16 : decode c_Te_put 16 = .ok (.iadd, 1) := by decide +kernel
theorem d_Te_put_17 : decode c_Te_put 17 = .ok (.putfield 27, 3) := by decide +kernel
theorem d_Te_put_20 : decode c_Te_put 20 = .ok (.return_, 1) := by decide +kernel
theorem d_Te_isOfWord_0 : decode c_Te_isOfWord 0 = .ok (.iload_n 0, 1) := by decide +kernel
theorem d_Te_isOfWord_1 : decode c_Te_isOfWord 1 = .ok (.bipush 97, 2) := by decide +kernel
theorem d_Te_isOfWord_3 : decode c_Te_isOfWord 3 = .ok (.if_icmp .lt 9, 3) := by decide +kernel
theorem d_Te_isOfWord_6 : decode c_Te_isOfWord 6 = .ok (.iload_n 0, 1) := by decide +kernel
theorem d_Te_isOfWord_7 : decode c_Te_isOfWord 7 = .ok (.bipush 122, 2) := by decide +kernel
theorem d_Te_isOfWord_9 : decode c_Te_isOfWord 9 = .ok (.if_icmp .le 27, 3) := by decide +kernel
theorem d_Te_isOfWord_12 : decode c_Te_isOfWord 12 = .ok (.iload_n 0, 1) := by decide +kernel
theorem d_Te_isOfWord_13 : decode c_Te_isOfWord 13 = .ok (.bipush 65, 2) := by decide +kernel
theorem d_Te_isOfWord_15 : decode c_Te_isOfWord 15 = .ok (.if_icmp .lt 9, 3) := by decide +kernel
theorem d_Te_isOfWord_18 : decode c_Te_isOfWord 18 = .ok (.iload_n 0, 1) := by decide +kernel
theorem d_Te_isOfWord_19 : decode c_Te_isOfWord 19 = .ok (.bipush 90, 2) := by decide +kernel
theorem d_Te_isOfWord_21 : decode c_Te_isOfWord 21 = .ok (.if_icmp .le 15, 3) := by decide +kernel
theorem d_Te_isOfWord_24 : decode c_Te_isOfWord 24 = .ok (.iload_n 0, 1) := by decide +kernel
theorem d_Te_isOfWord_25 : decode c_Te_isOfWord 25 = .ok (.bipush 48, 2) := by decide +kernel
theorem d_Te_isOfWord_27 : decode c_Te_isOfWord 27 = .ok (.if_icmp .lt 13, 3) := by decide +kernel
theorem d_Te_isOfWord_30 : decode c_Te_isOfWord 30 = .ok (.iload_n 0, 1) := by decide +kernel
theorem d_Te_isOfWord_31 : decode c_Te_isOfWord 31 = .ok (.bipush 57, 2) := by decide +kernel
theorem d_Te_isOfWord_33 : decode c_Te_isOfWord 33 = .ok (.if_icmp .gt 7, 3) := by decide +kernel
theorem d_Te_isOfWord_36 : decode c_Te_isOfWord 36 = .ok (.iconst 1, 1) := by decide +kernel
theorem d_Te_isOfWord_37 : decode c_Te_isOfWord 37 = .ok (.goto 4, 3) := by decide +kernel
theorem d_Te_isOfWord_40 : decode c_Te_isOfWord 40 = .ok (.iconst 0, 1) := by decide +kernel
theorem d_Te_isOfWord_41 : decode c_Te_isOfWord 41 = .ok (.ireturn, 1) := by decide +kernel
theorem d_Te_small_0 : decode c_Te_small 0 = .ok (.iload_n 0, 1) := by decide +kernel
theorem d_Te_small_1 : decode c_Te_small 1 = .ok (.bipush 65, 2) := by decide +kernel
theorem d_Te_small_3 : decode c_Te_small 3 = .ok (.if_icmp .lt 20, 3) := by decide +kernel
theorem d_Te_small_6 : decode c_Te_small 6 = .ok (.iload_n 0, 1) := by decide +kernel
theorem d_Te_small_7 : decode c_Te_small 7 = .ok (.bipush 90, 2) := by decide +kernel
theorem d_Te_small_9 : decode c_Te_small 9 = .ok (.if_icmp .gt 14, 3) := by decide +kernel
theorem d_Te_small_12 : decode c_Te_small 12 = .ok (.iload_n 0, 1) := by decide +kernel
theorem d_Te_small_13 : decode c_Te_small 13 = .ok (.bipush 65, 2) := by decide +kernel
theorem d_Te_small_15 : decode c_Te_small 15 = .ok (.isub, 1) := by decide +kernel
theorem d_Te_small_16 : decode c_Te_small 16 = .ok (.bipush 97, 2) := by decide +kernel
theorem d_Te_small_18 : decode c_Te_small 18 = .ok (.iadd, 1) := by decide +kernel
theorem d_Te_small_19 : decode c_Te_small 19 = .ok (.i2c, 1) := by decide +kernel
theorem d_Te_small_20 : decode c_Te_small 20 = .ok (.goto 4, 3) := by decide +kernel
theorem d_Te_small_23 : decode c_Te_small 23 = .ok (.iload_n 0, 1) := by decide +kernel
theorem d_Te_small_24 : decode c_Te_small 24 = .ok (.ireturn, 1) := by decide +kernel
theorem d_Te_wordSetSize_0 : decode c_Te_wordSetSize 0 = .ok (.iconst 0, 1) := by decide +kernel
theorem d_Te_wordSetSize_1 : decode c_Te_wordSetSize 1 = .ok (.istore_n 1, 1) := by decide +kernel
theorem d_Te_wordSetSize_2 : decode c_Te_wordSetSize 2 = .ok (.iconst 0, 1) := by decide +kernel
theorem d_Te_wordSetSize_3 : decode c_Te_wordSetSize 3 = .ok (.istore_n 2, 1) := by decide +kernel
theorem d_Te_wordSetSize_4 : decode c_Te_wordSetSize 4 = .ok (.iload_n 2, 1) := by decide +kernel
theorem d_Te_wordSetSize_5 : decode c_Te_wordSetSize 5 = .ok (.aload_n 0, 1) := by decide +kernel
theorem d_Te_wordSetSize_6 : decode c_Te_wordSetSize 6 = .ok (.getfield 27, 3) := by decide +kernel
theorem d_Te_wordSetSize_9 : decode c_Te_wordSetSize 9 = .ok (.if_icmp .ge 30, 3) := by decide +kernel
theorem d_Te_wordSetSize_12 : decode c_Te_wordSetSize 12 = .ok (.aload_n 0, 1) := by decide +kernel
theorem d_Te_wordSetSize_13 : decode c_Te_wordSetSize 13 = .ok (.iload_n 2, 1) := by decide +kernel
theorem d_Te_wordSetSize_14 : decode c_Te_wordSetSize 14 = .ok (.invokevirtual 38, 3) := by decide +kernel
theorem d_Te_wordSetSize_17 : decode c_Te_wordSetSize 17 = .ok (.ifCond .eq 16, 3) := by decide +kernel
theorem d_Te_wordSetSize_20 : decode c_Te_wordSetSize 20 = .ok (.aload_n 0, 1) := by decide +kernel
theorem d_Te_wordSetSize_21 : decode c_Te_wordSetSize 21 = .ok (.iload_n 2, 1) := by decide +kernel
theorem d_Te_wordSetSize_22 : decode c_Te_wordSetSize 22 = .ok (.aload_n 0, 1) := by decide +kernel
theorem d_Te_wordSetSize_23 : decode c_Te_wordSetSize 23 = .ok (.iload_n 2, 1) := by decide +kernel
theorem d_Te_wordSetSize_24 : decode c_Te_wordSetSize 24 = .ok (.invokevirtual 42, 3) := by decide +kernel
theorem d_Te_wordSetSize_27 : decode c_Te_wordSetSize 27 = .ok (.ifCond .ne 6, 3) := by decide +kernel
theorem d_Te_wordSetSize_30 : decode c_Te_wordSetSize 30 = .ok (.iinc 1 1, 3) := by decide +kernel
theorem d_Te_wordSetSize_33 : decode c_Te_wordSetSize 33 = .ok (.iinc 2 1, 3) := by decide +kernel
theorem d_Te_wordSetSize_36 : decode c_Te_wordSetSize 36 = .ok (.goto (-32), 3) := by decide +kernel
theorem d_Te_wordSetSize_39 : decode c_Te_wordSetSize 39 = .ok (.iload_n 1, 1) := by decide +kernel
theorem d_Te_wordSetSize_40 : decode c_Te_wordSetSize 40 = .ok (.ireturn, 1) := by decide +kernel
theorem d_Te_countWordsSharedWith_0 : decode c_Te_countWordsSharedWith 0 = .ok (.iconst 0, 1) := by decide +kernel
theorem d_Te_countWordsSharedWith_1 : decode c_Te_countWordsSharedWith 1 = .ok (.istore_n 2, 1) := by decide +kernel
theorem d_Te_countWordsSharedWith_2 : decode c_Te_countWordsSharedWith 2 = .ok (.iconst 0, 1) := by decide +kernel
theorem d_Te_countWordsSharedWith_3 : decode c_Te_countWordsSharedWith 3 = .ok (.istore_n 3, 1) := by decide +kernel
theorem d_Te_countWordsSharedWith_4 : decode c_Te_countWordsSharedWith 4 = .ok (.iload_n 3, 1) := by decide +kernel
theorem d_Te_countWordsSharedWith_5 : decode c_Te_countWordsSharedWith 5 = .ok (.aload_n 0, 1) := by decide +kernel
theorem d_Te_countWordsSharedWith_6 : decode c_Te_countWordsSharedWith 6 = .ok (.getfield 27, 3) := by decide +kernel
theorem d_Te_countWordsSharedWith_9 : decode c_Te_countWordsSharedWith 9 = .ok (.if_icmp .ge 43, 3) := by decide +kernel
theorem d_Te_countWordsSharedWith_12 : decode c_Te_countWordsSharedWith 12 = .ok (.aload_n 0, 1) := by decide +kernel
theorem d_Te_countWordsSharedWith_13 : decode c_Te_countWordsSharedWith 13 = .ok (.iload_n 3, 1) := by decide +kernel
theorem d_Te_countWordsSharedWith_14 : decode c_Te_countWordsSharedWith 14 = .ok (.invokevirtual 38, 3) := by decide +kernel
theorem d_Te_countWordsSharedWith_17 : decode c_Te_countWordsSharedWith 17 = .ok (.ifCond .eq 29, 3) := by decide +kernel
theorem d_Te_countWordsSharedWith_20 : decode c_Te_countWordsSharedWith 20 = .ok (.aload_n 0, 1) := by decide +kernel
theorem d_Te_countWordsSharedWith_21 : decode c_Te_countWordsSharedWith 21 = .ok (.iload_n 3, 1) := by decide +kernel
theorem d_Te_countWordsSharedWith_22 : decode c_Te_countWordsSharedWith 22 = .ok (.aload_n 0, 1) := by decide +kernel
theorem d_Te_countWordsSharedWith_23 : decode c_Te_countWordsSharedWith 23 = .ok (.iload_n 3, 1) := by decide +kernel
theorem d_Te_countWordsSharedWith_24 : decode c_Te_countWordsSharedWith 24 = .ok (.invokevirtual 42, 3) := by decide +kernel
theorem d_Te_countWordsSharedWith_27 : decode c_Te_countWordsSharedWith 27 = .ok (.ifCond .ne 19, 3) := by decide +kernel
theorem d_Te_countWordsSharedWith_30 : decode c_Te_countWordsSharedWith 30 = .ok (.aload_n 1, 1) := by decide +kernel
theorem d_Te_countWordsSharedWith_31 : decode c_Te_countWordsSharedWith 31 = .ok (.aload_n 1, 1) := by decide +kernel
theorem d_Te_countWordsSharedWith_32 : decode c_Te_countWordsSharedWith 32 = .ok (.getfield 27, 3) := by decide +kernel
theorem d_Te_countWordsSharedWith_35 : decode c_Te_countWordsSharedWith 35 = .ok (.aload_n 0, 1) := by decide +kernel
theorem d_Te_countWordsSharedWith_36 : decode c_Te_countWordsSharedWith 36 = .ok (.iload_n 3, 1) := by decide +kernel
theorem d_Te_countWordsSharedWith_37 : decode c_Te_countWordsSharedWith 37 = .ok (.invokevirtual 42, 3) := by decide +kernel
theorem d_Te_countWordsSharedWith_40 : decode c_Te_countWordsSharedWith 40 = .ok (.ifCond .eq 6, 3) := by decide +kernel
theorem d_Te_countWordsSharedWith_43 : decode c_Te_countWordsSharedWith 43 = .ok (.iinc 2 1, 3) := by decide +kernel
theorem d_Te_countWordsSharedWith_46 : decode c_Te_countWordsSharedWith 46 = .ok (.iinc 3 1, 3) := by decide +kernel
theorem d_Te_countWordsSharedWith_49 : decode c_Te_countWordsSharedWith 49 = .ok (.goto (-45), 3) := by decide +kernel
theorem d_Te_countWordsSharedWith_52 : decode c_Te_countWordsSharedWith 52 = .ok (.iload_n 2, 1) := by decide +kernel
theorem d_Te_countWordsSharedWith_53 : decode c_Te_countWordsSharedWith 53 = .ok (.ireturn, 1) := by decide +kernel
theorem d_Te_hasWordBefore_0 : decode c_Te_hasWordBefore 0 = .ok (.iconst 0, 1) := by decide +kernel
theorem d_Te_hasWordBefore_1 : decode c_Te_hasWordBefore 1 = .ok (.istore 4, 2) := by decide +kernel
theorem d_Te_hasWordBefore_3 : decode c_Te_hasWordBefore 3 = .ok (.iload 4, 2) := by decide +kernel
theorem d_Te_hasWordBefore_5 : decode c_Te_hasWordBefore 5 = .ok (.iload_n 1, 1) := by decide +kernel
theorem d_Te_hasWordBefore_6 : decode c_Te_hasWordBefore 6 = .ok (.if_icmp .ge 31, 3) := by decide +kernel
theorem d_Te_hasWordBefore_9 : decode c_Te_hasWordBefore 9 = .ok (.aload_n 0, 1) := by decide +kernel
theorem d_Te_hasWordBefore_10 : decode c_Te_hasWordBefore 10 = .ok (.iload 4, 2) := by decide +kernel
theorem d_Te_hasWordBefore_12 : decode c_Te_hasWordBefore 12 = .ok (.invokevirtual 38, 3) := by decide +kernel
theorem d_Te_hasWordBefore_15 : decode c_Te_hasWordBefore 15 = .ok (.ifCond .eq 16, 3) := by decide +kernel
theorem d_Te_hasWordBefore_18 : decode c_Te_hasWordBefore 18 = .ok (.aload_n 0, 1) := by decide +kernel
theorem d_Te_hasWordBefore_19 : decode c_Te_hasWordBefore 19 = .ok (.iload 4, 2) := by decide +kernel
theorem d_Te_hasWordBefore_21 : decode c_Te_hasWordBefore 21 = .ok (.aload_n 2, 1) := by decide +kernel
theorem d_Te_hasWordBefore_22 : decode c_Te_hasWordBefore 22 = .ok (.iload_n 3, 1) := by decide +kernel
theorem d_Te_hasWordBefore_23 : decode c_Te_hasWordBefore 23 = .ok (.invokevirtual 46, 3) := by decide +kernel
theorem d_Te_hasWordBefore_26 : decode c_Te_hasWordBefore 26 = .ok (.ifCond .eq 5, 3) := by decide +kernel
theorem d_Te_hasWordBefore_29 : decode c_Te_hasWordBefore 29 = .ok (.iconst 1, 1) := by decide +kernel
theorem d_Te_hasWordBefore_30 : decode c_Te_hasWordBefore 30 = .ok (.ireturn, 1) := by decide +kernel
theorem d_Te_hasWordBefore_31 : decode c_Te_hasWordBefore 31 = .ok (.iinc 4 1, 3) := by decide +kernel
theorem d_Te_hasWordBefore_34 : decode c_Te_hasWordBefore 34 = .ok (.goto (-31), 3) := by decide +kernel
theorem d_Te_hasWordBefore_37 : decode c_Te_hasWordBefore 37 = .ok (.iconst 0, 1) := by decide +kernel
theorem d_Te_hasWordBefore_38 : decode c_Te_hasWordBefore 38 = .ok (.ireturn, 1) := by decide +kernel
theorem d_Te_isSameWord_0 : decode c_Te_isSameWord 0 = .ok (.iconst 0, 1) := by decide +kernel
theorem d_Te_isSameWord_1 : decode c_Te_isSameWord 1 = .ok (.istore 4, 2) := by decide +kernel
theorem d_Te_isSameWord_3 : decode c_Te_isSameWord 3 = .ok (.iload 4, 2) := by decide +kernel
theorem d_Te_isSameWord_5 : decode c_Te_isSameWord 5 = .ok (.bipush 12, 2) := by decide +kernel
theorem d_Te_isSameWord_7 : decode c_Te_isSameWord 7 = .ok (.if_icmp .ge 82, 3) := by decide +kernel
theorem d_Te_isSameWord_10 : decode c_Te_isSameWord 10 = .ok (.aload_n 0, 1) := by decide +kernel
theorem d_Te_isSameWord_11 : decode c_Te_isSameWord 11 = .ok (.iload_n 1, 1) := by decide +kernel
theorem d_Te_isSameWord_12 : decode c_Te_isSameWord 12 = .ok (.iload 4, 2) := by decide +kernel
theorem d_Te_isSameWord_14 : decode c_Te_isSameWord 14 = .ok (.iadd, 1) := by decide +kernel
theorem d_Te_isSameWord_15 : decode c_Te_isSameWord 15 = .ok (.invokevirtual 49, 3) := by decide +kernel
theorem d_Te_isSameWord_18 : decode c_Te_isSameWord 18 = .ok (.ifCond .ne 14, 3) := by decide +kernel
theorem d_Te_isSameWord_21 : decode c_Te_isSameWord 21 = .ok (.aload_n 2, 1) := by decide +kernel
theorem d_Te_isSameWord_22 : decode c_Te_isSameWord 22 = .ok (.iload_n 3, 1) := by decide +kernel
theorem d_Te_isSameWord_23 : decode c_Te_isSameWord 23 = .ok (.iload 4, 2) := by decide +kernel
theorem d_Te_isSameWord_25 : decode c_Te_isSameWord 25 = .ok (.iadd, 1) := by decide +kernel
theorem d_Te_isSameWord_26 : decode c_Te_isSameWord 26 = .ok (.invokevirtual 49, 3) := by decide +kernel
theorem d_Te_isSameWord_29 : decode c_Te_isSameWord 29 = .ok (.ifCond .eq 31, 3) := by decide +kernel
theorem d_Te_isSameWord_32 : decode c_Te_isSameWord 32 = .ok (.aload_n 0, 1) := by decide +kernel
theorem d_Te_isSameWord_33 : decode c_Te_isSameWord 33 = .ok (.iload_n 1, 1) := by decide +kernel
theorem d_Te_isSameWord_34 : decode c_Te_isSameWord 34 = .ok (.iload 4, 2) := by decide +kernel
theorem d_Te_isSameWord_36 : decode c_Te_isSameWord 36 = .ok (.iadd, 1) := by decide +kernel
theorem d_Te_isSameWord_37 : decode c_Te_isSameWord 37 = .ok (.invokevirtual 49, 3) := by decide +kernel
theorem d_Te_isSameWord_40 : decode c_Te_isSameWord 40 = .ok (.ifCond .eq 18, 3) := by decide +kernel
theorem d_Te_isSameWord_43 : decode c_Te_isSameWord 43 = .ok (.aload_n 2, 1) := by decide +kernel
theorem d_Te_isSameWord_44 : decode c_Te_isSameWord 44 = .ok (.iload_n 3, 1) := by decide +kernel
theorem d_Te_isSameWord_45 : decode c_Te_isSameWord 45 = .ok (.iload 4, 2) := by decide +kernel
theorem d_Te_isSameWord_47 : decode c_Te_isSameWord 47 = .ok (.iadd, 1) := by decide +kernel
theorem d_Te_isSameWord_48 : decode c_Te_isSameWord 48 = .ok (.invokevirtual 49, 3) := by decide +kernel
theorem d_Te_isSameWord_51 : decode c_Te_isSameWord 51 = .ok (.ifCond .eq 7, 3) := by decide +kernel
theorem d_Te_isSameWord_54 : decode c_Te_isSameWord 54 = .ok (.iconst 1, 1) := by decide +kernel
theorem d_Te_isSameWord_55 : decode c_Te_isSameWord 55 = .ok (.goto 4, 3) := by decide +kernel
theorem d_Te_isSameWord_58 : decode c_Te_isSameWord 58 = .ok (.iconst 0, 1) := by decide +kernel
theorem d_Te_isSameWord_59 : decode c_Te_isSameWord 59 = .ok (.ireturn, 1) := by decide +kernel
theorem d_Te_isSameWord_60 : decode c_Te_isSameWord 60 = .ok (.aload_n 0, 1) := by decide +kernel
theorem d_Te_isSameWord_61 : decode c_Te_isSameWord 61 = .ok (.getfield 9, 3) := by decide +kernel
theorem d_Te_isSameWord_64 : decode c_Te_isSameWord 64 = .ok (.iload_n 1, 1) := by decide +kernel
theorem d_Te_isSameWord_65 : decode c_Te_isSameWord 65 = .ok (.iload 4, 2) := by decide +kernel
theorem d_Te_isSameWord_67 : decode c_Te_isSameWord 67 = .ok (.iadd, 1) := by decide +kernel
theorem d_Te_isSameWord_68 : decode c_Te_isSameWord 68 = .ok (.caload, 1) := by decide +kernel
theorem d_Te_isSameWord_69 : decode c_Te_isSameWord 69 = .ok (.aload_n 2, 1) := by decide +kernel
theorem d_Te_isSameWord_70 : decode c_Te_isSameWord 70 = .ok (.getfield 9, 3) := by decide +kernel
theorem d_Te_isSameWord_73 : decode c_Te_isSameWord 73 = .ok (.iload_n 3, 1) := by decide +kernel
theorem d_Te_isSameWord_74 : decode c_Te_isSameWord 74 = .ok (.iload 4, 2) := by decide +kernel
theorem d_Te_isSameWord_76 : decode c_Te_isSameWord 76 = .ok (.iadd, 1) := by decide +kernel
theorem d_Te_isSameWord_77 : decode c_Te_isSameWord 77 = .ok (.caload, 1) := by decide +kernel
theorem d_Te_isSameWord_78 : decode c_Te_isSameWord 78 = .ok (.if_icmp .eq 5, 3) := by decide +kernel
theorem d_Te_isSameWord_81 : decode c_Te_isSameWord 81 = .ok (.iconst 0, 1) := by decide +kernel
theorem d_Te_isSameWord_82 : decode c_Te_isSameWord 82 = .ok (.ireturn, 1) := by decide +kernel
theorem d_Te_isSameWord_83 : decode c_Te_isSameWord 83 = .ok (.iinc 4 1, 3) := by decide +kernel
theorem d_Te_isSameWord_86 : decode c_Te_isSameWord 86 = .ok (.goto (-83), 3) := by decide +kernel
theorem d_Te_isSameWord_89 : decode c_Te_isSameWord 89 = .ok (.iconst 1, 1) := by decide +kernel
theorem d_Te_isSameWord_90 : decode c_Te_isSameWord 90 = .ok (.ireturn, 1) := by decide +kernel
theorem d_Te_beginsWord_0 : decode c_Te_beginsWord 0 = .ok (.iload_n 1, 1) := by decide +kernel
theorem d_Te_beginsWord_1 : decode c_Te_beginsWord 1 = .ok (.ifCond .eq 16, 3) := by decide +kernel
theorem d_Te_beginsWord_4 : decode c_Te_beginsWord 4 = .ok (.aload_n 0, 1) := by decide +kernel
theorem d_Te_beginsWord_5 : decode c_Te_beginsWord 5 = .ok (.getfield 9, 3) := by decide +kernel
theorem d_Te_beginsWord_8 : decode c_Te_beginsWord 8 = .ok (.iload_n 1, 1) := by decide +kernel
theorem d_Te_beginsWord_9 : decode c_Te_beginsWord 9 = .ok (.iconst 1, 1) := by decide +kernel
theorem d_Te_beginsWord_10 : decode c_Te_beginsWord 10 = .ok (.isub, 1) := by decide +kernel
theorem d_Te_beginsWord_11 : decode c_Te_beginsWord 11 = .ok (.caload, 1) := by decide +kernel
theorem d_Te_beginsWord_12 : decode c_Te_beginsWord 12 = .ok (.bipush 32, 2) := by decide +kernel
theorem d_Te_beginsWord_14 : decode c_Te_beginsWord 14 = .ok (.if_icmp .ne 7, 3) := by decide +kernel
theorem d_Te_beginsWord_17 : decode c_Te_beginsWord 17 = .ok (.iconst 1, 1) := by decide +kernel
theorem d_Te_beginsWord_18 : decode c_Te_beginsWord 18 = .ok (.goto 4, 3) := by decide +kernel
theorem d_Te_beginsWord_21 : decode c_Te_beginsWord 21 = .ok (.iconst 0, 1) := by decide +kernel
theorem d_Te_beginsWord_22 : decode c_Te_beginsWord 22 = .ok (.ireturn, 1) := by decide +kernel
theorem d_Te_endsWord_0 : decode c_Te_endsWord 0 = .ok (.iload_n 1, 1) := by decide +kernel
theorem d_Te_endsWord_1 : decode c_Te_endsWord 1 = .ok (.aload_n 0, 1) := by decide +kernel
theorem d_Te_endsWord_2 : decode c_Te_endsWord 2 = .ok (.getfield 27, 3) := by decide +kernel
theorem d_Te_endsWord_5 : decode c_Te_endsWord 5 = .ok (.if_icmp .ge 14, 3) := by decide +kernel
theorem d_Te_endsWord_8 : decode c_Te_endsWord 8 = .ok (.aload_n 0, 1) := by decide +kernel
theorem d_Te_endsWord_9 : decode c_Te_endsWord 9 = .ok (.getfield 9, 3) := by decide +kernel
theorem d_Te_endsWord_12 : decode c_Te_endsWord 12 = .ok (.iload_n 1, 1) := by decide +kernel
theorem d_Te_endsWord_13 : decode c_Te_endsWord 13 = .ok (.caload, 1) := by decide +kernel
theorem d_Te_endsWord_14 : decode c_Te_endsWord 14 = .ok (.bipush 32, 2) := by decide +kernel
theorem d_Te_endsWord_16 : decode c_Te_endsWord 16 = .ok (.if_icmp .ne 7, 3) := by decide +kernel
theorem d_Te_endsWord_19 : decode c_Te_endsWord 19 = .ok (.iconst 1, 1) := by decide +kernel
theorem d_Te_endsWord_20 : decode c_Te_endsWord 20 = .ok (.goto 4, 3) := by decide +kernel
theorem d_Te_endsWord_23 : decode c_Te_endsWord 23 = .ok (.iconst 0, 1) := by decide +kernel
theorem d_Te_endsWord_24 : decode c_Te_endsWord 24 = .ok (.ireturn, 1) := by decide +kernel
theorem d_Te_compareWith_0 : decode c_Te_compareWith 0 = .ok (.aload_n 0, 1) := by decide +kernel
theorem d_Te_compareWith_1 : decode c_Te_compareWith 1 = .ok (.getfield 27, 3) := by decide +kernel
theorem d_Te_compareWith_4 : decode c_Te_compareWith 4 = .ok (.aload_n 1, 1) := by decide +kernel
theorem d_Te_compareWith_5 : decode c_Te_compareWith 5 = .ok (.getfield 27, 3) := by decide +kernel
theorem d_Te_compareWith_8 : decode c_Te_compareWith 8 = .ok (.invokestatic 52, 3) := by decide +kernel
theorem d_Te_compareWith_11 : decode c_Te_compareWith 11 = .ok (.istore_n 2, 1) := by decide +kernel
theorem d_Te_compareWith_12 : decode c_Te_compareWith 12 = .ok (.iconst 0, 1) := by decide +kernel
theorem d_Te_compareWith_13 : decode c_Te_compareWith 13 = .ok (.istore_n 3, 1) := by decide +kernel
theorem d_Te_compareWith_14 : decode c_Te_compareWith 14 = .ok (.iload_n 3, 1) := by decide +kernel
theorem d_Te_compareWith_15 : decode c_Te_compareWith 15 = .ok (.iload_n 2, 1) := by decide +kernel
theorem d_Te_compareWith_16 : decode c_Te_compareWith 16 = .ok (.if_icmp .ge 38, 3) := by decide +kernel
theorem d_Te_compareWith_19 : decode c_Te_compareWith 19 = .ok (.aload_n 0, 1) := by decide +kernel
theorem d_Te_compareWith_20 : decode c_Te_compareWith 20 = .ok (.getfield 9, 3) := by decide +kernel
theorem d_Te_compareWith_23 : decode c_Te_compareWith 23 = .ok (.iload_n 3, 1) := by decide +kernel
theorem d_Te_compareWith_24 : decode c_Te_compareWith 24 = .ok (.caload, 1) := by decide +kernel
theorem d_Te_compareWith_25 : decode c_Te_compareWith 25 = .ok (.aload_n 1, 1) := by decide +kernel
theorem d_Te_compareWith_26 : decode c_Te_compareWith 26 = .ok (.getfield 9, 3) := by decide +kernel
theorem d_Te_compareWith_29 : decode c_Te_compareWith 29 = .ok (.iload_n 3, 1) := by decide +kernel
theorem d_Te_compareWith_30 : decode c_Te_compareWith 30 = .ok (.caload, 1) := by decide +kernel
theorem d_Te_compareWith_31 : decode c_Te_compareWith 31 = .ok (.if_icmp .eq 17, 3) := by decide +kernel
theorem d_Te_compareWith_34 : decode c_Te_compareWith 34 = .ok (.aload_n 0, 1) := by decide +kernel
theorem d_Te_compareWith_35 : decode c_Te_compareWith 35 = .ok (.getfield 9, 3) := by decide +kernel
theorem d_Te_compareWith_38 : decode c_Te_compareWith 38 = .ok (.iload_n 3, 1) := by decide +kernel
theorem d_Te_compareWith_39 : decode c_Te_compareWith 39 = .ok (.caload, 1) := by decide +kernel
theorem d_Te_compareWith_40 : decode c_Te_compareWith 40 = .ok (.aload_n 1, 1) := by decide +kernel
theorem d_Te_compareWith_41 : decode c_Te_compareWith 41 = .ok (.getfield 9, 3) := by decide +kernel
theorem d_Te_compareWith_44 : decode c_Te_compareWith 44 = .ok (.iload_n 3, 1) := by decide +kernel
theorem d_Te_compareWith_45 : decode c_Te_compareWith 45 = .ok (.caload, 1) := by decide +kernel
theorem d_Te_compareWith_46 : decode c_Te_compareWith 46 = .ok (.isub, 1) := by decide +kernel
theorem d_Te_compareWith_47 : decode c_Te_compareWith 47 = .ok (.ireturn, 1) := by decide +kernel
theorem d_Te_compareWith_48 : decode c_Te_compareWith 48 = .ok (.iinc 3 1, 3) := by decide +kernel
theorem d_Te_compareWith_51 : decode c_Te_compareWith 51 = .ok (.goto (-37), 3) := by decide +kernel
theorem d_Te_compareWith_54 : decode c_Te_compareWith 54 = .ok (.aload_n 0, 1) := by decide +kernel
theorem d_Te_compareWith_55 : decode c_Te_compareWith 55 = .ok (.getfield 27, 3) := by decide +kernel
theorem d_Te_compareWith_58 : decode c_Te_compareWith 58 = .ok (.aload_n 1, 1) := by decide +kernel
theorem d_Te_compareWith_59 : decode c_Te_compareWith 59 = .ok (.getfield 27, 3) := by decide +kernel
theorem d_Te_compareWith_62 : decode c_Te_compareWith 62 = .ok (.isub, 1) := by decide +kernel
theorem d_Te_compareWith_63 : decode c_Te_compareWith 63 = .ok (.ireturn, 1) := by decide +kernel
theorem d_La_law_0 : decode c_La_law 0 = .ok (.new 7, 3) := by decide +kernel
theorem d_La_law_3 : decode c_La_law 3 = .ok (.dup, 1) := by decide +kernel
theorem d_La_law_4 : decode c_La_law 4 = .ok (.invokespecial 9, 3) := by decide +kernel
theorem d_La_law_7 : decode c_La_law 7 = .ok (.astore_n 1, 1) := by decide +kernel
theorem d_La_law_8 : decode c_La_law 8 = .ok (.new 10, 3) := by decide +kernel
theorem d_La_law_11 : decode c_La_law 11 = .ok (.dup, 1) := by decide +kernel
theorem d_La_law_12 : decode c_La_law 12 = .ok (.invokespecial 12, 3) := by decide +kernel
theorem d_La_law_15 : decode c_La_law 15 = .ok (.astore_n 2, 1) := by decide +kernel
theorem d_La_law_16 : decode c_La_law 16 = .ok (.iconst 0, 1) := by decide +kernel
theorem d_La_law_17 : decode c_La_law 17 = .ok (.istore_n 3, 1) := by decide +kernel
theorem d_La_law_18 : decode c_La_law 18 = .ok (.iload_n 3, 1) := by decide +kernel
theorem d_La_law_19 : decode c_La_law 19 = .ok (.aload_n 0, 1) := by decide +kernel
theorem d_La_law_20 : decode c_La_law 20 = .ok (.arraylength, 1) := by decide +kernel
theorem d_La_law_21 : decode c_La_law 21 = .ok (.iconst 4, 1) := by decide +kernel
theorem d_La_law_22 : decode c_La_law 22 = .ok (.isub, 1) := by decide +kernel
theorem d_La_law_23 : decode c_La_law 23 = .ok (.if_icmp .gt 659, 3) := by decide +kernel
theorem d_La_law_26 : decode c_La_law 26 = .ok (.aload_n 0, 1) := by decide +kernel
theorem d_La_law_27 : decode c_La_law 27 = .ok (.iload_n 3, 1) := by decide +kernel
theorem d_La_law_28 : decode c_La_law 28 = .ok (.iaload, 1) := by decide +kernel
theorem d_La_law_29 : decode c_La_law 29 = .ok (.bipush 31, 2) := by decide +kernel
theorem d_La_law_31 : decode c_La_law 31 = .ok (.iand, 1) := by decide +kernel
theorem d_La_law_32 : decode c_La_law 32 = .ok (.tableswitch 644 0 19 #[96, 131, 144, 157, 190, 223, 266, 309, 342, 381, 394, 407, 440, 463, 486, 509, 522, 555, 578, 611], 96) := by decide +kernel
theorem d_La_law_128 : decode c_La_law 128 = .ok (.aload_n 1, 1) := by decide +kernel
theorem d_La_law_129 : decode c_La_law 129 = .ok (.aload_n 0, 1) := by decide +kernel
theorem d_La_law_130 : decode c_La_law 130 = .ok (.iload_n 3, 1) := by decide +kernel
theorem d_La_law_131 : decode c_La_law 131 = .ok (.iconst 1, 1) := by decide +kernel
theorem d_La_law_132 : decode c_La_law 132 = .ok (.iadd, 1) := by decide +kernel
theorem d_La_law_133 : decode c_La_law 133 = .ok (.iaload, 1) := by decide +kernel
theorem d_La_law_134 : decode c_La_law 134 = .ok (.aload_n 0, 1) := by decide +kernel
theorem d_La_law_135 : decode c_La_law 135 = .ok (.iload_n 3, 1) := by decide +kernel
theorem d_La_law_136 : decode c_La_law 136 = .ok (.iconst 2, 1) := by decide +kernel
theorem d_La_law_137 : decode c_La_law 137 = .ok (.iadd, 1) := by decide +kernel
theorem d_La_law_138 : decode c_La_law 138 = .ok (.iaload, 1) := by decide +kernel
theorem d_La_law_139 : decode c_La_law 139 = .ok (.i2c, 1) := by decide +kernel
theorem d_La_law_140 : decode c_La_law 140 = .ok (.invokevirtual 13, 3) := by decide +kernel
theorem d_La_law_143 : decode c_La_law 143 = .ok (.aload_n 2, 1) := by decide +kernel
theorem d_La_law_144 : decode c_La_law 144 = .ok (.aload_n 0, 1) := by decide +kernel
theorem d_La_law_145 : decode c_La_law 145 = .ok (.iload_n 3, 1) := by decide +kernel
theorem d_La_law_146 : decode c_La_law 146 = .ok (.iconst 1, 1) := by decide +kernel
theorem d_La_law_147 : decode c_La_law 147 = .ok (.iadd, 1) := by decide +kernel
theorem d_La_law_148 : decode c_La_law 148 = .ok (.iaload, 1) := by decide +kernel
theorem d_La_law_149 : decode c_La_law 149 = .ok (.aload_n 0, 1) := by decide +kernel
theorem d_La_law_150 : decode c_La_law 150 = .ok (.iload_n 3, 1) := by decide +kernel
theorem d_La_law_151 : decode c_La_law 151 = .ok (.iconst 2, 1) := by decide +kernel
theorem d_La_law_152 : decode c_La_law 152 = .ok (.iadd, 1) := by decide +kernel
theorem d_La_law_153 : decode c_La_law 153 = .ok (.iaload, 1) := by decide +kernel
theorem d_La_law_154 : decode c_La_law 154 = .ok (.i2c, 1) := by decide +kernel
theorem d_La_law_155 : decode c_La_law 155 = .ok (.invokevirtual 17, 3) := by decide +kernel
theorem d_La_law_158 : decode c_La_law 158 = .ok (.if_icmp .eq 518, 3) := by decide +kernel
theorem d_La_law_161 : decode c_La_law 161 = .ok (.iconst 0, 1) := by decide +kernel
theorem d_La_law_162 : decode c_La_law 162 = .ok (.ireturn, 1) := by decide +kernel
theorem d_La_law_163 : decode c_La_law 163 = .ok (.aload_n 1, 1) := by decide +kernel
theorem d_La_law_164 : decode c_La_law 164 = .ok (.invokevirtual 18, 3) := by decide +kernel
theorem d_La_law_167 : decode c_La_law 167 = .ok (.aload_n 2, 1) := by decide +kernel
theorem d_La_law_168 : decode c_La_law 168 = .ok (.invokevirtual 22, 3) := by decide +kernel
theorem d_La_law_171 : decode c_La_law 171 = .ok (.if_icmp .eq 505, 3) := by decide +kernel
theorem d_La_law_174 : decode c_La_law 174 = .ok (.iconst 0, 1) := by decide +kernel
theorem d_La_law_175 : decode c_La_law 175 = .ok (.ireturn, 1) := by decide +kernel
theorem d_La_law_176 : decode c_La_law 176 = .ok (.aload_n 1, 1) := by decide +kernel
theorem d_La_law_177 : decode c_La_law 177 = .ok (.invokevirtual 23, 3) := by decide +kernel
theorem d_La_law_180 : decode c_La_law 180 = .ok (.aload_n 2, 1) := by decide +kernel
theorem d_La_law_181 : decode c_La_law 181 = .ok (.invokevirtual 26, 3) := by decide +kernel
theorem d_La_law_184 : decode c_La_law 184 = .ok (.if_icmp .eq 492, 3) := by decide +kernel
theorem d_La_law_187 : decode c_La_law 187 = .ok (.iconst 0, 1) := by decide +kernel
theorem d_La_law_188 : decode c_La_law 188 = .ok (.ireturn, 1) := by decide +kernel
theorem d_La_law_189 : decode c_La_law 189 = .ok (.aload_n 1, 1) := by decide +kernel
theorem d_La_law_190 : decode c_La_law 190 = .ok (.aload_n 0, 1) := by decide +kernel
theorem d_La_law_191 : decode c_La_law 191 = .ok (.iload_n 3, 1) := by decide +kernel
theorem d_La_law_192 : decode c_La_law 192 = .ok (.iconst 1, 1) := by decide +kernel
theorem d_La_law_193 : decode c_La_law 193 = .ok (.iadd, 1) := by decide +kernel
theorem d_La_law_194 : decode c_La_law 194 = .ok (.iaload, 1) := by decide +kernel
theorem d_La_law_195 : decode c_La_law 195 = .ok (.aload_n 0, 1) := by decide +kernel
theorem d_La_law_196 : decode c_La_law 196 = .ok (.iload_n 3, 1) := by decide +kernel
theorem d_La_law_197 : decode c_La_law 197 = .ok (.iconst 2, 1) := by decide +kernel
theorem d_La_law_198 : decode c_La_law 198 = .ok (.iadd, 1) := by decide +kernel
theorem d_La_law_199 : decode c_La_law 199 = .ok (.iaload, 1) := by decide +kernel
theorem d_La_law_200 : decode c_La_law 200 = .ok (.invokevirtual 27, 3) := by decide +kernel
theorem d_La_law_203 : decode c_La_law 203 = .ok (.aload_n 2, 1) := by decide +kernel
theorem d_La_law_204 : decode c_La_law 204 = .ok (.aload_n 0, 1) := by decide +kernel
theorem d_La_law_205 : decode c_La_law 205 = .ok (.iload_n 3, 1) := by decide +kernel
theorem d_La_law_206 : decode c_La_law 206 = .ok (.iconst 1, 1) := by decide +kernel
theorem d_La_law_207 : decode c_La_law 207 = .ok (.iadd, 1) := by decide +kernel
theorem d_La_law_208 : decode c_La_law 208 = .ok (.iaload, 1) := by decide +kernel
theorem d_La_law_209 : decode c_La_law 209 = .ok (.aload_n 0, 1) := by decide +kernel
theorem d_La_law_210 : decode c_La_law 210 = .ok (.iload_n 3, 1) := by decide +kernel
theorem d_La_law_211 : decode c_La_law 211 = .ok (.iconst 2, 1) := by decide +kernel
theorem d_La_law_212 : decode c_La_law 212 = .ok (.iadd, 1) := by decide +kernel
theorem d_La_law_213 : decode c_La_law 213 = .ok (.iaload, 1) := by decide +kernel
theorem d_La_law_214 : decode c_La_law 214 = .ok (.invokevirtual 31, 3) := by decide +kernel
theorem d_La_law_217 : decode c_La_law 217 = .ok (.if_icmp .eq 459, 3) := by decide +kernel
theorem d_La_law_220 : decode c_La_law 220 = .ok (.iconst 0, 1) := by decide +kernel
theorem d_La_law_221 : decode c_La_law 221 = .ok (.ireturn, 1) := by decide +kernel
theorem d_La_law_222 : decode c_La_law 222 = .ok (.aload_n 1, 1) := by decide +kernel
theorem d_La_law_223 : decode c_La_law 223 = .ok (.aload_n 0, 1) := by decide +kernel
theorem d_La_law_224 : decode c_La_law 224 = .ok (.iload_n 3, 1) := by decide +kernel
theorem d_La_law_225 : decode c_La_law 225 = .ok (.iconst 1, 1) := by decide +kernel
theorem d_La_law_226 : decode c_La_law 226 = .ok (.iadd, 1) := by decide +kernel
theorem d_La_law_227 : decode c_La_law 227 = .ok (.iaload, 1) := by decide +kernel
theorem d_La_law_228 : decode c_La_law 228 = .ok (.aload_n 0, 1) := by decide +kernel
theorem d_La_law_229 : decode c_La_law 229 = .ok (.iload_n 3, 1) := by decide +kernel
theorem d_La_law_230 : decode c_La_law 230 = .ok (.iconst 2, 1) := by decide +kernel
theorem d_La_law_231 : decode c_La_law 231 = .ok (.iadd, 1) := by decide +kernel
theorem d_La_law_232 : decode c_La_law 232 = .ok (.iaload, 1) := by decide +kernel
theorem d_La_law_233 : decode c_La_law 233 = .ok (.invokevirtual 32, 3) := by decide +kernel
theorem d_La_law_236 : decode c_La_law 236 = .ok (.aload_n 2, 1) := by decide +kernel
theorem d_La_law_237 : decode c_La_law 237 = .ok (.aload_n 0, 1) := by decide +kernel
theorem d_La_law_238 : decode c_La_law 238 = .ok (.iload_n 3, 1) := by decide +kernel
theorem d_La_law_239 : decode c_La_law 239 = .ok (.iconst 1, 1) := by decide +kernel
theorem d_La_law_240 : decode c_La_law 240 = .ok (.iadd, 1) := by decide +kernel
theorem d_La_law_241 : decode c_La_law 241 = .ok (.iaload, 1) := by decide +kernel
theorem d_La_law_242 : decode c_La_law 242 = .ok (.aload_n 0, 1) := by decide +kernel
theorem d_La_law_243 : decode c_La_law 243 = .ok (.iload_n 3, 1) := by decide +kernel
theorem d_La_law_244 : decode c_La_law 244 = .ok (.iconst 2, 1) := by decide +kernel
theorem d_La_law_245 : decode c_La_law 245 = .ok (.iadd, 1) := by decide +kernel
theorem d_La_law_246 : decode c_La_law 246 = .ok (.iaload, 1) := by decide +kernel
theorem d_La_law_247 : decode c_La_law 247 = .ok (.invokevirtual 35, 3) := by decide +kernel
theorem d_La_law_250 : decode c_La_law 250 = .ok (.if_icmp .eq 426, 3) := by decide +kernel
theorem d_La_law_253 : decode c_La_law 253 = .ok (.iconst 0, 1) := by decide +kernel
theorem d_La_law_254 : decode c_La_law 254 = .ok (.ireturn, 1) := by decide +kernel
theorem d_La_law_255 : decode c_La_law 255 = .ok (.aload_n 1, 1) := by decide +kernel
theorem d_La_law_256 : decode c_La_law 256 = .ok (.aload_n 0, 1) := by decide +kernel
theorem d_La_law_257 : decode c_La_law 257 = .ok (.iload_n 3, 1) := by decide +kernel
theorem d_La_law_258 : decode c_La_law 258 = .ok (.iconst 1, 1) := by decide +kernel
theorem d_La_law_259 : decode c_La_law 259 = .ok (.iadd, 1) := by decide +kernel
theorem d_La_law_260 : decode c_La_law 260 = .ok (.iaload, 1) := by decide +kernel
theorem d_La_law_261 : decode c_La_law 261 = .ok (.aload_n 0, 1) := by decide +kernel
theorem d_La_law_262 : decode c_La_law 262 = .ok (.iload_n 3, 1) := by decide +kernel
theorem d_La_law_263 : decode c_La_law 263 = .ok (.iconst 2, 1) := by decide +kernel
theorem d_La_law_264 : decode c_La_law 264 = .ok (.iadd, 1) := by decide +kernel
theorem d_La_law_265 : decode c_La_law 265 = .ok (.iaload, 1) := by decide +kernel
theorem d_La_law_266 : decode c_La_law 266 = .ok (.aload_n 0, 1) := by decide +kernel
theorem d_La_law_267 : decode c_La_law 267 = .ok (.iload_n 3, 1) := by decide +kernel
theorem d_La_law_268 : decode c_La_law 268 = .ok (.iconst 3, 1) := by decide +kernel
theorem d_La_law_269 : decode c_La_law 269 = .ok (.iadd, 1) := by decide +kernel
theorem d_La_law_270 : decode c_La_law 270 = .ok (.iaload, 1) := by decide +kernel
theorem d_La_law_271 : decode c_La_law 271 = .ok (.invokevirtual 36, 3) := by decide +kernel
theorem d_La_law_274 : decode c_La_law 274 = .ok (.aload_n 2, 1) := by decide +kernel
theorem d_La_law_275 : decode c_La_law 275 = .ok (.aload_n 0, 1) := by decide +kernel
theorem d_La_law_276 : decode c_La_law 276 = .ok (.iload_n 3, 1) := by decide +kernel
theorem d_La_law_277 : decode c_La_law 277 = .ok (.iconst 1, 1) := by decide +kernel
theorem d_La_law_278 : decode c_La_law 278 = .ok (.iadd, 1) := by decide +kernel
theorem d_La_law_279 : decode c_La_law 279 = .ok (.iaload, 1) := by decide +kernel
theorem d_La_law_280 : decode c_La_law 280 = .ok (.aload_n 0, 1) := by decide +kernel
theorem d_La_law_281 : decode c_La_law 281 = .ok (.iload_n 3, 1) := by decide +kernel
theorem d_La_law_282 : decode c_La_law 282 = .ok (.iconst 2, 1) := by decide +kernel
theorem d_La_law_283 : decode c_La_law 283 = .ok (.iadd, 1) := by decide +kernel
theorem d_La_law_284 : decode c_La_law 284 = .ok (.iaload, 1) := by decide +kernel
theorem d_La_law_285 : decode c_La_law 285 = .ok (.aload_n 0, 1) := by decide +kernel
theorem d_La_law_286 : decode c_La_law 286 = .ok (.iload_n 3, 1) := by decide +kernel
theorem d_La_law_287 : decode c_La_law 287 = .ok (.iconst 3, 1) := by decide +kernel
theorem d_La_law_288 : decode c_La_law 288 = .ok (.iadd, 1) := by decide +kernel
theorem d_La_law_289 : decode c_La_law 289 = .ok (.iaload, 1) := by decide +kernel
theorem d_La_law_290 : decode c_La_law 290 = .ok (.invokevirtual 40, 3) := by decide +kernel
theorem d_La_law_293 : decode c_La_law 293 = .ok (.if_icmp .eq 383, 3) := by decide +kernel
theorem d_La_law_296 : decode c_La_law 296 = .ok (.iconst 0, 1) := by decide +kernel
theorem d_La_law_297 : decode c_La_law 297 = .ok (.ireturn, 1) := by decide +kernel
theorem d_La_law_298 : decode c_La_law 298 = .ok (.aload_n 1, 1) := by decide +kernel
theorem d_La_law_299 : decode c_La_law 299 = .ok (.aload_n 0, 1) := by decide +kernel
theorem d_La_law_300 : decode c_La_law 300 = .ok (.iload_n 3, 1) := by decide +kernel
theorem d_La_law_301 : decode c_La_law 301 = .ok (.iconst 1, 1) := by decide +kernel
theorem d_La_law_302 : decode c_La_law 302 = .ok (.iadd, 1) := by decide +kernel
theorem d_La_law_303 : decode c_La_law 303 = .ok (.iaload, 1) := by decide +kernel
theorem d_La_law_304 : decode c_La_law 304 = .ok (.aload_n 0, 1) := by decide +kernel
theorem d_La_law_305 : decode c_La_law 305 = .ok (.iload_n 3, 1) := by decide +kernel
theorem d_La_law_306 : decode c_La_law 306 = .ok (.iconst 2, 1) := by decide +kernel
theorem d_La_law_307 : decode c_La_law 307 = .ok (.iadd, 1) := by decide +kernel
theorem d_La_law_308 : decode c_La_law 308 = .ok (.iaload, 1) := by decide +kernel
theorem d_La_law_309 : decode c_La_law 309 = .ok (.aload_n 0, 1) := by decide +kernel
theorem d_La_law_310 : decode c_La_law 310 = .ok (.iload_n 3, 1) := by decide +kernel
theorem d_La_law_311 : decode c_La_law 311 = .ok (.iconst 3, 1) := by decide +kernel
theorem d_La_law_312 : decode c_La_law 312 = .ok (.iadd, 1) := by decide +kernel
theorem d_La_law_313 : decode c_La_law 313 = .ok (.iaload, 1) := by decide +kernel
theorem d_La_law_314 : decode c_La_law 314 = .ok (.invokevirtual 41, 3) := by decide +kernel
theorem d_La_law_317 : decode c_La_law 317 = .ok (.aload_n 2, 1) := by decide +kernel
theorem d_La_law_318 : decode c_La_law 318 = .ok (.aload_n 0, 1) := by decide +kernel
theorem d_La_law_319 : decode c_La_law 319 = .ok (.iload_n 3, 1) := by decide +kernel
theorem d_La_law_320 : decode c_La_law 320 = .ok (.iconst 1, 1) := by decide +kernel
theorem d_La_law_321 : decode c_La_law 321 = .ok (.iadd, 1) := by decide +kernel
theorem d_La_law_322 : decode c_La_law 322 = .ok (.iaload, 1) := by decide +kernel
theorem d_La_law_323 : decode c_La_law 323 = .ok (.aload_n 0, 1) := by decide +kernel
theorem d_La_law_324 : decode c_La_law 324 = .ok (.iload_n 3, 1) := by decide +kernel
theorem d_La_law_325 : decode c_La_law 325 = .ok (.iconst 2, 1) := by decide +kernel
theorem d_La_law_326 : decode c_La_law 326 = .ok (.iadd, 1) := by decide +kernel
theorem d_La_law_327 : decode c_La_law 327 = .ok (.iaload, 1) := by decide +kernel
theorem d_La_law_328 : decode c_La_law 328 = .ok (.aload_n 0, 1) := by decide +kernel
theorem d_La_law_329 : decode c_La_law 329 = .ok (.iload_n 3, 1) := by decide +kernel
theorem d_La_law_330 : decode c_La_law 330 = .ok (.iconst 3, 1) := by decide +kernel
theorem d_La_law_331 : decode c_La_law 331 = .ok (.iadd, 1) := by decide +kernel
theorem d_La_law_332 : decode c_La_law 332 = .ok (.iaload, 1) := by decide +kernel
theorem d_La_law_333 : decode c_La_law 333 = .ok (.invokevirtual 45, 3) := by decide +kernel
theorem d_La_law_336 : decode c_La_law 336 = .ok (.if_icmp .eq 340, 3) := by decide +kernel
theorem d_La_law_339 : decode c_La_law 339 = .ok (.iconst 0, 1) := by decide +kernel
theorem d_La_law_340 : decode c_La_law 340 = .ok (.ireturn, 1) := by decide +kernel
theorem d_La_law_341 : decode c_La_law 341 = .ok (.aload_n 1, 1) := by decide +kernel
theorem d_La_law_342 : decode c_La_law 342 = .ok (.aload_n 0, 1) := by decide +kernel
theorem d_La_law_343 : decode c_La_law 343 = .ok (.iload_n 3, 1) := by decide +kernel
theorem d_La_law_344 : decode c_La_law 344 = .ok (.iconst 1, 1) := by decide +kernel
theorem d_La_law_345 : decode c_La_law 345 = .ok (.iadd, 1) := by decide +kernel
theorem d_La_law_346 : decode c_La_law 346 = .ok (.iaload, 1) := by decide +kernel
theorem d_La_law_347 : decode c_La_law 347 = .ok (.aload_n 0, 1) := by decide +kernel
theorem d_La_law_348 : decode c_La_law 348 = .ok (.iload_n 3, 1) := by decide +kernel
theorem d_La_law_349 : decode c_La_law 349 = .ok (.iconst 2, 1) := by decide +kernel
theorem d_La_law_350 : decode c_La_law 350 = .ok (.iadd, 1) := by decide +kernel
theorem d_La_law_351 : decode c_La_law 351 = .ok (.iaload, 1) := by decide +kernel
theorem d_La_law_352 : decode c_La_law 352 = .ok (.invokevirtual 46, 3) := by decide +kernel
theorem d_La_law_355 : decode c_La_law 355 = .ok (.aload_n 2, 1) := by decide +kernel
theorem d_La_law_356 : decode c_La_law 356 = .ok (.aload_n 0, 1) := by decide +kernel
theorem d_La_law_357 : decode c_La_law 357 = .ok (.iload_n 3, 1) := by decide +kernel
theorem d_La_law_358 : decode c_La_law 358 = .ok (.iconst 1, 1) := by decide +kernel
theorem d_La_law_359 : decode c_La_law 359 = .ok (.iadd, 1) := by decide +kernel
theorem d_La_law_360 : decode c_La_law 360 = .ok (.iaload, 1) := by decide +kernel
theorem d_La_law_361 : decode c_La_law 361 = .ok (.aload_n 0, 1) := by decide +kernel
theorem d_La_law_362 : decode c_La_law 362 = .ok (.iload_n 3, 1) := by decide +kernel
theorem d_La_law_363 : decode c_La_law 363 = .ok (.iconst 2, 1) := by decide +kernel
theorem d_La_law_364 : decode c_La_law 364 = .ok (.iadd, 1) := by decide +kernel
theorem d_La_law_365 : decode c_La_law 365 = .ok (.iaload, 1) := by decide +kernel
theorem d_La_law_366 : decode c_La_law 366 = .ok (.invokevirtual 50, 3) := by decide +kernel
theorem d_La_law_369 : decode c_La_law 369 = .ok (.if_icmp .eq 307, 3) := by decide +kernel
theorem d_La_law_372 : decode c_La_law 372 = .ok (.iconst 0, 1) := by decide +kernel
theorem d_La_law_373 : decode c_La_law 373 = .ok (.ireturn, 1) := by decide +kernel
theorem d_La_law_374 : decode c_La_law 374 = .ok (.aload_n 1, 1) := by decide +kernel
theorem d_La_law_375 : decode c_La_law 375 = .ok (.aload_n 0, 1) := by decide +kernel
theorem d_La_law_376 : decode c_La_law 376 = .ok (.iload_n 3, 1) := by decide +kernel
theorem d_La_law_377 : decode c_La_law 377 = .ok (.iconst 1, 1) := by decide +kernel
theorem d_La_law_378 : decode c_La_law 378 = .ok (.iadd, 1) := by decide +kernel
theorem d_La_law_379 : decode c_La_law 379 = .ok (.iaload, 1) := by decide +kernel
theorem d_La_law_380 : decode c_La_law 380 = .ok (.ifCond .eq 7, 3) := by decide +kernel
theorem d_La_law_383 : decode c_La_law 383 = .ok (.iconst 1, 1) := by decide +kernel
theorem d_La_law_384 : decode c_La_law 384 = .ok (.goto 4, 3) := by decide +kernel
theorem d_La_law_387 : decode c_La_law 387 = .ok (.iconst 0, 1) := by decide +kernel
theorem d_La_law_388 : decode c_La_law 388 = .ok (.invokevirtual 51, 3) := by decide +kernel
theorem d_La_law_391 : decode c_La_law 391 = .ok (.aload_n 2, 1) := by decide +kernel
theorem d_La_law_392 : decode c_La_law 392 = .ok (.aload_n 0, 1) := by decide +kernel
theorem d_La_law_393 : decode c_La_law 393 = .ok (.iload_n 3, 1) := by decide +kernel
theorem d_La_law_394 : decode c_La_law 394 = .ok (.iconst 1, 1) := by decide +kernel
theorem d_La_law_395 : decode c_La_law 395 = .ok (.iadd, 1) := by decide +kernel
theorem d_La_law_396 : decode c_La_law 396 = .ok (.iaload, 1) := by decide +kernel
theorem d_La_law_397 : decode c_La_law 397 = .ok (.ifCond .eq 7, 3) := by decide +kernel
theorem d_La_law_400 : decode c_La_law 400 = .ok (.iconst 1, 1) := by decide +kernel
theorem d_La_law_401 : decode c_La_law 401 = .ok (.goto 4, 3) := by decide +kernel
theorem d_La_law_404 : decode c_La_law 404 = .ok (.iconst 0, 1) := by decide +kernel
theorem d_La_law_405 : decode c_La_law 405 = .ok (.invokevirtual 55, 3) := by decide +kernel
theorem d_La_law_408 : decode c_La_law 408 = .ok (.if_icmp .eq 268, 3) := by decide +kernel
theorem d_La_law_411 : decode c_La_law 411 = .ok (.iconst 0, 1) := by decide +kernel
theorem d_La_law_412 : decode c_La_law 412 = .ok (.ireturn, 1) := by decide +kernel
theorem d_La_law_413 : decode c_La_law 413 = .ok (.aload_n 1, 1) := by decide +kernel
theorem d_La_law_414 : decode c_La_law 414 = .ok (.invokevirtual 56, 3) := by decide +kernel
theorem d_La_law_417 : decode c_La_law 417 = .ok (.aload_n 2, 1) := by decide +kernel
theorem d_La_law_418 : decode c_La_law 418 = .ok (.invokevirtual 59, 3) := by decide +kernel
theorem d_La_law_421 : decode c_La_law 421 = .ok (.if_icmp .eq 255, 3) := by decide +kernel
theorem d_La_law_424 : decode c_La_law 424 = .ok (.iconst 0, 1) := by decide +kernel
theorem d_La_law_425 : decode c_La_law 425 = .ok (.ireturn, 1) := by decide +kernel
theorem d_La_law_426 : decode c_La_law 426 = .ok (.aload_n 1, 1) := by decide +kernel
theorem d_La_law_427 : decode c_La_law 427 = .ok (.invokevirtual 60, 3) := by decide +kernel
theorem d_La_law_430 : decode c_La_law 430 = .ok (.aload_n 2, 1) := by decide +kernel
theorem d_La_law_431 : decode c_La_law 431 = .ok (.invokevirtual 64, 3) := by decide +kernel
theorem d_La_law_434 : decode c_La_law 434 = .ok (.if_icmp .eq 242, 3) := by decide +kernel
theorem d_La_law_437 : decode c_La_law 437 = .ok (.iconst 0, 1) := by decide +kernel
theorem d_La_law_438 : decode c_La_law 438 = .ok (.ireturn, 1) := by decide +kernel
theorem d_La_law_439 : decode c_La_law 439 = .ok (.aload_n 1, 1) := by decide +kernel
theorem d_La_law_440 : decode c_La_law 440 = .ok (.aload_n 0, 1) := by decide +kernel
theorem d_La_law_441 : decode c_La_law 441 = .ok (.iload_n 3, 1) := by decide +kernel
theorem d_La_law_442 : decode c_La_law 442 = .ok (.iconst 1, 1) := by decide +kernel
theorem d_La_law_443 : decode c_La_law 443 = .ok (.iadd, 1) := by decide +kernel
theorem d_La_law_444 : decode c_La_law 444 = .ok (.iaload, 1) := by decide +kernel
theorem d_La_law_445 : decode c_La_law 445 = .ok (.aload_n 0, 1) := by decide +kernel
theorem d_La_law_446 : decode c_La_law 446 = .ok (.iload_n 3, 1) := by decide +kernel
theorem d_La_law_447 : decode c_La_law 447 = .ok (.iconst 2, 1) := by decide +kernel
theorem d_La_law_448 : decode c_La_law 448 = .ok (.iadd, 1) := by decide +kernel
theorem d_La_law_449 : decode c_La_law 449 = .ok (.iaload, 1) := by decide +kernel
theorem d_La_law_450 : decode c_La_law 450 = .ok (.invokevirtual 65, 3) := by decide +kernel
theorem d_La_law_453 : decode c_La_law 453 = .ok (.aload_n 2, 1) := by decide +kernel
theorem d_La_law_454 : decode c_La_law 454 = .ok (.aload_n 0, 1) := by decide +kernel
theorem d_La_law_455 : decode c_La_law 455 = .ok (.iload_n 3, 1) := by decide +kernel
theorem d_La_law_456 : decode c_La_law 456 = .ok (.iconst 1, 1) := by decide +kernel
theorem d_La_law_457 : decode c_La_law 457 = .ok (.iadd, 1) := by decide +kernel
theorem d_La_law_458 : decode c_La_law 458 = .ok (.iaload, 1) := by decide +kernel
theorem d_La_law_459 : decode c_La_law 459 = .ok (.aload_n 0, 1) := by decide +kernel
theorem d_La_law_460 : decode c_La_law 460 = .ok (.iload_n 3, 1) := by decide +kernel
theorem d_La_law_461 : decode c_La_law 461 = .ok (.iconst 2, 1) := by decide +kernel
theorem d_La_law_462 : decode c_La_law 462 = .ok (.iadd, 1) := by decide +kernel
theorem d_La_law_463 : decode c_La_law 463 = .ok (.iaload, 1) := by decide +kernel
theorem d_La_law_464 : decode c_La_law 464 = .ok (.invokevirtual 68, 3) := by decide +kernel
theorem d_La_law_467 : decode c_La_law 467 = .ok (.if_icmp .eq 209, 3) := by decide +kernel
theorem d_La_law_470 : decode c_La_law 470 = .ok (.iconst 0, 1) := by decide +kernel
theorem d_La_law_471 : decode c_La_law 471 = .ok (.ireturn, 1) := by decide +kernel
theorem d_La_law_472 : decode c_La_law 472 = .ok (.aload_n 1, 1) := by decide +kernel
theorem d_La_law_473 : decode c_La_law 473 = .ok (.aload_n 0, 1) := by decide +kernel
theorem d_La_law_474 : decode c_La_law 474 = .ok (.iload_n 3, 1) := by decide +kernel
theorem d_La_law_475 : decode c_La_law 475 = .ok (.iconst 1, 1) := by decide +kernel
theorem d_La_law_476 : decode c_La_law 476 = .ok (.iadd, 1) := by decide +kernel
theorem d_La_law_477 : decode c_La_law 477 = .ok (.iaload, 1) := by decide +kernel
theorem d_La_law_478 : decode c_La_law 478 = .ok (.invokevirtual 69, 3) := by decide +kernel
theorem d_La_law_481 : decode c_La_law 481 = .ok (.aload_n 2, 1) := by decide +kernel
theorem d_La_law_482 : decode c_La_law 482 = .ok (.aload_n 0, 1) := by decide +kernel
theorem d_La_law_483 : decode c_La_law 483 = .ok (.iload_n 3, 1) := by decide +kernel
theorem d_La_law_484 : decode c_La_law 484 = .ok (.iconst 1, 1) := by decide +kernel
theorem d_La_law_485 : decode c_La_law 485 = .ok (.iadd, 1) := by decide +kernel
theorem d_La_law_486 : decode c_La_law 486 = .ok (.iaload, 1) := by decide +kernel
theorem d_La_law_487 : decode c_La_law 487 = .ok (.invokevirtual 73, 3) := by decide +kernel
theorem d_La_law_490 : decode c_La_law 490 = .ok (.if_icmp .eq 186, 3) := by decide +kernel
theorem d_La_law_493 : decode c_La_law 493 = .ok (.iconst 0, 1) := by decide +kernel
theorem d_La_law_494 : decode c_La_law 494 = .ok (.ireturn, 1) := by decide +kernel
theorem d_La_law_495 : decode c_La_law 495 = .ok (.aload_n 1, 1) := by decide +kernel
theorem d_La_law_496 : decode c_La_law 496 = .ok (.aload_n 0, 1) := by decide +kernel
theorem d_La_law_497 : decode c_La_law 497 = .ok (.iload_n 3, 1) := by decide +kernel
theorem d_La_law_498 : decode c_La_law 498 = .ok (.iconst 1, 1) := by decide +kernel
theorem d_La_law_499 : decode c_La_law 499 = .ok (.iadd, 1) := by decide +kernel
theorem d_La_law_500 : decode c_La_law 500 = .ok (.iaload, 1) := by decide +kernel
theorem d_La_law_501 : decode c_La_law 501 = .ok (.invokevirtual 74, 3) := by decide +kernel
theorem d_La_law_504 : decode c_La_law 504 = .ok (.aload_n 2, 1) := by decide +kernel
theorem d_La_law_505 : decode c_La_law 505 = .ok (.aload_n 0, 1) := by decide +kernel
theorem d_La_law_506 : decode c_La_law 506 = .ok (.iload_n 3, 1) := by decide +kernel
theorem d_La_law_507 : decode c_La_law 507 = .ok (.iconst 1, 1) := by decide +kernel
theorem d_La_law_508 : decode c_La_law 508 = .ok (.iadd, 1) := by decide +kernel
theorem d_La_law_509 : decode c_La_law 509 = .ok (.iaload, 1) := by decide +kernel
theorem d_La_law_510 : decode c_La_law 510 = .ok (.invokevirtual 77, 3) := by decide +kernel
theorem d_La_law_513 : decode c_La_law 513 = .ok (.if_icmp .eq 163, 3) := by decide +kernel
theorem d_La_law_516 : decode c_La_law 516 = .ok (.iconst 0, 1) := by decide +kernel
theorem d_La_law_517 : decode c_La_law 517 = .ok (.ireturn, 1) := by decide +kernel
theorem d_La_law_518 : decode c_La_law 518 = .ok (.aload_n 1, 1) := by decide +kernel
theorem d_La_law_519 : decode c_La_law 519 = .ok (.aload_n 0, 1) := by decide +kernel
theorem d_La_law_520 : decode c_La_law 520 = .ok (.iload_n 3, 1) := by decide +kernel
theorem d_La_law_521 : decode c_La_law 521 = .ok (.iconst 1, 1) := by decide +kernel
theorem d_La_law_522 : decode c_La_law 522 = .ok (.iadd, 1) := by decide +kernel
theorem d_La_law_523 : decode c_La_law 523 = .ok (.iaload, 1) := by decide +kernel
theorem d_La_law_524 : decode c_La_law 524 = .ok (.invokevirtual 78, 3) := by decide +kernel
theorem d_La_law_527 : decode c_La_law 527 = .ok (.aload_n 2, 1) := by decide +kernel
theorem d_La_law_528 : decode c_La_law 528 = .ok (.aload_n 0, 1) := by decide +kernel
theorem d_La_law_529 : decode c_La_law 529 = .ok (.iload_n 3, 1) := by decide +kernel
theorem d_La_law_530 : decode c_La_law 530 = .ok (.iconst 1, 1) := by decide +kernel
theorem d_La_law_531 : decode c_La_law 531 = .ok (.iadd, 1) := by decide +kernel
theorem d_La_law_532 : decode c_La_law 532 = .ok (.iaload, 1) := by decide +kernel
theorem d_La_law_533 : decode c_La_law 533 = .ok (.invokevirtual 81, 3) := by decide +kernel
theorem d_La_law_536 : decode c_La_law 536 = .ok (.if_icmp .eq 140, 3) := by decide +kernel
theorem d_La_law_539 : decode c_La_law 539 = .ok (.iconst 0, 1) := by decide +kernel
theorem d_La_law_540 : decode c_La_law 540 = .ok (.ireturn, 1) := by decide +kernel
theorem d_La_law_541 : decode c_La_law 541 = .ok (.aload_n 1, 1) := by decide +kernel
theorem d_La_law_542 : decode c_La_law 542 = .ok (.invokevirtual 82, 3) := by decide +kernel
theorem d_La_law_545 : decode c_La_law 545 = .ok (.aload_n 2, 1) := by decide +kernel
theorem d_La_law_546 : decode c_La_law 546 = .ok (.invokevirtual 85, 3) := by decide +kernel
theorem d_La_law_549 : decode c_La_law 549 = .ok (.if_icmp .eq 127, 3) := by decide +kernel
theorem d_La_law_552 : decode c_La_law 552 = .ok (.iconst 0, 1) := by decide +kernel
theorem d_La_law_553 : decode c_La_law 553 = .ok (.ireturn, 1) := by decide +kernel
theorem d_La_law_554 : decode c_La_law 554 = .ok (.aload_n 1, 1) := by decide +kernel
theorem d_La_law_555 : decode c_La_law 555 = .ok (.aload_n 0, 1) := by decide +kernel
theorem d_La_law_556 : decode c_La_law 556 = .ok (.iload_n 3, 1) := by decide +kernel
theorem d_La_law_557 : decode c_La_law 557 = .ok (.iconst 1, 1) := by decide +kernel
theorem d_La_law_558 : decode c_La_law 558 = .ok (.iadd, 1) := by decide +kernel
theorem d_La_law_559 : decode c_La_law 559 = .ok (.iaload, 1) := by decide +kernel
theorem d_La_law_560 : decode c_La_law 560 = .ok (.aload_n 0, 1) := by decide +kernel
theorem d_La_law_561 : decode c_La_law 561 = .ok (.iload_n 3, 1) := by decide +kernel
theorem d_La_law_562 : decode c_La_law 562 = .ok (.iconst 2, 1) := by decide +kernel
theorem d_La_law_563 : decode c_La_law 563 = .ok (.iadd, 1) := by decide +kernel
theorem d_La_law_564 : decode c_La_law 564 = .ok (.iaload, 1) := by decide +kernel
theorem d_La_law_565 : decode c_La_law 565 = .ok (.invokevirtual 86, 3) := by decide +kernel
theorem d_La_law_568 : decode c_La_law 568 = .ok (.aload_n 2, 1) := by decide +kernel
theorem d_La_law_569 : decode c_La_law 569 = .ok (.aload_n 0, 1) := by decide +kernel
theorem d_La_law_570 : decode c_La_law 570 = .ok (.iload_n 3, 1) := by decide +kernel
theorem d_La_law_571 : decode c_La_law 571 = .ok (.iconst 1, 1) := by decide +kernel
theorem d_La_law_572 : decode c_La_law 572 = .ok (.iadd, 1) := by decide +kernel
theorem d_La_law_573 : decode c_La_law 573 = .ok (.iaload, 1) := by decide +kernel
theorem d_La_law_574 : decode c_La_law 574 = .ok (.aload_n 0, 1) := by decide +kernel
theorem d_La_law_575 : decode c_La_law 575 = .ok (.iload_n 3, 1) := by decide +kernel
theorem d_La_law_576 : decode c_La_law 576 = .ok (.iconst 2, 1) := by decide +kernel
theorem d_La_law_577 : decode c_La_law 577 = .ok (.iadd, 1) := by decide +kernel
theorem d_La_law_578 : decode c_La_law 578 = .ok (.iaload, 1) := by decide +kernel
theorem d_La_law_579 : decode c_La_law 579 = .ok (.invokevirtual 89, 3) := by decide +kernel
theorem d_La_law_582 : decode c_La_law 582 = .ok (.if_icmp .eq 94, 3) := by decide +kernel
theorem d_La_law_585 : decode c_La_law 585 = .ok (.iconst 0, 1) := by decide +kernel
theorem d_La_law_586 : decode c_La_law 586 = .ok (.ireturn, 1) := by decide +kernel
theorem d_La_law_587 : decode c_La_law 587 = .ok (.aload_n 1, 1) := by decide +kernel
theorem d_La_law_588 : decode c_La_law 588 = .ok (.aload_n 0, 1) := by decide +kernel
theorem d_La_law_589 : decode c_La_law 589 = .ok (.iload_n 3, 1) := by decide +kernel
theorem d_La_law_590 : decode c_La_law 590 = .ok (.iconst 1, 1) := by decide +kernel
theorem d_La_law_591 : decode c_La_law 591 = .ok (.iadd, 1) := by decide +kernel
theorem d_La_law_592 : decode c_La_law 592 = .ok (.iaload, 1) := by decide +kernel
theorem d_La_law_593 : decode c_La_law 593 = .ok (.invokevirtual 90, 3) := by decide +kernel
theorem d_La_law_596 : decode c_La_law 596 = .ok (.aload_n 2, 1) := by decide +kernel
theorem d_La_law_597 : decode c_La_law 597 = .ok (.aload_n 0, 1) := by decide +kernel
theorem d_La_law_598 : decode c_La_law 598 = .ok (.iload_n 3, 1) := by decide +kernel
theorem d_La_law_599 : decode c_La_law 599 = .ok (.iconst 1, 1) := by decide +kernel
theorem d_La_law_600 : decode c_La_law 600 = .ok (.iadd, 1) := by decide +kernel
theorem d_La_law_601 : decode c_La_law 601 = .ok (.iaload, 1) := by decide +kernel
theorem d_La_law_602 : decode c_La_law 602 = .ok (.invokevirtual 93, 3) := by decide +kernel
theorem d_La_law_605 : decode c_La_law 605 = .ok (.if_icmp .eq 71, 3) := by decide +kernel
theorem d_La_law_608 : decode c_La_law 608 = .ok (.iconst 0, 1) := by decide +kernel
theorem d_La_law_609 : decode c_La_law 609 = .ok (.ireturn, 1) := by decide +kernel
theorem d_La_law_610 : decode c_La_law 610 = .ok (.aload_n 1, 1) := by decide +kernel
theorem d_La_law_611 : decode c_La_law 611 = .ok (.aload_n 0, 1) := by decide +kernel
theorem d_La_law_612 : decode c_La_law 612 = .ok (.iload_n 3, 1) := by decide +kernel
theorem d_La_law_613 : decode c_La_law 613 = .ok (.iconst 1, 1) := by decide +kernel
theorem d_La_law_614 : decode c_La_law 614 = .ok (.iadd, 1) := by decide +kernel
theorem d_La_law_615 : decode c_La_law 615 = .ok (.iaload, 1) := by decide +kernel
theorem d_La_law_616 : decode c_La_law 616 = .ok (.aload_n 0, 1) := by decide +kernel
theorem d_La_law_617 : decode c_La_law 617 = .ok (.iload_n 3, 1) := by decide +kernel
theorem d_La_law_618 : decode c_La_law 618 = .ok (.iconst 2, 1) := by decide +kernel
theorem d_La_law_619 : decode c_La_law 619 = .ok (.iadd, 1) := by decide +kernel
theorem d_La_law_620 : decode c_La_law 620 = .ok (.iaload, 1) := by decide +kernel
theorem d_La_law_621 : decode c_La_law 621 = .ok (.invokevirtual 94, 3) := by decide +kernel
theorem d_La_law_624 : decode c_La_law 624 = .ok (.aload_n 2, 1) := by decide +kernel
theorem d_La_law_625 : decode c_La_law 625 = .ok (.aload_n 0, 1) := by decide +kernel
theorem d_La_law_626 : decode c_La_law 626 = .ok (.iload_n 3, 1) := by decide +kernel
theorem d_La_law_627 : decode c_La_law 627 = .ok (.iconst 1, 1) := by decide +kernel
theorem d_La_law_628 : decode c_La_law 628 = .ok (.iadd, 1) := by decide +kernel
theorem d_La_law_629 : decode c_La_law 629 = .ok (.iaload, 1) := by decide +kernel
theorem d_La_law_630 : decode c_La_law 630 = .ok (.aload_n 0, 1) := by decide +kernel
theorem d_La_law_631 : decode c_La_law 631 = .ok (.iload_n 3, 1) := by decide +kernel
theorem d_La_law_632 : decode c_La_law 632 = .ok (.iconst 2, 1) := by decide +kernel
theorem d_La_law_633 : decode c_La_law 633 = .ok (.iadd, 1) := by decide +kernel
theorem d_La_law_634 : decode c_La_law 634 = .ok (.iaload, 1) := by decide +kernel
theorem d_La_law_635 : decode c_La_law 635 = .ok (.invokevirtual 97, 3) := by decide +kernel
theorem d_La_law_638 : decode c_La_law 638 = .ok (.if_icmp .eq 38, 3) := by decide +kernel
theorem d_La_law_641 : decode c_La_law 641 = .ok (.iconst 0, 1) := by decide +kernel
theorem d_La_law_642 : decode c_La_law 642 = .ok (.ireturn, 1) := by decide +kernel
theorem d_La_law_643 : decode c_La_law 643 = .ok (.aload_n 1, 1) := by decide +kernel
theorem d_La_law_644 : decode c_La_law 644 = .ok (.aload_n 0, 1) := by decide +kernel
theorem d_La_law_645 : decode c_La_law 645 = .ok (.iload_n 3, 1) := by decide +kernel
theorem d_La_law_646 : decode c_La_law 646 = .ok (.iconst 1, 1) := by decide +kernel
theorem d_La_law_647 : decode c_La_law 647 = .ok (.iadd, 1) := by decide +kernel
theorem d_La_law_648 : decode c_La_law 648 = .ok (.iaload, 1) := by decide +kernel
theorem d_La_law_649 : decode c_La_law 649 = .ok (.aload_n 0, 1) := by decide +kernel
theorem d_La_law_650 : decode c_La_law 650 = .ok (.iload_n 3, 1) := by decide +kernel
theorem d_La_law_651 : decode c_La_law 651 = .ok (.iconst 2, 1) := by decide +kernel
theorem d_La_law_652 : decode c_La_law 652 = .ok (.iadd, 1) := by decide +kernel
theorem d_La_law_653 : decode c_La_law 653 = .ok (.iaload, 1) := by decide +kernel
theorem d_La_law_654 : decode c_La_law 654 = .ok (.invokevirtual 98, 3) := by decide +kernel
theorem d_La_law_657 : decode c_La_law 657 = .ok (.aload_n 2, 1) := by decide +kernel
theorem d_La_law_658 : decode c_La_law 658 = .ok (.aload_n 0, 1) := by decide +kernel
theorem d_La_law_659 : decode c_La_law 659 = .ok (.iload_n 3, 1) := by decide +kernel
theorem d_La_law_660 : decode c_La_law 660 = .ok (.iconst 1, 1) := by decide +kernel
theorem d_La_law_661 : decode c_La_law 661 = .ok (.iadd, 1) := by decide +kernel
theorem d_La_law_662 : decode c_La_law 662 = .ok (.iaload, 1) := by decide +kernel
theorem d_La_law_663 : decode c_La_law 663 = .ok (.aload_n 0, 1) := by decide +kernel
theorem d_La_law_664 : decode c_La_law 664 = .ok (.iload_n 3, 1) := by decide +kernel
theorem d_La_law_665 : decode c_La_law 665 = .ok (.iconst 2, 1) := by decide +kernel
theorem d_La_law_666 : decode c_La_law 666 = .ok (.iadd, 1) := by decide +kernel
theorem d_La_law_667 : decode c_La_law 667 = .ok (.iaload, 1) := by decide +kernel
theorem d_La_law_668 : decode c_La_law 668 = .ok (.invokevirtual 101, 3) := by decide +kernel
theorem d_La_law_671 : decode c_La_law 671 = .ok (.if_icmp .eq 5, 3) := by decide +kernel
theorem d_La_law_674 : decode c_La_law 674 = .ok (.iconst 0, 1) := by decide +kernel
theorem d_La_law_675 : decode c_La_law 675 = .ok (.ireturn, 1) := by decide +kernel
theorem d_La_law_676 : decode c_La_law 676 = .ok (.iinc 3 4, 3) := by decide +kernel
theorem d_La_law_679 : decode c_La_law 679 = .ok (.goto (-661), 3) := by decide +kernel
theorem d_La_law_682 : decode c_La_law 682 = .ok (.iconst 1, 1) := by decide +kernel
theorem d_La_law_683 : decode c_La_law 683 = .ok (.ireturn, 1) := by decide +kernel
