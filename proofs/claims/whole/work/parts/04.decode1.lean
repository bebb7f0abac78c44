theorem d_Mo_letter_40 : decode c_Mo_letter 40 = .ok (.iload_n 0, 1) := by decide +kernel
theorem d_Mo_letter_41 : decode c_Mo_letter 41 = .ok (.bipush 32, 2) := by decide +kernel
theorem d_Mo_letter_43 : decode c_Mo_letter 43 = .ok (.iadd, 1) := by decide +kernel
theorem d_Mo_letter_44 : decode c_Mo_letter 44 = .ok (.goto 4, 3) := by decide +kernel
theorem d_Mo_letter_47 : decode c_Mo_letter 47 = .ok (.iconst 0, 1) := by decide +kernel
theorem d_Mo_letter_48 : decode c_Mo_letter 48 = .ok (.ireturn, 1) := by decide +kernel
theorem d_Mo_look_0 : decode c_Mo_look 0 = .ok (.iconst 2, 1) := by decide +kernel
theorem d_Mo_look_1 : decode c_Mo_look 1 = .ok (.iload_n 2, 1) := by decide +kernel
theorem d_Mo_look_2 : decode c_Mo_look 2 = .ok (.imul, 1) := by decide +kernel
theorem d_Mo_look_3 : decode c_Mo_look 3 = .ok (.iload_n 3, 1) := by decide +kernel
theorem d_Mo_look_4 : decode c_Mo_look 4 = .ok (.iadd, 1) := by decide +kernel
theorem d_Mo_look_5 : decode c_Mo_look 5 = .ok (.istore 4, 2) := by decide +kernel
theorem d_Mo_look_7 : decode c_Mo_look 7 = .ok (.iconst 0, 1) := by decide +kernel
theorem d_Mo_look_8 : decode c_Mo_look 8 = .ok (.istore 5, 2) := by decide +kernel
theorem d_Mo_look_10 : decode c_Mo_look 10 = .ok (.iconst 0, 1) := by decide +kernel
theorem d_Mo_look_11 : decode c_Mo_look 11 = .ok (.istore 6, 2) := by decide +kernel
theorem d_Mo_look_13 : decode c_Mo_look 13 = .ok (.iconst 0, 1) := by decide +kernel
theorem d_Mo_look_14 : decode c_Mo_look 14 = .ok (.istore 7, 2) := by decide +kernel
theorem d_Mo_look_16 : decode c_Mo_look 16 = .ok (.iload 7, 2) := by decide +kernel
theorem d_Mo_look_18 : decode c_Mo_look 18 = .ok (.aload_n 0, 1) := by decide +kernel
theorem d_Mo_look_19 : decode c_Mo_look 19 = .ok (.getfield 13, 3) := by decide +kernel
theorem d_Mo_look_22 : decode c_Mo_look 22 = .ok (.iload 4, 2) := by decide +kernel
theorem d_Mo_look_24 : decode c_Mo_look 24 = .ok (.iaload, 1) := by decide +kernel
theorem d_Mo_look_25 : decode c_Mo_look 25 = .ok (.if_icmp .ge 85, 3) := by decide +kernel
theorem d_Mo_look_28 : decode c_Mo_look 28 = .ok (.aload_n 0, 1) := by decide +kernel
theorem d_Mo_look_29 : decode c_Mo_look 29 = .ok (.getfield 7, 3) := by decide +kernel
theorem d_Mo_look_32 : decode c_Mo_look 32 = .ok (.bipush 12, 2) := by decide +kernel
theorem d_Mo_look_34 : decode c_Mo_look 34 = .ok (.iload 4, 2) := by decide +kernel
theorem d_Mo_look_36 : decode c_Mo_look 36 = .ok (.imul, 1) := by decide +kernel
theorem d_Mo_look_37 : decode c_Mo_look 37 = .ok (.iload 7, 2) := by decide +kernel
theorem d_Mo_look_39 : decode c_Mo_look 39 = .ok (.iadd, 1) := by decide +kernel
theorem d_Mo_look_40 : decode c_Mo_look 40 = .ok (.iaload, 1) := by decide +kernel
theorem d_Mo_look_41 : decode c_Mo_look 41 = .ok (.invokestatic 76, 3) := by decide +kernel
theorem d_Mo_look_44 : decode c_Mo_look 44 = .ok (.istore 8, 2) := by decide +kernel
theorem d_Mo_look_46 : decode c_Mo_look 46 = .ok (.iload 8, 2) := by decide +kernel
theorem d_Mo_look_48 : decode c_Mo_look 48 = .ok (.ifCond .ne 9, 3) := by decide +kernel
theorem d_Mo_look_51 : decode c_Mo_look 51 = .ok (.iconst 1, 1) := by decide +kernel
theorem d_Mo_look_52 : decode c_Mo_look 52 = .ok (.istore 6, 2) := by decide +kernel
theorem d_Mo_look_54 : decode c_Mo_look 54 = .ok (.goto 50, 3) := by decide +kernel
theorem d_Mo_look_57 : decode c_Mo_look 57 = .ok (.iload 6, 2) := by decide +kernel
theorem d_Mo_look_59 : decode c_Mo_look 59 = .ok (.ifCond .eq 25, 3) := by decide +kernel
theorem d_Mo_look_62 : decode c_Mo_look 62 = .ok (.iload 5, 2) := by decide +kernel
theorem d_Mo_look_64 : decode c_Mo_look 64 = .ok (.ifCond .le 20, 3) := by decide +kernel
theorem d_Mo_look_67 : decode c_Mo_look 67 = .ok (.aload_n 0, 1) := by decide +kernel
theorem d_Mo_look_68 : decode c_Mo_look 68 = .ok (.getfield 16, 3) := by decide +kernel
theorem d_Mo_look_71 : decode c_Mo_look 71 = .ok (.bipush 12, 2) := by decide +kernel
theorem d_Mo_look_73 : decode c_Mo_look 73 = .ok (.iload_n 1, 1) := by decide +kernel
theorem d_Mo_look_74 : decode c_Mo_look 74 = .ok (.imul, 1) := by decide +kernel
theorem d_Mo_look_75 : decode c_Mo_look 75 = .ok (.iload 5, 2) := by decide +kernel
theorem d_Mo_look_77 : decode c_Mo_look 77 = .ok (.iadd, 1) := by decide +kernel
theorem d_Mo_look_78 : decode c_Mo_look 78 = .ok (.bipush 32, 2) := by decide +kernel
theorem d_Mo_look_80 : decode c_Mo_look 80 = .ok (.iastore, 1) := by decide +kernel
theorem d_Mo_look_81 : decode c_Mo_look 81 = .ok (.iinc 5 1, 3) := by decide +kernel
theorem d_Mo_look_84 : decode c_Mo_look 84 = .ok (.aload_n 0, 1) := by decide +kernel
theorem d_Mo_look_85 : decode c_Mo_look 85 = .ok (.getfield 16, 3) := by decide +kernel
theorem d_Mo_look_88 : decode c_Mo_look 88 = .ok (.bipush 12, 2) := by decide +kernel
theorem d_Mo_look_90 : decode c_Mo_look 90 = .ok (.iload_n 1, 1) := by decide +kernel
theorem d_Mo_look_91 : decode c_Mo_look 91 = .ok (.imul, 1) := by decide +kernel
theorem d_Mo_look_92 : decode c_Mo_look 92 = .ok (.iload 5, 2) := by decide +kernel
theorem d_Mo_look_94 : decode c_Mo_look 94 = .ok (.iadd, 1) := by decide +kernel
theorem d_Mo_look_95 : decode c_Mo_look 95 = .ok (.iload 8, 2) := by decide +kernel
theorem d_Mo_look_97 : decode c_Mo_look 97 = .ok (.iastore, 1) := by decide +kernel
theorem d_Mo_look_98 : decode c_Mo_look 98 = .ok (.iinc 5 1, 3) := by decide +kernel
theorem d_Mo_look_101 : decode c_Mo_look 101 = .ok (.iconst 0, 1) := by decide +kernel
theorem d_Mo_look_102 : decode c_Mo_look 102 = .ok (.istore 6, 2) := by decide +kernel
theorem d_Mo_look_104 : decode c_Mo_look 104 = .ok (.iinc 7 1, 3) := by decide +kernel
theorem d_Mo_look_107 : decode c_Mo_look 107 = .ok (.goto (-91), 3) := by decide +kernel
theorem d_Mo_look_110 : decode c_Mo_look 110 = .ok (.aload_n 0, 1) := by decide +kernel
theorem d_Mo_look_111 : decode c_Mo_look 111 = .ok (.getfield 19, 3) := by decide +kernel
theorem d_Mo_look_114 : decode c_Mo_look 114 = .ok (.iload_n 1, 1) := by decide +kernel
theorem d_Mo_look_115 : decode c_Mo_look 115 = .ok (.iload 5, 2) := by decide +kernel
theorem d_Mo_look_117 : decode c_Mo_look 117 = .ok (.iastore, 1) := by decide +kernel
theorem d_Mo_look_118 : decode c_Mo_look 118 = .ok (.return_, 1) := by decide +kernel
theorem d_Mo_at_0 : decode c_Mo_at 0 = .ok (.iload_n 2, 1) := by decide +kernel
theorem d_Mo_at_1 : decode c_Mo_at 1 = .ok (.ifCond .lt 27, 3) := by decide +kernel
theorem d_Mo_at_4 : decode c_Mo_at 4 = .ok (.iload_n 2, 1) := by decide +kernel
theorem d_Mo_at_5 : decode c_Mo_at 5 = .ok (.aload_n 0, 1) := by decide +kernel
theorem d_Mo_at_6 : decode c_Mo_at 6 = .ok (.getfield 19, 3) := by decide +kernel
theorem d_Mo_at_9 : decode c_Mo_at 9 = .ok (.iload_n 1, 1) := by decide +kernel
theorem d_Mo_at_10 : decode c_Mo_at 10 = .ok (.iaload, 1) := by decide +kernel
theorem d_Mo_at_11 : decode c_Mo_at 11 = .ok (.if_icmp .ge 17, 3) := by decide +kernel
theorem d_Mo_at_14 : decode c_Mo_at 14 = .ok (.aload_n 0, 1) := by decide +kernel
theorem d_Mo_at_15 : decode c_Mo_at 15 = .ok (.getfield 16, 3) := by decide +kernel
theorem d_Mo_at_18 : decode c_Mo_at 18 = .ok (.bipush 12, 2) := by decide +kernel
theorem d_Mo_at_20 : decode c_Mo_at 20 = .ok (.iload_n 1, 1) := by decide +kernel
theorem d_Mo_at_21 : decode c_Mo_at 21 = .ok (.imul, 1) := by decide +kernel
theorem d_Mo_at_22 : decode c_Mo_at 22 = .ok (.iload_n 2, 1) := by decide +kernel
theorem d_Mo_at_23 : decode c_Mo_at 23 = .ok (.iadd, 1) := by decide +kernel
theorem d_Mo_at_24 : decode c_Mo_at 24 = .ok (.iaload, 1) := by decide +kernel
theorem d_Mo_at_25 : decode c_Mo_at 25 = .ok (.goto 5, 3) := by decide +kernel
theorem d_Mo_at_28 : decode c_Mo_at 28 = .ok (.bipush 32, 2) := by decide +kernel
theorem d_Mo_at_30 : decode c_Mo_at 30 = .ok (.ireturn, 1) := by decide +kernel
theorem d_Mo_begins_0 : decode c_Mo_begins 0 = .ok (.aload_n 0, 1) := by decide +kernel
theorem d_Mo_begins_1 : decode c_Mo_begins 1 = .ok (.iload_n 1, 1) := by decide +kernel
theorem d_Mo_begins_2 : decode c_Mo_begins 2 = .ok (.iload_n 2, 1) := by decide +kernel
theorem d_Mo_begins_3 : decode c_Mo_begins 3 = .ok (.invokevirtual 80, 3) := by decide +kernel
theorem d_Mo_begins_6 : decode c_Mo_begins 6 = .ok (.bipush 32, 2) := by decide +kernel
theorem d_Mo_begins_8 : decode c_Mo_begins 8 = .ok (.if_icmp .eq 20, 3) := by decide +kernel
theorem d_Mo_begins_11 : decode c_Mo_begins 11 = .ok (.aload_n 0, 1) := by decide +kernel
theorem d_Mo_begins_12 : decode c_Mo_begins 12 = .ok (.iload_n 1, 1) := by decide +kernel
theorem d_Mo_begins_13 : decode c_Mo_begins 13 = .ok (.iload_n 2, 1) := by decide +kernel
theorem d_Mo_begins_14 : decode c_Mo_begins 14 = .ok (.iconst 1, 1) := by decide +kernel
theorem d_Mo_begins_15 : decode c_Mo_begins 15 = .ok (.isub, 1) := by decide +kernel
theorem d_Mo_begins_16 : decode c_Mo_begins 16 = .ok (.invokevirtual 80, 3) := by decide +kernel
theorem d_Mo_begins_19 : decode c_Mo_begins 19 = .ok (.bipush 32, 2) := by decide +kernel
theorem d_Mo_begins_21 : decode c_Mo_begins 21 = .ok (.if_icmp .ne 7, 3) := by decide +kernel
theorem d_Mo_begins_24 : decode c_Mo_begins 24 = .ok (.iconst 1, 1) := by decide +kernel
theorem d_Mo_begins_25 : decode c_Mo_begins 25 = .ok (.goto 4, 3) := by decide +kernel
theorem d_Mo_begins_28 : decode c_Mo_begins 28 = .ok (.iconst 0, 1) := by decide +kernel
theorem d_Mo_begins_29 : decode c_Mo_begins 29 = .ok (.ireturn, 1) := by decide +kernel
theorem d_Mo_sameWord_0 : decode c_Mo_sameWord 0 = .ok (.iconst 0, 1) := by decide +kernel
theorem d_Mo_sameWord_1 : decode c_Mo_sameWord 1 = .ok (.istore 5, 2) := by decide +kernel
theorem d_Mo_sameWord_3 : decode c_Mo_sameWord 3 = .ok (.aload_n 0, 1) := by decide +kernel
theorem d_Mo_sameWord_4 : decode c_Mo_sameWord 4 = .ok (.iload_n 1, 1) := by decide +kernel
theorem d_Mo_sameWord_5 : decode c_Mo_sameWord 5 = .ok (.iload_n 2, 1) := by decide +kernel
theorem d_Mo_sameWord_6 : decode c_Mo_sameWord 6 = .ok (.iload 5, 2) := by decide +kernel
theorem d_Mo_sameWord_8 : decode c_Mo_sameWord 8 = .ok (.iadd, 1) := by decide +kernel
theorem d_Mo_sameWord_9 : decode c_Mo_sameWord 9 = .ok (.invokevirtual 80, 3) := by decide +kernel
theorem d_Mo_sameWord_12 : decode c_Mo_sameWord 12 = .ok (.aload_n 0, 1) := by decide +kernel
theorem d_Mo_sameWord_13 : decode c_Mo_sameWord 13 = .ok (.iload_n 3, 1) := by decide +kernel
theorem d_Mo_sameWord_14 : decode c_Mo_sameWord 14 = .ok (.iload 4, 2) := by decide +kernel
theorem d_Mo_sameWord_16 : decode c_Mo_sameWord 16 = .ok (.iload 5, 2) := by decide +kernel
theorem d_Mo_sameWord_18 : decode c_Mo_sameWord 18 = .ok (.iadd, 1) := by decide +kernel
theorem d_Mo_sameWord_19 : decode c_Mo_sameWord 19 = .ok (.invokevirtual 80, 3) := by decide +kernel
theorem d_Mo_sameWord_22 : decode c_Mo_sameWord 22 = .ok (.if_icmp .ne 23, 3) := by decide +kernel
theorem d_Mo_sameWord_25 : decode c_Mo_sameWord 25 = .ok (.aload_n 0, 1) := by decide +kernel
theorem d_Mo_sameWord_26 : decode c_Mo_sameWord 26 = .ok (.iload_n 1, 1) := by decide +kernel
theorem d_Mo_sameWord_27 : decode c_Mo_sameWord 27 = .ok (.iload_n 2, 1) := by decide +kernel
theorem d_Mo_sameWord_28 : decode c_Mo_sameWord 28 = .ok (.iload 5, 2) := by decide +kernel
theorem d_Mo_sameWord_30 : decode c_Mo_sameWord 30 = .ok (.iadd, 1) := by decide +kernel
theorem d_Mo_sameWord_31 : decode c_Mo_sameWord 31 = .ok (.invokevirtual 80, 3) := by decide +kernel
theorem d_Mo_sameWord_34 : decode c_Mo_sameWord 34 = .ok (.bipush 32, 2) := by decide +kernel
theorem d_Mo_sameWord_36 : decode c_Mo_sameWord 36 = .ok (.if_icmp .eq 9, 3) := by decide +kernel
theorem d_Mo_sameWord_39 : decode c_Mo_sameWord 39 = .ok (.iinc 5 1, 3) := by decide +kernel
theorem d_Mo_sameWord_42 : decode c_Mo_sameWord 42 = .ok (.goto (-39), 3) := by decide +kernel
theorem d_Mo_sameWord_45 : decode c_Mo_sameWord 45 = .ok (.aload_n 0, 1) := by decide +kernel
theorem d_Mo_sameWord_46 : decode c_Mo_sameWord 46 = .ok (.iload_n 1, 1) := by decide +kernel
theorem d_Mo_sameWord_47 : decode c_Mo_sameWord 47 = .ok (.iload_n 2, 1) := by decide +kernel
theorem d_Mo_sameWord_48 : decode c_Mo_sameWord 48 = .ok (.iload 5, 2) := by decide +kernel
theorem d_Mo_sameWord_50 : decode c_Mo_sameWord 50 = .ok (.iadd, 1) := by decide +kernel
theorem d_Mo_sameWord_51 : decode c_Mo_sameWord 51 = .ok (.invokevirtual 80, 3) := by decide +kernel
theorem d_Mo_sameWord_54 : decode c_Mo_sameWord 54 = .ok (.aload_n 0, 1) := by decide +kernel
theorem d_Mo_sameWord_55 : decode c_Mo_sameWord 55 = .ok (.iload_n 3, 1) := by decide +kernel
theorem d_Mo_sameWord_56 : decode c_Mo_sameWord 56 = .ok (.iload 4, 2) := by decide +kernel
theorem d_Mo_sameWord_58 : decode c_Mo_sameWord 58 = .ok (.iload 5, 2) := by decide +kernel
theorem d_Mo_sameWord_60 : decode c_Mo_sameWord 60 = .ok (.iadd, 1) := by decide +kernel
theorem d_Mo_sameWord_61 : decode c_Mo_sameWord 61 = .ok (.invokevirtual 80, 3) := by decide +kernel
theorem d_Mo_sameWord_64 : decode c_Mo_sameWord 64 = .ok (.if_icmp .ne 7, 3) := by decide +kernel
theorem d_Mo_sameWord_67 : decode c_Mo_sameWord 67 = .ok (.iconst 1, 1) := by decide +kernel
theorem d_Mo_sameWord_68 : decode c_Mo_sameWord 68 = .ok (.goto 4, 3) := by decide +kernel
theorem d_Mo_sameWord_71 : decode c_Mo_sameWord 71 = .ok (.iconst 0, 1) := by decide +kernel
theorem d_Mo_sameWord_72 : decode c_Mo_sameWord 72 = .ok (.ireturn, 1) := by decide +kernel
theorem d_Mo_stands_0 : decode c_Mo_stands 0 = .ok (.iconst 0, 1) := by decide +kernel
theorem d_Mo_stands_1 : decode c_Mo_stands 1 = .ok (.istore 5, 2) := by decide +kernel
theorem d_Mo_stands_3 : decode c_Mo_stands 3 = .ok (.iconst 0, 1) := by decide +kernel
theorem d_Mo_stands_4 : decode c_Mo_stands 4 = .ok (.istore 6, 2) := by decide +kernel
theorem d_Mo_stands_6 : decode c_Mo_stands 6 = .ok (.iload 6, 2) := by decide +kernel
theorem d_Mo_stands_8 : decode c_Mo_stands 8 = .ok (.iload 4, 2) := by decide +kernel
theorem d_Mo_stands_10 : decode c_Mo_stands 10 = .ok (.if_icmp .ge 43, 3) := by decide +kernel
theorem d_Mo_stands_13 : decode c_Mo_stands 13 = .ok (.iload 5, 2) := by decide +kernel
theorem d_Mo_stands_15 : decode c_Mo_stands 15 = .ok (.ifCond .ne 25, 3) := by decide +kernel
theorem d_Mo_stands_18 : decode c_Mo_stands 18 = .ok (.aload_n 0, 1) := by decide +kernel
theorem d_Mo_stands_19 : decode c_Mo_stands 19 = .ok (.iload_n 3, 1) := by decide +kernel
theorem d_Mo_stands_20 : decode c_Mo_stands 20 = .ok (.iload 6, 2) := by decide +kernel
theorem d_Mo_stands_22 : decode c_Mo_stands 22 = .ok (.invokevirtual 84, 3) := by decide +kernel
theorem d_Mo_stands_25 : decode c_Mo_stands 25 = .ok (.ifCond .eq 19, 3) := by decide +kernel
theorem d_Mo_stands_28 : decode c_Mo_stands 28 = .ok (.aload_n 0, 1) := by decide +kernel
theorem d_Mo_stands_29 : decode c_Mo_stands 29 = .ok (.iload_n 1, 1) := by decide +kernel
theorem d_Mo_stands_30 : decode c_Mo_stands 30 = .ok (.iload_n 2, 1) := by decide +kernel
theorem d_Mo_stands_31 : decode c_Mo_stands 31 = .ok (.iload_n 3, 1) := by decide +kernel
theorem d_Mo_stands_32 : decode c_Mo_stands 32 = .ok (.iload 6, 2) := by decide +kernel
theorem d_Mo_stands_34 : decode c_Mo_stands 34 = .ok (.invokevirtual 88, 3) := by decide +kernel
theorem d_Mo_stands_37 : decode c_Mo_stands 37 = .ok (.ifCond .eq 7, 3) := by decide +kernel
theorem d_Mo_stands_40 : decode c_Mo_stands 40 = .ok (.iconst 1, 1) := by decide +kernel
theorem d_Mo_stands_41 : decode c_Mo_stands 41 = .ok (.goto 4, 3) := by decide +kernel
theorem d_Mo_stands_44 : decode c_Mo_stands 44 = .ok (.iconst 0, 1) := by decide +kernel
theorem d_Mo_stands_45 : decode c_Mo_stands 45 = .ok (.istore 5, 2) := by decide +kernel
theorem d_Mo_stands_47 : decode c_Mo_stands 47 = .ok (.iinc 6 1, 3) := by decide +kernel
theorem d_Mo_stands_50 : decode c_Mo_stands 50 = .ok (.goto (-44), 3) := by decide +kernel
theorem d_Mo_stands_53 : decode c_Mo_stands 53 = .ok (.iload 5, 2) := by decide +kernel
theorem d_Mo_stands_55 : decode c_Mo_stands 55 = .ok (.ireturn, 1) := by decide +kernel
theorem d_Mo_inSet_0 : decode c_Mo_inSet 0 = .ok (.iconst 0, 1) := by decide +kernel
theorem d_Mo_inSet_1 : decode c_Mo_inSet 1 = .ok (.istore 4, 2) := by decide +kernel
theorem d_Mo_inSet_3 : decode c_Mo_inSet 3 = .ok (.iconst 0, 1) := by decide +kernel
theorem d_Mo_inSet_4 : decode c_Mo_inSet 4 = .ok (.istore 5, 2) := by decide +kernel
theorem d_Mo_inSet_6 : decode c_Mo_inSet 6 = .ok (.iload 5, 2) := by decide +kernel
theorem d_Mo_inSet_8 : decode c_Mo_inSet 8 = .ok (.aload_n 0, 1) := by decide +kernel
theorem d_Mo_inSet_9 : decode c_Mo_inSet 9 = .ok (.getfield 19, 3) := by decide +kernel
theorem d_Mo_inSet_12 : decode c_Mo_inSet 12 = .ok (.iload_n 1, 1) := by decide +kernel
theorem d_Mo_inSet_13 : decode c_Mo_inSet 13 = .ok (.iaload, 1) := by decide +kernel
theorem d_Mo_inSet_14 : decode c_Mo_inSet 14 = .ok (.if_icmp .ge 75, 3) := by decide +kernel
theorem d_Mo_inSet_17 : decode c_Mo_inSet 17 = .ok (.aload_n 0, 1) := by decide +kernel
theorem d_Mo_inSet_18 : decode c_Mo_inSet 18 = .ok (.iload_n 1, 1) := by decide +kernel
theorem d_Mo_inSet_19 : decode c_Mo_inSet 19 = .ok (.iload 5, 2) := by decide +kernel
theorem d_Mo_inSet_21 : decode c_Mo_inSet 21 = .ok (.invokevirtual 84, 3) := by decide +kernel
theorem d_Mo_inSet_24 : decode c_Mo_inSet 24 = .ok (.ifCond .eq 41, 3) := by decide +kernel
theorem d_Mo_inSet_27 : decode c_Mo_inSet 27 = .ok (.aload_n 0, 1) := by decide +kernel
theorem d_Mo_inSet_28 : decode c_Mo_inSet 28 = .ok (.iload_n 1, 1) := by decide +kernel
theorem d_Mo_inSet_29 : decode c_Mo_inSet 29 = .ok (.iload 5, 2) := by decide +kernel
theorem d_Mo_inSet_31 : decode c_Mo_inSet 31 = .ok (.iload_n 1, 1) := by decide +kernel
theorem d_Mo_inSet_32 : decode c_Mo_inSet 32 = .ok (.iload 5, 2) := by decide +kernel
theorem d_Mo_inSet_34 : decode c_Mo_inSet 34 = .ok (.invokevirtual 92, 3) := by decide +kernel
theorem d_Mo_inSet_37 : decode c_Mo_inSet 37 = .ok (.ifCond .ne 28, 3) := by decide +kernel
theorem d_Mo_inSet_40 : decode c_Mo_inSet 40 = .ok (.iload_n 3, 1) := by decide +kernel
theorem d_Mo_inSet_41 : decode c_Mo_inSet 41 = .ok (.ifCond .eq 20, 3) := by decide +kernel
theorem d_Mo_inSet_44 : decode c_Mo_inSet 44 = .ok (.aload_n 0, 1) := by decide +kernel
theorem d_Mo_inSet_45 : decode c_Mo_inSet 45 = .ok (.iload_n 1, 1) := by decide +kernel
theorem d_Mo_inSet_46 : decode c_Mo_inSet 46 = .ok (.iload 5, 2) := by decide +kernel
theorem d_Mo_inSet_48 : decode c_Mo_inSet 48 = .ok (.iload_n 2, 1) := by decide +kernel
theorem d_Mo_inSet_49 : decode c_Mo_inSet 49 = .ok (.aload_n 0, 1) := by decide +kernel
theorem d_Mo_inSet_50 : decode c_Mo_inSet 50 = .ok (.getfield 19, 3) := by decide +kernel
theorem d_Mo_inSet_53 : decode c_Mo_inSet 53 = .ok (.iload_n 2, 1) := by decide +kernel
theorem d_Mo_inSet_54 : decode c_Mo_inSet 54 = .ok (.iaload, 1) := by decide +kernel
theorem d_Mo_inSet_55 : decode c_Mo_inSet 55 = .ok (.invokevirtual 92, 3) := by decide +kernel
theorem d_Mo_inSet_58 : decode c_Mo_inSet 58 = .ok (.ifCond .eq 7, 3) := by decide +kernel
theorem d_Mo_inSet_61 : decode c_Mo_inSet 61 = .ok (.iconst 1, 1) := by decide +kernel
theorem d_Mo_inSet_62 : decode c_Mo_inSet 62 = .ok (.goto 4, 3) := by decide +kernel
theorem d_Mo_inSet_65 : decode c_Mo_inSet 65 = .ok (.iconst 0, 1) := by decide +kernel
theorem d_Mo_inSet_66 : decode c_Mo_inSet 66 = .ok (.istore 6, 2) := by decide +kernel
theorem d_Mo_inSet_68 : decode c_Mo_inSet 68 = .ok (.iload 4, 2) := by decide +kernel
theorem d_Mo_inSet_70 : decode c_Mo_inSet 70 = .ok (.iload 6, 2) := by decide +kernel
theorem d_Mo_inSet_72 : decode c_Mo_inSet 72 = .ok (.ifCond .eq 7, 3) := by decide +kernel
theorem d_Mo_inSet_75 : decode c_Mo_inSet 75 = .ok (.iconst 1, 1) := by decide +kernel
theorem d_Mo_inSet_76 : decode c_Mo_inSet 76 = .ok (.goto 4, 3) := by decide +kernel
theorem d_Mo_inSet_79 : decode c_Mo_inSet 79 = .ok (.iconst 0, 1) := by decide +kernel
theorem d_Mo_inSet_80 : decode c_Mo_inSet 80 = .ok (.iadd, 1) := by decide +kernel
theorem d_Mo_inSet_81 : decode c_Mo_inSet 81 = .ok (.istore 4, 2) := by decide +kernel
theorem d_Mo_inSet_83 : decode c_Mo_inSet 83 = .ok (.iinc 5 1, 3) := by decide +kernel
theorem d_Mo_inSet_86 : decode c_Mo_inSet 86 = .ok (.goto (-80), 3) := by decide +kernel
theorem d_Mo_inSet_89 : decode c_Mo_inSet 89 = .ok (.iload 4, 2) := by decide +kernel
theorem d_Mo_inSet_91 : decode c_Mo_inSet 91 = .ok (.ireturn, 1) := by decide +kernel
theorem d_Mo_words_0 : decode c_Mo_words 0 = .ok (.aload_n 0, 1) := by decide +kernel
theorem d_Mo_words_1 : decode c_Mo_words 1 = .ok (.iload_n 1, 1) := by decide +kernel
theorem d_Mo_words_2 : decode c_Mo_words 2 = .ok (.invokevirtual 95, 3) := by decide +kernel
theorem d_Mo_words_5 : decode c_Mo_words 5 = .ok (.ifCond .eq 10, 3) := by decide +kernel
theorem d_Mo_words_8 : decode c_Mo_words 8 = .ok (.iload_n 2, 1) := by decide +kernel
theorem d_Mo_words_9 : decode c_Mo_words 9 = .ok (.invokestatic 69, 3) := by decide +kernel
theorem d_Mo_words_12 : decode c_Mo_words 12 = .ok (.ifCond .ne 5, 3) := by decide +kernel
theorem d_Mo_words_15 : decode c_Mo_words 15 = .ok (.iconst (-1), 1) := by decide +kernel
theorem d_Mo_words_16 : decode c_Mo_words 16 = .ok (.ireturn, 1) := by decide +kernel
theorem d_Mo_words_17 : decode c_Mo_words 17 = .ok (.aload_n 0, 1) := by decide +kernel
theorem d_Mo_words_18 : decode c_Mo_words 18 = .ok (.iconst 0, 1) := by decide +kernel
theorem d_Mo_words_19 : decode c_Mo_words 19 = .ok (.iload_n 1, 1) := by decide +kernel
theorem d_Mo_words_20 : decode c_Mo_words 20 = .ok (.iload_n 2, 1) := by decide +kernel
theorem d_Mo_words_21 : decode c_Mo_words 21 = .ok (.invokevirtual 98, 3) := by decide +kernel
theorem d_Mo_words_24 : decode c_Mo_words 24 = .ok (.aload_n 0, 1) := by decide +kernel
theorem d_Mo_words_25 : decode c_Mo_words 25 = .ok (.iconst 0, 1) := by decide +kernel
theorem d_Mo_words_26 : decode c_Mo_words 26 = .ok (.iconst 0, 1) := by decide +kernel
theorem d_Mo_words_27 : decode c_Mo_words 27 = .ok (.iconst 0, 1) := by decide +kernel
theorem d_Mo_words_28 : decode c_Mo_words 28 = .ok (.invokevirtual 102, 3) := by decide +kernel
theorem d_Mo_words_31 : decode c_Mo_words 31 = .ok (.ireturn, 1) := by decide +kernel
theorem d_Mo_length_0 : decode c_Mo_length 0 = .ok (.aload_n 0, 1) := by decide +kernel
theorem d_Mo_length_1 : decode c_Mo_length 1 = .ok (.iload_n 1, 1) := by decide +kernel
theorem d_Mo_length_2 : decode c_Mo_length 2 = .ok (.invokevirtual 95, 3) := by decide +kernel
theorem d_Mo_length_5 : decode c_Mo_length 5 = .ok (.ifCond .eq 10, 3) := by decide +kernel
theorem d_Mo_length_8 : decode c_Mo_length 8 = .ok (.iload_n 2, 1) := by decide +kernel
theorem d_Mo_length_9 : decode c_Mo_length 9 = .ok (.invokestatic 69, 3) := by decide +kernel
theorem d_Mo_length_12 : decode c_Mo_length 12 = .ok (.ifCond .ne 5, 3) := by decide +kernel
theorem d_Mo_length_15 : decode c_Mo_length 15 = .ok (.iconst (-1), 1) := by decide +kernel
theorem d_Mo_length_16 : decode c_Mo_length 16 = .ok (.ireturn, 1) := by decide +kernel
theorem d_Mo_length_17 : decode c_Mo_length 17 = .ok (.aload_n 0, 1) := by decide +kernel
theorem d_Mo_length_18 : decode c_Mo_length 18 = .ok (.iconst 0, 1) := by decide +kernel
theorem d_Mo_length_19 : decode c_Mo_length 19 = .ok (.iload_n 1, 1) := by decide +kernel
theorem d_Mo_length_20 : decode c_Mo_length 20 = .ok (.iload_n 2, 1) := by decide +kernel
theorem d_Mo_length_21 : decode c_Mo_length 21 = .ok (.invokevirtual 98, 3) := by decide +kernel
theorem d_Mo_length_24 : decode c_Mo_length 24 = .ok (.aload_n 0, 1) := by decide +kernel
theorem d_Mo_length_25 : decode c_Mo_length 25 = .ok (.getfield 19, 3) := by decide +kernel
theorem d_Mo_length_28 : decode c_Mo_length 28 = .ok (.iconst 0, 1) := by decide +kernel
theorem d_Mo_length_29 : decode c_Mo_length 29 = .ok (.iaload, 1) := by decide +kernel
theorem d_Mo_length_30 : decode c_Mo_length 30 = .ok (.ireturn, 1) := by decide +kernel
theorem d_Mo_unit_0 : decode c_Mo_unit 0 = .ok (.aload_n 0, 1) := by decide +kernel
theorem d_Mo_unit_1 : decode c_Mo_unit 1 = .ok (.iload_n 1, 1) := by decide +kernel
theorem d_Mo_unit_2 : decode c_Mo_unit 2 = .ok (.iload_n 2, 1) := by decide +kernel
theorem d_Mo_unit_3 : decode c_Mo_unit 3 = .ok (.invokevirtual 106, 3) := by decide +kernel
theorem d_Mo_unit_6 : decode c_Mo_unit 6 = .ok (.istore 4, 2) := by decide +kernel
theorem d_Mo_unit_8 : decode c_Mo_unit 8 = .ok (.iload_n 3, 1) := by decide +kernel
theorem d_Mo_unit_9 : decode c_Mo_unit 9 = .ok (.ifCond .lt 18, 3) := by decide +kernel
theorem d_Mo_unit_12 : decode c_Mo_unit 12 = .ok (.iload_n 3, 1) := by decide +kernel
theorem d_Mo_unit_13 : decode c_Mo_unit 13 = .ok (.iload 4, 2) := by decide +kernel
theorem d_Mo_unit_15 : decode c_Mo_unit 15 = .ok (.if_icmp .ge 12, 3) := by decide +kernel
theorem d_Mo_unit_18 : decode c_Mo_unit 18 = .ok (.aload_n 0, 1) := by decide +kernel
theorem d_Mo_unit_19 : decode c_Mo_unit 19 = .ok (.getfield 16, 3) := by decide +kernel
theorem d_Mo_unit_22 : decode c_Mo_unit 22 = .ok (.iload_n 3, 1) := by decide +kernel
theorem d_Mo_unit_23 : decode c_Mo_unit 23 = .ok (.iaload, 1) := by decide +kernel
theorem d_Mo_unit_24 : decode c_Mo_unit 24 = .ok (.goto 4, 3) := by decide +kernel
theorem d_Mo_unit_27 : decode c_Mo_unit 27 = .ok (.iconst (-1), 1) := by decide +kernel
theorem d_Mo_unit_28 : decode c_Mo_unit 28 = .ok (.ireturn, 1) := by decide +kernel
theorem d_Mo_distance_0 : decode c_Mo_distance 0 = .ok (.iconst 0, 1) := by decide +kernel
theorem d_Mo_distance_1 : decode c_Mo_distance 1 = .ok (.istore_n 1, 1) := by decide +kernel
theorem d_Mo_distance_2 : decode c_Mo_distance 2 = .ok (.iload_n 1, 1) := by decide +kernel
theorem d_Mo_distance_3 : decode c_Mo_distance 3 = .ok (.aload_n 0, 1) := by decide +kernel
theorem d_Mo_distance_4 : decode c_Mo_distance 4 = .ok (.getfield 19, 3) := by decide +kernel
theorem d_Mo_distance_7 : decode c_Mo_distance 7 = .ok (.iconst 0, 1) := by decide +kernel
theorem d_Mo_distance_8 : decode c_Mo_distance 8 = .ok (.iaload, 1) := by decide +kernel
theorem d_Mo_distance_9 : decode c_Mo_distance 9 = .ok (.if_icmp .gt 164, 3) := by decide +kernel
theorem d_Mo_distance_12 : decode c_Mo_distance 12 = .ok (.iconst 0, 1) := by decide +kernel
theorem d_Mo_distance_13 : decode c_Mo_distance 13 = .ok (.istore_n 2, 1) := by decide +kernel
theorem d_Mo_distance_14 : decode c_Mo_distance 14 = .ok (.iload_n 2, 1) := by decide +kernel
theorem d_Mo_distance_15 : decode c_Mo_distance 15 = .ok (.aload_n 0, 1) := by decide +kernel
theorem d_Mo_distance_16 : decode c_Mo_distance 16 = .ok (.getfield 19, 3) := by decide +kernel
theorem d_Mo_distance_19 : decode c_Mo_distance 19 = .ok (.iconst 1, 1) := by decide +kernel
theorem d_Mo_distance_20 : decode c_Mo_distance 20 = .ok (.iaload, 1) := by decide +kernel
theorem d_Mo_distance_21 : decode c_Mo_distance 21 = .ok (.if_icmp .gt 146, 3) := by decide +kernel
theorem d_Mo_distance_24 : decode c_Mo_distance 24 = .ok (.iload_n 1, 1) := by decide +kernel
theorem d_Mo_distance_25 : decode c_Mo_distance 25 = .ok (.ifCond .ne 7, 3) := by decide +kernel
theorem d_Mo_distance_28 : decode c_Mo_distance 28 = .ok (.iload_n 2, 1) := by decide +kernel
theorem d_Mo_distance_29 : decode c_Mo_distance 29 = .ok (.goto 51, 3) := by decide +kernel
theorem d_Mo_distance_32 : decode c_Mo_distance 32 = .ok (.iload_n 2, 1) := by decide +kernel
theorem d_Mo_distance_33 : decode c_Mo_distance 33 = .ok (.ifCond .ne 7, 3) := by decide +kernel
theorem d_Mo_distance_36 : decode c_Mo_distance 36 = .ok (.iload_n 1, 1) := by decide +kernel
theorem d_Mo_distance_37 : decode c_Mo_distance 37 = .ok (.goto 43, 3) := by decide +kernel
theorem d_Mo_distance_40 : decode c_Mo_distance 40 = .ok (.aload_n 0, 1) := by decide +kernel
theorem d_Mo_distance_41 : decode c_Mo_distance 41 = .ok (.getfield 22, 3) := by decide +kernel
theorem d_Mo_distance_44 : decode c_Mo_distance 44 = .ok (.bipush 13, 2) := by decide +kernel
theorem d_Mo_distance_46 : decode c_Mo_distance 46 = .ok (.iload_n 1, 1) := by decide +kernel
theorem d_Mo_distance_47 : decode c_Mo_distance 47 = .ok (.iconst 1, 1) := by decide +kernel
theorem d_Mo_distance_48 : decode c_Mo_distance 48 = .ok (.isub, 1) := by decide +kernel
theorem d_Mo_distance_49 : decode c_Mo_distance 49 = .ok (.imul, 1) := by decide +kernel
theorem d_Mo_distance_50 : decode c_Mo_distance 50 = .ok (.iload_n 2, 1) := by decide +kernel
theorem d_Mo_distance_51 : decode c_Mo_distance 51 = .ok (.iadd, 1) := by decide +kernel
theorem d_Mo_distance_52 : decode c_Mo_distance 52 = .ok (.iconst 1, 1) := by decide +kernel
theorem d_Mo_distance_53 : decode c_Mo_distance 53 = .ok (.isub, 1) := by decide +kernel
theorem d_Mo_distance_54 : decode c_Mo_distance 54 = .ok (.iaload, 1) := by decide +kernel
theorem d_Mo_distance_55 : decode c_Mo_distance 55 = .ok (.aload_n 0, 1) := by decide +kernel
theorem d_Mo_distance_56 : decode c_Mo_distance 56 = .ok (.iconst 0, 1) := by decide +kernel
theorem d_Mo_distance_57 : decode c_Mo_distance 57 = .ok (.iload_n 1, 1) := by decide +kernel
theorem d_Mo_distance_58 : decode c_Mo_distance 58 = .ok (.iconst 1, 1) := by decide +kernel
theorem d_Mo_distance_59 : decode c_Mo_distance 59 = .ok (.isub, 1) := by decide +kernel
theorem d_Mo_distance_60 : decode c_Mo_distance 60 = .ok (.invokevirtual 80, 3) := by decide +kernel
theorem d_Mo_distance_63 : decode c_Mo_distance 63 = .ok (.aload_n 0, 1) := by decide +kernel
theorem d_Mo_distance_64 : decode c_Mo_distance 64 = .ok (.iconst 1, 1) := by decide +kernel
theorem d_Mo_distance_65 : decode c_Mo_distance 65 = .ok (.iload_n 2, 1) := by decide +kernel
theorem d_Mo_distance_66 : decode c_Mo_distance 66 = .ok (.iconst 1, 1) := by decide +kernel
theorem d_Mo_distance_67 : decode c_Mo_distance 67 = .ok (.isub, 1) := by decide +kernel
theorem d_Mo_distance_68 : decode c_Mo_distance 68 = .ok (.invokevirtual 80, 3) := by decide +kernel
theorem d_Mo_distance_71 : decode c_Mo_distance 71 = .ok (.if_icmp .ne 7, 3) := by decide +kernel
theorem d_Mo_distance_74 : decode c_Mo_distance 74 = .ok (.iconst 0, 1) := by decide +kernel
theorem d_Mo_distance_75 : decode c_Mo_distance 75 = .ok (.goto 4, 3) := by decide +kernel
theorem d_Mo_distance_78 : decode c_Mo_distance 78 = .ok (.iconst 1, 1) := by decide +kernel
theorem d_Mo_distance_79 : decode c_Mo_distance 79 = .ok (.iadd, 1) := by decide +kernel
theorem d_Mo_distance_80 : decode c_Mo_distance 80 = .ok (.istore_n 3, 1) := by decide +kernel
theorem d_Mo_distance_81 : decode c_Mo_distance 81 = .ok (.iload_n 1, 1) := by decide +kernel
theorem d_Mo_distance_82 : decode c_Mo_distance 82 = .ok (.ifCond .le 67, 3) := by decide +kernel
theorem d_Mo_distance_85 : decode c_Mo_distance 85 = .ok (.iload_n 2, 1) := by decide +kernel
theorem d_Mo_distance_86 : decode c_Mo_distance 86 = .ok (.ifCond .le 63, 3) := by decide +kernel
theorem d_Mo_distance_89 : decode c_Mo_distance 89 = .ok (.aload_n 0, 1) := by decide +kernel
theorem d_Mo_distance_90 : decode c_Mo_distance 90 = .ok (.getfield 22, 3) := by decide +kernel
theorem d_Mo_distance_93 : decode c_Mo_distance 93 = .ok (.bipush 13, 2) := by decide +kernel
theorem d_Mo_distance_95 : decode c_Mo_distance 95 = .ok (.iload_n 1, 1) := by decide +kernel
theorem d_Mo_distance_96 : decode c_Mo_distance 96 = .ok (.iconst 1, 1) := by decide +kernel
theorem d_Mo_distance_97 : decode c_Mo_distance 97 = .ok (.isub, 1) := by decide +kernel
theorem d_Mo_distance_98 : decode c_Mo_distance 98 = .ok (.imul, 1) := by decide +kernel
theorem d_Mo_distance_99 : decode c_Mo_distance 99 = .ok (.iload_n 2, 1) := by decide +kernel
theorem d_Mo_distance_100 : decode c_Mo_distance 100 = .ok (.iadd, 1) := by decide +kernel
theorem d_Mo_distance_101 : decode c_Mo_distance 101 = .ok (.iaload, 1) := by decide +kernel
theorem d_Mo_distance_102 : decode c_Mo_distance 102 = .ok (.iconst 1, 1) := by decide +kernel
theorem d_Mo_distance_103 : decode c_Mo_distance 103 = .ok (.iadd, 1) := by decide +kernel
theorem d_Mo_distance_104 : decode c_Mo_distance 104 = .ok (.istore 4, 2) := by decide +kernel
theorem d_Mo_distance_106 : decode c_Mo_distance 106 = .ok (.aload_n 0, 1) := by decide +kernel
theorem d_Mo_distance_107 : decode c_Mo_distance 107 = .ok (.getfield 22, 3) := by decide +kernel
theorem d_Mo_distance_110 : decode c_Mo_distance 110 = .ok (.bipush 13, 2) := by decide +kernel
theorem d_Mo_distance_112 : decode c_Mo_distance 112 = .ok (.iload_n 1, 1) := by decide +kernel
theorem d_Mo_distance_113 : decode c_Mo_distance 113 = .ok (.imul, 1) := by decide +kernel
theorem d_Mo_distance_114 : decode c_Mo_distance 114 = .ok (.iload_n 2, 1) := by decide +kernel
theorem d_Mo_distance_115 : decode c_Mo_distance 115 = .ok (.iadd, 1) := by decide +kernel
theorem d_Mo_distance_116 : decode c_Mo_distance 116 = .ok (.iconst 1, 1) := by decide +kernel
theorem d_Mo_distance_117 : decode c_Mo_distance 117 = .ok (.isub, 1) := by decide +kernel
theorem d_Mo_distance_118 : decode c_Mo_distance 118 = .ok (.iaload, 1) := by decide +kernel
theorem d_Mo_distance_119 : decode c_Mo_distance 119 = .ok (.iconst 1, 1) := by decide +kernel
theorem d_Mo_distance_120 : decode c_Mo_distance 120 = .ok (.iadd, 1) := by decide +kernel
theorem d_Mo_distance_121 : decode c_Mo_distance 121 = .ok (.istore 5, 2) := by decide +kernel
theorem d_Mo_distance_123 : decode c_Mo_distance 123 = .ok (.iload 4, 2) := by decide +kernel
theorem d_Mo_distance_125 : decode c_Mo_distance 125 = .ok (.iload_n 3, 1) := by decide +kernel
theorem d_Mo_distance_126 : decode c_Mo_distance 126 = .ok (.if_icmp .ge 8, 3) := by decide +kernel
theorem d_Mo_distance_129 : decode c_Mo_distance 129 = .ok (.iload 4, 2) := by decide +kernel
theorem d_Mo_distance_131 : decode c_Mo_distance 131 = .ok (.goto 4, 3) := by decide +kernel
theorem d_Mo_distance_134 : decode c_Mo_distance 134 = .ok (.iload_n 3, 1) := by decide +kernel
theorem d_Mo_distance_135 : decode c_Mo_distance 135 = .ok (.istore_n 3, 1) := by decide +kernel
theorem d_Mo_distance_136 : decode c_Mo_distance 136 = .ok (.iload 5, 2) := by decide +kernel
theorem d_Mo_distance_138 : decode c_Mo_distance 138 = .ok (.iload_n 3, 1) := by decide +kernel
theorem d_Mo_distance_139 : decode c_Mo_distance 139 = .ok (.if_icmp .ge 8, 3) := by decide +kernel
theorem d_Mo_distance_142 : decode c_Mo_distance 142 = .ok (.iload 5, 2) := by decide +kernel
theorem d_Mo_distance_144 : decode c_Mo_distance 144 = .ok (.goto 4, 3) := by decide +kernel
theorem d_Mo_distance_147 : decode c_Mo_distance 147 = .ok (.iload_n 3, 1) := by decide +kernel
theorem d_Mo_distance_148 : decode c_Mo_distance 148 = .ok (.istore_n 3, 1) := by decide +kernel
theorem d_Mo_distance_149 : decode c_Mo_distance 149 = .ok (.aload_n 0, 1) := by decide +kernel
theorem d_Mo_distance_150 : decode c_Mo_distance 150 = .ok (.getfield 22, 3) := by decide +kernel
theorem d_Mo_distance_153 : decode c_Mo_distance 153 = .ok (.bipush 13, 2) := by decide +kernel
theorem d_Mo_distance_155 : decode c_Mo_distance 155 = .ok (.iload_n 1, 1) := by decide +kernel
theorem d_Mo_distance_156 : decode c_Mo_distance 156 = .ok (.imul, 1) := by decide +kernel
theorem d_Mo_distance_157 : decode c_Mo_distance 157 = .ok (.iload_n 2, 1) := by decide +kernel
theorem d_Mo_distance_158 : decode c_Mo_distance 158 = .ok (.iadd, 1) := by decide +kernel
theorem d_Mo_distance_159 : decode c_Mo_distance 159 = .ok (.iload_n 3, 1) := by decide +kernel
theorem d_Mo_distance_160 : decode c_Mo_distance 160 = .ok (.iastore, 1) := by decide +kernel
theorem d_Mo_distance_161 : decode c_Mo_distance 161 = .ok (.iinc 2 1, 3) := by decide +kernel
theorem d_Mo_distance_164 : decode c_Mo_distance 164 = .ok (.goto (-150), 3) := by decide +kernel
theorem d_Mo_distance_167 : decode c_Mo_distance 167 = .ok (.iinc 1 1, 3) := by decide +kernel
theorem d_Mo_distance_170 : decode c_Mo_distance 170 = .ok (.goto (-168), 3) := by decide +kernel
theorem d_Mo_distance_173 : decode c_Mo_distance 173 = .ok (.aload_n 0, 1) := by decide +kernel
theorem d_Mo_distance_174 : decode c_Mo_distance 174 = .ok (.getfield 22, 3) := by decide +kernel
theorem d_Mo_distance_177 : decode c_Mo_distance 177 = .ok (.bipush 13, 2) := by decide +kernel
theorem d_Mo_distance_179 : decode c_Mo_distance 179 = .ok (.aload_n 0, 1) := by decide +kernel
theorem d_Mo_distance_180 : decode c_Mo_distance 180 = .ok (.getfield 19, 3) := by decide +kernel
theorem d_Mo_distance_183 : decode c_Mo_distance 183 = .ok (.iconst 0, 1) := by decide +kernel
theorem d_Mo_distance_184 : decode c_Mo_distance 184 = .ok (.iaload, 1) := by decide +kernel
theorem d_Mo_distance_185 : decode c_Mo_distance 185 = .ok (.imul, 1) := by decide +kernel
theorem d_Mo_distance_186 : decode c_Mo_distance 186 = .ok (.aload_n 0, 1) := by decide +kernel
theorem d_Mo_distance_187 : decode c_Mo_distance 187 = .ok (.getfield 19, 3) := by decide +kernel
theorem d_Mo_distance_190 : decode c_Mo_distance 190 = .ok (.iconst 1, 1) := by decide +kernel
theorem d_Mo_distance_191 : decode c_Mo_distance 191 = .ok (.iaload, 1) := by decide +kernel
theorem d_Mo_distance_192 : decode c_Mo_distance 192 = .ok (.iadd, 1) := by decide +kernel
theorem d_Mo_distance_193 : decode c_Mo_distance 193 = .ok (.iaload, 1) := by decide +kernel
theorem d_Mo_distance_194 : decode c_Mo_distance 194 = .ok (.ireturn, 1) := by decide +kernel
theorem d_Mo_marks_0 : decode c_Mo_marks 0 = .ok (.aload_n 0, 1) := by decide +kernel
theorem d_Mo_marks_1 : decode c_Mo_marks 1 = .ok (.getfield 37, 3) := by decide +kernel
theorem d_Mo_marks_4 : decode c_Mo_marks 4 = .ok (.aload_n 0, 1) := by decide +kernel
theorem d_Mo_marks_5 : decode c_Mo_marks 5 = .ok (.getfield 109, 3) := by decide +kernel
theorem d_Mo_marks_8 : decode c_Mo_marks 8 = .ok (.iaload, 1) := by decide +kernel
theorem d_Mo_marks_9 : decode c_Mo_marks 9 = .ok (.ireturn, 1) := by decide +kernel
theorem d_Mo_mark_0 : decode c_Mo_mark 0 = .ok (.aload_n 0, 1) := by decide +kernel
theorem d_Mo_mark_1 : decode c_Mo_mark 1 = .ok (.invokevirtual 112, 3) := by decide +kernel
theorem d_Mo_mark_4 : decode c_Mo_mark 4 = .ok (.istore 5, 2) := by decide +kernel
theorem d_Mo_mark_6 : decode c_Mo_mark 6 = .ok (.aload_n 0, 1) := by decide +kernel
theorem d_Mo_mark_7 : decode c_Mo_mark 7 = .ok (.getfield 25, 3) := by decide +kernel
theorem d_Mo_mark_10 : decode c_Mo_mark 10 = .ok (.iload 5, 2) := by decide +kernel
theorem d_Mo_mark_12 : decode c_Mo_mark 12 = .ok (.iload_n 1, 1) := by decide +kernel
theorem d_Mo_mark_13 : decode c_Mo_mark 13 = .ok (.iastore, 1) := by decide +kernel
theorem d_Mo_mark_14 : decode c_Mo_mark 14 = .ok (.aload_n 0, 1) := by decide +kernel
theorem d_Mo_mark_15 : decode c_Mo_mark 15 = .ok (.getfield 28, 3) := by decide +kernel
theorem d_Mo_mark_18 : decode c_Mo_mark 18 = .ok (.iload 5, 2) := by decide +kernel
theorem d_Mo_mark_20 : decode c_Mo_mark 20 = .ok (.iload_n 2, 1) := by decide +kernel
theorem d_Mo_mark_21 : decode c_Mo_mark 21 = .ok (.iastore, 1) := by decide +kernel
theorem d_Mo_mark_22 : decode c_Mo_mark 22 = .ok (.aload_n 0, 1) := by decide +kernel
theorem d_Mo_mark_23 : decode c_Mo_mark 23 = .ok (.getfield 31, 3) := by decide +kernel
theorem d_Mo_mark_26 : decode c_Mo_mark 26 = .ok (.iload 5, 2) := by decide +kernel
theorem d_Mo_mark_28 : decode c_Mo_mark 28 = .ok (.iload_n 3, 1) := by decide +kernel
theorem d_Mo_mark_29 : decode c_Mo_mark 29 = .ok (.iastore, 1) := by decide +kernel
theorem d_Mo_mark_30 : decode c_Mo_mark 30 = .ok (.aload_n 0, 1) := by decide +kernel
theorem d_Mo_mark_31 : decode c_Mo_mark 31 = .ok (.getfield 34, 3) := by decide +kernel
theorem d_Mo_mark_34 : decode c_Mo_mark 34 = .ok (.iload 5, 2) := by decide +kernel
theorem d_Mo_mark_36 : decode c_Mo_mark 36 = .ok (.iload 4, 2) := by decide +kernel
theorem d_Mo_mark_38 : decode c_Mo_mark 38 = .ok (.iastore, 1) := by decide +kernel
theorem d_Mo_mark_39 : decode c_Mo_mark 39 = .ok (.return_, 1) := by decide +kernel
theorem d_Mo_push_0 : decode c_Mo_push 0 = .ok (.aload_n 0, 1) := by decide +kernel
theorem d_Mo_push_1 : decode c_Mo_push 1 = .ok (.invokevirtual 112, 3) := by decide +kernel
theorem d_Mo_push_4 : decode c_Mo_push 4 = .ok (.iconst 1, 1) := by decide +kernel
theorem d_Mo_push_5 : decode c_Mo_push 5 = .ok (.iadd, 1) := by decide +kernel
theorem d_Mo_push_6 : decode c_Mo_push 6 = .ok (.istore_n 1, 1) := by decide +kernel
theorem d_Mo_push_7 : decode c_Mo_push 7 = .ok (.aload_n 0, 1) := by decide +kernel
theorem d_Mo_push_8 : decode c_Mo_push 8 = .ok (.dup, 1) := by decide +kernel
theorem d_Mo_push_9 : decode c_Mo_push 9 = .ok (.getfield 109, 3) := by decide +kernel
theorem d_Mo_push_12 : decode c_Mo_push 12 = .ok (.iconst 1, 1) := by decide +kernel
theorem d_Mo_push_13 : decode c_Mo_push 13 = .ok (.iadd, 1) := by decide +kernel
theorem d_Mo_push_14 : decode c_Mo_push 14 = .ok (.putfield 109, 3) := by decide +kernel
theorem d_Mo_push_17 : decode c_Mo_push 17 = .ok (.aload_n 0, 1) := by decide +kernel
theorem d_Mo_push_18 : decode c_Mo_push 18 = .ok (.getfield 37, 3) := by decide +kernel
theorem d_Mo_push_21 : decode c_Mo_push 21 = .ok (.aload_n 0, 1) := by decide +kernel
theorem d_Mo_push_22 : decode c_Mo_push 22 = .ok (.getfield 109, 3) := by decide +kernel
theorem d_Mo_push_25 : decode c_Mo_push 25 = .ok (.iload_n 1, 1) := by decide +kernel
theorem d_Mo_push_26 : decode c_Mo_push 26 = .ok (.iastore, 1) := by decide +kernel
theorem d_Mo_push_27 : decode c_Mo_push 27 = .ok (.return_, 1) := by decide +kernel
theorem d_Mo_jaccard_0 : decode c_Mo_jaccard 0 = .ok (.iload_n 1, 1) := by decide +kernel
theorem d_Mo_jaccard_1 : decode c_Mo_jaccard 1 = .ok (.invokestatic 69, 3) := by decide +kernel
theorem d_Mo_jaccard_4 : decode c_Mo_jaccard 4 = .ok (.ifCond .eq 28, 3) := by decide +kernel
theorem d_Mo_jaccard_7 : decode c_Mo_jaccard 7 = .ok (.iload_n 2, 1) := by decide +kernel
theorem d_Mo_jaccard_8 : decode c_Mo_jaccard 8 = .ok (.iconst 1, 1) := by decide +kernel
theorem d_Mo_jaccard_9 : decode c_Mo_jaccard 9 = .ok (.if_icmp .lt 23, 3) := by decide +kernel
theorem d_Mo_jaccard_12 : decode c_Mo_jaccard 12 = .ok (.iload_n 2, 1) := by decide +kernel
theorem d_Mo_jaccard_13 : decode c_Mo_jaccard 13 = .ok (.iload_n 3, 1) := by decide +kernel
theorem d_Mo_jaccard_14 : decode c_Mo_jaccard 14 = .ok (.if_icmp .gt 18, 3) := by decide +kernel
theorem d_Mo_jaccard_17 : decode c_Mo_jaccard 17 = .ok (.iload_n 3, 1) := by decide +kernel
theorem d_Mo_jaccard_18 : decode c_Mo_jaccard 18 = .ok (.bipush 100, 2) := by decide +kernel
theorem d_Mo_jaccard_20 : decode c_Mo_jaccard 20 = .ok (.if_icmp .gt 12, 3) := by decide +kernel
theorem d_Mo_jaccard_23 : decode c_Mo_jaccard 23 = .ok (.aload_n 0, 1) := by decide +kernel
theorem d_Mo_jaccard_24 : decode c_Mo_jaccard 24 = .ok (.getfield 109, 3) := by decide +kernel
theorem d_Mo_jaccard_27 : decode c_Mo_jaccard 27 = .ok (.bipush 6, 2) := by decide +kernel
theorem d_Mo_jaccard_29 : decode c_Mo_jaccard 29 = .ok (.if_icmp .ne 5, 3) := by decide +kernel
theorem d_Mo_jaccard_32 : decode c_Mo_jaccard 32 = .ok (.iconst 0, 1) := by decide +kernel
theorem d_Mo_jaccard_33 : decode c_Mo_jaccard 33 = .ok (.ireturn, 1) := by decide +kernel
theorem d_Mo_jaccard_34 : decode c_Mo_jaccard 34 = .ok (.aload_n 0, 1) := by decide +kernel
theorem d_Mo_jaccard_35 : decode c_Mo_jaccard 35 = .ok (.iconst 0, 1) := by decide +kernel
theorem d_Mo_jaccard_36 : decode c_Mo_jaccard 36 = .ok (.iload_n 1, 1) := by decide +kernel
theorem d_Mo_jaccard_37 : decode c_Mo_jaccard 37 = .ok (.iload_n 2, 1) := by decide +kernel
theorem d_Mo_jaccard_38 : decode c_Mo_jaccard 38 = .ok (.iload_n 3, 1) := by decide +kernel
theorem d_Mo_jaccard_39 : decode c_Mo_jaccard 39 = .ok (.invokevirtual 116, 3) := by decide +kernel
theorem d_Mo_jaccard_42 : decode c_Mo_jaccard 42 = .ok (.aload_n 0, 1) := by decide +kernel
theorem d_Mo_jaccard_43 : decode c_Mo_jaccard 43 = .ok (.invokevirtual 120, 3) := by decide +kernel
theorem d_Mo_jaccard_46 : decode c_Mo_jaccard 46 = .ok (.iconst 1, 1) := by decide +kernel
theorem d_Mo_jaccard_47 : decode c_Mo_jaccard 47 = .ok (.ireturn, 1) := by decide +kernel
theorem d_Mo_edit_0 : decode c_Mo_edit 0 = .ok (.iload_n 1, 1) := by decide +kernel
theorem d_Mo_edit_1 : decode c_Mo_edit 1 = .ok (.invokestatic 69, 3) := by decide +kernel
theorem d_Mo_edit_4 : decode c_Mo_edit 4 = .ok (.ifCond .eq 22, 3) := by decide +kernel
theorem d_Mo_edit_7 : decode c_Mo_edit 7 = .ok (.iload_n 2, 1) := by decide +kernel
theorem d_Mo_edit_8 : decode c_Mo_edit 8 = .ok (.ifCond .lt 18, 3) := by decide +kernel
theorem d_Mo_edit_11 : decode c_Mo_edit 11 = .ok (.iload_n 2, 1) := by decide +kernel
theorem d_Mo_edit_12 : decode c_Mo_edit 12 = .ok (.bipush 8, 2) := by decide +kernel
theorem d_Mo_edit_14 : decode c_Mo_edit 14 = .ok (.if_icmp .gt 12, 3) := by decide +kernel
theorem d_Mo_edit_17 : decode c_Mo_edit 17 = .ok (.aload_n 0, 1) := by decide +kernel
theorem d_Mo_edit_18 : decode c_Mo_edit 18 = .ok (.getfield 109, 3) := by decide +kernel
theorem d_Mo_edit_21 : decode c_Mo_edit 21 = .ok (.bipush 6, 2) := by decide +kernel
theorem d_Mo_edit_23 : decode c_Mo_edit 23 = .ok (.if_icmp .ne 5, 3) := by decide +kernel
theorem d_Mo_edit_26 : decode c_Mo_edit 26 = .ok (.iconst 0, 1) := by decide +kernel
theorem d_Mo_edit_27 : decode c_Mo_edit 27 = .ok (.ireturn, 1) := by decide +kernel
theorem d_Mo_edit_28 : decode c_Mo_edit 28 = .ok (.aload_n 0, 1) := by decide +kernel
theorem d_Mo_edit_29 : decode c_Mo_edit 29 = .ok (.iconst 1, 1) := by decide +kernel
theorem d_Mo_edit_30 : decode c_Mo_edit 30 = .ok (.iload_n 1, 1) := by decide +kernel
theorem d_Mo_edit_31 : decode c_Mo_edit 31 = .ok (.iconst 0, 1) := by decide +kernel
theorem d_Mo_edit_32 : decode c_Mo_edit 32 = .ok (.iload_n 2, 1) := by decide +kernel
theorem d_Mo_edit_33 : decode c_Mo_edit 33 = .ok (.invokevirtual 116, 3) := by decide +kernel
theorem d_Mo_edit_36 : decode c_Mo_edit 36 = .ok (.aload_n 0, 1) := by decide +kernel
theorem d_Mo_edit_37 : decode c_Mo_edit 37 = .ok (.invokevirtual 120, 3) := by decide +kernel
theorem d_Mo_edit_40 : decode c_Mo_edit 40 = .ok (.iconst 1, 1) := by decide +kernel
theorem d_Mo_edit_41 : decode c_Mo_edit 41 = .ok (.ireturn, 1) := by decide +kernel
theorem d_Mo_leaves_0 : decode c_Mo_leaves 0 = .ok (.iconst 0, 1) := by decide +kernel
theorem d_Mo_leaves_1 : decode c_Mo_leaves 1 = .ok (.istore_n 3, 1) := by decide +kernel
theorem d_Mo_leaves_2 : decode c_Mo_leaves 2 = .ok (.iload_n 1, 1) := by decide +kernel
theorem d_Mo_leaves_3 : decode c_Mo_leaves 3 = .ok (.istore 4, 2) := by decide +kernel
theorem d_Mo_leaves_5 : decode c_Mo_leaves 5 = .ok (.iload 4, 2) := by decide +kernel
theorem d_Mo_leaves_7 : decode c_Mo_leaves 7 = .ok (.iload_n 2, 1) := by decide +kernel
theorem d_Mo_leaves_8 : decode c_Mo_leaves 8 = .ok (.if_icmp .ge 28, 3) := by decide +kernel
theorem d_Mo_leaves_11 : decode c_Mo_leaves 11 = .ok (.iload_n 3, 1) := by decide +kernel
theorem d_Mo_leaves_12 : decode c_Mo_leaves 12 = .ok (.aload_n 0, 1) := by decide +kernel
theorem d_Mo_leaves_13 : decode c_Mo_leaves 13 = .ok (.getfield 25, 3) := by decide +kernel
theorem d_Mo_leaves_16 : decode c_Mo_leaves 16 = .ok (.iload 4, 2) := by decide +kernel
theorem d_Mo_leaves_18 : decode c_Mo_leaves 18 = .ok (.iaload, 1) := by decide +kernel
theorem d_Mo_leaves_19 : decode c_Mo_leaves 19 = .ok (.iconst 2, 1) := by decide +kernel
theorem d_Mo_leaves_20 : decode c_Mo_leaves 20 = .ok (.if_icmp .ge 7, 3) := by decide +kernel
theorem d_Mo_leaves_23 : decode c_Mo_leaves 23 = .ok (.iconst 1, 1) := by decide +kernel
theorem d_Mo_leaves_24 : decode c_Mo_leaves 24 = .ok (.goto 4, 3) := by decide +kernel
theorem d_Mo_leaves_27 : decode c_Mo_leaves 27 = .ok (.iconst 0, 1) := by decide +kernel
theorem d_Mo_leaves_28 : decode c_Mo_leaves 28 = .ok (.iadd, 1) := by decide +kernel
theorem d_Mo_leaves_29 : decode c_Mo_leaves 29 = .ok (.istore_n 3, 1) := by decide +kernel
theorem d_Mo_leaves_30 : decode c_Mo_leaves 30 = .ok (.iinc 4 1, 3) := by decide +kernel
theorem d_Mo_leaves_33 : decode c_Mo_leaves 33 = .ok (.goto (-28), 3) := by decide +kernel
theorem d_Mo_leaves_36 : decode c_Mo_leaves 36 = .ok (.iload_n 3, 1) := by decide +kernel
theorem d_Mo_leaves_37 : decode c_Mo_leaves 37 = .ok (.ireturn, 1) := by decide +kernel
theorem d_Mo_join_0 : decode c_Mo_join 0 = .ok (.aload_n 0, 1) := by decide +kernel
theorem d_Mo_join_1 : decode c_Mo_join 1 = .ok (.getfield 109, 3) := by decide +kernel
theorem d_Mo_join_4 : decode c_Mo_join 4 = .ok (.iconst 2, 1) := by decide +kernel
theorem d_Mo_join_5 : decode c_Mo_join 5 = .ok (.if_icmp .lt 27, 3) := by decide +kernel
theorem d_Mo_join_8 : decode c_Mo_join 8 = .ok (.aload_n 0, 1) := by decide +kernel
theorem d_Mo_join_9 : decode c_Mo_join 9 = .ok (.aload_n 0, 1) := by decide +kernel
theorem d_Mo_join_10 : decode c_Mo_join 10 = .ok (.getfield 37, 3) := by decide +kernel
theorem d_Mo_join_13 : decode c_Mo_join 13 = .ok (.aload_n 0, 1) := by decide +kernel
theorem d_Mo_join_14 : decode c_Mo_join 14 = .ok (.getfield 109, 3) := by decide +kernel
theorem d_Mo_join_17 : decode c_Mo_join 17 = .ok (.iconst 2, 1) := by decide +kernel
theorem d_Mo_join_18 : decode c_Mo_join 18 = .ok (.isub, 1) := by decide +kernel
theorem d_Mo_join_19 : decode c_Mo_join 19 = .ok (.iaload, 1) := by decide +kernel
theorem d_Mo_join_20 : decode c_Mo_join 20 = .ok (.aload_n 0, 1) := by decide +kernel
theorem d_Mo_join_21 : decode c_Mo_join 21 = .ok (.invokevirtual 112, 3) := by decide +kernel
theorem d_Mo_join_24 : decode c_Mo_join 24 = .ok (.invokevirtual 123, 3) := by decide +kernel
theorem d_Mo_join_27 : decode c_Mo_join 27 = .ok (.bipush 12, 2) := by decide +kernel
theorem d_Mo_join_29 : decode c_Mo_join 29 = .ok (.if_icmp .le 5, 3) := by decide +kernel
theorem d_Mo_join_32 : decode c_Mo_join 32 = .ok (.iconst 0, 1) := by decide +kernel
theorem d_Mo_join_33 : decode c_Mo_join 33 = .ok (.ireturn, 1) := by decide +kernel
theorem d_Mo_join_34 : decode c_Mo_join 34 = .ok (.aload_n 0, 1) := by decide +kernel
theorem d_Mo_join_35 : decode c_Mo_join 35 = .ok (.iload_n 1, 1) := by decide +kernel
theorem d_Mo_join_36 : decode c_Mo_join 36 = .ok (.ifCond .eq 7, 3) := by decide +kernel
theorem d_Mo_join_39 : decode c_Mo_join 39 = .ok (.iconst 2, 1) := by decide +kernel
theorem d_Mo_join_40 : decode c_Mo_join 40 = .ok (.goto 4, 3) := by decide +kernel
theorem d_Mo_join_43 : decode c_Mo_join 43 = .ok (.iconst 3, 1) := by decide +kernel
theorem d_Mo_join_44 : decode c_Mo_join 44 = .ok (.iconst 0, 1) := by decide +kernel
theorem d_Mo_join_45 : decode c_Mo_join 45 = .ok (.iconst 0, 1) := by decide +kernel
theorem d_Mo_join_46 : decode c_Mo_join 46 = .ok (.iconst 0, 1) := by decide +kernel
theorem d_Mo_join_47 : decode c_Mo_join 47 = .ok (.invokevirtual 116, 3) := by decide +kernel
theorem d_Mo_join_50 : decode c_Mo_join 50 = .ok (.aload_n 0, 1) := by decide +kernel
theorem d_Mo_join_51 : decode c_Mo_join 51 = .ok (.invokevirtual 112, 3) := by decide +kernel
theorem d_Mo_join_54 : decode c_Mo_join 54 = .ok (.iconst 1, 1) := by decide +kernel
theorem d_Mo_join_55 : decode c_Mo_join 55 = .ok (.iadd, 1) := by decide +kernel
theorem d_Mo_join_56 : decode c_Mo_join 56 = .ok (.istore_n 2, 1) := by decide +kernel
theorem d_Mo_join_57 : decode c_Mo_join 57 = .ok (.aload_n 0, 1) := by decide +kernel
theorem d_Mo_join_58 : decode c_Mo_join 58 = .ok (.dup, 1) := by decide +kernel
theorem d_Mo_join_59 : decode c_Mo_join 59 = .ok (.getfield 109, 3) := by decide +kernel
theorem d_Mo_join_62 : decode c_Mo_join 62 = .ok (.iconst 1, 1) := by decide +kernel
theorem d_Mo_join_63 : decode c_Mo_join 63 = .ok (.isub, 1) := by decide +kernel
theorem d_Mo_join_64 : decode c_Mo_join 64 = .ok (.putfield 109, 3) := by decide +kernel
theorem d_Mo_join_67 : decode c_Mo_join 67 = .ok (.aload_n 0, 1) := by decide +kernel
theorem d_Mo_join_68 : decode c_Mo_join 68 = .ok (.getfield 37, 3) := by decide +kernel
theorem d_Mo_join_71 : decode c_Mo_join 71 = .ok (.aload_n 0, 1) := by decide +kernel
theorem d_Mo_join_72 : decode c_Mo_join 72 = .ok (.getfield 109, 3) := by decide +kernel
theorem d_Mo_join_75 : decode c_Mo_join 75 = .ok (.iload_n 2, 1) := by decide +kernel
theorem d_Mo_join_76 : decode c_Mo_join 76 = .ok (.iastore, 1) := by decide +kernel
theorem d_Mo_join_77 : decode c_Mo_join 77 = .ok (.iconst 1, 1) := by decide +kernel
theorem d_Mo_join_78 : decode c_Mo_join 78 = .ok (.ireturn, 1) := by decide +kernel
theorem d_Mo_driven_0 : decode c_Mo_driven 0 = .ok (.iconst 0, 1) := by decide +kernel
theorem d_Mo_driven_1 : decode c_Mo_driven 1 = .ok (.istore_n 1, 1) := by decide +kernel
theorem d_Mo_driven_2 : decode c_Mo_driven 2 = .ok (.iconst 0, 1) := by decide +kernel
theorem d_Mo_driven_3 : decode c_Mo_driven 3 = .ok (.istore_n 2, 1) := by decide +kernel
theorem d_Mo_driven_4 : decode c_Mo_driven 4 = .ok (.iload_n 2, 1) := by decide +kernel
theorem d_Mo_driven_5 : decode c_Mo_driven 5 = .ok (.aload_n 0, 1) := by decide +kernel
theorem d_Mo_driven_6 : decode c_Mo_driven 6 = .ok (.invokevirtual 112, 3) := by decide +kernel
theorem d_Mo_driven_9 : decode c_Mo_driven 9 = .ok (.if_icmp .ge 119, 3) := by decide +kernel
theorem d_Mo_driven_12 : decode c_Mo_driven 12 = .ok (.aload_n 0, 1) := by decide +kernel
theorem d_Mo_driven_13 : decode c_Mo_driven 13 = .ok (.getfield 25, 3) := by decide +kernel
theorem d_Mo_driven_16 : decode c_Mo_driven 16 = .ok (.iload_n 2, 1) := by decide +kernel
theorem d_Mo_driven_17 : decode c_Mo_driven 17 = .ok (.iaload, 1) := by decide +kernel
theorem d_Mo_driven_18 : decode c_Mo_driven 18 = .ok (.iconst 2, 1) := by decide +kernel
theorem d_Mo_driven_19 : decode c_Mo_driven 19 = .ok (.if_icmp .ge 29, 3) := by decide +kernel
theorem d_Mo_driven_22 : decode c_Mo_driven 22 = .ok (.aload_n 0, 1) := by decide +kernel
theorem d_Mo_driven_23 : decode c_Mo_driven 23 = .ok (.getfield 52, 3) := by decide +kernel
theorem d_Mo_driven_26 : decode c_Mo_driven 26 = .ok (.iload_n 1, 1) := by decide +kernel
theorem d_Mo_driven_27 : decode c_Mo_driven 27 = .ok (.aload_n 0, 1) := by decide +kernel
theorem d_Mo_driven_28 : decode c_Mo_driven 28 = .ok (.getfield 25, 3) := by decide +kernel
theorem d_Mo_driven_31 : decode c_Mo_driven 31 = .ok (.iload_n 2, 1) := by decide +kernel
theorem d_Mo_driven_32 : decode c_Mo_driven 32 = .ok (.iaload, 1) := by decide +kernel
theorem d_Mo_driven_33 : decode c_Mo_driven 33 = .ok (.ifCond .ne 7, 3) := by decide +kernel
theorem d_Mo_driven_36 : decode c_Mo_driven 36 = .ok (.iconst 1, 1) := by decide +kernel
theorem d_Mo_driven_37 : decode c_Mo_driven 37 = .ok (.goto 4, 3) := by decide +kernel
theorem d_Mo_driven_40 : decode c_Mo_driven 40 = .ok (.iconst 0, 1) := by decide +kernel
theorem d_Mo_driven_41 : decode c_Mo_driven 41 = .ok (.bastore, 1) := by decide +kernel
theorem d_Mo_driven_42 : decode c_Mo_driven 42 = .ok (.iinc 1 1, 3) := by decide +kernel
theorem d_Mo_driven_45 : decode c_Mo_driven 45 = .ok (.goto 77, 3) := by decide +kernel
theorem d_Mo_driven_48 : decode c_Mo_driven 48 = .ok (.iinc 1 (-1), 3) := by decide +kernel
theorem d_Mo_driven_51 : decode c_Mo_driven 51 = .ok (.aload_n 0, 1) := by decide +kernel
theorem d_Mo_driven_52 : decode c_Mo_driven 52 = .ok (.getfield 52, 3) := by decide +kernel
theorem d_Mo_driven_55 : decode c_Mo_driven 55 = .ok (.iload_n 1, 1) := by decide +kernel
theorem d_Mo_driven_56 : decode c_Mo_driven 56 = .ok (.iconst 1, 1) := by decide +kernel
theorem d_Mo_driven_57 : decode c_Mo_driven 57 = .ok (.isub, 1) := by decide +kernel
theorem d_Mo_driven_58 : decode c_Mo_driven 58 = .ok (.aload_n 0, 1) := by decide +kernel
theorem d_Mo_driven_59 : decode c_Mo_driven 59 = .ok (.getfield 25, 3) := by decide +kernel
theorem d_Mo_driven_62 : decode c_Mo_driven 62 = .ok (.iload_n 2, 1) := by decide +kernel
theorem d_Mo_driven_63 : decode c_Mo_driven 63 = .ok (.iaload, 1) := by decide +kernel
theorem d_Mo_driven_64 : decode c_Mo_driven 64 = .ok (.iconst 2, 1) := by decide +kernel
theorem d_Mo_driven_65 : decode c_Mo_driven 65 = .ok (.if_icmp .ne 31, 3) := by decide +kernel
theorem d_Mo_driven_68 : decode c_Mo_driven 68 = .ok (.aload_n 0, 1) := by decide +kernel
theorem d_Mo_driven_69 : decode c_Mo_driven 69 = .ok (.getfield 52, 3) := by decide +kernel
theorem d_Mo_driven_72 : decode c_Mo_driven 72 = .ok (.iload_n 1, 1) := by decide +kernel
theorem d_Mo_driven_73 : decode c_Mo_driven 73 = .ok (.iconst 1, 1) := by decide +kernel
theorem d_Mo_driven_74 : decode c_Mo_driven 74 = .ok (.isub, 1) := by decide +kernel
theorem d_Mo_driven_75 : decode c_Mo_driven 75 = .ok (.baload, 1) := by decide +kernel
theorem d_Mo_driven_76 : decode c_Mo_driven 76 = .ok (.ifCond .ne 12, 3) := by decide +kernel
theorem d_Mo_driven_79 : decode c_Mo_driven 79 = .ok (.aload_n 0, 1) := by decide +kernel
theorem d_Mo_driven_80 : decode c_Mo_driven 80 = .ok (.getfield 52, 3) := by decide +kernel
theorem d_Mo_driven_83 : decode c_Mo_driven 83 = .ok (.iload_n 1, 1) := by decide +kernel
theorem d_Mo_driven_84 : decode c_Mo_driven 84 = .ok (.baload, 1) := by decide +kernel
theorem d_Mo_driven_85 : decode c_Mo_driven 85 = .ok (.ifCond .eq 7, 3) := by decide +kernel
theorem d_Mo_driven_88 : decode c_Mo_driven 88 = .ok (.iconst 1, 1) := by decide +kernel
theorem d_Mo_driven_89 : decode c_Mo_driven 89 = .ok (.goto 32, 3) := by decide +kernel
theorem d_Mo_driven_92 : decode c_Mo_driven 92 = .ok (.iconst 0, 1) := by decide +kernel
theorem d_Mo_driven_93 : decode c_Mo_driven 93 = .ok (.goto 28, 3) := by decide +kernel
theorem d_Mo_driven_96 : decode c_Mo_driven 96 = .ok (.aload_n 0, 1) := by decide +kernel
theorem d_Mo_driven_97 : decode c_Mo_driven 97 = .ok (.getfield 52, 3) := by decide +kernel
theorem d_Mo_driven_100 : decode c_Mo_driven 100 = .ok (.iload_n 1, 1) := by decide +kernel
theorem d_Mo_driven_101 : decode c_Mo_driven 101 = .ok (.iconst 1, 1) := by decide +kernel
theorem d_Mo_driven_102 : decode c_Mo_driven 102 = .ok (.isub, 1) := by decide +kernel
theorem d_Mo_driven_103 : decode c_Mo_driven 103 = .ok (.baload, 1) := by decide +kernel
theorem d_Mo_driven_104 : decode c_Mo_driven 104 = .ok (.ifCond .eq 16, 3) := by decide +kernel
theorem d_Mo_driven_107 : decode c_Mo_driven 107 = .ok (.aload_n 0, 1) := by decide +kernel
theorem d_Mo_driven_108 : decode c_Mo_driven 108 = .ok (.getfield 52, 3) := by decide +kernel
theorem d_Mo_driven_111 : decode c_Mo_driven 111 = .ok (.iload_n 1, 1) := by decide +kernel
theorem d_Mo_driven_112 : decode c_Mo_driven 112 = .ok (.baload, 1) := by decide +kernel
theorem d_Mo_driven_113 : decode c_Mo_driven 113 = .ok (.ifCond .eq 7, 3) := by decide +kernel
theorem d_Mo_driven_116 : decode c_Mo_driven 116 = .ok (.iconst 1, 1) := by decide +kernel
theorem d_Mo_driven_117 : decode c_Mo_driven 117 = .ok (.goto 4, 3) := by decide +kernel
theorem d_Mo_driven_120 : decode c_Mo_driven 120 = .ok (.iconst 0, 1) := by decide +kernel
theorem d_Mo_driven_121 : decode c_Mo_driven 121 = .ok (.bastore, 1) := by decide +kernel
theorem d_Mo_driven_122 : decode c_Mo_driven 122 = .ok (.iinc 2 1, 3) := by decide +kernel
theorem d_Mo_driven_125 : decode c_Mo_driven 125 = .ok (.goto (-121), 3) := by decide +kernel
theorem d_Mo_driven_128 : decode c_Mo_driven 128 = .ok (.aload_n 0, 1) := by decide +kernel
theorem d_Mo_driven_129 : decode c_Mo_driven 129 = .ok (.getfield 52, 3) := by decide +kernel
theorem d_Mo_driven_132 : decode c_Mo_driven 132 = .ok (.iconst 0, 1) := by decide +kernel
theorem d_Mo_driven_133 : decode c_Mo_driven 133 = .ok (.baload, 1) := by decide +kernel
theorem d_Mo_driven_134 : decode c_Mo_driven 134 = .ok (.ireturn, 1) := by decide +kernel
theorem d_Mo_accept_0 : decode c_Mo_accept 0 = .ok (.aload_n 0, 1) := by decide +kernel
theorem d_Mo_accept_1 : decode c_Mo_accept 1 = .ok (.getfield 109, 3) := by decide +kernel
theorem d_Mo_accept_4 : decode c_Mo_accept 4 = .ok (.iconst 1, 1) := by decide +kernel
theorem d_Mo_accept_5 : decode c_Mo_accept 5 = .ok (.if_icmp .eq 5, 3) := by decide +kernel
theorem d_Mo_accept_8 : decode c_Mo_accept 8 = .ok (.iconst (-1), 1) := by decide +kernel
theorem d_Mo_accept_9 : decode c_Mo_accept 9 = .ok (.ireturn, 1) := by decide +kernel
theorem d_Mo_accept_10 : decode c_Mo_accept 10 = .ok (.aload_n 0, 1) := by decide +kernel
theorem d_Mo_accept_11 : decode c_Mo_accept 11 = .ok (.invokevirtual 126, 3) := by decide +kernel
theorem d_Mo_accept_14 : decode c_Mo_accept 14 = .ok (.ifCond .ne 6, 3) := by decide +kernel
theorem d_Mo_accept_17 : decode c_Mo_accept 17 = .ok (.bipush (-3), 2) := by decide +kernel
theorem d_Mo_accept_19 : decode c_Mo_accept 19 = .ok (.ireturn, 1) := by decide +kernel
theorem d_Mo_accept_20 : decode c_Mo_accept 20 = .ok (.aload_n 0, 1) := by decide +kernel
theorem d_Mo_accept_21 : decode c_Mo_accept 21 = .ok (.iconst 0, 1) := by decide +kernel
theorem d_Mo_accept_22 : decode c_Mo_accept 22 = .ok (.aload_n 0, 1) := by decide +kernel
theorem d_Mo_accept_23 : decode c_Mo_accept 23 = .ok (.invokevirtual 112, 3) := by decide +kernel
theorem d_Mo_accept_26 : decode c_Mo_accept 26 = .ok (.invokevirtual 123, 3) := by decide +kernel
theorem d_Mo_accept_29 : decode c_Mo_accept 29 = .ok (.istore_n 1, 1) := by decide +kernel
theorem d_Mo_accept_30 : decode c_Mo_accept 30 = .ok (.aload_n 0, 1) := by decide +kernel
theorem d_Mo_accept_31 : decode c_Mo_accept 31 = .ok (.aload_n 0, 1) := by decide +kernel
theorem d_Mo_accept_32 : decode c_Mo_accept 32 = .ok (.invokevirtual 112, 3) := by decide +kernel
theorem d_Mo_accept_35 : decode c_Mo_accept 35 = .ok (.putfield 130, 3) := by decide +kernel
theorem d_Mo_accept_38 : decode c_Mo_accept 38 = .ok (.iconst 0, 1) := by decide +kernel
theorem d_Mo_accept_39 : decode c_Mo_accept 39 = .ok (.istore_n 2, 1) := by decide +kernel
theorem d_Mo_accept_40 : decode c_Mo_accept 40 = .ok (.iload_n 2, 1) := by decide +kernel
theorem d_Mo_accept_41 : decode c_Mo_accept 41 = .ok (.aload_n 0, 1) := by decide +kernel
theorem d_Mo_accept_42 : decode c_Mo_accept 42 = .ok (.getfield 130, 3) := by decide +kernel
theorem d_Mo_accept_45 : decode c_Mo_accept 45 = .ok (.if_icmp .ge 57, 3) := by decide +kernel
theorem d_Mo_accept_48 : decode c_Mo_accept 48 = .ok (.aload_n 0, 1) := by decide +kernel
theorem d_Mo_accept_49 : decode c_Mo_accept 49 = .ok (.getfield 40, 3) := by decide +kernel
theorem d_Mo_accept_52 : decode c_Mo_accept 52 = .ok (.iload_n 2, 1) := by decide +kernel
theorem d_Mo_accept_53 : decode c_Mo_accept 53 = .ok (.aload_n 0, 1) := by decide +kernel
theorem d_Mo_accept_54 : decode c_Mo_accept 54 = .ok (.getfield 25, 3) := by decide +kernel
theorem d_Mo_accept_57 : decode c_Mo_accept 57 = .ok (.iload_n 2, 1) := by decide +kernel
theorem d_Mo_accept_58 : decode c_Mo_accept 58 = .ok (.iaload, 1) := by decide +kernel
theorem d_Mo_accept_59 : decode c_Mo_accept 59 = .ok (.iastore, 1) := by decide +kernel
theorem d_Mo_accept_60 : decode c_Mo_accept 60 = .ok (.aload_n 0, 1) := by decide +kernel
theorem d_Mo_accept_61 : decode c_Mo_accept 61 = .ok (.getfield 43, 3) := by decide +kernel
theorem d_Mo_accept_64 : decode c_Mo_accept 64 = .ok (.iload_n 2, 1) := by decide +kernel
theorem d_Mo_accept_65 : decode c_Mo_accept 65 = .ok (.aload_n 0, 1) := by decide +kernel
theorem d_Mo_accept_66 : decode c_Mo_accept 66 = .ok (.getfield 28, 3) := by decide +kernel
theorem d_Mo_accept_69 : decode c_Mo_accept 69 = .ok (.iload_n 2, 1) := by decide +kernel
theorem d_Mo_accept_70 : decode c_Mo_accept 70 = .ok (.iaload, 1) := by decide +kernel
theorem d_Mo_accept_71 : decode c_Mo_accept 71 = .ok (.iastore, 1) := by decide +kernel
theorem d_Mo_accept_72 : decode c_Mo_accept 72 = .ok (.aload_n 0, 1) := by decide +kernel
theorem d_Mo_accept_73 : decode c_Mo_accept 73 = .ok (.getfield 46, 3) := by decide +kernel
theorem d_Mo_accept_76 : decode c_Mo_accept 76 = .ok (.iload_n 2, 1) := by decide +kernel
theorem d_Mo_accept_77 : decode c_Mo_accept 77 = .ok (.aload_n 0, 1) := by decide +kernel
theorem d_Mo_accept_78 : decode c_Mo_accept 78 = .ok (.getfield 31, 3) := by decide +kernel
theorem d_Mo_accept_81 : decode c_Mo_accept 81 = .ok (.iload_n 2, 1) := by decide +kernel
theorem d_Mo_accept_82 : decode c_Mo_accept 82 = .ok (.iaload, 1) := by decide +kernel
theorem d_Mo_accept_83 : decode c_Mo_accept 83 = .ok (.iastore, 1) := by decide +kernel
theorem d_Mo_accept_84 : decode c_Mo_accept 84 = .ok (.aload_n 0, 1) := by decide +kernel
theorem d_Mo_accept_85 : decode c_Mo_accept 85 = .ok (.getfield 49, 3) := by decide +kernel
theorem d_Mo_accept_88 : decode c_Mo_accept 88 = .ok (.iload_n 2, 1) := by decide +kernel
theorem d_Mo_accept_89 : decode c_Mo_accept 89 = .ok (.aload_n 0, 1) := by decide +kernel
theorem d_Mo_accept_90 : decode c_Mo_accept 90 = .ok (.getfield 34, 3) := by decide +kernel
theorem d_Mo_accept_93 : decode c_Mo_accept 93 = .ok (.iload_n 2, 1) := by decide +kernel
theorem d_Mo_accept_94 : decode c_Mo_accept 94 = .ok (.iaload, 1) := by decide +kernel
theorem d_Mo_accept_95 : decode c_Mo_accept 95 = .ok (.iastore, 1) := by decide +kernel
theorem d_Mo_accept_96 : decode c_Mo_accept 96 = .ok (.iinc 2 1, 3) := by decide +kernel
theorem d_Mo_accept_99 : decode c_Mo_accept 99 = .ok (.goto (-59), 3) := by decide +kernel
theorem d_Mo_accept_102 : decode c_Mo_accept 102 = .ok (.aload_n 0, 1) := by decide +kernel
theorem d_Mo_accept_103 : decode c_Mo_accept 103 = .ok (.iconst 0, 1) := by decide +kernel
theorem d_Mo_accept_104 : decode c_Mo_accept 104 = .ok (.putfield 109, 3) := by decide +kernel
theorem d_Mo_accept_107 : decode c_Mo_accept 107 = .ok (.aload_n 0, 1) := by decide +kernel
theorem d_Mo_accept_108 : decode c_Mo_accept 108 = .ok (.iconst 0, 1) := by decide +kernel
theorem d_Mo_accept_109 : decode c_Mo_accept 109 = .ok (.putfield 73, 3) := by decide +kernel
theorem d_Mo_accept_112 : decode c_Mo_accept 112 = .ok (.iload_n 1, 1) := by decide +kernel
theorem d_Mo_accept_113 : decode c_Mo_accept 113 = .ok (.ireturn, 1) := by decide +kernel
theorem d_Mo_discard_0 : decode c_Mo_discard 0 = .ok (.aload_n 0, 1) := by decide +kernel
theorem d_Mo_discard_1 : decode c_Mo_discard 1 = .ok (.getfield 109, 3) := by decide +kernel
theorem d_Mo_discard_4 : decode c_Mo_discard 4 = .ok (.ifCond .ne 5, 3) := by decide +kernel
theorem d_Mo_discard_7 : decode c_Mo_discard 7 = .ok (.iconst 0, 1) := by decide +kernel
theorem d_Mo_discard_8 : decode c_Mo_discard 8 = .ok (.ireturn, 1) := by decide +kernel
theorem d_Mo_discard_9 : decode c_Mo_discard 9 = .ok (.aload_n 0, 1) := by decide +kernel
theorem d_Mo_discard_10 : decode c_Mo_discard 10 = .ok (.dup, 1) := by decide +kernel
theorem d_Mo_discard_11 : decode c_Mo_discard 11 = .ok (.getfield 109, 3) := by decide +kernel
theorem d_Mo_discard_14 : decode c_Mo_discard 14 = .ok (.iconst 1, 1) := by decide +kernel
theorem d_Mo_discard_15 : decode c_Mo_discard 15 = .ok (.isub, 1) := by decide +kernel
theorem d_Mo_discard_16 : decode c_Mo_discard 16 = .ok (.putfield 109, 3) := by decide +kernel
theorem d_Mo_discard_19 : decode c_Mo_discard 19 = .ok (.iconst 1, 1) := by decide +kernel
theorem d_Mo_discard_20 : decode c_Mo_discard 20 = .ok (.ireturn, 1) := by decide +kernel
theorem d_Mo_leafHolds_0 : decode c_Mo_leafHolds 0 = .ok (.aload_n 0, 1) := by decide +kernel
theorem d_Mo_leafHolds_1 : decode c_Mo_leafHolds 1 = .ok (.iconst 0, 1) := by decide +kernel
theorem d_Mo_leafHolds_2 : decode c_Mo_leafHolds 2 = .ok (.iload_n 2, 1) := by decide +kernel
theorem d_Mo_leafHolds_3 : decode c_Mo_leafHolds 3 = .ok (.aload_n 0, 1) := by decide +kernel
theorem d_Mo_leafHolds_4 : decode c_Mo_leafHolds 4 = .ok (.getfield 43, 3) := by decide +kernel
theorem d_Mo_leafHolds_7 : decode c_Mo_leafHolds 7 = .ok (.iload_n 1, 1) := by decide +kernel
theorem d_Mo_leafHolds_8 : decode c_Mo_leafHolds 8 = .ok (.iaload, 1) := by decide +kernel
theorem d_Mo_leafHolds_9 : decode c_Mo_leafHolds 9 = .ok (.invokevirtual 98, 3) := by decide +kernel
theorem d_Mo_leafHolds_12 : decode c_Mo_leafHolds 12 = .ok (.aload_n 0, 1) := by decide +kernel
theorem d_Mo_leafHolds_13 : decode c_Mo_leafHolds 13 = .ok (.iconst 1, 1) := by decide +kernel
theorem d_Mo_leafHolds_14 : decode c_Mo_leafHolds 14 = .ok (.iload_n 3, 1) := by decide +kernel
theorem d_Mo_leafHolds_15 : decode c_Mo_leafHolds 15 = .ok (.aload_n 0, 1) := by decide +kernel
theorem d_Mo_leafHolds_16 : decode c_Mo_leafHolds 16 = .ok (.getfield 43, 3) := by decide +kernel
theorem d_Mo_leafHolds_19 : decode c_Mo_leafHolds 19 = .ok (.iload_n 1, 1) := by decide +kernel
theorem d_Mo_leafHolds_20 : decode c_Mo_leafHolds 20 = .ok (.iaload, 1) := by decide +kernel
theorem d_Mo_leafHolds_21 : decode c_Mo_leafHolds 21 = .ok (.invokevirtual 98, 3) := by decide +kernel
theorem d_Mo_leafHolds_24 : decode c_Mo_leafHolds 24 = .ok (.aload_n 0, 1) := by decide +kernel
theorem d_Mo_leafHolds_25 : decode c_Mo_leafHolds 25 = .ok (.getfield 40, 3) := by decide +kernel
theorem d_Mo_leafHolds_28 : decode c_Mo_leafHolds 28 = .ok (.iload_n 1, 1) := by decide +kernel
theorem d_Mo_leafHolds_29 : decode c_Mo_leafHolds 29 = .ok (.iaload, 1) := by decide +kernel
theorem d_Mo_leafHolds_30 : decode c_Mo_leafHolds 30 = .ok (.iconst 1, 1) := by decide +kernel
theorem d_Mo_leafHolds_31 : decode c_Mo_leafHolds 31 = .ok (.if_icmp .ne 22, 3) := by decide +kernel
theorem d_Mo_leafHolds_34 : decode c_Mo_leafHolds 34 = .ok (.aload_n 0, 1) := by decide +kernel
theorem d_Mo_leafHolds_35 : decode c_Mo_leafHolds 35 = .ok (.invokevirtual 133, 3) := by decide +kernel
theorem d_Mo_leafHolds_38 : decode c_Mo_leafHolds 38 = .ok (.aload_n 0, 1) := by decide +kernel
theorem d_Mo_leafHolds_39 : decode c_Mo_leafHolds 39 = .ok (.getfield 49, 3) := by decide +kernel
theorem d_Mo_leafHolds_42 : decode c_Mo_leafHolds 42 = .ok (.iload_n 1, 1) := by decide +kernel
theorem d_Mo_leafHolds_43 : decode c_Mo_leafHolds 43 = .ok (.iaload, 1) := by decide +kernel
theorem d_Mo_leafHolds_44 : decode c_Mo_leafHolds 44 = .ok (.if_icmp .gt 7, 3) := by decide +kernel
theorem d_Mo_leafHolds_47 : decode c_Mo_leafHolds 47 = .ok (.iconst 1, 1) := by decide +kernel
theorem d_Mo_leafHolds_48 : decode c_Mo_leafHolds 48 = .ok (.goto 4, 3) := by decide +kernel
theorem d_Mo_leafHolds_51 : decode c_Mo_leafHolds 51 = .ok (.iconst 0, 1) := by decide +kernel
theorem d_Mo_leafHolds_52 : decode c_Mo_leafHolds 52 = .ok (.ireturn, 1) := by decide +kernel
theorem d_Mo_leafHolds_53 : decode c_Mo_leafHolds 53 = .ok (.aload_n 0, 1) := by decide +kernel
theorem d_Mo_leafHolds_54 : decode c_Mo_leafHolds 54 = .ok (.iconst 0, 1) := by decide +kernel
theorem d_Mo_leafHolds_55 : decode c_Mo_leafHolds 55 = .ok (.iconst 1, 1) := by decide +kernel
theorem d_Mo_leafHolds_56 : decode c_Mo_leafHolds 56 = .ok (.iconst 1, 1) := by decide +kernel
theorem d_Mo_leafHolds_57 : decode c_Mo_leafHolds 57 = .ok (.invokevirtual 102, 3) := by decide +kernel
theorem d_Mo_leafHolds_60 : decode c_Mo_leafHolds 60 = .ok (.istore 4, 2) := by decide +kernel
theorem d_Mo_leafHolds_62 : decode c_Mo_leafHolds 62 = .ok (.aload_n 0, 1) := by decide +kernel
theorem d_Mo_leafHolds_63 : decode c_Mo_leafHolds 63 = .ok (.iconst 0, 1) := by decide +kernel
theorem d_Mo_leafHolds_64 : decode c_Mo_leafHolds 64 = .ok (.iconst 0, 1) := by decide +kernel
theorem d_Mo_leafHolds_65 : decode c_Mo_leafHolds 65 = .ok (.iconst 0, 1) := by decide +kernel
theorem d_Mo_leafHolds_66 : decode c_Mo_leafHolds 66 = .ok (.invokevirtual 102, 3) := by decide +kernel
theorem d_Mo_leafHolds_69 : decode c_Mo_leafHolds 69 = .ok (.aload_n 0, 1) := by decide +kernel
theorem d_Mo_leafHolds_70 : decode c_Mo_leafHolds 70 = .ok (.iconst 1, 1) := by decide +kernel
theorem d_Mo_leafHolds_71 : decode c_Mo_leafHolds 71 = .ok (.iconst 1, 1) := by decide +kernel
theorem d_Mo_leafHolds_72 : decode c_Mo_leafHolds 72 = .ok (.iconst 0, 1) := by decide +kernel
theorem d_Mo_leafHolds_73 : decode c_Mo_leafHolds 73 = .ok (.invokevirtual 102, 3) := by decide +kernel
theorem d_Mo_leafHolds_76 : decode c_Mo_leafHolds 76 = .ok (.iadd, 1) := by decide +kernel
theorem d_Mo_leafHolds_77 : decode c_Mo_leafHolds 77 = .ok (.iload 4, 2) := by decide +kernel
theorem d_Mo_leafHolds_79 : decode c_Mo_leafHolds 79 = .ok (.isub, 1) := by decide +kernel
theorem d_Mo_leafHolds_80 : decode c_Mo_leafHolds 80 = .ok (.istore 5, 2) := by decide +kernel
theorem d_Mo_leafHolds_82 : decode c_Mo_leafHolds 82 = .ok (.iload 5, 2) := by decide +kernel
theorem d_Mo_leafHolds_84 : decode c_Mo_leafHolds 84 = .ok (.ifCond .le 28, 3) := by decide +kernel
theorem d_Mo_leafHolds_87 : decode c_Mo_leafHolds 87 = .ok (.iload 4, 2) := by decide +kernel
theorem d_Mo_leafHolds_89 : decode c_Mo_leafHolds 89 = .ok (.aload_n 0, 1) := by decide +kernel
theorem d_Mo_leafHolds_90 : decode c_Mo_leafHolds 90 = .ok (.getfield 49, 3) := by decide +kernel
theorem d_Mo_leafHolds_93 : decode c_Mo_leafHolds 93 = .ok (.iload_n 1, 1) := by decide +kernel
theorem d_Mo_leafHolds_94 : decode c_Mo_leafHolds 94 = .ok (.iaload, 1) := by decide +kernel
theorem d_Mo_leafHolds_95 : decode c_Mo_leafHolds 95 = .ok (.imul, 1) := by decide +kernel
theorem d_Mo_leafHolds_96 : decode c_Mo_leafHolds 96 = .ok (.aload_n 0, 1) := by decide +kernel
theorem d_Mo_leafHolds_97 : decode c_Mo_leafHolds 97 = .ok (.getfield 46, 3) := by decide +kernel
theorem d_Mo_leafHolds_100 : decode c_Mo_leafHolds 100 = .ok (.iload_n 1, 1) := by decide +kernel
theorem d_Mo_leafHolds_101 : decode c_Mo_leafHolds 101 = .ok (.iaload, 1) := by decide +kernel
theorem d_Mo_leafHolds_102 : decode c_Mo_leafHolds 102 = .ok (.iload 5, 2) := by decide +kernel
theorem d_Mo_leafHolds_104 : decode c_Mo_leafHolds 104 = .ok (.imul, 1) := by decide +kernel
theorem d_Mo_leafHolds_105 : decode c_Mo_leafHolds 105 = .ok (.if_icmp .lt 7, 3) := by decide +kernel
theorem d_Mo_leafHolds_108 : decode c_Mo_leafHolds 108 = .ok (.iconst 1, 1) := by decide +kernel
theorem d_Mo_leafHolds_109 : decode c_Mo_leafHolds 109 = .ok (.goto 4, 3) := by decide +kernel
theorem d_Mo_leafHolds_112 : decode c_Mo_leafHolds 112 = .ok (.iconst 0, 1) := by decide +kernel
theorem d_Mo_leafHolds_113 : decode c_Mo_leafHolds 113 = .ok (.ireturn, 1) := by decide +kernel
theorem d_Mo_holds_0 : decode c_Mo_holds 0 = .ok (.iconst 0, 1) := by decide +kernel
theorem d_Mo_holds_1 : decode c_Mo_holds 1 = .ok (.istore_n 3, 1) := by decide +kernel
theorem d_Mo_holds_2 : decode c_Mo_holds 2 = .ok (.iconst 0, 1) := by decide +kernel
theorem d_Mo_holds_3 : decode c_Mo_holds 3 = .ok (.istore 4, 2) := by decide +kernel
theorem d_Mo_holds_5 : decode c_Mo_holds 5 = .ok (.iload 4, 2) := by decide +kernel
theorem d_Mo_holds_7 : decode c_Mo_holds 7 = .ok (.aload_n 0, 1) := by decide +kernel
theorem d_Mo_holds_8 : decode c_Mo_holds 8 = .ok (.getfield 130, 3) := by decide +kernel
theorem d_Mo_holds_11 : decode c_Mo_holds 11 = .ok (.if_icmp .ge 115, 3) := by decide +kernel
theorem d_Mo_holds_14 : decode c_Mo_holds 14 = .ok (.aload_n 0, 1) := by decide +kernel
theorem d_Mo_holds_15 : decode c_Mo_holds 15 = .ok (.getfield 40, 3) := by decide +kernel
theorem d_Mo_holds_18 : decode c_Mo_holds 18 = .ok (.iload 4, 2) := by decide +kernel
theorem d_Mo_holds_20 : decode c_Mo_holds 20 = .ok (.iaload, 1) := by decide +kernel
theorem d_Mo_holds_21 : decode c_Mo_holds 21 = .ok (.iconst 2, 1) := by decide +kernel
theorem d_Mo_holds_22 : decode c_Mo_holds 22 = .ok (.if_icmp .ge 23, 3) := by decide +kernel
theorem d_Mo_holds_25 : decode c_Mo_holds 25 = .ok (.aload_n 0, 1) := by decide +kernel
theorem d_Mo_holds_26 : decode c_Mo_holds 26 = .ok (.getfield 52, 3) := by decide +kernel
theorem d_Mo_holds_29 : decode c_Mo_holds 29 = .ok (.iload_n 3, 1) := by decide +kernel
theorem d_Mo_holds_30 : decode c_Mo_holds 30 = .ok (.aload_n 0, 1) := by decide +kernel
theorem d_Mo_holds_31 : decode c_Mo_holds 31 = .ok (.iload 4, 2) := by decide +kernel
theorem d_Mo_holds_33 : decode c_Mo_holds 33 = .ok (.iload_n 1, 1) := by decide +kernel
theorem d_Mo_holds_34 : decode c_Mo_holds 34 = .ok (.iload_n 2, 1) := by decide +kernel
theorem d_Mo_holds_35 : decode c_Mo_holds 35 = .ok (.invokevirtual 136, 3) := by decide +kernel
theorem d_Mo_holds_38 : decode c_Mo_holds 38 = .ok (.bastore, 1) := by decide +kernel
theorem d_Mo_holds_39 : decode c_Mo_holds 39 = .ok (.iinc 3 1, 3) := by decide +kernel
theorem d_Mo_holds_42 : decode c_Mo_holds 42 = .ok (.goto 78, 3) := by decide +kernel
theorem d_Mo_holds_45 : decode c_Mo_holds 45 = .ok (.iinc 3 (-1), 3) := by decide +kernel
theorem d_Mo_holds_48 : decode c_Mo_holds 48 = .ok (.aload_n 0, 1) := by decide +kernel
theorem d_Mo_holds_49 : decode c_Mo_holds 49 = .ok (.getfield 52, 3) := by decide +kernel
theorem d_Mo_holds_52 : decode c_Mo_holds 52 = .ok (.iload_n 3, 1) := by decide +kernel
theorem d_Mo_holds_53 : decode c_Mo_holds 53 = .ok (.iconst 1, 1) := by decide +kernel
theorem d_Mo_holds_54 : decode c_Mo_holds 54 = .ok (.isub, 1) := by decide +kernel
theorem d_Mo_holds_55 : decode c_Mo_holds 55 = .ok (.aload_n 0, 1) := by decide +kernel
theorem d_Mo_holds_56 : decode c_Mo_holds 56 = .ok (.getfield 40, 3) := by decide +kernel
theorem d_Mo_holds_59 : decode c_Mo_holds 59 = .ok (.iload 4, 2) := by decide +kernel
theorem d_Mo_holds_61 : decode c_Mo_holds 61 = .ok (.iaload, 1) := by decide +kernel
theorem d_Mo_holds_62 : decode c_Mo_holds 62 = .ok (.iconst 2, 1) := by decide +kernel
theorem d_Mo_holds_63 : decode c_Mo_holds 63 = .ok (.if_icmp .ne 31, 3) := by decide +kernel
theorem d_Mo_holds_66 : decode c_Mo_holds 66 = .ok (.aload_n 0, 1) := by decide +kernel
theorem d_Mo_holds_67 : decode c_Mo_holds 67 = .ok (.getfield 52, 3) := by decide +kernel
theorem d_Mo_holds_70 : decode c_Mo_holds 70 = .ok (.iload_n 3, 1) := by decide +kernel
theorem d_Mo_holds_71 : decode c_Mo_holds 71 = .ok (.iconst 1, 1) := by decide +kernel
theorem d_Mo_holds_72 : decode c_Mo_holds 72 = .ok (.isub, 1) := by decide +kernel
theorem d_Mo_holds_73 : decode c_Mo_holds 73 = .ok (.baload, 1) := by decide +kernel
theorem d_Mo_holds_74 : decode c_Mo_holds 74 = .ok (.ifCond .eq 16, 3) := by decide +kernel
theorem d_Mo_holds_77 : decode c_Mo_holds 77 = .ok (.aload_n 0, 1) := by decide +kernel
theorem d_Mo_holds_78 : decode c_Mo_holds 78 = .ok (.getfield 52, 3) := by decide +kernel
theorem d_Mo_holds_81 : decode c_Mo_holds 81 = .ok (.iload_n 3, 1) := by decide +kernel
theorem d_Mo_holds_82 : decode c_Mo_holds 82 = .ok (.baload, 1) := by decide +kernel
theorem d_Mo_holds_83 : decode c_Mo_holds 83 = .ok (.ifCond .eq 7, 3) := by decide +kernel
theorem d_Mo_holds_86 : decode c_Mo_holds 86 = .ok (.iconst 1, 1) := by decide +kernel
theorem d_Mo_holds_87 : decode c_Mo_holds 87 = .ok (.goto 32, 3) := by decide +kernel
theorem d_Mo_holds_90 : decode c_Mo_holds 90 = .ok (.iconst 0, 1) := by decide +kernel
theorem d_Mo_holds_91 : decode c_Mo_holds 91 = .ok (.goto 28, 3) := by decide +kernel
theorem d_Mo_holds_94 : decode c_Mo_holds 94 = .ok (.aload_n 0, 1) := by decide +kernel
theorem d_Mo_holds_95 : decode c_Mo_holds 95 = .ok (.getfield 52, 3) := by decide +kernel
theorem d_Mo_holds_98 : decode c_Mo_holds 98 = .ok (.iload_n 3, 1) := by decide +kernel
theorem d_Mo_holds_99 : decode c_Mo_holds 99 = .ok (.iconst 1, 1) := by decide +kernel
theorem d_Mo_holds_100 : decode c_Mo_holds 100 = .ok (.isub, 1) := by decide +kernel
theorem d_Mo_holds_101 : decode c_Mo_holds 101 = .ok (.baload, 1) := by decide +kernel
theorem d_Mo_holds_102 : decode c_Mo_holds 102 = .ok (.ifCond .ne 12, 3) := by decide +kernel
theorem d_Mo_holds_105 : decode c_Mo_holds 105 = .ok (.aload_n 0, 1) := by decide +kernel
theorem d_Mo_holds_106 : decode c_Mo_holds 106 = .ok (.getfield 52, 3) := by decide +kernel
theorem d_Mo_holds_109 : decode c_Mo_holds 109 = .ok (.iload_n 3, 1) := by decide +kernel
theorem d_Mo_holds_110 : decode c_Mo_holds 110 = .ok (.baload, 1) := by decide +kernel
theorem d_Mo_holds_111 : decode c_Mo_holds 111 = .ok (.ifCond .eq 7, 3) := by decide +kernel
theorem d_Mo_holds_114 : decode c_Mo_holds 114 = .ok (.iconst 1, 1) := by decide +kernel
theorem d_Mo_holds_115 : decode c_Mo_holds 115 = .ok (.goto 4, 3) := by decide +kernel
theorem d_Mo_holds_118 : decode c_Mo_holds 118 = .ok (.iconst 0, 1) := by decide +kernel
theorem d_Mo_holds_119 : decode c_Mo_holds 119 = .ok (.bastore, 1) := by decide +kernel
theorem d_Mo_holds_120 : decode c_Mo_holds 120 = .ok (.iinc 4 1, 3) := by decide +kernel
theorem d_Mo_holds_123 : decode c_Mo_holds 123 = .ok (.goto (-118), 3) := by decide +kernel
theorem d_Mo_holds_126 : decode c_Mo_holds 126 = .ok (.aload_n 0, 1) := by decide +kernel
theorem d_Mo_holds_127 : decode c_Mo_holds 127 = .ok (.getfield 52, 3) := by decide +kernel
theorem d_Mo_holds_130 : decode c_Mo_holds 130 = .ok (.iconst 0, 1) := by decide +kernel
theorem d_Mo_holds_131 : decode c_Mo_holds 131 = .ok (.baload, 1) := by decide +kernel
theorem d_Mo_holds_132 : decode c_Mo_holds 132 = .ok (.ireturn, 1) := by decide +kernel
theorem d_Mo_similar_0 : decode c_Mo_similar 0 = .ok (.aload_n 0, 1) := by decide +kernel
theorem d_Mo_similar_1 : decode c_Mo_similar 1 = .ok (.getfield 130, 3) := by decide +kernel
theorem d_Mo_similar_4 : decode c_Mo_similar 4 = .ok (.ifCond .ne 6, 3) := by decide +kernel
theorem d_Mo_similar_7 : decode c_Mo_similar 7 = .ok (.bipush (-4), 2) := by decide +kernel
theorem d_Mo_similar_9 : decode c_Mo_similar 9 = .ok (.ireturn, 1) := by decide +kernel
theorem d_Mo_similar_10 : decode c_Mo_similar 10 = .ok (.aload_n 0, 1) := by decide +kernel
theorem d_Mo_similar_11 : decode c_Mo_similar 11 = .ok (.iload_n 1, 1) := by decide +kernel
theorem d_Mo_similar_12 : decode c_Mo_similar 12 = .ok (.invokevirtual 95, 3) := by decide +kernel
theorem d_Mo_similar_15 : decode c_Mo_similar 15 = .ok (.ifCond .eq 16, 3) := by decide +kernel
theorem d_Mo_similar_18 : decode c_Mo_similar 18 = .ok (.aload_n 0, 1) := by decide +kernel
theorem d_Mo_similar_19 : decode c_Mo_similar 19 = .ok (.iload_n 2, 1) := by decide +kernel
theorem d_Mo_similar_20 : decode c_Mo_similar 20 = .ok (.invokevirtual 95, 3) := by decide +kernel
theorem d_Mo_similar_23 : decode c_Mo_similar 23 = .ok (.ifCond .eq 8, 3) := by decide +kernel
theorem d_Mo_similar_26 : decode c_Mo_similar 26 = .ok (.iload_n 1, 1) := by decide +kernel
theorem d_Mo_similar_27 : decode c_Mo_similar 27 = .ok (.iload_n 2, 1) := by decide +kernel
theorem d_Mo_similar_28 : decode c_Mo_similar 28 = .ok (.if_icmp .ne 5, 3) := by decide +kernel
theorem d_Mo_similar_31 : decode c_Mo_similar 31 = .ok (.iconst (-1), 1) := by decide +kernel
theorem d_Mo_similar_32 : decode c_Mo_similar 32 = .ok (.ireturn, 1) := by decide +kernel
theorem d_Mo_similar_33 : decode c_Mo_similar 33 = .ok (.aload_n 0, 1) := by decide +kernel
theorem d_Mo_similar_34 : decode c_Mo_similar 34 = .ok (.iload_n 1, 1) := by decide +kernel
theorem d_Mo_similar_35 : decode c_Mo_similar 35 = .ok (.iload_n 2, 1) := by decide +kernel
theorem d_Mo_similar_36 : decode c_Mo_similar 36 = .ok (.invokevirtual 140, 3) := by decide +kernel
theorem d_Mo_similar_39 : decode c_Mo_similar 39 = .ok (.ifCond .eq 7, 3) := by decide +kernel
theorem d_Mo_similar_42 : decode c_Mo_similar 42 = .ok (.iconst 1, 1) := by decide +kernel
theorem d_Mo_similar_43 : decode c_Mo_similar 43 = .ok (.goto 4, 3) := by decide +kernel
theorem d_Mo_similar_46 : decode c_Mo_similar 46 = .ok (.iconst 0, 1) := by decide +kernel
theorem d_Mo_similar_47 : decode c_Mo_similar 47 = .ok (.ireturn, 1) := by decide +kernel
theorem d_Mo_tasksOf_0 : decode c_Mo_tasksOf 0 = .ok (.iconst 0, 1) := by decide +kernel
theorem d_Mo_tasksOf_1 : decode c_Mo_tasksOf 1 = .ok (.istore_n 2, 1) := by decide +kernel
theorem d_Mo_tasksOf_2 : decode c_Mo_tasksOf 2 = .ok (.iconst 0, 1) := by decide +kernel
theorem d_Mo_tasksOf_3 : decode c_Mo_tasksOf 3 = .ok (.istore_n 3, 1) := by decide +kernel
theorem d_Mo_tasksOf_4 : decode c_Mo_tasksOf 4 = .ok (.iload_n 3, 1) := by decide +kernel
theorem d_Mo_tasksOf_5 : decode c_Mo_tasksOf 5 = .ok (.aload_n 0, 1) := by decide +kernel
theorem d_Mo_tasksOf_6 : decode c_Mo_tasksOf 6 = .ok (.getfield 65, 3) := by decide +kernel
theorem d_Mo_tasksOf_9 : decode c_Mo_tasksOf 9 = .ok (.if_icmp .ge 27, 3) := by decide +kernel
theorem d_Mo_tasksOf_12 : decode c_Mo_tasksOf 12 = .ok (.iload_n 2, 1) := by decide +kernel
theorem d_Mo_tasksOf_13 : decode c_Mo_tasksOf 13 = .ok (.iload_n 3, 1) := by decide +kernel
theorem d_Mo_tasksOf_14 : decode c_Mo_tasksOf 14 = .ok (.aload_n 0, 1) := by decide +kernel
theorem d_Mo_tasksOf_15 : decode c_Mo_tasksOf 15 = .ok (.getfield 73, 3) := by decide +kernel
theorem d_Mo_tasksOf_18 : decode c_Mo_tasksOf 18 = .ok (.irem, 1) := by decide +kernel
theorem d_Mo_tasksOf_19 : decode c_Mo_tasksOf 19 = .ok (.iload_n 1, 1) := by decide +kernel
theorem d_Mo_tasksOf_20 : decode c_Mo_tasksOf 20 = .ok (.if_icmp .ne 7, 3) := by decide +kernel
theorem d_Mo_tasksOf_23 : decode c_Mo_tasksOf 23 = .ok (.iconst 1, 1) := by decide +kernel
theorem d_Mo_tasksOf_24 : decode c_Mo_tasksOf 24 = .ok (.goto 4, 3) := by decide +kernel
theorem d_Mo_tasksOf_27 : decode c_Mo_tasksOf 27 = .ok (.iconst 0, 1) := by decide +kernel
theorem d_Mo_tasksOf_28 : decode c_Mo_tasksOf 28 = .ok (.iadd, 1) := by decide +kernel
theorem d_Mo_tasksOf_29 : decode c_Mo_tasksOf 29 = .ok (.istore_n 2, 1) := by decide +kernel
theorem d_Mo_tasksOf_30 : decode c_Mo_tasksOf 30 = .ok (.iinc 3 1, 3) := by decide +kernel
theorem d_Mo_tasksOf_33 : decode c_Mo_tasksOf 33 = .ok (.goto (-29), 3) := by decide +kernel
theorem d_Mo_tasksOf_36 : decode c_Mo_tasksOf 36 = .ok (.iload_n 2, 1) := by decide +kernel
theorem d_Mo_tasksOf_37 : decode c_Mo_tasksOf 37 = .ok (.ireturn, 1) := by decide +kernel
theorem d_Mo_isDone_0 : decode c_Mo_isDone 0 = .ok (.iconst 1, 1) := by decide +kernel
