theorem d_RM_init_0 : decode c_RM_init 0 = .ok (.aload_n 0, 1) := by decide +kernel
theorem d_RM_init_1 : decode c_RM_init 1 = .ok (.invokespecial 1, 3) := by decide +kernel
theorem d_RM_init_4 : decode c_RM_init 4 = .ok (.aload_n 0, 1) := by decide +kernel
theorem d_RM_init_5 : decode c_RM_init 5 = .ok (.bipush 13, 2) := by decide +kernel
theorem d_RM_init_7 : decode c_RM_init 7 = .ok (.anewarray 9, 3) := by decide +kernel
theorem d_RM_init_10 : decode c_RM_init 10 = .ok (.putfield 11, 3) := by decide +kernel
theorem d_RM_init_13 : decode c_RM_init 13 = .ok (.aload_n 0, 1) := by decide +kernel
theorem d_RM_init_14 : decode c_RM_init 14 = .ok (.bipush 6, 2) := by decide +kernel
theorem d_RM_init_16 : decode c_RM_init 16 = .ok (.anewarray 15, 3) := by decide +kernel
theorem d_RM_init_19 : decode c_RM_init 19 = .ok (.putfield 17, 3) := by decide +kernel
theorem d_RM_init_22 : decode c_RM_init 22 = .ok (.aload_n 0, 1) := by decide +kernel
theorem d_RM_init_23 : decode c_RM_init 23 = .ok (.new 21, 3) := by decide +kernel
theorem d_RM_init_26 : decode c_RM_init 26 = .ok (.dup, 1) := by decide +kernel
theorem d_RM_init_27 : decode c_RM_init 27 = .ok (.invokespecial 23, 3) := by decide +kernel
theorem d_RM_init_30 : decode c_RM_init 30 = .ok (.putfield 24, 3) := by decide +kernel
theorem d_RM_init_33 : decode c_RM_init 33 = .ok (.aload_n 0, 1) := by decide +kernel
theorem d_RM_init_34 : decode c_RM_init 34 = .ok (.iconst 2, 1) := by decide +kernel
theorem d_RM_init_35 : decode c_RM_init 35 = .ok (.newarray .int, 2) := by decide +kernel
theorem d_RM_init_37 : decode c_RM_init 37 = .ok (.putfield 28, 3) := by decide +kernel
theorem d_RM_init_40 : decode c_RM_init 40 = .ok (.iconst 0, 1) := by decide +kernel
theorem d_RM_init_41 : decode c_RM_init 41 = .ok (.istore_n 1, 1) := by decide +kernel
theorem d_RM_init_42 : decode c_RM_init 42 = .ok (.iload_n 1, 1) := by decide +kernel
theorem d_RM_init_43 : decode c_RM_init 43 = .ok (.aload_n 0, 1) := by decide +kernel
theorem d_RM_init_44 : decode c_RM_init 44 = .ok (.getfield 11, 3) := by decide +kernel
theorem d_RM_init_47 : decode c_RM_init 47 = .ok (.arraylength, 1) := by decide +kernel
theorem d_RM_init_48 : decode c_RM_init 48 = .ok (.if_icmp .ge 22, 3) := by decide +kernel
theorem d_RM_init_51 : decode c_RM_init 51 = .ok (.aload_n 0, 1) := by decide +kernel
theorem d_RM_init_52 : decode c_RM_init 52 = .ok (.getfield 11, 3) := by decide +kernel
theorem d_RM_init_55 : decode c_RM_init 55 = .ok (.iload_n 1, 1) := by decide +kernel
theorem d_RM_init_56 : decode c_RM_init 56 = .ok (.new 9, 3) := by decide +kernel
theorem d_RM_init_59 : decode c_RM_init 59 = .ok (.dup, 1) := by decide +kernel
theorem d_RM_init_60 : decode c_RM_init 60 = .ok (.invokespecial 32, 3) := by decide +kernel
theorem d_RM_init_63 : decode c_RM_init 63 = .ok (.aastore, 1) := by decide +kernel
theorem d_RM_init_64 : decode c_RM_init 64 = .ok (.iinc 1 1, 3) := by decide +kernel
theorem d_RM_init_67 : decode c_RM_init 67 = .ok (.goto (-25), 3) := by decide +kernel
theorem d_RM_init_70 : decode c_RM_init 70 = .ok (.return_, 1) := by decide +kernel
theorem d_RM_type_0 : decode c_RM_type 0 = .ok (.iload_n 1, 1) := by decide +kernel
theorem d_RM_type_1 : decode c_RM_type 1 = .ok (.invokestatic 33, 3) := by decide +kernel
theorem d_RM_type_4 : decode c_RM_type 4 = .ok (.ifCond .eq 30, 3) := by decide +kernel
theorem d_RM_type_7 : decode c_RM_type 7 = .ok (.iload_n 2, 1) := by decide +kernel
theorem d_RM_type_8 : decode c_RM_type 8 = .ok (.sipush 255, 3) := by decide +kernel
theorem d_RM_type_11 : decode c_RM_type 11 = .ok (.if_icmp .gt 23, 3) := by decide +kernel
theorem d_RM_type_14 : decode c_RM_type 14 = .ok (.aload_n 0, 1) := by decide +kernel
theorem d_RM_type_15 : decode c_RM_type 15 = .ok (.aload_n 0, 1) := by decide +kernel
theorem d_RM_type_16 : decode c_RM_type 16 = .ok (.getfield 37, 3) := by decide +kernel
theorem d_RM_type_19 : decode c_RM_type 19 = .ok (.iload_n 1, 1) := by decide +kernel
theorem d_RM_type_20 : decode c_RM_type 20 = .ok (.invokevirtual 41, 3) := by decide +kernel
theorem d_RM_type_23 : decode c_RM_type 23 = .ok (.iload_n 2, 1) := by decide +kernel
theorem d_RM_type_24 : decode c_RM_type 24 = .ok (.invokevirtual 45, 3) := by decide +kernel
theorem d_RM_type_27 : decode c_RM_type 27 = .ok (.ifCond .eq 7, 3) := by decide +kernel
theorem d_RM_type_30 : decode c_RM_type 30 = .ok (.iconst 1, 1) := by decide +kernel
theorem d_RM_type_31 : decode c_RM_type 31 = .ok (.goto 4, 3) := by decide +kernel
theorem d_RM_type_34 : decode c_RM_type 34 = .ok (.iconst 0, 1) := by decide +kernel
theorem d_RM_type_35 : decode c_RM_type 35 = .ok (.ireturn, 1) := by decide +kernel
theorem d_RM_add_0 : decode c_RM_add 0 = .ok (.aload_n 0, 1) := by decide +kernel
theorem d_RM_add_1 : decode c_RM_add 1 = .ok (.getfield 37, 3) := by decide +kernel
theorem d_RM_add_4 : decode c_RM_add 4 = .ok (.bipush 12, 2) := by decide +kernel
theorem d_RM_add_6 : decode c_RM_add 6 = .ok (.if_icmp .lt 6, 3) := by decide +kernel
theorem d_RM_add_9 : decode c_RM_add 9 = .ok (.bipush (-2), 2) := by decide +kernel
theorem d_RM_add_11 : decode c_RM_add 11 = .ok (.ireturn, 1) := by decide +kernel
theorem d_RM_add_12 : decode c_RM_add 12 = .ok (.aload_n 0, 1) := by decide +kernel
theorem d_RM_add_13 : decode c_RM_add 13 = .ok (.getfield 24, 3) := by decide +kernel
theorem d_RM_add_16 : decode c_RM_add 16 = .ok (.invokevirtual 51, 3) := by decide +kernel
theorem d_RM_add_19 : decode c_RM_add 19 = .ok (.aload_n 0, 1) := by decide +kernel
theorem d_RM_add_20 : decode c_RM_add 20 = .ok (.dup, 1) := by decide +kernel
theorem d_RM_add_21 : decode c_RM_add 21 = .ok (.getfield 37, 3) := by decide +kernel
theorem d_RM_add_24 : decode c_RM_add 24 = .ok (.iconst 1, 1) := by decide +kernel
theorem d_RM_add_25 : decode c_RM_add 25 = .ok (.iadd, 1) := by decide +kernel
theorem d_RM_add_26 : decode c_RM_add 26 = .ok (.putfield 37, 3) := by decide +kernel
theorem d_RM_add_29 : decode c_RM_add 29 = .ok (.aload_n 0, 1) := by decide +kernel
theorem d_RM_add_30 : decode c_RM_add 30 = .ok (.getfield 37, 3) := by decide +kernel
theorem d_RM_add_33 : decode c_RM_add 33 = .ok (.iconst 1, 1) := by decide +kernel
theorem d_RM_add_34 : decode c_RM_add 34 = .ok (.isub, 1) := by decide +kernel
theorem d_RM_add_35 : decode c_RM_add 35 = .ok (.ireturn, 1) := by decide +kernel
theorem d_RM_records_0 : decode c_RM_records 0 = .ok (.aload_n 0, 1) := by decide +kernel
theorem d_RM_records_1 : decode c_RM_records 1 = .ok (.getfield 37, 3) := by decide +kernel
theorem d_RM_records_4 : decode c_RM_records 4 = .ok (.ireturn, 1) := by decide +kernel
theorem d_RM_words_0 : decode c_RM_words 0 = .ok (.aload_n 0, 1) := by decide +kernel
theorem d_RM_words_1 : decode c_RM_words 1 = .ok (.iload_n 1, 1) := by decide +kernel
theorem d_RM_words_2 : decode c_RM_words 2 = .ok (.invokevirtual 54, 3) := by decide +kernel
theorem d_RM_words_5 : decode c_RM_words 5 = .ok (.ifCond .eq 10, 3) := by decide +kernel
theorem d_RM_words_8 : decode c_RM_words 8 = .ok (.iload_n 2, 1) := by decide +kernel
theorem d_RM_words_9 : decode c_RM_words 9 = .ok (.invokestatic 33, 3) := by decide +kernel
theorem d_RM_words_12 : decode c_RM_words 12 = .ok (.ifCond .ne 5, 3) := by decide +kernel
theorem d_RM_words_15 : decode c_RM_words 15 = .ok (.iconst (-1), 1) := by decide +kernel
theorem d_RM_words_16 : decode c_RM_words 16 = .ok (.ireturn, 1) := by decide +kernel
theorem d_RM_words_17 : decode c_RM_words 17 = .ok (.aload_n 0, 1) := by decide +kernel
theorem d_RM_words_18 : decode c_RM_words 18 = .ok (.iload_n 1, 1) := by decide +kernel
theorem d_RM_words_19 : decode c_RM_words 19 = .ok (.iload_n 2, 1) := by decide +kernel
theorem d_RM_words_20 : decode c_RM_words 20 = .ok (.invokevirtual 41, 3) := by decide +kernel
theorem d_RM_words_23 : decode c_RM_words 23 = .ok (.invokevirtual 57, 3) := by decide +kernel
theorem d_RM_words_26 : decode c_RM_words 26 = .ok (.ireturn, 1) := by decide +kernel
theorem d_RM_length_0 : decode c_RM_length 0 = .ok (.aload_n 0, 1) := by decide +kernel
theorem d_RM_length_1 : decode c_RM_length 1 = .ok (.iload_n 1, 1) := by decide +kernel
theorem d_RM_length_2 : decode c_RM_length 2 = .ok (.invokevirtual 54, 3) := by decide +kernel
theorem d_RM_length_5 : decode c_RM_length 5 = .ok (.ifCond .eq 10, 3) := by decide +kernel
theorem d_RM_length_8 : decode c_RM_length 8 = .ok (.iload_n 2, 1) := by decide +kernel
theorem d_RM_length_9 : decode c_RM_length 9 = .ok (.invokestatic 33, 3) := by decide +kernel
theorem d_RM_length_12 : decode c_RM_length 12 = .ok (.ifCond .ne 5, 3) := by decide +kernel
theorem d_RM_length_15 : decode c_RM_length 15 = .ok (.iconst (-1), 1) := by decide +kernel
theorem d_RM_length_16 : decode c_RM_length 16 = .ok (.ireturn, 1) := by decide +kernel
theorem d_RM_length_17 : decode c_RM_length 17 = .ok (.aload_n 0, 1) := by decide +kernel
theorem d_RM_length_18 : decode c_RM_length 18 = .ok (.iload_n 1, 1) := by decide +kernel
theorem d_RM_length_19 : decode c_RM_length 19 = .ok (.iload_n 2, 1) := by decide +kernel
theorem d_RM_length_20 : decode c_RM_length 20 = .ok (.invokevirtual 41, 3) := by decide +kernel
theorem d_RM_length_23 : decode c_RM_length 23 = .ok (.getfield 61, 3) := by decide +kernel
theorem d_RM_length_26 : decode c_RM_length 26 = .ok (.ireturn, 1) := by decide +kernel
theorem d_RM_unit_0 : decode c_RM_unit 0 = .ok (.aload_n 0, 1) := by decide +kernel
theorem d_RM_unit_1 : decode c_RM_unit 1 = .ok (.iload_n 1, 1) := by decide +kernel
theorem d_RM_unit_2 : decode c_RM_unit 2 = .ok (.invokevirtual 54, 3) := by decide +kernel
theorem d_RM_unit_5 : decode c_RM_unit 5 = .ok (.ifCond .eq 10, 3) := by decide +kernel
theorem d_RM_unit_8 : decode c_RM_unit 8 = .ok (.iload_n 2, 1) := by decide +kernel
theorem d_RM_unit_9 : decode c_RM_unit 9 = .ok (.invokestatic 33, 3) := by decide +kernel
theorem d_RM_unit_12 : decode c_RM_unit 12 = .ok (.ifCond .ne 5, 3) := by decide +kernel
theorem d_RM_unit_15 : decode c_RM_unit 15 = .ok (.iconst (-1), 1) := by decide +kernel
theorem d_RM_unit_16 : decode c_RM_unit 16 = .ok (.ireturn, 1) := by decide +kernel
theorem d_RM_unit_17 : decode c_RM_unit 17 = .ok (.aload_n 0, 1) := by decide +kernel
theorem d_RM_unit_18 : decode c_RM_unit 18 = .ok (.iload_n 1, 1) := by decide +kernel
theorem d_RM_unit_19 : decode c_RM_unit 19 = .ok (.iload_n 2, 1) := by decide +kernel
theorem d_RM_unit_20 : decode c_RM_unit 20 = .ok (.invokevirtual 41, 3) := by decide +kernel
theorem d_RM_unit_23 : decode c_RM_unit 23 = .ok (.astore 4, 2) := by decide +kernel
theorem d_RM_unit_25 : decode c_RM_unit 25 = .ok (.iload_n 3, 1) := by decide +kernel
theorem d_RM_unit_26 : decode c_RM_unit 26 = .ok (.ifCond .lt 22, 3) := by decide +kernel
theorem d_RM_unit_29 : decode c_RM_unit 29 = .ok (.iload_n 3, 1) := by decide +kernel
theorem d_RM_unit_30 : decode c_RM_unit 30 = .ok (.aload 4, 2) := by decide +kernel
theorem d_RM_unit_32 : decode c_RM_unit 32 = .ok (.getfield 61, 3) := by decide +kernel
theorem d_RM_unit_35 : decode c_RM_unit 35 = .ok (.if_icmp .ge 13, 3) := by decide +kernel
theorem d_RM_unit_38 : decode c_RM_unit 38 = .ok (.aload 4, 2) := by decide +kernel
theorem d_RM_unit_40 : decode c_RM_unit 40 = .ok (.getfield 64, 3) := by decide +kernel
theorem d_RM_unit_43 : decode c_RM_unit 43 = .ok (.iload_n 3, 1) := by decide +kernel
theorem d_RM_unit_44 : decode c_RM_unit 44 = .ok (.caload, 1) := by decide +kernel
theorem d_RM_unit_45 : decode c_RM_unit 45 = .ok (.goto 4, 3) := by decide +kernel
theorem d_RM_unit_48 : decode c_RM_unit 48 = .ok (.iconst (-1), 1) := by decide +kernel
theorem d_RM_unit_49 : decode c_RM_unit 49 = .ok (.ireturn, 1) := by decide +kernel
theorem d_RM_jaccard_0 : decode c_RM_jaccard 0 = .ok (.iload_n 1, 1) := by decide +kernel
theorem d_RM_jaccard_1 : decode c_RM_jaccard 1 = .ok (.invokestatic 33, 3) := by decide +kernel
theorem d_RM_jaccard_4 : decode c_RM_jaccard 4 = .ok (.ifCond .eq 28, 3) := by decide +kernel
theorem d_RM_jaccard_7 : decode c_RM_jaccard 7 = .ok (.iload_n 2, 1) := by decide +kernel
theorem d_RM_jaccard_8 : decode c_RM_jaccard 8 = .ok (.iconst 1, 1) := by decide +kernel
theorem d_RM_jaccard_9 : decode c_RM_jaccard 9 = .ok (.if_icmp .lt 23, 3) := by decide +kernel
theorem d_RM_jaccard_12 : decode c_RM_jaccard 12 = .ok (.iload_n 2, 1) := by decide +kernel
theorem d_RM_jaccard_13 : decode c_RM_jaccard 13 = .ok (.iload_n 3, 1) := by decide +kernel
theorem d_RM_jaccard_14 : decode c_RM_jaccard 14 = .ok (.if_icmp .gt 18, 3) := by decide +kernel
theorem d_RM_jaccard_17 : decode c_RM_jaccard 17 = .ok (.iload_n 3, 1) := by decide +kernel
theorem d_RM_jaccard_18 : decode c_RM_jaccard 18 = .ok (.bipush 100, 2) := by decide +kernel
theorem d_RM_jaccard_20 : decode c_RM_jaccard 20 = .ok (.if_icmp .gt 12, 3) := by decide +kernel
theorem d_RM_jaccard_23 : decode c_RM_jaccard 23 = .ok (.aload_n 0, 1) := by decide +kernel
theorem d_RM_jaccard_24 : decode c_RM_jaccard 24 = .ok (.getfield 68, 3) := by decide +kernel
theorem d_RM_jaccard_27 : decode c_RM_jaccard 27 = .ok (.bipush 6, 2) := by decide +kernel
theorem d_RM_jaccard_29 : decode c_RM_jaccard 29 = .ok (.if_icmp .lt 5, 3) := by decide +kernel
theorem d_RM_jaccard_32 : decode c_RM_jaccard 32 = .ok (.iconst 0, 1) := by decide +kernel
theorem d_RM_jaccard_33 : decode c_RM_jaccard 33 = .ok (.ireturn, 1) := by decide +kernel
theorem d_RM_jaccard_34 : decode c_RM_jaccard 34 = .ok (.aload_n 0, 1) := by decide +kernel
theorem d_RM_jaccard_35 : decode c_RM_jaccard 35 = .ok (.new 71, 3) := by decide +kernel
theorem d_RM_jaccard_38 : decode c_RM_jaccard 38 = .ok (.dup, 1) := by decide +kernel
theorem d_RM_jaccard_39 : decode c_RM_jaccard 39 = .ok (.iload_n 1, 1) := by decide +kernel
theorem d_RM_jaccard_40 : decode c_RM_jaccard 40 = .ok (.iload_n 2, 1) := by decide +kernel
theorem d_RM_jaccard_41 : decode c_RM_jaccard 41 = .ok (.iload_n 3, 1) := by decide +kernel
theorem d_RM_jaccard_42 : decode c_RM_jaccard 42 = .ok (.invokespecial 73, 3) := by decide +kernel
theorem d_RM_jaccard_45 : decode c_RM_jaccard 45 = .ok (.invokevirtual 76, 3) := by decide +kernel
theorem d_RM_jaccard_48 : decode c_RM_jaccard 48 = .ok (.iconst 1, 1) := by decide +kernel
theorem d_RM_jaccard_49 : decode c_RM_jaccard 49 = .ok (.ireturn, 1) := by decide +kernel
theorem d_RM_edit_0 : decode c_RM_edit 0 = .ok (.iload_n 1, 1) := by decide +kernel
theorem d_RM_edit_1 : decode c_RM_edit 1 = .ok (.invokestatic 33, 3) := by decide +kernel
theorem d_RM_edit_4 : decode c_RM_edit 4 = .ok (.ifCond .eq 22, 3) := by decide +kernel
theorem d_RM_edit_7 : decode c_RM_edit 7 = .ok (.iload_n 2, 1) := by decide +kernel
theorem d_RM_edit_8 : decode c_RM_edit 8 = .ok (.ifCond .lt 18, 3) := by decide +kernel
theorem d_RM_edit_11 : decode c_RM_edit 11 = .ok (.iload_n 2, 1) := by decide +kernel
theorem d_RM_edit_12 : decode c_RM_edit 12 = .ok (.bipush 8, 2) := by decide +kernel
theorem d_RM_edit_14 : decode c_RM_edit 14 = .ok (.if_icmp .gt 12, 3) := by decide +kernel
theorem d_RM_edit_17 : decode c_RM_edit 17 = .ok (.aload_n 0, 1) := by decide +kernel
theorem d_RM_edit_18 : decode c_RM_edit 18 = .ok (.getfield 68, 3) := by decide +kernel
theorem d_RM_edit_21 : decode c_RM_edit 21 = .ok (.bipush 6, 2) := by decide +kernel
theorem d_RM_edit_23 : decode c_RM_edit 23 = .ok (.if_icmp .lt 5, 3) := by decide +kernel
theorem d_RM_edit_26 : decode c_RM_edit 26 = .ok (.iconst 0, 1) := by decide +kernel
theorem d_RM_edit_27 : decode c_RM_edit 27 = .ok (.ireturn, 1) := by decide +kernel
theorem d_RM_edit_28 : decode c_RM_edit 28 = .ok (.aload_n 0, 1) := by decide +kernel
theorem d_RM_edit_29 : decode c_RM_edit 29 = .ok (.new 80, 3) := by decide +kernel
theorem d_RM_edit_32 : decode c_RM_edit 32 = .ok (.dup, 1) := by decide +kernel
theorem d_RM_edit_33 : decode c_RM_edit 33 = .ok (.iload_n 1, 1) := by decide +kernel
theorem d_RM_edit_34 : decode c_RM_edit 34 = .ok (.iload_n 2, 1) := by decide +kernel
theorem d_RM_edit_35 : decode c_RM_edit 35 = .ok (.invokespecial 82, 3) := by decide +kernel
theorem d_RM_edit_38 : decode c_RM_edit 38 = .ok (.invokevirtual 76, 3) := by decide +kernel
theorem d_RM_edit_41 : decode c_RM_edit 41 = .ok (.iconst 1, 1) := by decide +kernel
theorem d_RM_edit_42 : decode c_RM_edit 42 = .ok (.ireturn, 1) := by decide +kernel
theorem d_RM_join_0 : decode c_RM_join 0 = .ok (.aload_n 0, 1) := by decide +kernel
theorem d_RM_join_1 : decode c_RM_join 1 = .ok (.iconst 1, 1) := by decide +kernel
theorem d_RM_join_2 : decode c_RM_join 2 = .ok (.invokevirtual 85, 3) := by decide +kernel
theorem d_RM_join_5 : decode c_RM_join 5 = .ok (.astore_n 2, 1) := by decide +kernel
theorem d_RM_join_6 : decode c_RM_join 6 = .ok (.aload_n 0, 1) := by decide +kernel
theorem d_RM_join_7 : decode c_RM_join 7 = .ok (.iconst 0, 1) := by decide +kernel
theorem d_RM_join_8 : decode c_RM_join 8 = .ok (.invokevirtual 85, 3) := by decide +kernel
theorem d_RM_join_11 : decode c_RM_join 11 = .ok (.astore_n 3, 1) := by decide +kernel
theorem d_RM_join_12 : decode c_RM_join 12 = .ok (.aload_n 2, 1) := by decide +kernel
theorem d_RM_join_13 : decode c_RM_join 13 = .ok (.ifnull 21, 3) := by decide +kernel
theorem d_RM_join_16 : decode c_RM_join 16 = .ok (.aload_n 3, 1) := by decide +kernel
theorem d_RM_join_17 : decode c_RM_join 17 = .ok (.ifnull 17, 3) := by decide +kernel
theorem d_RM_join_20 : decode c_RM_join 20 = .ok (.aload_n 2, 1) := by decide +kernel
theorem d_RM_join_21 : decode c_RM_join 21 = .ok (.getfield 89, 3) := by decide +kernel
theorem d_RM_join_24 : decode c_RM_join 24 = .ok (.aload_n 3, 1) := by decide +kernel
theorem d_RM_join_25 : decode c_RM_join 25 = .ok (.getfield 89, 3) := by decide +kernel
theorem d_RM_join_28 : decode c_RM_join 28 = .ok (.iadd, 1) := by decide +kernel
theorem d_RM_join_29 : decode c_RM_join 29 = .ok (.bipush 12, 2) := by decide +kernel
theorem d_RM_join_31 : decode c_RM_join 31 = .ok (.if_icmp .le 5, 3) := by decide +kernel
theorem d_RM_join_34 : decode c_RM_join 34 = .ok (.iconst 0, 1) := by decide +kernel
theorem d_RM_join_35 : decode c_RM_join 35 = .ok (.ireturn, 1) := by decide +kernel
theorem d_RM_join_36 : decode c_RM_join 36 = .ok (.aload_n 0, 1) := by decide +kernel
theorem d_RM_join_37 : decode c_RM_join 37 = .ok (.dup, 1) := by decide +kernel
theorem d_RM_join_38 : decode c_RM_join 38 = .ok (.getfield 68, 3) := by decide +kernel
theorem d_RM_join_41 : decode c_RM_join 41 = .ok (.iconst 2, 1) := by decide +kernel
theorem d_RM_join_42 : decode c_RM_join 42 = .ok (.isub, 1) := by decide +kernel
theorem d_RM_join_43 : decode c_RM_join 43 = .ok (.putfield 68, 3) := by decide +kernel
theorem d_RM_join_46 : decode c_RM_join 46 = .ok (.aload_n 0, 1) := by decide +kernel
theorem d_RM_join_47 : decode c_RM_join 47 = .ok (.new 92, 3) := by decide +kernel
theorem d_RM_join_50 : decode c_RM_join 50 = .ok (.dup, 1) := by decide +kernel
theorem d_RM_join_51 : decode c_RM_join 51 = .ok (.iload_n 1, 1) := by decide +kernel
theorem d_RM_join_52 : decode c_RM_join 52 = .ok (.aload_n 2, 1) := by decide +kernel
theorem d_RM_join_53 : decode c_RM_join 53 = .ok (.aload_n 3, 1) := by decide +kernel
theorem d_RM_join_54 : decode c_RM_join 54 = .ok (.invokespecial 94, 3) := by decide +kernel
theorem d_RM_join_57 : decode c_RM_join 57 = .ok (.invokevirtual 76, 3) := by decide +kernel
theorem d_RM_join_60 : decode c_RM_join 60 = .ok (.iconst 1, 1) := by decide +kernel
theorem d_RM_join_61 : decode c_RM_join 61 = .ok (.ireturn, 1) := by decide +kernel
theorem d_RM_accept_0 : decode c_RM_accept 0 = .ok (.aload_n 0, 1) := by decide +kernel
theorem d_RM_accept_1 : decode c_RM_accept 1 = .ok (.iconst 0, 1) := by decide +kernel
theorem d_RM_accept_2 : decode c_RM_accept 2 = .ok (.invokevirtual 85, 3) := by decide +kernel
theorem d_RM_accept_5 : decode c_RM_accept 5 = .ok (.astore_n 1, 1) := by decide +kernel
theorem d_RM_accept_6 : decode c_RM_accept 6 = .ok (.aload_n 1, 1) := by decide +kernel
theorem d_RM_accept_7 : decode c_RM_accept 7 = .ok (.ifnull 11, 3) := by decide +kernel
theorem d_RM_accept_10 : decode c_RM_accept 10 = .ok (.aload_n 0, 1) := by decide +kernel
theorem d_RM_accept_11 : decode c_RM_accept 11 = .ok (.getfield 68, 3) := by decide +kernel
theorem d_RM_accept_14 : decode c_RM_accept 14 = .ok (.iconst 1, 1) := by decide +kernel
theorem d_RM_accept_15 : decode c_RM_accept 15 = .ok (.if_icmp .le 5, 3) := by decide +kernel
theorem d_RM_accept_18 : decode c_RM_accept 18 = .ok (.iconst (-1), 1) := by decide +kernel
theorem d_RM_accept_19 : decode c_RM_accept 19 = .ok (.ireturn, 1) := by decide +kernel
theorem d_RM_accept_20 : decode c_RM_accept 20 = .ok (.aload_n 1, 1) := by decide +kernel
theorem d_RM_accept_21 : decode c_RM_accept 21 = .ok (.getfield 97, 3) := by decide +kernel
theorem d_RM_accept_24 : decode c_RM_accept 24 = .ok (.ifCond .ne 6, 3) := by decide +kernel
theorem d_RM_accept_27 : decode c_RM_accept 27 = .ok (.bipush (-3), 2) := by decide +kernel
theorem d_RM_accept_29 : decode c_RM_accept 29 = .ok (.ireturn, 1) := by decide +kernel
theorem d_RM_accept_30 : decode c_RM_accept 30 = .ok (.aload_n 0, 1) := by decide +kernel
theorem d_RM_accept_31 : decode c_RM_accept 31 = .ok (.aload_n 1, 1) := by decide +kernel
theorem d_RM_accept_32 : decode c_RM_accept 32 = .ok (.putfield 101, 3) := by decide +kernel
theorem d_RM_accept_35 : decode c_RM_accept 35 = .ok (.aload_n 0, 1) := by decide +kernel
theorem d_RM_accept_36 : decode c_RM_accept 36 = .ok (.iconst 0, 1) := by decide +kernel
theorem d_RM_accept_37 : decode c_RM_accept 37 = .ok (.putfield 68, 3) := by decide +kernel
theorem d_RM_accept_40 : decode c_RM_accept 40 = .ok (.aload_n 0, 1) := by decide +kernel
theorem d_RM_accept_41 : decode c_RM_accept 41 = .ok (.getfield 24, 3) := by decide +kernel
theorem d_RM_accept_44 : decode c_RM_accept 44 = .ok (.invokevirtual 51, 3) := by decide +kernel
theorem d_RM_accept_47 : decode c_RM_accept 47 = .ok (.aload_n 1, 1) := by decide +kernel
theorem d_RM_accept_48 : decode c_RM_accept 48 = .ok (.getfield 89, 3) := by decide +kernel
theorem d_RM_accept_51 : decode c_RM_accept 51 = .ok (.ireturn, 1) := by decide +kernel
theorem d_RM_discard_0 : decode c_RM_discard 0 = .ok (.aload_n 0, 1) := by decide +kernel
theorem d_RM_discard_1 : decode c_RM_discard 1 = .ok (.getfield 68, 3) := by decide +kernel
theorem d_RM_discard_4 : decode c_RM_discard 4 = .ok (.ifCond .ne 5, 3) := by decide +kernel
theorem d_RM_discard_7 : decode c_RM_discard 7 = .ok (.iconst 0, 1) := by decide +kernel
theorem d_RM_discard_8 : decode c_RM_discard 8 = .ok (.ireturn, 1) := by decide +kernel
theorem d_RM_discard_9 : decode c_RM_discard 9 = .ok (.aload_n 0, 1) := by decide +kernel
theorem d_RM_discard_10 : decode c_RM_discard 10 = .ok (.dup, 1) := by decide +kernel
theorem d_RM_discard_11 : decode c_RM_discard 11 = .ok (.getfield 68, 3) := by decide +kernel
theorem d_RM_discard_14 : decode c_RM_discard 14 = .ok (.iconst 1, 1) := by decide +kernel
theorem d_RM_discard_15 : decode c_RM_discard 15 = .ok (.isub, 1) := by decide +kernel
theorem d_RM_discard_16 : decode c_RM_discard 16 = .ok (.putfield 68, 3) := by decide +kernel
theorem d_RM_discard_19 : decode c_RM_discard 19 = .ok (.iconst 1, 1) := by decide +kernel
theorem d_RM_discard_20 : decode c_RM_discard 20 = .ok (.ireturn, 1) := by decide +kernel
theorem d_RM_similar_0 : decode c_RM_similar 0 = .ok (.aload_n 0, 1) := by decide +kernel
theorem d_RM_similar_1 : decode c_RM_similar 1 = .ok (.getfield 101, 3) := by decide +kernel
theorem d_RM_similar_4 : decode c_RM_similar 4 = .ok (.ifnonnull 6, 3) := by decide +kernel
theorem d_RM_similar_7 : decode c_RM_similar 7 = .ok (.bipush (-4), 2) := by decide +kernel
theorem d_RM_similar_9 : decode c_RM_similar 9 = .ok (.ireturn, 1) := by decide +kernel
theorem d_RM_similar_10 : decode c_RM_similar 10 = .ok (.aload_n 0, 1) := by decide +kernel
theorem d_RM_similar_11 : decode c_RM_similar 11 = .ok (.iload_n 1, 1) := by decide +kernel
theorem d_RM_similar_12 : decode c_RM_similar 12 = .ok (.iload_n 2, 1) := by decide +kernel
theorem d_RM_similar_13 : decode c_RM_similar 13 = .ok (.invokevirtual 105, 3) := by decide +kernel
theorem d_RM_similar_16 : decode c_RM_similar 16 = .ok (.ifCond .ne 5, 3) := by decide +kernel
theorem d_RM_similar_19 : decode c_RM_similar 19 = .ok (.iconst (-1), 1) := by decide +kernel
theorem d_RM_similar_20 : decode c_RM_similar 20 = .ok (.ireturn, 1) := by decide +kernel
theorem d_RM_similar_21 : decode c_RM_similar 21 = .ok (.aload_n 0, 1) := by decide +kernel
theorem d_RM_similar_22 : decode c_RM_similar 22 = .ok (.getfield 101, 3) := by decide +kernel
theorem d_RM_similar_25 : decode c_RM_similar 25 = .ok (.aload_n 0, 1) := by decide +kernel
theorem d_RM_similar_26 : decode c_RM_similar 26 = .ok (.getfield 11, 3) := by decide +kernel
theorem d_RM_similar_29 : decode c_RM_similar 29 = .ok (.iload_n 1, 1) := by decide +kernel
theorem d_RM_similar_30 : decode c_RM_similar 30 = .ok (.aaload, 1) := by decide +kernel
theorem d_RM_similar_31 : decode c_RM_similar 31 = .ok (.aload_n 0, 1) := by decide +kernel
theorem d_RM_similar_32 : decode c_RM_similar 32 = .ok (.getfield 11, 3) := by decide +kernel
theorem d_RM_similar_35 : decode c_RM_similar 35 = .ok (.iload_n 2, 1) := by decide +kernel
theorem d_RM_similar_36 : decode c_RM_similar 36 = .ok (.aaload, 1) := by decide +kernel
theorem d_RM_similar_37 : decode c_RM_similar 37 = .ok (.invokevirtual 109, 3) := by decide +kernel
theorem d_RM_similar_40 : decode c_RM_similar 40 = .ok (.ifCond .eq 7, 3) := by decide +kernel
theorem d_RM_similar_43 : decode c_RM_similar 43 = .ok (.iconst 1, 1) := by decide +kernel
theorem d_RM_similar_44 : decode c_RM_similar 44 = .ok (.goto 4, 3) := by decide +kernel
theorem d_RM_similar_47 : decode c_RM_similar 47 = .ok (.iconst 0, 1) := by decide +kernel
theorem d_RM_similar_48 : decode c_RM_similar 48 = .ok (.ireturn, 1) := by decide +kernel
theorem d_RM_start_0 : decode c_RM_start 0 = .ok (.aload_n 0, 1) := by decide +kernel
theorem d_RM_start_1 : decode c_RM_start 1 = .ok (.getfield 101, 3) := by decide +kernel
theorem d_RM_start_4 : decode c_RM_start 4 = .ok (.ifnonnull 6, 3) := by decide +kernel
theorem d_RM_start_7 : decode c_RM_start 7 = .ok (.bipush (-4), 2) := by decide +kernel
theorem d_RM_start_9 : decode c_RM_start 9 = .ok (.ireturn, 1) := by decide +kernel
theorem d_RM_start_10 : decode c_RM_start 10 = .ok (.iload_n 1, 1) := by decide +kernel
theorem d_RM_start_11 : decode c_RM_start 11 = .ok (.iconst 1, 1) := by decide +kernel
theorem d_RM_start_12 : decode c_RM_start 12 = .ok (.if_icmp .lt 8, 3) := by decide +kernel
theorem d_RM_start_15 : decode c_RM_start 15 = .ok (.iload_n 1, 1) := by decide +kernel
theorem d_RM_start_16 : decode c_RM_start 16 = .ok (.iconst 4, 1) := by decide +kernel
theorem d_RM_start_17 : decode c_RM_start 17 = .ok (.if_icmp .le 5, 3) := by decide +kernel
theorem d_RM_start_20 : decode c_RM_start 20 = .ok (.iconst (-1), 1) := by decide +kernel
theorem d_RM_start_21 : decode c_RM_start 21 = .ok (.ireturn, 1) := by decide +kernel
theorem d_RM_start_22 : decode c_RM_start 22 = .ok (.aload_n 0, 1) := by decide +kernel
theorem d_RM_start_23 : decode c_RM_start 23 = .ok (.getfield 24, 3) := by decide +kernel
theorem d_RM_start_26 : decode c_RM_start 26 = .ok (.iload_n 1, 1) := by decide +kernel
theorem d_RM_start_27 : decode c_RM_start 27 = .ok (.aload_n 0, 1) := by decide +kernel
theorem d_RM_start_28 : decode c_RM_start 28 = .ok (.getfield 37, 3) := by decide +kernel
theorem d_RM_start_31 : decode c_RM_start 31 = .ok (.invokevirtual 113, 3) := by decide +kernel
theorem d_RM_start_34 : decode c_RM_start 34 = .ok (.aload_n 0, 1) := by decide +kernel
theorem d_RM_start_35 : decode c_RM_start 35 = .ok (.getfield 37, 3) := by decide +kernel
theorem d_RM_start_38 : decode c_RM_start 38 = .ok (.ireturn, 1) := by decide +kernel
theorem d_RM_work_0 : decode c_RM_work 0 = .ok (.aload_n 0, 1) := by decide +kernel
theorem d_RM_work_1 : decode c_RM_work 1 = .ok (.getfield 101, 3) := by decide +kernel
theorem d_RM_work_4 : decode c_RM_work 4 = .ok (.ifnull 13, 3) := by decide +kernel
theorem d_RM_work_7 : decode c_RM_work 7 = .ok (.aload_n 0, 1) := by decide +kernel
theorem d_RM_work_8 : decode c_RM_work 8 = .ok (.getfield 24, 3) := by decide +kernel
theorem d_RM_work_11 : decode c_RM_work 11 = .ok (.invokevirtual 116, 3) := by decide +kernel
theorem d_RM_work_14 : decode c_RM_work 14 = .ok (.ifCond .ne 6, 3) := by decide +kernel
theorem d_RM_work_17 : decode c_RM_work 17 = .ok (.bipush (-4), 2) := by decide +kernel
theorem d_RM_work_19 : decode c_RM_work 19 = .ok (.ireturn, 1) := by decide +kernel
theorem d_RM_work_20 : decode c_RM_work 20 = .ok (.aload_n 0, 1) := by decide +kernel
theorem d_RM_work_21 : decode c_RM_work 21 = .ok (.getfield 24, 3) := by decide +kernel
theorem d_RM_work_24 : decode c_RM_work 24 = .ok (.iload_n 1, 1) := by decide +kernel
theorem d_RM_work_25 : decode c_RM_work 25 = .ok (.invokevirtual 120, 3) := by decide +kernel
theorem d_RM_work_28 : decode c_RM_work 28 = .ok (.ifCond .ne 5, 3) := by decide +kernel
theorem d_RM_work_31 : decode c_RM_work 31 = .ok (.iconst (-1), 1) := by decide +kernel
theorem d_RM_work_32 : decode c_RM_work 32 = .ok (.ireturn, 1) := by decide +kernel
theorem d_RM_work_33 : decode c_RM_work 33 = .ok (.aload_n 0, 1) := by decide +kernel
theorem d_RM_work_34 : decode c_RM_work 34 = .ok (.getfield 24, 3) := by decide +kernel
theorem d_RM_work_37 : decode c_RM_work 37 = .ok (.iload_n 1, 1) := by decide +kernel
theorem d_RM_work_38 : decode c_RM_work 38 = .ok (.invokevirtual 123, 3) := by decide +kernel
theorem d_RM_work_41 : decode c_RM_work 41 = .ok (.istore_n 2, 1) := by decide +kernel
theorem d_RM_work_42 : decode c_RM_work 42 = .ok (.iload_n 2, 1) := by decide +kernel
theorem d_RM_work_43 : decode c_RM_work 43 = .ok (.aload_n 0, 1) := by decide +kernel
theorem d_RM_work_44 : decode c_RM_work 44 = .ok (.getfield 24, 3) := by decide +kernel
theorem d_RM_work_47 : decode c_RM_work 47 = .ok (.getfield 127, 3) := by decide +kernel
theorem d_RM_work_50 : decode c_RM_work 50 = .ok (.if_icmp .lt 6, 3) := by decide +kernel
theorem d_RM_work_53 : decode c_RM_work 53 = .ok (.bipush (-5), 2) := by decide +kernel
theorem d_RM_work_55 : decode c_RM_work 55 = .ok (.ireturn, 1) := by decide +kernel
theorem d_RM_work_56 : decode c_RM_work 56 = .ok (.iconst 0, 1) := by decide +kernel
theorem d_RM_work_57 : decode c_RM_work 57 = .ok (.istore_n 3, 1) := by decide +kernel
theorem d_RM_work_58 : decode c_RM_work 58 = .ok (.iconst 0, 1) := by decide +kernel
theorem d_RM_work_59 : decode c_RM_work 59 = .ok (.istore 4, 2) := by decide +kernel
theorem d_RM_work_61 : decode c_RM_work 61 = .ok (.iload 4, 2) := by decide +kernel
theorem d_RM_work_63 : decode c_RM_work 63 = .ok (.iload_n 2, 1) := by decide +kernel
theorem d_RM_work_64 : decode c_RM_work 64 = .ok (.if_icmp .ge 45, 3) := by decide +kernel
theorem d_RM_work_67 : decode c_RM_work 67 = .ok (.aload_n 0, 1) := by decide +kernel
theorem d_RM_work_68 : decode c_RM_work 68 = .ok (.getfield 101, 3) := by decide +kernel
theorem d_RM_work_71 : decode c_RM_work 71 = .ok (.aload_n 0, 1) := by decide +kernel
theorem d_RM_work_72 : decode c_RM_work 72 = .ok (.getfield 11, 3) := by decide +kernel
theorem d_RM_work_75 : decode c_RM_work 75 = .ok (.iload 4, 2) := by decide +kernel
theorem d_RM_work_77 : decode c_RM_work 77 = .ok (.aaload, 1) := by decide +kernel
theorem d_RM_work_78 : decode c_RM_work 78 = .ok (.aload_n 0, 1) := by decide +kernel
theorem d_RM_work_79 : decode c_RM_work 79 = .ok (.getfield 11, 3) := by decide +kernel
theorem d_RM_work_82 : decode c_RM_work 82 = .ok (.iload_n 2, 1) := by decide +kernel
theorem d_RM_work_83 : decode c_RM_work 83 = .ok (.aaload, 1) := by decide +kernel
theorem d_RM_work_84 : decode c_RM_work 84 = .ok (.invokevirtual 109, 3) := by decide +kernel
theorem d_RM_work_87 : decode c_RM_work 87 = .ok (.ifCond .eq 16, 3) := by decide +kernel
theorem d_RM_work_90 : decode c_RM_work 90 = .ok (.aload_n 0, 1) := by decide +kernel
theorem d_RM_work_91 : decode c_RM_work 91 = .ok (.getfield 24, 3) := by decide +kernel
theorem d_RM_work_94 : decode c_RM_work 94 = .ok (.iload 4, 2) := by decide +kernel
theorem d_RM_work_96 : decode c_RM_work 96 = .ok (.iload_n 2, 1) := by decide +kernel
theorem d_RM_work_97 : decode c_RM_work 97 = .ok (.invokevirtual 130, 3) := by decide +kernel
theorem d_RM_work_100 : decode c_RM_work 100 = .ok (.iinc 3 1, 3) := by decide +kernel
theorem d_RM_work_103 : decode c_RM_work 103 = .ok (.iinc 4 1, 3) := by decide +kernel
theorem d_RM_work_106 : decode c_RM_work 106 = .ok (.goto (-45), 3) := by decide +kernel
theorem d_RM_work_109 : decode c_RM_work 109 = .ok (.aload_n 0, 1) := by decide +kernel
theorem d_RM_work_110 : decode c_RM_work 110 = .ok (.getfield 24, 3) := by decide +kernel
theorem d_RM_work_113 : decode c_RM_work 113 = .ok (.iload_n 1, 1) := by decide +kernel
theorem d_RM_work_114 : decode c_RM_work 114 = .ok (.invokevirtual 133, 3) := by decide +kernel
theorem d_RM_work_117 : decode c_RM_work 117 = .ok (.iload_n 3, 1) := by decide +kernel
theorem d_RM_work_118 : decode c_RM_work 118 = .ok (.ireturn, 1) := by decide +kernel
theorem d_RM_crash_0 : decode c_RM_crash 0 = .ok (.aload_n 0, 1) := by decide +kernel
theorem d_RM_crash_1 : decode c_RM_crash 1 = .ok (.getfield 24, 3) := by decide +kernel
theorem d_RM_crash_4 : decode c_RM_crash 4 = .ok (.invokevirtual 116, 3) := by decide +kernel
theorem d_RM_crash_7 : decode c_RM_crash 7 = .ok (.ifCond .ne 6, 3) := by decide +kernel
theorem d_RM_crash_10 : decode c_RM_crash 10 = .ok (.bipush (-4), 2) := by decide +kernel
theorem d_RM_crash_12 : decode c_RM_crash 12 = .ok (.ireturn, 1) := by decide +kernel
theorem d_RM_crash_13 : decode c_RM_crash 13 = .ok (.aload_n 0, 1) := by decide +kernel
theorem d_RM_crash_14 : decode c_RM_crash 14 = .ok (.getfield 24, 3) := by decide +kernel
theorem d_RM_crash_17 : decode c_RM_crash 17 = .ok (.iload_n 1, 1) := by decide +kernel
theorem d_RM_crash_18 : decode c_RM_crash 18 = .ok (.invokevirtual 120, 3) := by decide +kernel
theorem d_RM_crash_21 : decode c_RM_crash 21 = .ok (.ifCond .ne 5, 3) := by decide +kernel
theorem d_RM_crash_24 : decode c_RM_crash 24 = .ok (.iconst (-1), 1) := by decide +kernel
theorem d_RM_crash_25 : decode c_RM_crash 25 = .ok (.ireturn, 1) := by decide +kernel
theorem d_RM_crash_26 : decode c_RM_crash 26 = .ok (.aload_n 0, 1) := by decide +kernel
theorem d_RM_crash_27 : decode c_RM_crash 27 = .ok (.getfield 24, 3) := by decide +kernel
theorem d_RM_crash_30 : decode c_RM_crash 30 = .ok (.invokevirtual 137, 3) := by decide +kernel
theorem d_RM_crash_33 : decode c_RM_crash 33 = .ok (.ifCond .eq 6, 3) := by decide +kernel
theorem d_RM_crash_36 : decode c_RM_crash 36 = .ok (.bipush (-5), 2) := by decide +kernel
theorem d_RM_crash_38 : decode c_RM_crash 38 = .ok (.ireturn, 1) := by decide +kernel
theorem d_RM_crash_39 : decode c_RM_crash 39 = .ok (.aload_n 0, 1) := by decide +kernel
theorem d_RM_crash_40 : decode c_RM_crash 40 = .ok (.getfield 24, 3) := by decide +kernel
theorem d_RM_crash_43 : decode c_RM_crash 43 = .ok (.iload_n 1, 1) := by decide +kernel
theorem d_RM_crash_44 : decode c_RM_crash 44 = .ok (.invokevirtual 140, 3) := by decide +kernel
theorem d_RM_crash_47 : decode c_RM_crash 47 = .ok (.ireturn, 1) := by decide +kernel
theorem d_RM_pairs_0 : decode c_RM_pairs 0 = .ok (.aload_n 0, 1) := by decide +kernel
theorem d_RM_pairs_1 : decode c_RM_pairs 1 = .ok (.getfield 24, 3) := by decide +kernel
theorem d_RM_pairs_4 : decode c_RM_pairs 4 = .ok (.invokevirtual 116, 3) := by decide +kernel
theorem d_RM_pairs_7 : decode c_RM_pairs 7 = .ok (.ifCond .eq 13, 3) := by decide +kernel
theorem d_RM_pairs_10 : decode c_RM_pairs 10 = .ok (.aload_n 0, 1) := by decide +kernel
theorem d_RM_pairs_11 : decode c_RM_pairs 11 = .ok (.getfield 24, 3) := by decide +kernel
theorem d_RM_pairs_14 : decode c_RM_pairs 14 = .ok (.invokevirtual 143, 3) := by decide +kernel
theorem d_RM_pairs_17 : decode c_RM_pairs 17 = .ok (.goto 5, 3) := by decide +kernel
theorem d_RM_pairs_20 : decode c_RM_pairs 20 = .ok (.bipush (-4), 2) := by decide +kernel
theorem d_RM_pairs_22 : decode c_RM_pairs 22 = .ok (.ireturn, 1) := by decide +kernel
theorem d_RM_found_0 : decode c_RM_found 0 = .ok (.aload_n 0, 1) := by decide +kernel
theorem d_RM_found_1 : decode c_RM_found 1 = .ok (.getfield 24, 3) := by decide +kernel
theorem d_RM_found_4 : decode c_RM_found 4 = .ok (.invokevirtual 116, 3) := by decide +kernel
theorem d_RM_found_7 : decode c_RM_found 7 = .ok (.ifCond .ne 6, 3) := by decide +kernel
theorem d_RM_found_10 : decode c_RM_found 10 = .ok (.bipush (-4), 2) := by decide +kernel
theorem d_RM_found_12 : decode c_RM_found 12 = .ok (.ireturn, 1) := by decide +kernel
theorem d_RM_found_13 : decode c_RM_found 13 = .ok (.aload_n 0, 1) := by decide +kernel
theorem d_RM_found_14 : decode c_RM_found 14 = .ok (.iload_n 1, 1) := by decide +kernel
theorem d_RM_found_15 : decode c_RM_found 15 = .ok (.iload_n 2, 1) := by decide +kernel
theorem d_RM_found_16 : decode c_RM_found 16 = .ok (.invokevirtual 105, 3) := by decide +kernel
theorem d_RM_found_19 : decode c_RM_found 19 = .ok (.ifCond .ne 5, 3) := by decide +kernel
theorem d_RM_found_22 : decode c_RM_found 22 = .ok (.iconst (-1), 1) := by decide +kernel
theorem d_RM_found_23 : decode c_RM_found 23 = .ok (.ireturn, 1) := by decide +kernel
theorem d_RM_found_24 : decode c_RM_found 24 = .ok (.aload_n 0, 1) := by decide +kernel
theorem d_RM_found_25 : decode c_RM_found 25 = .ok (.getfield 24, 3) := by decide +kernel
theorem d_RM_found_28 : decode c_RM_found 28 = .ok (.iload_n 1, 1) := by decide +kernel
theorem d_RM_found_29 : decode c_RM_found 29 = .ok (.iload_n 2, 1) := by decide +kernel
theorem d_RM_found_30 : decode c_RM_found 30 = .ok (.invokestatic 146, 3) := by decide +kernel
theorem d_RM_found_33 : decode c_RM_found 33 = .ok (.iload_n 1, 1) := by decide +kernel
theorem d_RM_found_34 : decode c_RM_found 34 = .ok (.iload_n 2, 1) := by decide +kernel
theorem d_RM_found_35 : decode c_RM_found 35 = .ok (.invokestatic 152, 3) := by decide +kernel
theorem d_RM_found_38 : decode c_RM_found 38 = .ok (.invokevirtual 155, 3) := by decide +kernel
theorem d_RM_found_41 : decode c_RM_found 41 = .ok (.ifCond .eq 7, 3) := by decide +kernel
theorem d_RM_found_44 : decode c_RM_found 44 = .ok (.iconst 1, 1) := by decide +kernel
theorem d_RM_found_45 : decode c_RM_found 45 = .ok (.goto 4, 3) := by decide +kernel
theorem d_RM_found_48 : decode c_RM_found 48 = .ok (.iconst 0, 1) := by decide +kernel
theorem d_RM_found_49 : decode c_RM_found 49 = .ok (.ireturn, 1) := by decide +kernel
theorem d_RM_cluster_0 : decode c_RM_cluster 0 = .ok (.aload_n 0, 1) := by decide +kernel
theorem d_RM_cluster_1 : decode c_RM_cluster 1 = .ok (.getfield 24, 3) := by decide +kernel
theorem d_RM_cluster_4 : decode c_RM_cluster 4 = .ok (.invokevirtual 116, 3) := by decide +kernel
theorem d_RM_cluster_7 : decode c_RM_cluster 7 = .ok (.ifCond .ne 6, 3) := by decide +kernel
theorem d_RM_cluster_10 : decode c_RM_cluster 10 = .ok (.bipush (-4), 2) := by decide +kernel
theorem d_RM_cluster_12 : decode c_RM_cluster 12 = .ok (.ireturn, 1) := by decide +kernel
theorem d_RM_cluster_13 : decode c_RM_cluster 13 = .ok (.aload_n 0, 1) := by decide +kernel
theorem d_RM_cluster_14 : decode c_RM_cluster 14 = .ok (.iload_n 1, 1) := by decide +kernel
theorem d_RM_cluster_15 : decode c_RM_cluster 15 = .ok (.invokevirtual 54, 3) := by decide +kernel
theorem d_RM_cluster_18 : decode c_RM_cluster 18 = .ok (.ifCond .ne 5, 3) := by decide +kernel
theorem d_RM_cluster_21 : decode c_RM_cluster 21 = .ok (.iconst (-1), 1) := by decide +kernel
theorem d_RM_cluster_22 : decode c_RM_cluster 22 = .ok (.ireturn, 1) := by decide +kernel
theorem d_RM_cluster_23 : decode c_RM_cluster 23 = .ok (.aload_n 0, 1) := by decide +kernel
theorem d_RM_cluster_24 : decode c_RM_cluster 24 = .ok (.getfield 24, 3) := by decide +kernel
theorem d_RM_cluster_27 : decode c_RM_cluster 27 = .ok (.invokevirtual 137, 3) := by decide +kernel
theorem d_RM_cluster_30 : decode c_RM_cluster 30 = .ok (.ifCond .ne 6, 3) := by decide +kernel
theorem d_RM_cluster_33 : decode c_RM_cluster 33 = .ok (.bipush (-6), 2) := by decide +kernel
theorem d_RM_cluster_35 : decode c_RM_cluster 35 = .ok (.ireturn, 1) := by decide +kernel
theorem d_RM_cluster_36 : decode c_RM_cluster 36 = .ok (.aload_n 0, 1) := by decide +kernel
theorem d_RM_cluster_37 : decode c_RM_cluster 37 = .ok (.getfield 24, 3) := by decide +kernel
theorem d_RM_cluster_40 : decode c_RM_cluster 40 = .ok (.invokevirtual 158, 3) := by decide +kernel
theorem d_RM_cluster_43 : decode c_RM_cluster 43 = .ok (.aload_n 0, 1) := by decide +kernel
theorem d_RM_cluster_44 : decode c_RM_cluster 44 = .ok (.getfield 24, 3) := by decide +kernel
theorem d_RM_cluster_47 : decode c_RM_cluster 47 = .ok (.getfield 161, 3) := by decide +kernel
theorem d_RM_cluster_50 : decode c_RM_cluster 50 = .ok (.iload_n 1, 1) := by decide +kernel
theorem d_RM_cluster_51 : decode c_RM_cluster 51 = .ok (.iaload, 1) := by decide +kernel
theorem d_RM_cluster_52 : decode c_RM_cluster 52 = .ok (.ireturn, 1) := by decide +kernel
theorem d_RM_keep_0 : decode c_RM_keep 0 = .ok (.iload_n 1, 1) := by decide +kernel
theorem d_RM_keep_1 : decode c_RM_keep 1 = .ok (.invokestatic 33, 3) := by decide +kernel
theorem d_RM_keep_4 : decode c_RM_keep 4 = .ok (.ifCond .eq 12, 3) := by decide +kernel
theorem d_RM_keep_7 : decode c_RM_keep 7 = .ok (.iload_n 2, 1) := by decide +kernel
theorem d_RM_keep_8 : decode c_RM_keep 8 = .ok (.ifCond .lt 8, 3) := by decide +kernel
theorem d_RM_keep_11 : decode c_RM_keep 11 = .ok (.iload_n 2, 1) := by decide +kernel
theorem d_RM_keep_12 : decode c_RM_keep 12 = .ok (.iconst 2, 1) := by decide +kernel
theorem d_RM_keep_13 : decode c_RM_keep 13 = .ok (.if_icmp .le 5, 3) := by decide +kernel
theorem d_RM_keep_16 : decode c_RM_keep 16 = .ok (.iconst 0, 1) := by decide +kernel
theorem d_RM_keep_17 : decode c_RM_keep 17 = .ok (.ireturn, 1) := by decide +kernel
theorem d_RM_keep_18 : decode c_RM_keep 18 = .ok (.aload_n 0, 1) := by decide +kernel
theorem d_RM_keep_19 : decode c_RM_keep 19 = .ok (.getfield 28, 3) := by decide +kernel
theorem d_RM_keep_22 : decode c_RM_keep 22 = .ok (.iload_n 1, 1) := by decide +kernel
theorem d_RM_keep_23 : decode c_RM_keep 23 = .ok (.iload_n 2, 1) := by decide +kernel
theorem d_RM_keep_24 : decode c_RM_keep 24 = .ok (.iastore, 1) := by decide +kernel
theorem d_RM_keep_25 : decode c_RM_keep 25 = .ok (.iconst 1, 1) := by decide +kernel
theorem d_RM_keep_26 : decode c_RM_keep 26 = .ok (.ireturn, 1) := by decide +kernel
theorem d_RM_kept_0 : decode c_RM_kept 0 = .ok (.aload_n 0, 1) := by decide +kernel
theorem d_RM_kept_1 : decode c_RM_kept 1 = .ok (.getfield 24, 3) := by decide +kernel
theorem d_RM_kept_4 : decode c_RM_kept 4 = .ok (.invokevirtual 116, 3) := by decide +kernel
theorem d_RM_kept_7 : decode c_RM_kept 7 = .ok (.ifCond .ne 6, 3) := by decide +kernel
theorem d_RM_kept_10 : decode c_RM_kept 10 = .ok (.bipush (-4), 2) := by decide +kernel
theorem d_RM_kept_12 : decode c_RM_kept 12 = .ok (.ireturn, 1) := by decide +kernel
theorem d_RM_kept_13 : decode c_RM_kept 13 = .ok (.aload_n 0, 1) := by decide +kernel
theorem d_RM_kept_14 : decode c_RM_kept 14 = .ok (.iload_n 1, 1) := by decide +kernel
theorem d_RM_kept_15 : decode c_RM_kept 15 = .ok (.invokevirtual 54, 3) := by decide +kernel
theorem d_RM_kept_18 : decode c_RM_kept 18 = .ok (.ifCond .eq 10, 3) := by decide +kernel
theorem d_RM_kept_21 : decode c_RM_kept 21 = .ok (.iload_n 2, 1) := by decide +kernel
theorem d_RM_kept_22 : decode c_RM_kept 22 = .ok (.invokestatic 33, 3) := by decide +kernel
theorem d_RM_kept_25 : decode c_RM_kept 25 = .ok (.ifCond .ne 5, 3) := by decide +kernel
theorem d_RM_kept_28 : decode c_RM_kept 28 = .ok (.iconst (-1), 1) := by decide +kernel
theorem d_RM_kept_29 : decode c_RM_kept 29 = .ok (.ireturn, 1) := by decide +kernel
theorem d_RM_kept_30 : decode c_RM_kept 30 = .ok (.aload_n 0, 1) := by decide +kernel
theorem d_RM_kept_31 : decode c_RM_kept 31 = .ok (.getfield 24, 3) := by decide +kernel
theorem d_RM_kept_34 : decode c_RM_kept 34 = .ok (.invokevirtual 137, 3) := by decide +kernel
theorem d_RM_kept_37 : decode c_RM_kept 37 = .ok (.ifCond .ne 6, 3) := by decide +kernel
theorem d_RM_kept_40 : decode c_RM_kept 40 = .ok (.bipush (-6), 2) := by decide +kernel
theorem d_RM_kept_42 : decode c_RM_kept 42 = .ok (.ireturn, 1) := by decide +kernel
theorem d_RM_kept_43 : decode c_RM_kept 43 = .ok (.aload_n 0, 1) := by decide +kernel
theorem d_RM_kept_44 : decode c_RM_kept 44 = .ok (.getfield 24, 3) := by decide +kernel
theorem d_RM_kept_47 : decode c_RM_kept 47 = .ok (.invokevirtual 158, 3) := by decide +kernel
theorem d_RM_kept_50 : decode c_RM_kept 50 = .ok (.aload_n 0, 1) := by decide +kernel
theorem d_RM_kept_51 : decode c_RM_kept 51 = .ok (.aload_n 0, 1) := by decide +kernel
theorem d_RM_kept_52 : decode c_RM_kept 52 = .ok (.getfield 24, 3) := by decide +kernel
theorem d_RM_kept_55 : decode c_RM_kept 55 = .ok (.getfield 161, 3) := by decide +kernel
theorem d_RM_kept_58 : decode c_RM_kept 58 = .ok (.iload_n 1, 1) := by decide +kernel
theorem d_RM_kept_59 : decode c_RM_kept 59 = .ok (.iaload, 1) := by decide +kernel
theorem d_RM_kept_60 : decode c_RM_kept 60 = .ok (.iload_n 2, 1) := by decide +kernel
theorem d_RM_kept_61 : decode c_RM_kept 61 = .ok (.invokevirtual 164, 3) := by decide +kernel
theorem d_RM_kept_64 : decode c_RM_kept 64 = .ok (.ireturn, 1) := by decide +kernel
theorem d_RM_isRecord_0 : decode c_RM_isRecord 0 = .ok (.iload_n 1, 1) := by decide +kernel
theorem d_RM_isRecord_1 : decode c_RM_isRecord 1 = .ok (.ifCond .lt 15, 3) := by decide +kernel
theorem d_RM_isRecord_4 : decode c_RM_isRecord 4 = .ok (.iload_n 1, 1) := by decide +kernel
theorem d_RM_isRecord_5 : decode c_RM_isRecord 5 = .ok (.aload_n 0, 1) := by decide +kernel
theorem d_RM_isRecord_6 : decode c_RM_isRecord 6 = .ok (.getfield 37, 3) := by decide +kernel
theorem d_RM_isRecord_9 : decode c_RM_isRecord 9 = .ok (.if_icmp .ge 7, 3) := by decide +kernel
theorem d_RM_isRecord_12 : decode c_RM_isRecord 12 = .ok (.iconst 1, 1) := by decide +kernel
theorem d_RM_isRecord_13 : decode c_RM_isRecord 13 = .ok (.goto 4, 3) := by decide +kernel
theorem d_RM_isRecord_16 : decode c_RM_isRecord 16 = .ok (.iconst 0, 1) := by decide +kernel
theorem d_RM_isRecord_17 : decode c_RM_isRecord 17 = .ok (.ireturn, 1) := by decide +kernel
theorem d_RM_isField_0 : decode c_RM_isField 0 = .ok (.iload_n 0, 1) := by decide +kernel
theorem d_RM_isField_1 : decode c_RM_isField 1 = .ok (.ifCond .lt 12, 3) := by decide +kernel
theorem d_RM_isField_4 : decode c_RM_isField 4 = .ok (.iload_n 0, 1) := by decide +kernel
theorem d_RM_isField_5 : decode c_RM_isField 5 = .ok (.iconst 2, 1) := by decide +kernel
theorem d_RM_isField_6 : decode c_RM_isField 6 = .ok (.if_icmp .ge 7, 3) := by decide +kernel
theorem d_RM_isField_9 : decode c_RM_isField 9 = .ok (.iconst 1, 1) := by decide +kernel
theorem d_RM_isField_10 : decode c_RM_isField 10 = .ok (.goto 4, 3) := by decide +kernel
theorem d_RM_isField_13 : decode c_RM_isField 13 = .ok (.iconst 0, 1) := by decide +kernel
theorem d_RM_isField_14 : decode c_RM_isField 14 = .ok (.ireturn, 1) := by decide +kernel
theorem d_RM_areTwoRecords_0 : decode c_RM_areTwoRecords 0 = .ok (.aload_n 0, 1) := by decide +kernel
theorem d_RM_areTwoRecords_1 : decode c_RM_areTwoRecords 1 = .ok (.iload_n 1, 1) := by decide +kernel
theorem d_RM_areTwoRecords_2 : decode c_RM_areTwoRecords 2 = .ok (.invokevirtual 54, 3) := by decide +kernel
theorem d_RM_areTwoRecords_5 : decode c_RM_areTwoRecords 5 = .ok (.ifCond .eq 20, 3) := by decide +kernel
theorem d_RM_areTwoRecords_8 : decode c_RM_areTwoRecords 8 = .ok (.aload_n 0, 1) := by decide +kernel
theorem d_RM_areTwoRecords_9 : decode c_RM_areTwoRecords 9 = .ok (.iload_n 2, 1) := by decide +kernel
theorem d_RM_areTwoRecords_10 : decode c_RM_areTwoRecords 10 = .ok (.invokevirtual 54, 3) := by decide +kernel
theorem d_RM_areTwoRecords_13 : decode c_RM_areTwoRecords 13 = .ok (.ifCond .eq 12, 3) := by decide +kernel
theorem d_RM_areTwoRecords_16 : decode c_RM_areTwoRecords 16 = .ok (.iload_n 1, 1) := by decide +kernel
theorem d_RM_areTwoRecords_17 : decode c_RM_areTwoRecords 17 = .ok (.iload_n 2, 1) := by decide +kernel
theorem d_RM_areTwoRecords_18 : decode c_RM_areTwoRecords 18 = .ok (.if_icmp .eq 7, 3) := by decide +kernel
theorem d_RM_areTwoRecords_21 : decode c_RM_areTwoRecords 21 = .ok (.iconst 1, 1) := by decide +kernel
theorem d_RM_areTwoRecords_22 : decode c_RM_areTwoRecords 22 = .ok (.goto 4, 3) := by decide +kernel
theorem d_RM_areTwoRecords_25 : decode c_RM_areTwoRecords 25 = .ok (.iconst 0, 1) := by decide +kernel
theorem d_RM_areTwoRecords_26 : decode c_RM_areTwoRecords 26 = .ok (.ireturn, 1) := by decide +kernel
theorem d_RM_textOf_0 : decode c_RM_textOf 0 = .ok (.aload_n 0, 1) := by decide +kernel
theorem d_RM_textOf_1 : decode c_RM_textOf 1 = .ok (.getfield 11, 3) := by decide +kernel
theorem d_RM_textOf_4 : decode c_RM_textOf 4 = .ok (.iload_n 1, 1) := by decide +kernel
theorem d_RM_textOf_5 : decode c_RM_textOf 5 = .ok (.aaload, 1) := by decide +kernel
theorem d_RM_textOf_6 : decode c_RM_textOf 6 = .ok (.iload_n 2, 1) := by decide +kernel
theorem d_RM_textOf_7 : decode c_RM_textOf 7 = .ok (.invokevirtual 167, 3) := by decide +kernel
theorem d_RM_textOf_10 : decode c_RM_textOf 10 = .ok (.areturn, 1) := by decide +kernel
theorem d_RM_fromTop_0 : decode c_RM_fromTop 0 = .ok (.iload_n 1, 1) := by decide +kernel
theorem d_RM_fromTop_1 : decode c_RM_fromTop 1 = .ok (.aload_n 0, 1) := by decide +kernel
theorem d_RM_fromTop_2 : decode c_RM_fromTop 2 = .ok (.getfield 68, 3) := by decide +kernel
theorem d_RM_fromTop_5 : decode c_RM_fromTop 5 = .ok (.if_icmp .ge 19, 3) := by decide +kernel
theorem d_RM_fromTop_8 : decode c_RM_fromTop 8 = .ok (.aload_n 0, 1) := by decide +kernel
theorem d_RM_fromTop_9 : decode c_RM_fromTop 9 = .ok (.getfield 17, 3) := by decide +kernel
theorem d_RM_fromTop_12 : decode c_RM_fromTop 12 = .ok (.aload_n 0, 1) := by decide +kernel
theorem d_RM_fromTop_13 : decode c_RM_fromTop 13 = .ok (.getfield 68, 3) := by decide +kernel
theorem d_RM_fromTop_16 : decode c_RM_fromTop 16 = .ok (.iconst 1, 1) := by decide +kernel
theorem d_RM_fromTop_17 : decode c_RM_fromTop 17 = .ok (.isub, 1) := by decide +kernel
theorem d_RM_fromTop_18 : decode c_RM_fromTop 18 = .ok (.iload_n 1, 1) := by decide +kernel
theorem d_RM_fromTop_19 : decode c_RM_fromTop 19 = .ok (.isub, 1) := by decide +kernel
theorem d_RM_fromTop_20 : decode c_RM_fromTop 20 = .ok (.aaload, 1) := by decide +kernel
theorem d_RM_fromTop_21 : decode c_RM_fromTop 21 = .ok (.goto 4, 3) := by decide +kernel
theorem d_RM_fromTop_24 : decode c_RM_fromTop 24 = .ok (.aconst_null, 1) := by decide +kernel
theorem d_RM_fromTop_25 : decode c_RM_fromTop 25 = .ok (.areturn, 1) := by decide +kernel
theorem d_RM_push_0 : decode c_RM_push 0 = .ok (.aload_n 0, 1) := by decide +kernel
theorem d_RM_push_1 : decode c_RM_push 1 = .ok (.getfield 17, 3) := by decide +kernel
theorem d_RM_push_4 : decode c_RM_push 4 = .ok (.aload_n 0, 1) := by decide +kernel
theorem d_RM_push_5 : decode c_RM_push 5 = .ok (.getfield 68, 3) := by decide +kernel
theorem d_RM_push_8 : decode c_RM_push 8 = .ok (.aload_n 1, 1) := by decide +kernel
theorem d_RM_push_9 : decode c_RM_push 9 = .ok (.aastore, 1) := by decide +kernel
theorem d_RM_push_10 : decode c_RM_push 10 = .ok (.aload_n 0, 1) := by decide +kernel
theorem d_RM_push_11 : decode c_RM_push 11 = .ok (.dup, 1) := by decide +kernel
theorem d_RM_push_12 : decode c_RM_push 12 = .ok (.getfield 68, 3) := by decide +kernel
theorem d_RM_push_15 : decode c_RM_push 15 = .ok (.iconst 1, 1) := by decide +kernel
theorem d_RM_push_16 : decode c_RM_push 16 = .ok (.iadd, 1) := by decide +kernel
theorem d_RM_push_17 : decode c_RM_push 17 = .ok (.putfield 68, 3) := by decide +kernel
theorem d_RM_push_20 : decode c_RM_push 20 = .ok (.return_, 1) := by decide +kernel
theorem d_RM_bestOfCluster_0 : decode c_RM_bestOfCluster 0 = .ok (.iload_n 1, 1) := by decide +kernel
theorem d_RM_bestOfCluster_1 : decode c_RM_bestOfCluster 1 = .ok (.istore_n 3, 1) := by decide +kernel
theorem d_RM_bestOfCluster_2 : decode c_RM_bestOfCluster 2 = .ok (.iload_n 1, 1) := by decide +kernel
theorem d_RM_bestOfCluster_3 : decode c_RM_bestOfCluster 3 = .ok (.iconst 1, 1) := by decide +kernel
theorem d_RM_bestOfCluster_4 : decode c_RM_bestOfCluster 4 = .ok (.iadd, 1) := by decide +kernel
theorem d_RM_bestOfCluster_5 : decode c_RM_bestOfCluster 5 = .ok (.istore 4, 2) := by decide +kernel
theorem d_RM_bestOfCluster_7 : decode c_RM_bestOfCluster 7 = .ok (.iload 4, 2) := by decide +kernel
theorem d_RM_bestOfCluster_9 : decode c_RM_bestOfCluster 9 = .ok (.aload_n 0, 1) := by decide +kernel
theorem d_RM_bestOfCluster_10 : decode c_RM_bestOfCluster 10 = .ok (.getfield 37, 3) := by decide +kernel
theorem d_RM_bestOfCluster_13 : decode c_RM_bestOfCluster 13 = .ok (.if_icmp .ge 37, 3) := by decide +kernel
theorem d_RM_bestOfCluster_16 : decode c_RM_bestOfCluster 16 = .ok (.aload_n 0, 1) := by decide +kernel
theorem d_RM_bestOfCluster_17 : decode c_RM_bestOfCluster 17 = .ok (.getfield 24, 3) := by decide +kernel
theorem d_RM_bestOfCluster_20 : decode c_RM_bestOfCluster 20 = .ok (.getfield 161, 3) := by decide +kernel
theorem d_RM_bestOfCluster_23 : decode c_RM_bestOfCluster 23 = .ok (.iload 4, 2) := by decide +kernel
theorem d_RM_bestOfCluster_25 : decode c_RM_bestOfCluster 25 = .ok (.iaload, 1) := by decide +kernel
theorem d_RM_bestOfCluster_26 : decode c_RM_bestOfCluster 26 = .ok (.iload_n 1, 1) := by decide +kernel
theorem d_RM_bestOfCluster_27 : decode c_RM_bestOfCluster 27 = .ok (.if_icmp .ne 17, 3) := by decide +kernel
theorem d_RM_bestOfCluster_30 : decode c_RM_bestOfCluster 30 = .ok (.aload_n 0, 1) := by decide +kernel
theorem d_RM_bestOfCluster_31 : decode c_RM_bestOfCluster 31 = .ok (.iload 4, 2) := by decide +kernel
theorem d_RM_bestOfCluster_33 : decode c_RM_bestOfCluster 33 = .ok (.iload_n 3, 1) := by decide +kernel
theorem d_RM_bestOfCluster_34 : decode c_RM_bestOfCluster 34 = .ok (.iload_n 2, 1) := by decide +kernel
theorem d_RM_bestOfCluster_35 : decode c_RM_bestOfCluster 35 = .ok (.invokevirtual 171, 3) := by decide +kernel
theorem d_RM_bestOfCluster_38 : decode c_RM_bestOfCluster 38 = .ok (.ifCond .eq 6, 3) := by decide +kernel
theorem d_RM_bestOfCluster_41 : decode c_RM_bestOfCluster 41 = .ok (.iload 4, 2) := by decide +kernel
theorem d_RM_bestOfCluster_43 : decode c_RM_bestOfCluster 43 = .ok (.istore_n 3, 1) := by decide +kernel
theorem d_RM_bestOfCluster_44 : decode c_RM_bestOfCluster 44 = .ok (.iinc 4 1, 3) := by decide +kernel
theorem d_RM_bestOfCluster_47 : decode c_RM_bestOfCluster 47 = .ok (.goto (-40), 3) := by decide +kernel
theorem d_RM_bestOfCluster_50 : decode c_RM_bestOfCluster 50 = .ok (.iload_n 3, 1) := by decide +kernel
theorem d_RM_bestOfCluster_51 : decode c_RM_bestOfCluster 51 = .ok (.ireturn, 1) := by decide +kernel
theorem d_RM_isBetter_0 : decode c_RM_isBetter 0 = .ok (.aload_n 0, 1) := by decide +kernel
theorem d_RM_isBetter_1 : decode c_RM_isBetter 1 = .ok (.iload_n 1, 1) := by decide +kernel
theorem d_RM_isBetter_2 : decode c_RM_isBetter 2 = .ok (.iload_n 3, 1) := by decide +kernel
theorem d_RM_isBetter_3 : decode c_RM_isBetter 3 = .ok (.invokevirtual 41, 3) := by decide +kernel
theorem d_RM_isBetter_6 : decode c_RM_isBetter 6 = .ok (.astore 4, 2) := by decide +kernel
theorem d_RM_isBetter_8 : decode c_RM_isBetter 8 = .ok (.aload_n 0, 1) := by decide +kernel
theorem d_RM_isBetter_9 : decode c_RM_isBetter 9 = .ok (.iload_n 2, 1) := by decide +kernel
theorem d_RM_isBetter_10 : decode c_RM_isBetter 10 = .ok (.iload_n 3, 1) := by decide +kernel
theorem d_RM_isBetter_11 : decode c_RM_isBetter 11 = .ok (.invokevirtual 41, 3) := by decide +kernel
theorem d_RM_isBetter_14 : decode c_RM_isBetter 14 = .ok (.astore 5, 2) := by decide +kernel
theorem d_RM_isBetter_16 : decode c_RM_isBetter 16 = .ok (.aload_n 0, 1) := by decide +kernel
theorem d_RM_isBetter_17 : decode c_RM_isBetter 17 = .ok (.getfield 28, 3) := by decide +kernel
theorem d_RM_isBetter_20 : decode c_RM_isBetter 20 = .ok (.iload_n 3, 1) := by decide +kernel
theorem d_RM_isBetter_21 : decode c_RM_isBetter 21 = .ok (.iaload, 1) := by decide +kernel
theorem d_RM_isBetter_22 : decode c_RM_isBetter 22 = .ok (.ifCond .eq 19, 3) := by decide +kernel
theorem d_RM_isBetter_25 : decode c_RM_isBetter 25 = .ok (.aload 4, 2) := by decide +kernel
theorem d_RM_isBetter_27 : decode c_RM_isBetter 27 = .ok (.getfield 61, 3) := by decide +kernel
theorem d_RM_isBetter_30 : decode c_RM_isBetter 30 = .ok (.ifCond .eq 11, 3) := by decide +kernel
theorem d_RM_isBetter_33 : decode c_RM_isBetter 33 = .ok (.aload 5, 2) := by decide +kernel
theorem d_RM_isBetter_35 : decode c_RM_isBetter 35 = .ok (.getfield 61, 3) := by decide +kernel
theorem d_RM_isBetter_38 : decode c_RM_isBetter 38 = .ok (.ifCond .ne 22, 3) := by decide +kernel
theorem d_RM_isBetter_41 : decode c_RM_isBetter 41 = .ok (.aload 4, 2) := by decide +kernel
theorem d_RM_isBetter_43 : decode c_RM_isBetter 43 = .ok (.getfield 61, 3) := by decide +kernel
theorem d_RM_isBetter_46 : decode c_RM_isBetter 46 = .ok (.aload 5, 2) := by decide +kernel
theorem d_RM_isBetter_48 : decode c_RM_isBetter 48 = .ok (.getfield 61, 3) := by decide +kernel
theorem d_RM_isBetter_51 : decode c_RM_isBetter 51 = .ok (.if_icmp .le 7, 3) := by decide +kernel
theorem d_RM_isBetter_54 : decode c_RM_isBetter 54 = .ok (.iconst 1, 1) := by decide +kernel
theorem d_RM_isBetter_55 : decode c_RM_isBetter 55 = .ok (.goto 4, 3) := by decide +kernel
theorem d_RM_isBetter_58 : decode c_RM_isBetter 58 = .ok (.iconst 0, 1) := by decide +kernel
theorem d_RM_isBetter_59 : decode c_RM_isBetter 59 = .ok (.ireturn, 1) := by decide +kernel
theorem d_RM_isBetter_60 : decode c_RM_isBetter 60 = .ok (.aload_n 0, 1) := by decide +kernel
theorem d_RM_isBetter_61 : decode c_RM_isBetter 61 = .ok (.getfield 28, 3) := by decide +kernel
theorem d_RM_isBetter_64 : decode c_RM_isBetter 64 = .ok (.iload_n 3, 1) := by decide +kernel
theorem d_RM_isBetter_65 : decode c_RM_isBetter 65 = .ok (.iaload, 1) := by decide +kernel
theorem d_RM_isBetter_66 : decode c_RM_isBetter 66 = .ok (.iconst 1, 1) := by decide +kernel
theorem d_RM_isBetter_67 : decode c_RM_isBetter 67 = .ok (.if_icmp .ne 24, 3) := by decide +kernel
theorem d_RM_isBetter_70 : decode c_RM_isBetter 70 = .ok (.aload_n 0, 1) := by decide +kernel
theorem d_RM_isBetter_71 : decode c_RM_isBetter 71 = .ok (.iload_n 1, 1) := by decide +kernel
theorem d_RM_isBetter_72 : decode c_RM_isBetter 72 = .ok (.iload_n 3, 1) := by decide +kernel
theorem d_RM_isBetter_73 : decode c_RM_isBetter 73 = .ok (.invokevirtual 175, 3) := by decide +kernel
theorem d_RM_isBetter_76 : decode c_RM_isBetter 76 = .ok (.aload_n 0, 1) := by decide +kernel
theorem d_RM_isBetter_77 : decode c_RM_isBetter 77 = .ok (.iload_n 2, 1) := by decide +kernel
theorem d_RM_isBetter_78 : decode c_RM_isBetter 78 = .ok (.iload_n 3, 1) := by decide +kernel
theorem d_RM_isBetter_79 : decode c_RM_isBetter 79 = .ok (.invokevirtual 175, 3) := by decide +kernel
theorem d_RM_isBetter_82 : decode c_RM_isBetter 82 = .ok (.if_icmp .le 7, 3) := by decide +kernel
theorem d_RM_isBetter_85 : decode c_RM_isBetter 85 = .ok (.iconst 1, 1) := by decide +kernel
theorem d_RM_isBetter_86 : decode c_RM_isBetter 86 = .ok (.goto 4, 3) := by decide +kernel
theorem d_RM_isBetter_89 : decode c_RM_isBetter 89 = .ok (.iconst 0, 1) := by decide +kernel
theorem d_RM_isBetter_90 : decode c_RM_isBetter 90 = .ok (.ireturn, 1) := by decide +kernel
theorem d_RM_isBetter_91 : decode c_RM_isBetter 91 = .ok (.aload 4, 2) := by decide +kernel
theorem d_RM_isBetter_93 : decode c_RM_isBetter 93 = .ok (.aload 5, 2) := by decide +kernel
theorem d_RM_isBetter_95 : decode c_RM_isBetter 95 = .ok (.invokevirtual 178, 3) := by decide +kernel
theorem d_RM_isBetter_98 : decode c_RM_isBetter 98 = .ok (.ifCond .ge 7, 3) := by decide +kernel
theorem d_RM_isBetter_101 : decode c_RM_isBetter 101 = .ok (.iconst 1, 1) := by decide +kernel
theorem d_RM_isBetter_102 : decode c_RM_isBetter 102 = .ok (.goto 4, 3) := by decide +kernel
theorem d_RM_isBetter_105 : decode c_RM_isBetter 105 = .ok (.iconst 0, 1) := by decide +kernel
theorem d_RM_isBetter_106 : decode c_RM_isBetter 106 = .ok (.ireturn, 1) := by decide +kernel
theorem d_RM_countHavingTextOf_0 : decode c_RM_countHavingTextOf 0 = .ok (.aload_n 0, 1) := by decide +kernel
theorem d_RM_countHavingTextOf_1 : decode c_RM_countHavingTextOf 1 = .ok (.iload_n 1, 1) := by decide +kernel
theorem d_RM_countHavingTextOf_2 : decode c_RM_countHavingTextOf 2 = .ok (.iload_n 2, 1) := by decide +kernel
theorem d_RM_countHavingTextOf_3 : decode c_RM_countHavingTextOf 3 = .ok (.invokevirtual 41, 3) := by decide +kernel
theorem d_RM_countHavingTextOf_6 : decode c_RM_countHavingTextOf 6 = .ok (.astore_n 3, 1) := by decide +kernel
theorem d_RM_countHavingTextOf_7 : decode c_RM_countHavingTextOf 7 = .ok (.iconst 0, 1) := by decide +kernel
theorem d_RM_countHavingTextOf_8 : decode c_RM_countHavingTextOf 8 = .ok (.istore 4, 2) := by decide +kernel
theorem d_RM_countHavingTextOf_10 : decode c_RM_countHavingTextOf 10 = .ok (.iconst 0, 1) := by decide +kernel
theorem d_RM_countHavingTextOf_11 : decode c_RM_countHavingTextOf 11 = .ok (.istore 5, 2) := by decide +kernel
theorem d_RM_countHavingTextOf_13 : decode c_RM_countHavingTextOf 13 = .ok (.iload 5, 2) := by decide +kernel
theorem d_RM_countHavingTextOf_15 : decode c_RM_countHavingTextOf 15 = .ok (.aload_n 0, 1) := by decide +kernel
theorem d_RM_countHavingTextOf_16 : decode c_RM_countHavingTextOf 16 = .ok (.getfield 37, 3) := by decide +kernel
theorem d_RM_countHavingTextOf_19 : decode c_RM_countHavingTextOf 19 = .ok (.if_icmp .ge 48, 3) := by decide +kernel
theorem d_RM_countHavingTextOf_22 : decode c_RM_countHavingTextOf 22 = .ok (.aload_n 0, 1) := by decide +kernel
theorem d_RM_countHavingTextOf_23 : decode c_RM_countHavingTextOf 23 = .ok (.getfield 24, 3) := by decide +kernel
theorem d_RM_countHavingTextOf_26 : decode c_RM_countHavingTextOf 26 = .ok (.getfield 161, 3) := by decide +kernel
theorem d_RM_countHavingTextOf_29 : decode c_RM_countHavingTextOf 29 = .ok (.iload 5, 2) := by decide +kernel
theorem d_RM_countHavingTextOf_31 : decode c_RM_countHavingTextOf 31 = .ok (.iaload, 1) := by decide +kernel
theorem d_RM_countHavingTextOf_32 : decode c_RM_countHavingTextOf 32 = .ok (.aload_n 0, 1) := by decide +kernel
theorem d_RM_countHavingTextOf_33 : decode c_RM_countHavingTextOf 33 = .ok (.getfield 24, 3) := by decide +kernel
theorem d_RM_countHavingTextOf_36 : decode c_RM_countHavingTextOf 36 = .ok (.getfield 161, 3) := by decide +kernel
theorem d_RM_countHavingTextOf_39 : decode c_RM_countHavingTextOf 39 = .ok (.iload_n 1, 1) := by decide +kernel
theorem d_RM_countHavingTextOf_40 : decode c_RM_countHavingTextOf 40 = .ok (.iaload, 1) := by decide +kernel
theorem d_RM_countHavingTextOf_41 : decode c_RM_countHavingTextOf 41 = .ok (.if_icmp .ne 20, 3) := by decide +kernel
theorem d_RM_countHavingTextOf_44 : decode c_RM_countHavingTextOf 44 = .ok (.aload_n 0, 1) := by decide +kernel
theorem d_RM_countHavingTextOf_45 : decode c_RM_countHavingTextOf 45 = .ok (.iload 5, 2) := by decide +kernel
theorem d_RM_countHavingTextOf_47 : decode c_RM_countHavingTextOf 47 = .ok (.iload_n 2, 1) := by decide +kernel
theorem d_RM_countHavingTextOf_48 : decode c_RM_countHavingTextOf 48 = .ok (.invokevirtual 41, 3) := by decide +kernel
theorem d_RM_countHavingTextOf_51 : decode c_RM_countHavingTextOf 51 = .ok (.aload_n 3, 1) := by decide +kernel
theorem d_RM_countHavingTextOf_52 : decode c_RM_countHavingTextOf 52 = .ok (.invokevirtual 178, 3) := by decide +kernel
theorem d_RM_countHavingTextOf_55 : decode c_RM_countHavingTextOf 55 = .ok (.ifCond .ne 6, 3) := by decide +kernel
theorem d_RM_countHavingTextOf_58 : decode c_RM_countHavingTextOf 58 = .ok (.iinc 4 1, 3) := by decide +kernel
theorem d_RM_countHavingTextOf_61 : decode c_RM_countHavingTextOf 61 = .ok (.iinc 5 1, 3) := by decide +kernel
theorem d_RM_countHavingTextOf_64 : decode c_RM_countHavingTextOf 64 = .ok (.goto (-51), 3) := by decide +kernel
theorem d_RM_countHavingTextOf_67 : decode c_RM_countHavingTextOf 67 = .ok (.iload 4, 2) := by decide +kernel
theorem d_RM_countHavingTextOf_69 : decode c_RM_countHavingTextOf 69 = .ok (.ireturn, 1) := by decide +kernel
theorem d_Mo_init_0 : decode c_Mo_init 0 = .ok (.aload_n 0, 1) := by decide +kernel
theorem d_Mo_init_1 : decode c_Mo_init 1 = .ok (.invokespecial 1, 3) := by decide +kernel
theorem d_Mo_init_4 : decode c_Mo_init 4 = .ok (.aload_n 0, 1) := by decide +kernel
theorem d_Mo_init_5 : decode c_Mo_init 5 = .ok (.sipush 312, 3) := by decide +kernel
theorem d_Mo_init_8 : decode c_Mo_init 8 = .ok (.newarray .int, 2) := by decide +kernel
theorem d_Mo_init_10 : decode c_Mo_init 10 = .ok (.putfield 7, 3) := by decide +kernel
theorem d_Mo_init_13 : decode c_Mo_init 13 = .ok (.aload_n 0, 1) := by decide +kernel
theorem d_Mo_init_14 : decode c_Mo_init 14 = .ok (.bipush 26, 2) := by decide +kernel
theorem d_Mo_init_16 : decode c_Mo_init 16 = .ok (.newarray .int, 2) := by decide +kernel
theorem d_Mo_init_18 : decode c_Mo_init 18 = .ok (.putfield 13, 3) := by decide +kernel
theorem d_Mo_init_21 : decode c_Mo_init 21 = .ok (.aload_n 0, 1) := by decide +kernel
theorem d_Mo_init_22 : decode c_Mo_init 22 = .ok (.bipush 24, 2) := by decide +kernel
theorem d_Mo_init_24 : decode c_Mo_init 24 = .ok (.newarray .int, 2) := by decide +kernel
theorem d_Mo_init_26 : decode c_Mo_init 26 = .ok (.putfield 16, 3) := by decide +kernel
theorem d_Mo_init_29 : decode c_Mo_init 29 = .ok (.aload_n 0, 1) := by decide +kernel
theorem d_Mo_init_30 : decode c_Mo_init 30 = .ok (.iconst 2, 1) := by decide +kernel
theorem d_Mo_init_31 : decode c_Mo_init 31 = .ok (.newarray .int, 2) := by decide +kernel
theorem d_Mo_init_33 : decode c_Mo_init 33 = .ok (.putfield 19, 3) := by decide +kernel
theorem d_Mo_init_36 : decode c_Mo_init 36 = .ok (.aload_n 0, 1) := by decide +kernel
theorem d_Mo_init_37 : decode c_Mo_init 37 = .ok (.sipush 169, 3) := by decide +kernel
theorem d_Mo_init_40 : decode c_Mo_init 40 = .ok (.newarray .int, 2) := by decide +kernel
theorem d_Mo_init_42 : decode c_Mo_init 42 = .ok (.putfield 22, 3) := by decide +kernel
theorem d_Mo_init_45 : decode c_Mo_init 45 = .ok (.aload_n 0, 1) := by decide +kernel
theorem d_Mo_init_46 : decode c_Mo_init 46 = .ok (.sipush 140, 3) := by decide +kernel
theorem d_Mo_init_49 : decode c_Mo_init 49 = .ok (.newarray .int, 2) := by decide +kernel
theorem d_Mo_init_51 : decode c_Mo_init 51 = .ok (.putfield 25, 3) := by decide +kernel
theorem d_Mo_init_54 : decode c_Mo_init 54 = .ok (.aload_n 0, 1) := by decide +kernel
theorem d_Mo_init_55 : decode c_Mo_init 55 = .ok (.sipush 140, 3) := by decide +kernel
theorem d_Mo_init_58 : decode c_Mo_init 58 = .ok (.newarray .int, 2) := by decide +kernel
theorem d_Mo_init_60 : decode c_Mo_init 60 = .ok (.putfield 28, 3) := by decide +kernel
theorem d_Mo_init_63 : decode c_Mo_init 63 = .ok (.aload_n 0, 1) := by decide +kernel
theorem d_Mo_init_64 : decode c_Mo_init 64 = .ok (.sipush 140, 3) := by decide +kernel
theorem d_Mo_init_67 : decode c_Mo_init 67 = .ok (.newarray .int, 2) := by decide +kernel
theorem d_Mo_init_69 : decode c_Mo_init 69 = .ok (.putfield 31, 3) := by decide +kernel
theorem d_Mo_init_72 : decode c_Mo_init 72 = .ok (.aload_n 0, 1) := by decide +kernel
theorem d_Mo_init_73 : decode c_Mo_init 73 = .ok (.sipush 140, 3) := by decide +kernel
theorem d_Mo_init_76 : decode c_Mo_init 76 = .ok (.newarray .int, 2) := by decide +kernel
theorem d_Mo_init_78 : decode c_Mo_init 78 = .ok (.putfield 34, 3) := by decide +kernel
theorem d_Mo_init_81 : decode c_Mo_init 81 = .ok (.aload_n 0, 1) := by decide +kernel
theorem d_Mo_init_82 : decode c_Mo_init 82 = .ok (.bipush 7, 2) := by decide +kernel
theorem d_Mo_init_84 : decode c_Mo_init 84 = .ok (.newarray .int, 2) := by decide +kernel
theorem d_Mo_init_86 : decode c_Mo_init 86 = .ok (.putfield 37, 3) := by decide +kernel
theorem d_Mo_init_89 : decode c_Mo_init 89 = .ok (.aload_n 0, 1) := by decide +kernel
theorem d_Mo_init_90 : decode c_Mo_init 90 = .ok (.bipush 24, 2) := by decide +kernel
theorem d_Mo_init_92 : decode c_Mo_init 92 = .ok (.newarray .int, 2) := by decide +kernel
theorem d_Mo_init_94 : decode c_Mo_init 94 = .ok (.putfield 40, 3) := by decide +kernel
theorem d_Mo_init_97 : decode c_Mo_init 97 = .ok (.aload_n 0, 1) := by decide +kernel
theorem d_Mo_init_98 : decode c_Mo_init 98 = .ok (.bipush 24, 2) := by decide +kernel
theorem d_Mo_init_100 : decode c_Mo_init 100 = .ok (.newarray .int, 2) := by decide +kernel
theorem d_Mo_init_102 : decode c_Mo_init 102 = .ok (.putfield 43, 3) := by decide +kernel
theorem d_Mo_init_105 : decode c_Mo_init 105 = .ok (.aload_n 0, 1) := by decide +kernel
theorem d_Mo_init_106 : decode c_Mo_init 106 = .ok (.bipush 24, 2) := by decide +kernel
theorem d_Mo_init_108 : decode c_Mo_init 108 = .ok (.newarray .int, 2) := by decide +kernel
theorem d_Mo_init_110 : decode c_Mo_init 110 = .ok (.putfield 46, 3) := by decide +kernel
theorem d_Mo_init_113 : decode c_Mo_init 113 = .ok (.aload_n 0, 1) := by decide +kernel
theorem d_Mo_init_114 : decode c_Mo_init 114 = .ok (.bipush 24, 2) := by decide +kernel
theorem d_Mo_init_116 : decode c_Mo_init 116 = .ok (.newarray .int, 2) := by decide +kernel
theorem d_Mo_init_118 : decode c_Mo_init 118 = .ok (.putfield 49, 3) := by decide +kernel
theorem d_Mo_init_121 : decode c_Mo_init 121 = .ok (.aload_n 0, 1) := by decide +kernel
theorem d_Mo_init_122 : decode c_Mo_init 122 = .ok (.bipush 24, 2) := by decide +kernel
theorem d_Mo_init_124 : decode c_Mo_init 124 = .ok (.newarray .boolean, 2) := by decide +kernel
theorem d_Mo_init_126 : decode c_Mo_init 126 = .ok (.putfield 52, 3) := by decide +kernel
theorem d_Mo_init_129 : decode c_Mo_init 129 = .ok (.aload_n 0, 1) := by decide +kernel
theorem d_Mo_init_130 : decode c_Mo_init 130 = .ok (.iconst 4, 1) := by decide +kernel
theorem d_Mo_init_131 : decode c_Mo_init 131 = .ok (.newarray .int, 2) := by decide +kernel
theorem d_Mo_init_133 : decode c_Mo_init 133 = .ok (.putfield 56, 3) := by decide +kernel
theorem d_Mo_init_136 : decode c_Mo_init 136 = .ok (.aload_n 0, 1) := by decide +kernel
theorem d_Mo_init_137 : decode c_Mo_init 137 = .ok (.iconst 2, 1) := by decide +kernel
theorem d_Mo_init_138 : decode c_Mo_init 138 = .ok (.newarray .int, 2) := by decide +kernel
theorem d_Mo_init_140 : decode c_Mo_init 140 = .ok (.putfield 59, 3) := by decide +kernel
theorem d_Mo_init_143 : decode c_Mo_init 143 = .ok (.aload_n 0, 1) := by decide +kernel
theorem d_Mo_init_144 : decode c_Mo_init 144 = .ok (.bipush 12, 2) := by decide +kernel
theorem d_Mo_init_146 : decode c_Mo_init 146 = .ok (.newarray .int, 2) := by decide +kernel
theorem d_Mo_init_148 : decode c_Mo_init 148 = .ok (.putfield 62, 3) := by decide +kernel
theorem d_Mo_init_151 : decode c_Mo_init 151 = .ok (.return_, 1) := by decide +kernel
theorem d_Mo_isRecord_0 : decode c_Mo_isRecord 0 = .ok (.iload_n 1, 1) := by decide +kernel
theorem d_Mo_isRecord_1 : decode c_Mo_isRecord 1 = .ok (.ifCond .lt 15, 3) := by decide +kernel
theorem d_Mo_isRecord_4 : decode c_Mo_isRecord 4 = .ok (.iload_n 1, 1) := by decide +kernel
theorem d_Mo_isRecord_5 : decode c_Mo_isRecord 5 = .ok (.aload_n 0, 1) := by decide +kernel
theorem d_Mo_isRecord_6 : decode c_Mo_isRecord 6 = .ok (.getfield 65, 3) := by decide +kernel
theorem d_Mo_isRecord_9 : decode c_Mo_isRecord 9 = .ok (.if_icmp .ge 7, 3) := by decide +kernel
theorem d_Mo_isRecord_12 : decode c_Mo_isRecord 12 = .ok (.iconst 1, 1) := by decide +kernel
theorem d_Mo_isRecord_13 : decode c_Mo_isRecord 13 = .ok (.goto 4, 3) := by decide +kernel
theorem d_Mo_isRecord_16 : decode c_Mo_isRecord 16 = .ok (.iconst 0, 1) := by decide +kernel
theorem d_Mo_isRecord_17 : decode c_Mo_isRecord 17 = .ok (.ireturn, 1) := by decide +kernel
theorem d_Mo_isField_0 : decode c_Mo_isField 0 = .ok (.iload_n 0, 1) := by decide +kernel
theorem d_Mo_isField_1 : decode c_Mo_isField 1 = .ok (.ifCond .eq 8, 3) := by decide +kernel
theorem d_Mo_isField_4 : decode c_Mo_isField 4 = .ok (.iload_n 0, 1) := by decide +kernel
theorem d_Mo_isField_5 : decode c_Mo_isField 5 = .ok (.iconst 1, 1) := by decide +kernel
theorem d_Mo_isField_6 : decode c_Mo_isField 6 = .ok (.if_icmp .ne 7, 3) := by decide +kernel
theorem d_Mo_isField_9 : decode c_Mo_isField 9 = .ok (.iconst 1, 1) := by decide +kernel
theorem d_Mo_isField_10 : decode c_Mo_isField 10 = .ok (.goto 4, 3) := by decide +kernel
theorem d_Mo_isField_13 : decode c_Mo_isField 13 = .ok (.iconst 0, 1) := by decide +kernel
theorem d_Mo_isField_14 : decode c_Mo_isField 14 = .ok (.ireturn, 1) := by decide +kernel
theorem d_Mo_type_0 : decode c_Mo_type 0 = .ok (.iload_n 1, 1) := by decide +kernel
theorem d_Mo_type_1 : decode c_Mo_type 1 = .ok (.invokestatic 69, 3) := by decide +kernel
theorem d_Mo_type_4 : decode c_Mo_type 4 = .ok (.ifCond .eq 24, 3) := by decide +kernel
theorem d_Mo_type_7 : decode c_Mo_type 7 = .ok (.iload_n 2, 1) := by decide +kernel
theorem d_Mo_type_8 : decode c_Mo_type 8 = .ok (.sipush 255, 3) := by decide +kernel
theorem d_Mo_type_11 : decode c_Mo_type 11 = .ok (.if_icmp .gt 17, 3) := by decide +kernel
theorem d_Mo_type_14 : decode c_Mo_type 14 = .ok (.aload_n 0, 1) := by decide +kernel
theorem d_Mo_type_15 : decode c_Mo_type 15 = .ok (.getfield 13, 3) := by decide +kernel
theorem d_Mo_type_18 : decode c_Mo_type 18 = .ok (.bipush 24, 2) := by decide +kernel
theorem d_Mo_type_20 : decode c_Mo_type 20 = .ok (.iload_n 1, 1) := by decide +kernel
theorem d_Mo_type_21 : decode c_Mo_type 21 = .ok (.iadd, 1) := by decide +kernel
theorem d_Mo_type_22 : decode c_Mo_type 22 = .ok (.iaload, 1) := by decide +kernel
theorem d_Mo_type_23 : decode c_Mo_type 23 = .ok (.bipush 12, 2) := by decide +kernel
theorem d_Mo_type_25 : decode c_Mo_type 25 = .ok (.if_icmp .ne 5, 3) := by decide +kernel
theorem d_Mo_type_28 : decode c_Mo_type 28 = .ok (.iconst 0, 1) := by decide +kernel
theorem d_Mo_type_29 : decode c_Mo_type 29 = .ok (.ireturn, 1) := by decide +kernel
theorem d_Mo_type_30 : decode c_Mo_type 30 = .ok (.aload_n 0, 1) := by decide +kernel
theorem d_Mo_type_31 : decode c_Mo_type 31 = .ok (.getfield 7, 3) := by decide +kernel
theorem d_Mo_type_34 : decode c_Mo_type 34 = .ok (.bipush 12, 2) := by decide +kernel
theorem d_Mo_type_36 : decode c_Mo_type 36 = .ok (.bipush 24, 2) := by decide +kernel
theorem d_Mo_type_38 : decode c_Mo_type 38 = .ok (.iload_n 1, 1) := by decide +kernel
theorem d_Mo_type_39 : decode c_Mo_type 39 = .ok (.iadd, 1) := by decide +kernel
theorem d_Mo_type_40 : decode c_Mo_type 40 = .ok (.imul, 1) := by decide +kernel
theorem d_Mo_type_41 : decode c_Mo_type 41 = .ok (.aload_n 0, 1) := by decide +kernel
theorem d_Mo_type_42 : decode c_Mo_type 42 = .ok (.getfield 13, 3) := by decide +kernel
theorem d_Mo_type_45 : decode c_Mo_type 45 = .ok (.bipush 24, 2) := by decide +kernel
theorem d_Mo_type_47 : decode c_Mo_type 47 = .ok (.iload_n 1, 1) := by decide +kernel
theorem d_Mo_type_48 : decode c_Mo_type 48 = .ok (.iadd, 1) := by decide +kernel
theorem d_Mo_type_49 : decode c_Mo_type 49 = .ok (.iaload, 1) := by decide +kernel
theorem d_Mo_type_50 : decode c_Mo_type 50 = .ok (.iadd, 1) := by decide +kernel
theorem d_Mo_type_51 : decode c_Mo_type 51 = .ok (.iload_n 2, 1) := by decide +kernel
theorem d_Mo_type_52 : decode c_Mo_type 52 = .ok (.iastore, 1) := by decide +kernel
theorem d_Mo_type_53 : decode c_Mo_type 53 = .ok (.aload_n 0, 1) := by decide +kernel
theorem d_Mo_type_54 : decode c_Mo_type 54 = .ok (.getfield 13, 3) := by decide +kernel
theorem d_Mo_type_57 : decode c_Mo_type 57 = .ok (.bipush 24, 2) := by decide +kernel
theorem d_Mo_type_59 : decode c_Mo_type 59 = .ok (.iload_n 1, 1) := by decide +kernel
theorem d_Mo_type_60 : decode c_Mo_type 60 = .ok (.iadd, 1) := by decide +kernel
theorem d_Mo_type_61 : decode c_Mo_type 61 = .ok (.dup2, 1) := by decide +kernel
theorem d_Mo_type_62 : decode c_Mo_type 62 = .ok (.iaload, 1) := by decide +kernel
theorem d_Mo_type_63 : decode c_Mo_type 63 = .ok (.iconst 1, 1) := by decide +kernel
theorem d_Mo_type_64 : decode c_Mo_type 64 = .ok (.iadd, 1) := by decide +kernel
theorem d_Mo_type_65 : decode c_Mo_type 65 = .ok (.iastore, 1) := by decide +kernel
theorem d_Mo_type_66 : decode c_Mo_type 66 = .ok (.iconst 1, 1) := by decide +kernel
theorem d_Mo_type_67 : decode c_Mo_type 67 = .ok (.ireturn, 1) := by decide +kernel
theorem d_Mo_add_0 : decode c_Mo_add 0 = .ok (.aload_n 0, 1) := by decide +kernel
theorem d_Mo_add_1 : decode c_Mo_add 1 = .ok (.getfield 65, 3) := by decide +kernel
theorem d_Mo_add_4 : decode c_Mo_add 4 = .ok (.bipush 12, 2) := by decide +kernel
theorem d_Mo_add_6 : decode c_Mo_add 6 = .ok (.if_icmp .ne 6, 3) := by decide +kernel
theorem d_Mo_add_9 : decode c_Mo_add 9 = .ok (.bipush (-2), 2) := by decide +kernel
theorem d_Mo_add_11 : decode c_Mo_add 11 = .ok (.ireturn, 1) := by decide +kernel
theorem d_Mo_add_12 : decode c_Mo_add 12 = .ok (.iconst 0, 1) := by decide +kernel
theorem d_Mo_add_13 : decode c_Mo_add 13 = .ok (.istore_n 1, 1) := by decide +kernel
theorem d_Mo_add_14 : decode c_Mo_add 14 = .ok (.iload_n 1, 1) := by decide +kernel
theorem d_Mo_add_15 : decode c_Mo_add 15 = .ok (.iconst 2, 1) := by decide +kernel
theorem d_Mo_add_16 : decode c_Mo_add 16 = .ok (.if_icmp .ge 86, 3) := by decide +kernel
theorem d_Mo_add_19 : decode c_Mo_add 19 = .ok (.iconst 2, 1) := by decide +kernel
theorem d_Mo_add_20 : decode c_Mo_add 20 = .ok (.aload_n 0, 1) := by decide +kernel
theorem d_Mo_add_21 : decode c_Mo_add 21 = .ok (.getfield 65, 3) := by decide +kernel
theorem d_Mo_add_24 : decode c_Mo_add 24 = .ok (.imul, 1) := by decide +kernel
theorem d_Mo_add_25 : decode c_Mo_add 25 = .ok (.iload_n 1, 1) := by decide +kernel
theorem d_Mo_add_26 : decode c_Mo_add 26 = .ok (.iadd, 1) := by decide +kernel
theorem d_Mo_add_27 : decode c_Mo_add 27 = .ok (.istore_n 2, 1) := by decide +kernel
theorem d_Mo_add_28 : decode c_Mo_add 28 = .ok (.aload_n 0, 1) := by decide +kernel
theorem d_Mo_add_29 : decode c_Mo_add 29 = .ok (.getfield 13, 3) := by decide +kernel
theorem d_Mo_add_32 : decode c_Mo_add 32 = .ok (.iload_n 2, 1) := by decide +kernel
theorem d_Mo_add_33 : decode c_Mo_add 33 = .ok (.aload_n 0, 1) := by decide +kernel
theorem d_Mo_add_34 : decode c_Mo_add 34 = .ok (.getfield 13, 3) := by decide +kernel
theorem d_Mo_add_37 : decode c_Mo_add 37 = .ok (.bipush 24, 2) := by decide +kernel
theorem d_Mo_add_39 : decode c_Mo_add 39 = .ok (.iload_n 1, 1) := by decide +kernel
theorem d_Mo_add_40 : decode c_Mo_add 40 = .ok (.iadd, 1) := by decide +kernel
theorem d_Mo_add_41 : decode c_Mo_add 41 = .ok (.iaload, 1) := by decide +kernel
theorem d_Mo_add_42 : decode c_Mo_add 42 = .ok (.iastore, 1) := by decide +kernel
theorem d_Mo_add_43 : decode c_Mo_add 43 = .ok (.iconst 0, 1) := by decide +kernel
theorem d_Mo_add_44 : decode c_Mo_add 44 = .ok (.istore_n 3, 1) := by decide +kernel
theorem d_Mo_add_45 : decode c_Mo_add 45 = .ok (.iload_n 3, 1) := by decide +kernel
theorem d_Mo_add_46 : decode c_Mo_add 46 = .ok (.aload_n 0, 1) := by decide +kernel
theorem d_Mo_add_47 : decode c_Mo_add 47 = .ok (.getfield 13, 3) := by decide +kernel
theorem d_Mo_add_50 : decode c_Mo_add 50 = .ok (.iload_n 2, 1) := by decide +kernel
theorem d_Mo_add_51 : decode c_Mo_add 51 = .ok (.iaload, 1) := by decide +kernel
theorem d_Mo_add_52 : decode c_Mo_add 52 = .ok (.if_icmp .ge 34, 3) := by decide +kernel
theorem d_Mo_add_55 : decode c_Mo_add 55 = .ok (.aload_n 0, 1) := by decide +kernel
theorem d_Mo_add_56 : decode c_Mo_add 56 = .ok (.getfield 7, 3) := by decide +kernel
theorem d_Mo_add_59 : decode c_Mo_add 59 = .ok (.bipush 12, 2) := by decide +kernel
theorem d_Mo_add_61 : decode c_Mo_add 61 = .ok (.iload_n 2, 1) := by decide +kernel
theorem d_Mo_add_62 : decode c_Mo_add 62 = .ok (.imul, 1) := by decide +kernel
theorem d_Mo_add_63 : decode c_Mo_add 63 = .ok (.iload_n 3, 1) := by decide +kernel
theorem d_Mo_add_64 : decode c_Mo_add 64 = .ok (.iadd, 1) := by decide +kernel
theorem d_Mo_add_65 : decode c_Mo_add 65 = .ok (.aload_n 0, 1) := by decide +kernel
theorem d_Mo_add_66 : decode c_Mo_add 66 = .ok (.getfield 7, 3) := by decide +kernel
theorem d_Mo_add_69 : decode c_Mo_add 69 = .ok (.bipush 12, 2) := by decide +kernel
theorem d_Mo_add_71 : decode c_Mo_add 71 = .ok (.bipush 24, 2) := by decide +kernel
theorem d_Mo_add_73 : decode c_Mo_add 73 = .ok (.iload_n 1, 1) := by decide +kernel
theorem d_Mo_add_74 : decode c_Mo_add 74 = .ok (.iadd, 1) := by decide +kernel
theorem d_Mo_add_75 : decode c_Mo_add 75 = .ok (.imul, 1) := by decide +kernel
theorem d_Mo_add_76 : decode c_Mo_add 76 = .ok (.iload_n 3, 1) := by decide +kernel
theorem d_Mo_add_77 : decode c_Mo_add 77 = .ok (.iadd, 1) := by decide +kernel
theorem d_Mo_add_78 : decode c_Mo_add 78 = .ok (.iaload, 1) := by decide +kernel
theorem d_Mo_add_79 : decode c_Mo_add 79 = .ok (.iastore, 1) := by decide +kernel
theorem d_Mo_add_80 : decode c_Mo_add 80 = .ok (.iinc 3 1, 3) := by decide +kernel
theorem d_Mo_add_83 : decode c_Mo_add 83 = .ok (.goto (-38), 3) := by decide +kernel
theorem d_Mo_add_86 : decode c_Mo_add 86 = .ok (.aload_n 0, 1) := by decide +kernel
theorem d_Mo_add_87 : decode c_Mo_add 87 = .ok (.getfield 13, 3) := by decide +kernel
theorem d_Mo_add_90 : decode c_Mo_add 90 = .ok (.bipush 24, 2) := by decide +kernel
theorem d_Mo_add_92 : decode c_Mo_add 92 = .ok (.iload_n 1, 1) := by decide +kernel
theorem d_Mo_add_93 : decode c_Mo_add 93 = .ok (.iadd, 1) := by decide +kernel
theorem d_Mo_add_94 : decode c_Mo_add 94 = .ok (.iconst 0, 1) := by decide +kernel
theorem d_Mo_add_95 : decode c_Mo_add 95 = .ok (.iastore, 1) := by decide +kernel
theorem d_Mo_add_96 : decode c_Mo_add 96 = .ok (.iinc 1 1, 3) := by decide +kernel
theorem d_Mo_add_99 : decode c_Mo_add 99 = .ok (.goto (-85), 3) := by decide +kernel
theorem d_Mo_add_102 : decode c_Mo_add 102 = .ok (.aload_n 0, 1) := by decide +kernel
theorem d_Mo_add_103 : decode c_Mo_add 103 = .ok (.dup, 1) := by decide +kernel
theorem d_Mo_add_104 : decode c_Mo_add 104 = .ok (.getfield 65, 3) := by decide +kernel
theorem d_Mo_add_107 : decode c_Mo_add 107 = .ok (.iconst 1, 1) := by decide +kernel
theorem d_Mo_add_108 : decode c_Mo_add 108 = .ok (.iadd, 1) := by decide +kernel
theorem d_Mo_add_109 : decode c_Mo_add 109 = .ok (.putfield 65, 3) := by decide +kernel
theorem d_Mo_add_112 : decode c_Mo_add 112 = .ok (.aload_n 0, 1) := by decide +kernel
theorem d_Mo_add_113 : decode c_Mo_add 113 = .ok (.iconst 0, 1) := by decide +kernel
theorem d_Mo_add_114 : decode c_Mo_add 114 = .ok (.putfield 73, 3) := by decide +kernel
theorem d_Mo_add_117 : decode c_Mo_add 117 = .ok (.aload_n 0, 1) := by decide +kernel
theorem d_Mo_add_118 : decode c_Mo_add 118 = .ok (.getfield 65, 3) := by decide +kernel
theorem d_Mo_add_121 : decode c_Mo_add 121 = .ok (.iconst 1, 1) := by decide +kernel
theorem d_Mo_add_122 : decode c_Mo_add 122 = .ok (.isub, 1) := by decide +kernel
theorem d_Mo_add_123 : decode c_Mo_add 123 = .ok (.ireturn, 1) := by decide +kernel
theorem d_Mo_records_0 : decode c_Mo_records 0 = .ok (.aload_n 0, 1) := by decide +kernel
theorem d_Mo_records_1 : decode c_Mo_records 1 = .ok (.getfield 65, 3) := by decide +kernel
theorem d_Mo_records_4 : decode c_Mo_records 4 = .ok (.ireturn, 1) := by decide +kernel
theorem d_Mo_letter_0 : decode c_Mo_letter 0 = .ok (.iload_n 0, 1) := by decide +kernel
theorem d_Mo_letter_1 : decode c_Mo_letter 1 = .ok (.bipush 48, 2) := by decide +kernel
theorem d_Mo_letter_3 : decode c_Mo_letter 3 = .ok (.if_icmp .lt 9, 3) := by decide +kernel
theorem d_Mo_letter_6 : decode c_Mo_letter 6 = .ok (.iload_n 0, 1) := by decide +kernel
theorem d_Mo_letter_7 : decode c_Mo_letter 7 = .ok (.bipush 57, 2) := by decide +kernel
theorem d_Mo_letter_9 : decode c_Mo_letter 9 = .ok (.if_icmp .le 15, 3) := by decide +kernel
theorem d_Mo_letter_12 : decode c_Mo_letter 12 = .ok (.iload_n 0, 1) := by decide +kernel
theorem d_Mo_letter_13 : decode c_Mo_letter 13 = .ok (.bipush 97, 2) := by decide +kernel
theorem d_Mo_letter_15 : decode c_Mo_letter 15 = .ok (.if_icmp .lt 13, 3) := by decide +kernel
theorem d_Mo_letter_18 : decode c_Mo_letter 18 = .ok (.iload_n 0, 1) := by decide +kernel
theorem d_Mo_letter_19 : decode c_Mo_letter 19 = .ok (.bipush 122, 2) := by decide +kernel
theorem d_Mo_letter_21 : decode c_Mo_letter 21 = .ok (.if_icmp .gt 7, 3) := by decide +kernel
theorem d_Mo_letter_24 : decode c_Mo_letter 24 = .ok (.iload_n 0, 1) := by decide +kernel
theorem d_Mo_letter_25 : decode c_Mo_letter 25 = .ok (.goto 23, 3) := by decide +kernel
theorem d_Mo_letter_28 : decode c_Mo_letter 28 = .ok (.iload_n 0, 1) := by decide +kernel
theorem d_Mo_letter_29 : decode c_Mo_letter 29 = .ok (.bipush 65, 2) := by decide +kernel
theorem d_Mo_letter_31 : decode c_Mo_letter 31 = .ok (.if_icmp .lt 16, 3) := by decide +kernel
theorem d_Mo_letter_34 : decode c_Mo_letter 34 = .ok (.iload_n 0, 1) := by decide +kernel
theorem d_Mo_letter_35 : decode c_Mo_letter 35 = .ok (.bipush 90, 2) := by decide +kernel
theorem d_Mo_letter_37 : decode c_Mo_letter 37 = .ok (.if_icmp .gt 10, 3) := by decide +kernel
