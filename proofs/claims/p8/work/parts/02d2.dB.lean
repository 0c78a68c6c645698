theorem dX6_init_0 : decode cX6_init 0 = .ok (.aload_n 0, 1) := by decide +kernel
theorem dX6_init_1 : decode cX6_init 1 = .ok (.invokespecial 1, 3) := by decide +kernel
theorem dX6_init_4 : decode cX6_init 4 = .ok (.aload_n 0, 1) := by decide +kernel
theorem dX6_init_5 : decode cX6_init 5 = .ok (.new 7, 3) := by decide +kernel
theorem dX6_init_8 : decode cX6_init 8 = .ok (.dup, 1) := by decide +kernel
theorem dX6_init_9 : decode cX6_init 9 = .ok (.invokespecial 9, 3) := by decide +kernel
theorem dX6_init_12 : decode cX6_init 12 = .ok (.putfield 10, 3) := by decide +kernel
theorem dX6_init_15 : decode cX6_init 15 = .ok (.aload_n 0, 1) := by decide +kernel
theorem dX6_init_16 : decode cX6_init 16 = .ok (.new 16, 3) := by decide +kernel
theorem dX6_init_19 : decode cX6_init 19 = .ok (.dup, 1) := by decide +kernel
theorem dX6_init_20 : decode cX6_init 20 = .ok (.invokespecial 18, 3) := by decide +kernel
theorem dX6_init_23 : decode cX6_init 23 = .ok (.putfield 19, 3) := by decide +kernel
theorem dX6_init_26 : decode cX6_init 26 = .ok (.aload_n 0, 1) := by decide +kernel
theorem dX6_init_27 : decode cX6_init 27 = .ok (.iconst 2, 1) := by decide +kernel
theorem dX6_init_28 : decode cX6_init 28 = .ok (.anewarray 16, 3) := by decide +kernel
theorem dX6_init_31 : decode cX6_init 31 = .ok (.putfield 23, 3) := by decide +kernel
theorem dX6_init_34 : decode cX6_init 34 = .ok (.aload_n 0, 1) := by decide +kernel
theorem dX6_init_35 : decode cX6_init 35 = .ok (.new 27, 3) := by decide +kernel
theorem dX6_init_38 : decode cX6_init 38 = .ok (.dup, 1) := by decide +kernel
theorem dX6_init_39 : decode cX6_init 39 = .ok (.invokespecial 29, 3) := by decide +kernel
theorem dX6_init_42 : decode cX6_init 42 = .ok (.putfield 30, 3) := by decide +kernel
theorem dX6_init_45 : decode cX6_init 45 = .ok (.aload_n 0, 1) := by decide +kernel
theorem dX6_init_46 : decode cX6_init 46 = .ok (.new 34, 3) := by decide +kernel
theorem dX6_init_49 : decode cX6_init 49 = .ok (.dup, 1) := by decide +kernel
theorem dX6_init_50 : decode cX6_init 50 = .ok (.invokespecial 36, 3) := by decide +kernel
theorem dX6_init_53 : decode cX6_init 53 = .ok (.putfield 37, 3) := by decide +kernel
theorem dX6_init_56 : decode cX6_init 56 = .ok (.aload_n 0, 1) := by decide +kernel
theorem dX6_init_57 : decode cX6_init 57 = .ok (.new 41, 3) := by decide +kernel
theorem dX6_init_60 : decode cX6_init 60 = .ok (.dup, 1) := by decide +kernel
theorem dX6_init_61 : decode cX6_init 61 = .ok (.invokespecial 43, 3) := by decide +kernel
theorem dX6_init_64 : decode cX6_init 64 = .ok (.putfield 44, 3) := by decide +kernel
theorem dX6_init_67 : decode cX6_init 67 = .ok (.return_, 1) := by decide +kernel
theorem dX6_say_0 : decode cX6_say 0 = .ok (.iload_n 1, 1) := by decide +kernel
theorem dX6_say_1 : decode cX6_say 1 = .ok (.bipush 33, 2) := by decide +kernel
theorem dX6_say_3 : decode cX6_say 3 = .ok (.if_icmp .lt 9, 3) := by decide +kernel
theorem dX6_say_6 : decode cX6_say 6 = .ok (.iload_n 1, 1) := by decide +kernel
theorem dX6_say_7 : decode cX6_say 7 = .ok (.bipush 126, 2) := by decide +kernel
theorem dX6_say_9 : decode cX6_say 9 = .ok (.if_icmp .le 6, 3) := by decide +kernel
theorem dX6_say_12 : decode cX6_say 12 = .ok (.bipush (-2), 2) := by decide +kernel
theorem dX6_say_14 : decode cX6_say 14 = .ok (.ireturn, 1) := by decide +kernel
theorem dX6_say_15 : decode cX6_say 15 = .ok (.aload_n 0, 1) := by decide +kernel
theorem dX6_say_16 : decode cX6_say 16 = .ok (.getfield 10, 3) := by decide +kernel
theorem dX6_say_19 : decode cX6_say 19 = .ok (.iload_n 1, 1) := by decide +kernel
theorem dX6_say_20 : decode cX6_say 20 = .ok (.invokevirtual 48, 3) := by decide +kernel
theorem dX6_say_23 : decode cX6_say 23 = .ok (.ifCond .eq 13, 3) := by decide +kernel
theorem dX6_say_26 : decode cX6_say 26 = .ok (.aload_n 0, 1) := by decide +kernel
theorem dX6_say_27 : decode cX6_say 27 = .ok (.getfield 10, 3) := by decide +kernel
theorem dX6_say_30 : decode cX6_say 30 = .ok (.getfield 52, 3) := by decide +kernel
theorem dX6_say_33 : decode cX6_say 33 = .ok (.goto 5, 3) := by decide +kernel
theorem dX6_say_36 : decode cX6_say 36 = .ok (.bipush (-4), 2) := by decide +kernel
theorem dX6_say_38 : decode cX6_say 38 = .ok (.ireturn, 1) := by decide +kernel
theorem dX6_wipe_0 : decode cX6_wipe 0 = .ok (.aload_n 0, 1) := by decide +kernel
theorem dX6_wipe_1 : decode cX6_wipe 1 = .ok (.getfield 10, 3) := by decide +kernel
theorem dX6_wipe_4 : decode cX6_wipe 4 = .ok (.getfield 52, 3) := by decide +kernel
theorem dX6_wipe_7 : decode cX6_wipe 7 = .ok (.istore_n 1, 1) := by decide +kernel
theorem dX6_wipe_8 : decode cX6_wipe 8 = .ok (.aload_n 0, 1) := by decide +kernel
theorem dX6_wipe_9 : decode cX6_wipe 9 = .ok (.getfield 10, 3) := by decide +kernel
theorem dX6_wipe_12 : decode cX6_wipe 12 = .ok (.invokevirtual 56, 3) := by decide +kernel
theorem dX6_wipe_15 : decode cX6_wipe 15 = .ok (.iload_n 1, 1) := by decide +kernel
theorem dX6_wipe_16 : decode cX6_wipe 16 = .ok (.ireturn, 1) := by decide +kernel
theorem dX6_fault_0 : decode cX6_fault 0 = .ok (.iload_n 1, 1) := by decide +kernel
theorem dX6_fault_1 : decode cX6_fault 1 = .ok (.ifCond .ne 11, 3) := by decide +kernel
theorem dX6_fault_4 : decode cX6_fault 4 = .ok (.aload_n 0, 1) := by decide +kernel
theorem dX6_fault_5 : decode cX6_fault 5 = .ok (.getfield 10, 3) := by decide +kernel
theorem dX6_fault_8 : decode cX6_fault 8 = .ok (.invokevirtual 59, 3) := by decide +kernel
theorem dX6_fault_11 : decode cX6_fault 11 = .ok (.ireturn, 1) := by decide +kernel
theorem dX6_fault_12 : decode cX6_fault 12 = .ok (.iload_n 1, 1) := by decide +kernel
theorem dX6_fault_13 : decode cX6_fault 13 = .ok (.iconst 1, 1) := by decide +kernel
theorem dX6_fault_14 : decode cX6_fault 14 = .ok (.if_icmp .ne 13, 3) := by decide +kernel
theorem dX6_fault_17 : decode cX6_fault 17 = .ok (.aload_n 0, 1) := by decide +kernel
theorem dX6_fault_18 : decode cX6_fault 18 = .ok (.getfield 10, 3) := by decide +kernel
theorem dX6_fault_21 : decode cX6_fault 21 = .ok (.invokevirtual 63, 3) := by decide +kernel
theorem dX6_fault_24 : decode cX6_fault 24 = .ok (.goto 5, 3) := by decide +kernel
theorem dX6_fault_27 : decode cX6_fault 27 = .ok (.bipush (-2), 2) := by decide +kernel
theorem dX6_fault_29 : decode cX6_fault 29 = .ok (.ireturn, 1) := by decide +kernel
theorem dX6_learn_0 : decode cX6_learn 0 = .ok (.aload_n 0, 1) := by decide +kernel
theorem dX6_learn_1 : decode cX6_learn 1 = .ok (.getfield 10, 3) := by decide +kernel
theorem dX6_learn_4 : decode cX6_learn 4 = .ok (.invokevirtual 59, 3) := by decide +kernel
theorem dX6_learn_7 : decode cX6_learn 7 = .ok (.bipush (-6), 2) := by decide +kernel
theorem dX6_learn_9 : decode cX6_learn 9 = .ok (.if_icmp .eq 6, 3) := by decide +kernel
theorem dX6_learn_12 : decode cX6_learn 12 = .ok (.bipush (-5), 2) := by decide +kernel
theorem dX6_learn_14 : decode cX6_learn 14 = .ok (.ireturn, 1) := by decide +kernel
theorem dX6_learn_15 : decode cX6_learn 15 = .ok (.aload_n 0, 1) := by decide +kernel
theorem dX6_learn_16 : decode cX6_learn 16 = .ok (.getfield 19, 3) := by decide +kernel
theorem dX6_learn_19 : decode cX6_learn 19 = .ok (.getfield 66, 3) := by decide +kernel
theorem dX6_learn_22 : decode cX6_learn 22 = .ok (.aload_n 0, 1) := by decide +kernel
theorem dX6_learn_23 : decode cX6_learn 23 = .ok (.getfield 10, 3) := by decide +kernel
theorem dX6_learn_26 : decode cX6_learn 26 = .ok (.invokevirtual 70, 3) := by decide +kernel
theorem dX6_learn_29 : decode cX6_learn 29 = .ok (.istore_n 1, 1) := by decide +kernel
theorem dX6_learn_30 : decode cX6_learn 30 = .ok (.iload_n 1, 1) := by decide +kernel
theorem dX6_learn_31 : decode cX6_learn 31 = .ok (.bipush (-4), 2) := by decide +kernel
theorem dX6_learn_33 : decode cX6_learn 33 = .ok (.if_icmp .ne 6, 3) := by decide +kernel
theorem dX6_learn_36 : decode cX6_learn 36 = .ok (.bipush (-4), 2) := by decide +kernel
theorem dX6_learn_38 : decode cX6_learn 38 = .ok (.ireturn, 1) := by decide +kernel
theorem dX6_learn_39 : decode cX6_learn 39 = .ok (.aload_n 0, 1) := by decide +kernel
theorem dX6_learn_40 : decode cX6_learn 40 = .ok (.getfield 10, 3) := by decide +kernel
theorem dX6_learn_43 : decode cX6_learn 43 = .ok (.invokevirtual 56, 3) := by decide +kernel
theorem dX6_learn_46 : decode cX6_learn 46 = .ok (.aload_n 0, 1) := by decide +kernel
theorem dX6_learn_47 : decode cX6_learn 47 = .ok (.invokevirtual 76, 3) := by decide +kernel
theorem dX6_learn_50 : decode cX6_learn 50 = .ok (.iload_n 1, 1) := by decide +kernel
theorem dX6_learn_51 : decode cX6_learn 51 = .ok (.ireturn, 1) := by decide +kernel
theorem dX6_forget_0 : decode cX6_forget 0 = .ok (.aload_n 0, 1) := by decide +kernel
theorem dX6_forget_1 : decode cX6_forget 1 = .ok (.getfield 19, 3) := by decide +kernel
theorem dX6_forget_4 : decode cX6_forget 4 = .ok (.getfield 66, 3) := by decide +kernel
theorem dX6_forget_7 : decode cX6_forget 7 = .ok (.iload_n 1, 1) := by decide +kernel
theorem dX6_forget_8 : decode cX6_forget 8 = .ok (.invokevirtual 79, 3) := by decide +kernel
theorem dX6_forget_11 : decode cX6_forget 11 = .ok (.ifCond .ne 5, 3) := by decide +kernel
theorem dX6_forget_14 : decode cX6_forget 14 = .ok (.iconst (-1), 1) := by decide +kernel
theorem dX6_forget_15 : decode cX6_forget 15 = .ok (.ireturn, 1) := by decide +kernel
theorem dX6_forget_16 : decode cX6_forget 16 = .ok (.aload_n 0, 1) := by decide +kernel
theorem dX6_forget_17 : decode cX6_forget 17 = .ok (.getfield 19, 3) := by decide +kernel
theorem dX6_forget_20 : decode cX6_forget 20 = .ok (.getfield 66, 3) := by decide +kernel
theorem dX6_forget_23 : decode cX6_forget 23 = .ok (.iload_n 1, 1) := by decide +kernel
theorem dX6_forget_24 : decode cX6_forget 24 = .ok (.invokevirtual 82, 3) := by decide +kernel
theorem dX6_forget_27 : decode cX6_forget 27 = .ok (.aload_n 0, 1) := by decide +kernel
theorem dX6_forget_28 : decode cX6_forget 28 = .ok (.invokevirtual 76, 3) := by decide +kernel
theorem dX6_forget_31 : decode cX6_forget 31 = .ok (.aload_n 0, 1) := by decide +kernel
theorem dX6_forget_32 : decode cX6_forget 32 = .ok (.getfield 19, 3) := by decide +kernel
theorem dX6_forget_35 : decode cX6_forget 35 = .ok (.getfield 66, 3) := by decide +kernel
theorem dX6_forget_38 : decode cX6_forget 38 = .ok (.getfield 86, 3) := by decide +kernel
theorem dX6_forget_41 : decode cX6_forget 41 = .ok (.ireturn, 1) := by decide +kernel
theorem dX6_word_0 : decode cX6_word 0 = .ok (.aload_n 0, 1) := by decide +kernel
theorem dX6_word_1 : decode cX6_word 1 = .ok (.getfield 19, 3) := by decide +kernel
theorem dX6_word_4 : decode cX6_word 4 = .ok (.getfield 66, 3) := by decide +kernel
theorem dX6_word_7 : decode cX6_word 7 = .ok (.iload_n 1, 1) := by decide +kernel
theorem dX6_word_8 : decode cX6_word 8 = .ok (.invokevirtual 79, 3) := by decide +kernel
theorem dX6_word_11 : decode cX6_word 11 = .ok (.ifCond .ne 5, 3) := by decide +kernel
theorem dX6_word_14 : decode cX6_word 14 = .ok (.iconst (-1), 1) := by decide +kernel
theorem dX6_word_15 : decode cX6_word 15 = .ok (.ireturn, 1) := by decide +kernel
theorem dX6_word_16 : decode cX6_word 16 = .ok (.iload_n 2, 1) := by decide +kernel
theorem dX6_word_17 : decode cX6_word 17 = .ok (.ifCond .ge 8, 3) := by decide +kernel
theorem dX6_word_20 : decode cX6_word 20 = .ok (.bipush (-2), 2) := by decide +kernel
theorem dX6_word_22 : decode cX6_word 22 = .ok (.goto 15, 3) := by decide +kernel
theorem dX6_word_25 : decode cX6_word 25 = .ok (.aload_n 0, 1) := by decide +kernel
theorem dX6_word_26 : decode cX6_word 26 = .ok (.getfield 19, 3) := by decide +kernel
theorem dX6_word_29 : decode cX6_word 29 = .ok (.getfield 66, 3) := by decide +kernel
theorem dX6_word_32 : decode cX6_word 32 = .ok (.iload_n 1, 1) := by decide +kernel
theorem dX6_word_33 : decode cX6_word 33 = .ok (.iload_n 2, 1) := by decide +kernel
theorem dX6_word_34 : decode cX6_word 34 = .ok (.invokevirtual 87, 3) := by decide +kernel
theorem dX6_word_37 : decode cX6_word 37 = .ok (.ireturn, 1) := by decide +kernel
theorem dX6_line_0 : decode cX6_line 0 = .ok (.aload_n 0, 1) := by decide +kernel
theorem dX6_line_1 : decode cX6_line 1 = .ok (.getfield 10, 3) := by decide +kernel
theorem dX6_line_4 : decode cX6_line 4 = .ok (.invokevirtual 63, 3) := by decide +kernel
theorem dX6_line_7 : decode cX6_line 7 = .ok (.bipush (-6), 2) := by decide +kernel
theorem dX6_line_9 : decode cX6_line 9 = .ok (.if_icmp .eq 6, 3) := by decide +kernel
theorem dX6_line_12 : decode cX6_line 12 = .ok (.bipush (-5), 2) := by decide +kernel
theorem dX6_line_14 : decode cX6_line 14 = .ok (.ireturn, 1) := by decide +kernel
theorem dX6_line_15 : decode cX6_line 15 = .ok (.aload_n 0, 1) := by decide +kernel
theorem dX6_line_16 : decode cX6_line 16 = .ok (.getfield 19, 3) := by decide +kernel
theorem dX6_line_19 : decode cX6_line 19 = .ok (.aload_n 0, 1) := by decide +kernel
theorem dX6_line_20 : decode cX6_line 20 = .ok (.getfield 10, 3) := by decide +kernel
theorem dX6_line_23 : decode cX6_line 23 = .ok (.invokevirtual 91, 3) := by decide +kernel
theorem dX6_line_26 : decode cX6_line 26 = .ok (.aload_n 0, 1) := by decide +kernel
theorem dX6_line_27 : decode cX6_line 27 = .ok (.getfield 10, 3) := by decide +kernel
theorem dX6_line_30 : decode cX6_line 30 = .ok (.invokevirtual 56, 3) := by decide +kernel
theorem dX6_line_33 : decode cX6_line 33 = .ok (.aload_n 0, 1) := by decide +kernel
theorem dX6_line_34 : decode cX6_line 34 = .ok (.invokevirtual 76, 3) := by decide +kernel
theorem dX6_line_37 : decode cX6_line 37 = .ok (.aload_n 0, 1) := by decide +kernel
theorem dX6_line_38 : decode cX6_line 38 = .ok (.getfield 19, 3) := by decide +kernel
theorem dX6_line_41 : decode cX6_line 41 = .ok (.getfield 95, 3) := by decide +kernel
theorem dX6_line_44 : decode cX6_line 44 = .ok (.ireturn, 1) := by decide +kernel
theorem dX6_join_0 : decode cX6_join 0 = .ok (.iload_n 1, 1) := by decide +kernel
theorem dX6_join_1 : decode cX6_join 1 = .ok (.iload_n 2, 1) := by decide +kernel
theorem dX6_join_2 : decode cX6_join 2 = .ok (.invokestatic 98, 3) := by decide +kernel
theorem dX6_join_5 : decode cX6_join 5 = .ok (.ifCond .ne 5, 3) := by decide +kernel
theorem dX6_join_8 : decode cX6_join 8 = .ok (.iconst (-1), 1) := by decide +kernel
theorem dX6_join_9 : decode cX6_join 9 = .ok (.ireturn, 1) := by decide +kernel
theorem dX6_join_10 : decode cX6_join 10 = .ok (.iload_n 3, 1) := by decide +kernel
theorem dX6_join_11 : decode cX6_join 11 = .ok (.ifCond .lt 9, 3) := by decide +kernel
theorem dX6_join_14 : decode cX6_join 14 = .ok (.iload_n 3, 1) := by decide +kernel
theorem dX6_join_15 : decode cX6_join 15 = .ok (.bipush 99, 2) := by decide +kernel
theorem dX6_join_17 : decode cX6_join 17 = .ok (.if_icmp .le 6, 3) := by decide +kernel
theorem dX6_join_20 : decode cX6_join 20 = .ok (.bipush (-2), 2) := by decide +kernel
theorem dX6_join_22 : decode cX6_join 22 = .ok (.ireturn, 1) := by decide +kernel
theorem dX6_join_23 : decode cX6_join 23 = .ok (.iload_n 1, 1) := by decide +kernel
theorem dX6_join_24 : decode cX6_join 24 = .ok (.iconst 5, 1) := by decide +kernel
theorem dX6_join_25 : decode cX6_join 25 = .ok (.imul, 1) := by decide +kernel
theorem dX6_join_26 : decode cX6_join 26 = .ok (.iload_n 2, 1) := by decide +kernel
theorem dX6_join_27 : decode cX6_join 27 = .ok (.iadd, 1) := by decide +kernel
theorem dX6_join_28 : decode cX6_join 28 = .ok (.istore 4, 2) := by decide +kernel
theorem dX6_join_30 : decode cX6_join 30 = .ok (.aload_n 0, 1) := by decide +kernel
theorem dX6_join_31 : decode cX6_join 31 = .ok (.getfield 19, 3) := by decide +kernel
theorem dX6_join_34 : decode cX6_join 34 = .ok (.getfield 102, 3) := by decide +kernel
theorem dX6_join_37 : decode cX6_join 37 = .ok (.iload 4, 2) := by decide +kernel
theorem dX6_join_39 : decode cX6_join 39 = .ok (.iaload, 1) := by decide +kernel
theorem dX6_join_40 : decode cX6_join 40 = .ok (.istore 5, 2) := by decide +kernel
theorem dX6_join_42 : decode cX6_join 42 = .ok (.aload_n 0, 1) := by decide +kernel
theorem dX6_join_43 : decode cX6_join 43 = .ok (.getfield 19, 3) := by decide +kernel
theorem dX6_join_46 : decode cX6_join 46 = .ok (.getfield 102, 3) := by decide +kernel
theorem dX6_join_49 : decode cX6_join 49 = .ok (.iload 4, 2) := by decide +kernel
theorem dX6_join_51 : decode cX6_join 51 = .ok (.iload_n 3, 1) := by decide +kernel
theorem dX6_join_52 : decode cX6_join 52 = .ok (.iastore, 1) := by decide +kernel
theorem dX6_join_53 : decode cX6_join 53 = .ok (.aload_n 0, 1) := by decide +kernel
theorem dX6_join_54 : decode cX6_join 54 = .ok (.invokevirtual 76, 3) := by decide +kernel
theorem dX6_join_57 : decode cX6_join 57 = .ok (.iload 5, 2) := by decide +kernel
theorem dX6_join_59 : decode cX6_join 59 = .ok (.ireturn, 1) := by decide +kernel
theorem dX6_rule_0 : decode cX6_rule 0 = .ok (.iload_n 1, 1) := by decide +kernel
theorem dX6_rule_1 : decode cX6_rule 1 = .ok (.ifCond .lt 21, 3) := by decide +kernel
theorem dX6_rule_4 : decode cX6_rule 4 = .ok (.iload_n 1, 1) := by decide +kernel
theorem dX6_rule_5 : decode cX6_rule 5 = .ok (.iconst 4, 1) := by decide +kernel
theorem dX6_rule_6 : decode cX6_rule 6 = .ok (.if_icmp .ge 16, 3) := by decide +kernel
theorem dX6_rule_9 : decode cX6_rule 9 = .ok (.iload_n 2, 1) := by decide +kernel
theorem dX6_rule_10 : decode cX6_rule 10 = .ok (.ifCond .lt 12, 3) := by decide +kernel
theorem dX6_rule_13 : decode cX6_rule 13 = .ok (.iload_n 2, 1) := by decide +kernel
theorem dX6_rule_14 : decode cX6_rule 14 = .ok (.getstatic 106, 3) := by decide +kernel
theorem dX6_rule_17 : decode cX6_rule 17 = .ok (.iload_n 1, 1) := by decide +kernel
theorem dX6_rule_18 : decode cX6_rule 18 = .ok (.iaload, 1) := by decide +kernel
theorem dX6_rule_19 : decode cX6_rule 19 = .ok (.if_icmp .le 6, 3) := by decide +kernel
theorem dX6_rule_22 : decode cX6_rule 22 = .ok (.bipush (-2), 2) := by decide +kernel
theorem dX6_rule_24 : decode cX6_rule 24 = .ok (.ireturn, 1) := by decide +kernel
theorem dX6_rule_25 : decode cX6_rule 25 = .ok (.aload_n 0, 1) := by decide +kernel
theorem dX6_rule_26 : decode cX6_rule 26 = .ok (.getfield 19, 3) := by decide +kernel
theorem dX6_rule_29 : decode cX6_rule 29 = .ok (.getfield 109, 3) := by decide +kernel
theorem dX6_rule_32 : decode cX6_rule 32 = .ok (.iload_n 1, 1) := by decide +kernel
theorem dX6_rule_33 : decode cX6_rule 33 = .ok (.iaload, 1) := by decide +kernel
theorem dX6_rule_34 : decode cX6_rule 34 = .ok (.istore_n 3, 1) := by decide +kernel
theorem dX6_rule_35 : decode cX6_rule 35 = .ok (.aload_n 0, 1) := by decide +kernel
theorem dX6_rule_36 : decode cX6_rule 36 = .ok (.getfield 19, 3) := by decide +kernel
theorem dX6_rule_39 : decode cX6_rule 39 = .ok (.getfield 109, 3) := by decide +kernel
theorem dX6_rule_42 : decode cX6_rule 42 = .ok (.iload_n 1, 1) := by decide +kernel
theorem dX6_rule_43 : decode cX6_rule 43 = .ok (.iload_n 2, 1) := by decide +kernel
theorem dX6_rule_44 : decode cX6_rule 44 = .ok (.iastore, 1) := by decide +kernel
theorem dX6_rule_45 : decode cX6_rule 45 = .ok (.aload_n 0, 1) := by decide +kernel
theorem dX6_rule_46 : decode cX6_rule 46 = .ok (.invokevirtual 76, 3) := by decide +kernel
theorem dX6_rule_49 : decode cX6_rule 49 = .ok (.iload_n 3, 1) := by decide +kernel
theorem dX6_rule_50 : decode cX6_rule 50 = .ok (.ireturn, 1) := by decide +kernel
theorem dX6_pieces_0 : decode cX6_pieces 0 = .ok (.aload_n 0, 1) := by decide +kernel
theorem dX6_pieces_1 : decode cX6_pieces 1 = .ok (.invokevirtual 112, 3) := by decide +kernel
theorem dX6_pieces_4 : decode cX6_pieces 4 = .ok (.ifCond .ne 6, 3) := by decide +kernel
theorem dX6_pieces_7 : decode cX6_pieces 7 = .ok (.bipush (-5), 2) := by decide +kernel
theorem dX6_pieces_9 : decode cX6_pieces 9 = .ok (.ireturn, 1) := by decide +kernel
theorem dX6_pieces_10 : decode cX6_pieces 10 = .ok (.aload_n 0, 1) := by decide +kernel
theorem dX6_pieces_11 : decode cX6_pieces 11 = .ok (.invokevirtual 116, 3) := by decide +kernel
theorem dX6_pieces_14 : decode cX6_pieces 14 = .ok (.aload_n 0, 1) := by decide +kernel
theorem dX6_pieces_15 : decode cX6_pieces 15 = .ok (.getfield 30, 3) := by decide +kernel
theorem dX6_pieces_18 : decode cX6_pieces 18 = .ok (.getfield 119, 3) := by decide +kernel
theorem dX6_pieces_21 : decode cX6_pieces 21 = .ok (.ireturn, 1) := by decide +kernel
theorem dX6_piece_0 : decode cX6_piece 0 = .ok (.aload_n 0, 1) := by decide +kernel
theorem dX6_piece_1 : decode cX6_piece 1 = .ok (.invokevirtual 112, 3) := by decide +kernel
theorem dX6_piece_4 : decode cX6_piece 4 = .ok (.ifCond .ne 6, 3) := by decide +kernel
theorem dX6_piece_7 : decode cX6_piece 7 = .ok (.bipush (-5), 2) := by decide +kernel
theorem dX6_piece_9 : decode cX6_piece 9 = .ok (.ireturn, 1) := by decide +kernel
theorem dX6_piece_10 : decode cX6_piece 10 = .ok (.aload_n 0, 1) := by decide +kernel
theorem dX6_piece_11 : decode cX6_piece 11 = .ok (.invokevirtual 116, 3) := by decide +kernel
theorem dX6_piece_14 : decode cX6_piece 14 = .ok (.iload_n 1, 1) := by decide +kernel
theorem dX6_piece_15 : decode cX6_piece 15 = .ok (.ifCond .lt 14, 3) := by decide +kernel
theorem dX6_piece_18 : decode cX6_piece 18 = .ok (.iload_n 1, 1) := by decide +kernel
theorem dX6_piece_19 : decode cX6_piece 19 = .ok (.aload_n 0, 1) := by decide +kernel
theorem dX6_piece_20 : decode cX6_piece 20 = .ok (.getfield 30, 3) := by decide +kernel
theorem dX6_piece_23 : decode cX6_piece 23 = .ok (.getfield 119, 3) := by decide +kernel
theorem dX6_piece_26 : decode cX6_piece 26 = .ok (.if_icmp .lt 5, 3) := by decide +kernel
theorem dX6_piece_29 : decode cX6_piece 29 = .ok (.iconst (-1), 1) := by decide +kernel
theorem dX6_piece_30 : decode cX6_piece 30 = .ok (.ireturn, 1) := by decide +kernel
theorem dX6_piece_31 : decode cX6_piece 31 = .ok (.iload_n 2, 1) := by decide +kernel
theorem dX6_piece_32 : decode cX6_piece 32 = .ok (.tableswitch 107 0 5 #[40, 50, 60, 70, 80, 90], 40) := by decide +kernel
theorem dX6_piece_72 : decode cX6_piece 72 = .ok (.aload_n 0, 1) := by decide +kernel
theorem dX6_piece_73 : decode cX6_piece 73 = .ok (.getfield 30, 3) := by decide +kernel
theorem dX6_piece_76 : decode cX6_piece 76 = .ok (.getfield 120, 3) := by decide +kernel
theorem dX6_piece_79 : decode cX6_piece 79 = .ok (.iload_n 1, 1) := by decide +kernel
theorem dX6_piece_80 : decode cX6_piece 80 = .ok (.iaload, 1) := by decide +kernel
theorem dX6_piece_81 : decode cX6_piece 81 = .ok (.ireturn, 1) := by decide +kernel
theorem dX6_piece_82 : decode cX6_piece 82 = .ok (.aload_n 0, 1) := by decide +kernel
theorem dX6_piece_83 : decode cX6_piece 83 = .ok (.getfield 30, 3) := by decide +kernel
theorem dX6_piece_86 : decode cX6_piece 86 = .ok (.getfield 123, 3) := by decide +kernel
theorem dX6_piece_89 : decode cX6_piece 89 = .ok (.iload_n 1, 1) := by decide +kernel
theorem dX6_piece_90 : decode cX6_piece 90 = .ok (.iaload, 1) := by decide +kernel
theorem dX6_piece_91 : decode cX6_piece 91 = .ok (.ireturn, 1) := by decide +kernel
theorem dX6_piece_92 : decode cX6_piece 92 = .ok (.aload_n 0, 1) := by decide +kernel
theorem dX6_piece_93 : decode cX6_piece 93 = .ok (.getfield 30, 3) := by decide +kernel
theorem dX6_piece_96 : decode cX6_piece 96 = .ok (.getfield 126, 3) := by decide +kernel
theorem dX6_piece_99 : decode cX6_piece 99 = .ok (.iload_n 1, 1) := by decide +kernel
theorem dX6_piece_100 : decode cX6_piece 100 = .ok (.iaload, 1) := by decide +kernel
theorem dX6_piece_101 : decode cX6_piece 101 = .ok (.ireturn, 1) := by decide +kernel
theorem dX6_piece_102 : decode cX6_piece 102 = .ok (.aload_n 0, 1) := by decide +kernel
theorem dX6_piece_103 : decode cX6_piece 103 = .ok (.getfield 30, 3) := by decide +kernel
theorem dX6_piece_106 : decode cX6_piece 106 = .ok (.getfield 129, 3) := by decide +kernel
theorem dX6_piece_109 : decode cX6_piece 109 = .ok (.iload_n 1, 1) := by decide +kernel
theorem dX6_piece_110 : decode cX6_piece 110 = .ok (.iaload, 1) := by decide +kernel
theorem dX6_piece_111 : decode cX6_piece 111 = .ok (.ireturn, 1) := by decide +kernel
theorem dX6_piece_112 : decode cX6_piece 112 = .ok (.aload_n 0, 1) := by decide +kernel
theorem dX6_piece_113 : decode cX6_piece 113 = .ok (.getfield 30, 3) := by decide +kernel
theorem dX6_piece_116 : decode cX6_piece 116 = .ok (.getfield 132, 3) := by decide +kernel
theorem dX6_piece_119 : decode cX6_piece 119 = .ok (.iload_n 1, 1) := by decide +kernel
theorem dX6_piece_120 : decode cX6_piece 120 = .ok (.iaload, 1) := by decide +kernel
theorem dX6_piece_121 : decode cX6_piece 121 = .ok (.ireturn, 1) := by decide +kernel
theorem dX6_piece_122 : decode cX6_piece 122 = .ok (.aload_n 0, 1) := by decide +kernel
theorem dX6_piece_123 : decode cX6_piece 123 = .ok (.invokevirtual 135, 3) := by decide +kernel
theorem dX6_piece_126 : decode cX6_piece 126 = .ok (.aload_n 0, 1) := by decide +kernel
theorem dX6_piece_127 : decode cX6_piece 127 = .ok (.getfield 37, 3) := by decide +kernel
theorem dX6_piece_130 : decode cX6_piece 130 = .ok (.aload_n 0, 1) := by decide +kernel
theorem dX6_piece_131 : decode cX6_piece 131 = .ok (.getfield 30, 3) := by decide +kernel
theorem dX6_piece_134 : decode cX6_piece 134 = .ok (.iload_n 1, 1) := by decide +kernel
theorem dX6_piece_135 : decode cX6_piece 135 = .ok (.invokevirtual 138, 3) := by decide +kernel
theorem dX6_piece_138 : decode cX6_piece 138 = .ok (.ireturn, 1) := by decide +kernel
theorem dX6_piece_139 : decode cX6_piece 139 = .ok (.bipush (-2), 2) := by decide +kernel
theorem dX6_piece_141 : decode cX6_piece 141 = .ok (.ireturn, 1) := by decide +kernel
theorem dX6_ways_0 : decode cX6_ways 0 = .ok (.aload_n 0, 1) := by decide +kernel
theorem dX6_ways_1 : decode cX6_ways 1 = .ok (.invokevirtual 112, 3) := by decide +kernel
theorem dX6_ways_4 : decode cX6_ways 4 = .ok (.ifCond .ne 6, 3) := by decide +kernel
theorem dX6_ways_7 : decode cX6_ways 7 = .ok (.bipush (-5), 2) := by decide +kernel
theorem dX6_ways_9 : decode cX6_ways 9 = .ok (.ireturn, 1) := by decide +kernel
theorem dX6_ways_10 : decode cX6_ways 10 = .ok (.aload_n 0, 1) := by decide +kernel
theorem dX6_ways_11 : decode cX6_ways 11 = .ok (.invokevirtual 116, 3) := by decide +kernel
theorem dX6_ways_14 : decode cX6_ways 14 = .ok (.aload_n 0, 1) := by decide +kernel
theorem dX6_ways_15 : decode cX6_ways 15 = .ok (.getfield 30, 3) := by decide +kernel
theorem dX6_ways_18 : decode cX6_ways 18 = .ok (.invokevirtual 142, 3) := by decide +kernel
theorem dX6_ways_21 : decode cX6_ways 21 = .ok (.ireturn, 1) := by decide +kernel
theorem dX6_cutting_0 : decode cX6_cutting 0 = .ok (.aload_n 0, 1) := by decide +kernel
theorem dX6_cutting_1 : decode cX6_cutting 1 = .ok (.invokevirtual 112, 3) := by decide +kernel
theorem dX6_cutting_4 : decode cX6_cutting 4 = .ok (.ifCond .ne 6, 3) := by decide +kernel
theorem dX6_cutting_7 : decode cX6_cutting 7 = .ok (.bipush (-5), 2) := by decide +kernel
theorem dX6_cutting_9 : decode cX6_cutting 9 = .ok (.ireturn, 1) := by decide +kernel
theorem dX6_cutting_10 : decode cX6_cutting 10 = .ok (.iload_n 1, 1) := by decide +kernel
theorem dX6_cutting_11 : decode cX6_cutting 11 = .ok (.ifCond .lt 9, 3) := by decide +kernel
theorem dX6_cutting_14 : decode cX6_cutting 14 = .ok (.iload_n 1, 1) := by decide +kernel
theorem dX6_cutting_15 : decode cX6_cutting 15 = .ok (.bipush 12, 2) := by decide +kernel
theorem dX6_cutting_17 : decode cX6_cutting 17 = .ok (.if_icmp .lt 5, 3) := by decide +kernel
theorem dX6_cutting_20 : decode cX6_cutting 20 = .ok (.iconst (-1), 1) := by decide +kernel
theorem dX6_cutting_21 : decode cX6_cutting 21 = .ok (.ireturn, 1) := by decide +kernel
theorem dX6_cutting_22 : decode cX6_cutting 22 = .ok (.iload_n 2, 1) := by decide +kernel
theorem dX6_cutting_23 : decode cX6_cutting 23 = .ok (.bipush (-2), 2) := by decide +kernel
theorem dX6_cutting_25 : decode cX6_cutting 25 = .ok (.if_icmp .ge 6, 3) := by decide +kernel
theorem dX6_cutting_28 : decode cX6_cutting 28 = .ok (.bipush (-2), 2) := by decide +kernel
theorem dX6_cutting_30 : decode cX6_cutting 30 = .ok (.ireturn, 1) := by decide +kernel
theorem dX6_cutting_31 : decode cX6_cutting 31 = .ok (.aload_n 0, 1) := by decide +kernel
theorem dX6_cutting_32 : decode cX6_cutting 32 = .ok (.invokevirtual 135, 3) := by decide +kernel
theorem dX6_cutting_35 : decode cX6_cutting 35 = .ok (.iload_n 1, 1) := by decide +kernel
theorem dX6_cutting_36 : decode cX6_cutting 36 = .ok (.aload_n 0, 1) := by decide +kernel
theorem dX6_cutting_37 : decode cX6_cutting 37 = .ok (.getfield 37, 3) := by decide +kernel
theorem dX6_cutting_40 : decode cX6_cutting 40 = .ok (.invokevirtual 145, 3) := by decide +kernel
theorem dX6_cutting_43 : decode cX6_cutting 43 = .ok (.if_icmp .lt 6, 3) := by decide +kernel
theorem dX6_cutting_46 : decode cX6_cutting 46 = .ok (.bipush (-6), 2) := by decide +kernel
theorem dX6_cutting_48 : decode cX6_cutting 48 = .ok (.ireturn, 1) := by decide +kernel
theorem dX6_cutting_49 : decode cX6_cutting 49 = .ok (.iload_n 2, 1) := by decide +kernel
theorem dX6_cutting_50 : decode cX6_cutting 50 = .ok (.iconst (-1), 1) := by decide +kernel
theorem dX6_cutting_51 : decode cX6_cutting 51 = .ok (.if_icmp .ne 12, 3) := by decide +kernel
theorem dX6_cutting_54 : decode cX6_cutting 54 = .ok (.aload_n 0, 1) := by decide +kernel
theorem dX6_cutting_55 : decode cX6_cutting 55 = .ok (.getfield 37, 3) := by decide +kernel
theorem dX6_cutting_58 : decode cX6_cutting 58 = .ok (.iload_n 1, 1) := by decide +kernel
theorem dX6_cutting_59 : decode cX6_cutting 59 = .ok (.invokevirtual 148, 3) := by decide +kernel
theorem dX6_cutting_62 : decode cX6_cutting 62 = .ok (.ireturn, 1) := by decide +kernel
theorem dX6_cutting_63 : decode cX6_cutting 63 = .ok (.aload_n 0, 1) := by decide +kernel
theorem dX6_cutting_64 : decode cX6_cutting 64 = .ok (.getfield 37, 3) := by decide +kernel
theorem dX6_cutting_67 : decode cX6_cutting 67 = .ok (.aload_n 0, 1) := by decide +kernel
theorem dX6_cutting_68 : decode cX6_cutting 68 = .ok (.getfield 30, 3) := by decide +kernel
theorem dX6_cutting_71 : decode cX6_cutting 71 = .ok (.iload_n 1, 1) := by decide +kernel
theorem dX6_cutting_72 : decode cX6_cutting 72 = .ok (.invokevirtual 152, 3) := by decide +kernel
theorem dX6_cutting_75 : decode cX6_cutting 75 = .ok (.istore_n 3, 1) := by decide +kernel
theorem dX6_cutting_76 : decode cX6_cutting 76 = .ok (.iload_n 2, 1) := by decide +kernel
theorem dX6_cutting_77 : decode cX6_cutting 77 = .ok (.bipush (-2), 2) := by decide +kernel
theorem dX6_cutting_79 : decode cX6_cutting 79 = .ok (.if_icmp .ne 5, 3) := by decide +kernel
theorem dX6_cutting_82 : decode cX6_cutting 82 = .ok (.iload_n 3, 1) := by decide +kernel
theorem dX6_cutting_83 : decode cX6_cutting 83 = .ok (.ireturn, 1) := by decide +kernel
theorem dX6_cutting_84 : decode cX6_cutting 84 = .ok (.iload_n 2, 1) := by decide +kernel
theorem dX6_cutting_85 : decode cX6_cutting 85 = .ok (.iload_n 3, 1) := by decide +kernel
theorem dX6_cutting_86 : decode cX6_cutting 86 = .ok (.if_icmp .ge 15, 3) := by decide +kernel
theorem dX6_cutting_89 : decode cX6_cutting 89 = .ok (.aload_n 0, 1) := by decide +kernel
theorem dX6_cutting_90 : decode cX6_cutting 90 = .ok (.getfield 37, 3) := by decide +kernel
theorem dX6_cutting_93 : decode cX6_cutting 93 = .ok (.getfield 155, 3) := by decide +kernel
theorem dX6_cutting_96 : decode cX6_cutting 96 = .ok (.iload_n 2, 1) := by decide +kernel
theorem dX6_cutting_97 : decode cX6_cutting 97 = .ok (.iaload, 1) := by decide +kernel
theorem dX6_cutting_98 : decode cX6_cutting 98 = .ok (.goto 5, 3) := by decide +kernel
theorem dX6_cutting_101 : decode cX6_cutting 101 = .ok (.bipush (-6), 2) := by decide +kernel
theorem dX6_cutting_103 : decode cX6_cutting 103 = .ok (.ireturn, 1) := by decide +kernel
theorem dX6_sure_0 : decode cX6_sure 0 = .ok (.iload_n 1, 1) := by decide +kernel
theorem dX6_sure_1 : decode cX6_sure 1 = .ok (.ifCond .lt 10, 3) := by decide +kernel
theorem dX6_sure_4 : decode cX6_sure 4 = .ok (.iload_n 1, 1) := by decide +kernel
theorem dX6_sure_5 : decode cX6_sure 5 = .ok (.sipush 999, 3) := by decide +kernel
theorem dX6_sure_8 : decode cX6_sure 8 = .ok (.if_icmp .le 6, 3) := by decide +kernel
theorem dX6_sure_11 : decode cX6_sure 11 = .ok (.bipush (-2), 2) := by decide +kernel
theorem dX6_sure_13 : decode cX6_sure 13 = .ok (.ireturn, 1) := by decide +kernel
theorem dX6_sure_14 : decode cX6_sure 14 = .ok (.aload_n 0, 1) := by decide +kernel
theorem dX6_sure_15 : decode cX6_sure 15 = .ok (.invokevirtual 112, 3) := by decide +kernel
theorem dX6_sure_18 : decode cX6_sure 18 = .ok (.ifCond .ne 6, 3) := by decide +kernel
theorem dX6_sure_21 : decode cX6_sure 21 = .ok (.bipush (-5), 2) := by decide +kernel
theorem dX6_sure_23 : decode cX6_sure 23 = .ok (.ireturn, 1) := by decide +kernel
theorem dX6_sure_24 : decode cX6_sure 24 = .ok (.aload_n 0, 1) := by decide +kernel
theorem dX6_sure_25 : decode cX6_sure 25 = .ok (.invokevirtual 135, 3) := by decide +kernel
theorem dX6_sure_28 : decode cX6_sure 28 = .ok (.aload_n 0, 1) := by decide +kernel
theorem dX6_sure_29 : decode cX6_sure 29 = .ok (.getfield 37, 3) := by decide +kernel
theorem dX6_sure_32 : decode cX6_sure 32 = .ok (.invokevirtual 145, 3) := by decide +kernel
theorem dX6_sure_35 : decode cX6_sure 35 = .ok (.ifCond .ne 8, 3) := by decide +kernel
theorem dX6_sure_38 : decode cX6_sure 38 = .ok (.bipush (-6), 2) := by decide +kernel
theorem dX6_sure_40 : decode cX6_sure 40 = .ok (.goto 15, 3) := by decide +kernel
theorem dX6_sure_43 : decode cX6_sure 43 = .ok (.aload_n 0, 1) := by decide +kernel
theorem dX6_sure_44 : decode cX6_sure 44 = .ok (.getfield 37, 3) := by decide +kernel
theorem dX6_sure_47 : decode cX6_sure 47 = .ok (.aload_n 0, 1) := by decide +kernel
theorem dX6_sure_48 : decode cX6_sure 48 = .ok (.getfield 30, 3) := by decide +kernel
theorem dX6_sure_51 : decode cX6_sure 51 = .ok (.iload_n 1, 1) := by decide +kernel
theorem dX6_sure_52 : decode cX6_sure 52 = .ok (.invokevirtual 158, 3) := by decide +kernel
theorem dX6_sure_55 : decode cX6_sure 55 = .ok (.ireturn, 1) := by decide +kernel
theorem dX6_sign_0 : decode cX6_sign 0 = .ok (.aload_n 0, 1) := by decide +kernel
theorem dX6_sign_1 : decode cX6_sign 1 = .ok (.invokevirtual 112, 3) := by decide +kernel
theorem dX6_sign_4 : decode cX6_sign 4 = .ok (.ifCond .ne 6, 3) := by decide +kernel
theorem dX6_sign_7 : decode cX6_sign 7 = .ok (.bipush (-5), 2) := by decide +kernel
theorem dX6_sign_9 : decode cX6_sign 9 = .ok (.ireturn, 1) := by decide +kernel
theorem dX6_sign_10 : decode cX6_sign 10 = .ok (.iload_n 1, 1) := by decide +kernel
theorem dX6_sign_11 : decode cX6_sign 11 = .ok (.ifCond .lt 9, 3) := by decide +kernel
theorem dX6_sign_14 : decode cX6_sign 14 = .ok (.iload_n 1, 1) := by decide +kernel
theorem dX6_sign_15 : decode cX6_sign 15 = .ok (.bipush 12, 2) := by decide +kernel
theorem dX6_sign_17 : decode cX6_sign 17 = .ok (.if_icmp .lt 5, 3) := by decide +kernel
theorem dX6_sign_20 : decode cX6_sign 20 = .ok (.iconst (-1), 1) := by decide +kernel
theorem dX6_sign_21 : decode cX6_sign 21 = .ok (.ireturn, 1) := by decide +kernel
theorem dX6_sign_22 : decode cX6_sign 22 = .ok (.aload_n 0, 1) := by decide +kernel
theorem dX6_sign_23 : decode cX6_sign 23 = .ok (.invokevirtual 135, 3) := by decide +kernel
theorem dX6_sign_26 : decode cX6_sign 26 = .ok (.iload_n 1, 1) := by decide +kernel
theorem dX6_sign_27 : decode cX6_sign 27 = .ok (.aload_n 0, 1) := by decide +kernel
theorem dX6_sign_28 : decode cX6_sign 28 = .ok (.getfield 37, 3) := by decide +kernel
theorem dX6_sign_31 : decode cX6_sign 31 = .ok (.invokevirtual 145, 3) := by decide +kernel
theorem dX6_sign_34 : decode cX6_sign 34 = .ok (.if_icmp .lt 6, 3) := by decide +kernel
theorem dX6_sign_37 : decode cX6_sign 37 = .ok (.bipush (-6), 2) := by decide +kernel
theorem dX6_sign_39 : decode cX6_sign 39 = .ok (.ireturn, 1) := by decide +kernel
theorem dX6_sign_40 : decode cX6_sign 40 = .ok (.aload_n 0, 1) := by decide +kernel
theorem dX6_sign_41 : decode cX6_sign 41 = .ok (.getfield 44, 3) := by decide +kernel
theorem dX6_sign_44 : decode cX6_sign 44 = .ok (.iload_n 1, 1) := by decide +kernel
theorem dX6_sign_45 : decode cX6_sign 45 = .ok (.aload_n 0, 1) := by decide +kernel
theorem dX6_sign_46 : decode cX6_sign 46 = .ok (.getfield 37, 3) := by decide +kernel
theorem dX6_sign_49 : decode cX6_sign 49 = .ok (.aload_n 0, 1) := by decide +kernel
theorem dX6_sign_50 : decode cX6_sign 50 = .ok (.getfield 30, 3) := by decide +kernel
theorem dX6_sign_53 : decode cX6_sign 53 = .ok (.aload_n 0, 1) := by decide +kernel
theorem dX6_sign_54 : decode cX6_sign 54 = .ok (.getfield 19, 3) := by decide +kernel
theorem dX6_sign_57 : decode cX6_sign 57 = .ok (.invokevirtual 161, 3) := by decide +kernel
theorem dX6_sign_60 : decode cX6_sign 60 = .ok (.iload_n 2, 1) := by decide +kernel
theorem dX6_sign_61 : decode cX6_sign 61 = .ok (.iconst (-1), 1) := by decide +kernel
theorem dX6_sign_62 : decode cX6_sign 62 = .ok (.if_icmp .ne 11, 3) := by decide +kernel
theorem dX6_sign_65 : decode cX6_sign 65 = .ok (.aload_n 0, 1) := by decide +kernel
theorem dX6_sign_66 : decode cX6_sign 66 = .ok (.getfield 44, 3) := by decide +kernel
theorem dX6_sign_69 : decode cX6_sign 69 = .ok (.getfield 165, 3) := by decide +kernel
theorem dX6_sign_72 : decode cX6_sign 72 = .ok (.ireturn, 1) := by decide +kernel
theorem dX6_sign_73 : decode cX6_sign 73 = .ok (.iload_n 2, 1) := by decide +kernel
theorem dX6_sign_74 : decode cX6_sign 74 = .ok (.ifCond .lt 26, 3) := by decide +kernel
theorem dX6_sign_77 : decode cX6_sign 77 = .ok (.iload_n 2, 1) := by decide +kernel
theorem dX6_sign_78 : decode cX6_sign 78 = .ok (.aload_n 0, 1) := by decide +kernel
theorem dX6_sign_79 : decode cX6_sign 79 = .ok (.getfield 44, 3) := by decide +kernel
theorem dX6_sign_82 : decode cX6_sign 82 = .ok (.getfield 165, 3) := by decide +kernel
theorem dX6_sign_85 : decode cX6_sign 85 = .ok (.if_icmp .ge 15, 3) := by decide +kernel
theorem dX6_sign_88 : decode cX6_sign 88 = .ok (.aload_n 0, 1) := by decide +kernel
theorem dX6_sign_89 : decode cX6_sign 89 = .ok (.getfield 44, 3) := by decide +kernel
theorem dX6_sign_92 : decode cX6_sign 92 = .ok (.getfield 166, 3) := by decide +kernel
theorem dX6_sign_95 : decode cX6_sign 95 = .ok (.iload_n 2, 1) := by decide +kernel
theorem dX6_sign_96 : decode cX6_sign 96 = .ok (.iaload, 1) := by decide +kernel
theorem dX6_sign_97 : decode cX6_sign 97 = .ok (.goto 5, 3) := by decide +kernel
theorem dX6_sign_100 : decode cX6_sign 100 = .ok (.bipush (-6), 2) := by decide +kernel
theorem dX6_sign_102 : decode cX6_sign 102 = .ok (.ireturn, 1) := by decide +kernel
theorem dX6_image_0 : decode cX6_image 0 = .ok (.iload_n 1, 1) := by decide +kernel
theorem dX6_image_1 : decode cX6_image 1 = .ok (.ifCond .lt 8, 3) := by decide +kernel
theorem dX6_image_4 : decode cX6_image 4 = .ok (.iload_n 1, 1) := by decide +kernel
theorem dX6_image_5 : decode cX6_image 5 = .ok (.iconst 2, 1) := by decide +kernel
theorem dX6_image_6 : decode cX6_image 6 = .ok (.if_icmp .lt 6, 3) := by decide +kernel
theorem dX6_image_9 : decode cX6_image 9 = .ok (.bipush (-2), 2) := by decide +kernel
theorem dX6_image_11 : decode cX6_image 11 = .ok (.ireturn, 1) := by decide +kernel
theorem dX6_image_12 : decode cX6_image 12 = .ok (.aload_n 0, 1) := by decide +kernel
theorem dX6_image_13 : decode cX6_image 13 = .ok (.getfield 23, 3) := by decide +kernel
theorem dX6_image_16 : decode cX6_image 16 = .ok (.iload_n 1, 1) := by decide +kernel
theorem dX6_image_17 : decode cX6_image 17 = .ok (.aaload, 1) := by decide +kernel
theorem dX6_image_18 : decode cX6_image 18 = .ok (.astore_n 2, 1) := by decide +kernel
theorem dX6_image_19 : decode cX6_image 19 = .ok (.aload_n 2, 1) := by decide +kernel
theorem dX6_image_20 : decode cX6_image 20 = .ok (.ifnonnull 18, 3) := by decide +kernel
theorem dX6_image_23 : decode cX6_image 23 = .ok (.new 16, 3) := by decide +kernel
theorem dX6_image_26 : decode cX6_image 26 = .ok (.dup, 1) := by decide +kernel
theorem dX6_image_27 : decode cX6_image 27 = .ok (.invokespecial 18, 3) := by decide +kernel
theorem dX6_image_30 : decode cX6_image 30 = .ok (.astore_n 2, 1) := by decide +kernel
theorem dX6_image_31 : decode cX6_image 31 = .ok (.aload_n 0, 1) := by decide +kernel
theorem dX6_image_32 : decode cX6_image 32 = .ok (.getfield 23, 3) := by decide +kernel
theorem dX6_image_35 : decode cX6_image 35 = .ok (.iload_n 1, 1) := by decide +kernel
theorem dX6_image_36 : decode cX6_image 36 = .ok (.aload_n 2, 1) := by decide +kernel
theorem dX6_image_37 : decode cX6_image 37 = .ok (.aastore, 1) := by decide +kernel
theorem dX6_image_38 : decode cX6_image 38 = .ok (.aload_n 2, 1) := by decide +kernel
theorem dX6_image_39 : decode cX6_image 39 = .ok (.aload_n 0, 1) := by decide +kernel
theorem dX6_image_40 : decode cX6_image 40 = .ok (.getfield 19, 3) := by decide +kernel
theorem dX6_image_43 : decode cX6_image 43 = .ok (.invokevirtual 169, 3) := by decide +kernel
theorem dX6_image_46 : decode cX6_image 46 = .ok (.iconst 1, 1) := by decide +kernel
theorem dX6_image_47 : decode cX6_image 47 = .ok (.ireturn, 1) := by decide +kernel
theorem dX6_restore_0 : decode cX6_restore 0 = .ok (.iload_n 1, 1) := by decide +kernel
theorem dX6_restore_1 : decode cX6_restore 1 = .ok (.ifCond .lt 8, 3) := by decide +kernel
theorem dX6_restore_4 : decode cX6_restore 4 = .ok (.iload_n 1, 1) := by decide +kernel
theorem dX6_restore_5 : decode cX6_restore 5 = .ok (.iconst 2, 1) := by decide +kernel
theorem dX6_restore_6 : decode cX6_restore 6 = .ok (.if_icmp .lt 6, 3) := by decide +kernel
theorem dX6_restore_9 : decode cX6_restore 9 = .ok (.bipush (-2), 2) := by decide +kernel
theorem dX6_restore_11 : decode cX6_restore 11 = .ok (.ireturn, 1) := by decide +kernel
theorem dX6_restore_12 : decode cX6_restore 12 = .ok (.aload_n 0, 1) := by decide +kernel
theorem dX6_restore_13 : decode cX6_restore 13 = .ok (.getfield 23, 3) := by decide +kernel
theorem dX6_restore_16 : decode cX6_restore 16 = .ok (.iload_n 1, 1) := by decide +kernel
theorem dX6_restore_17 : decode cX6_restore 17 = .ok (.aaload, 1) := by decide +kernel
theorem dX6_restore_18 : decode cX6_restore 18 = .ok (.astore_n 2, 1) := by decide +kernel
theorem dX6_restore_19 : decode cX6_restore 19 = .ok (.aload_n 2, 1) := by decide +kernel
theorem dX6_restore_20 : decode cX6_restore 20 = .ok (.ifnonnull 6, 3) := by decide +kernel
theorem dX6_restore_23 : decode cX6_restore 23 = .ok (.bipush (-3), 2) := by decide +kernel
theorem dX6_restore_25 : decode cX6_restore 25 = .ok (.ireturn, 1) := by decide +kernel
theorem dX6_restore_26 : decode cX6_restore 26 = .ok (.aload_n 0, 1) := by decide +kernel
theorem dX6_restore_27 : decode cX6_restore 27 = .ok (.getfield 19, 3) := by decide +kernel
theorem dX6_restore_30 : decode cX6_restore 30 = .ok (.aload_n 2, 1) := by decide +kernel
theorem dX6_restore_31 : decode cX6_restore 31 = .ok (.invokevirtual 169, 3) := by decide +kernel
theorem dX6_restore_34 : decode cX6_restore 34 = .ok (.aload_n 0, 1) := by decide +kernel
theorem dX6_restore_35 : decode cX6_restore 35 = .ok (.invokevirtual 76, 3) := by decide +kernel
theorem dX6_restore_38 : decode cX6_restore 38 = .ok (.iconst 1, 1) := by decide +kernel
theorem dX6_restore_39 : decode cX6_restore 39 = .ok (.ireturn, 1) := by decide +kernel
theorem dX6_told_0 : decode cX6_told 0 = .ok (.iload_n 1, 1) := by decide +kernel
theorem dX6_told_1 : decode cX6_told 1 = .ok (.tableswitch 54 0 2 #[27, 35, 46], 27) := by decide +kernel
theorem dX6_told_28 : decode cX6_told 28 = .ok (.aload_n 0, 1) := by decide +kernel
theorem dX6_told_29 : decode cX6_told 29 = .ok (.getfield 10, 3) := by decide +kernel
theorem dX6_told_32 : decode cX6_told 32 = .ok (.getfield 52, 3) := by decide +kernel
theorem dX6_told_35 : decode cX6_told 35 = .ok (.ireturn, 1) := by decide +kernel
theorem dX6_told_36 : decode cX6_told 36 = .ok (.aload_n 0, 1) := by decide +kernel
theorem dX6_told_37 : decode cX6_told 37 = .ok (.getfield 19, 3) := by decide +kernel
theorem dX6_told_40 : decode cX6_told 40 = .ok (.getfield 66, 3) := by decide +kernel
theorem dX6_told_43 : decode cX6_told 43 = .ok (.getfield 86, 3) := by decide +kernel
theorem dX6_told_46 : decode cX6_told 46 = .ok (.ireturn, 1) := by decide +kernel
theorem dX6_told_47 : decode cX6_told 47 = .ok (.aload_n 0, 1) := by decide +kernel
theorem dX6_told_48 : decode cX6_told 48 = .ok (.getfield 19, 3) := by decide +kernel
theorem dX6_told_51 : decode cX6_told 51 = .ok (.getfield 95, 3) := by decide +kernel
theorem dX6_told_54 : decode cX6_told 54 = .ok (.ireturn, 1) := by decide +kernel
theorem dX6_told_55 : decode cX6_told 55 = .ok (.iload_n 1, 1) := by decide +kernel
theorem dX6_told_56 : decode cX6_told 56 = .ok (.iconst 3, 1) := by decide +kernel
theorem dX6_told_57 : decode cX6_told 57 = .ok (.if_icmp .lt 21, 3) := by decide +kernel
theorem dX6_told_60 : decode cX6_told 60 = .ok (.iload_n 1, 1) := by decide +kernel
theorem dX6_told_61 : decode cX6_told 61 = .ok (.bipush 7, 2) := by decide +kernel
theorem dX6_told_63 : decode cX6_told 63 = .ok (.if_icmp .ge 15, 3) := by decide +kernel
theorem dX6_told_66 : decode cX6_told 66 = .ok (.aload_n 0, 1) := by decide +kernel
theorem dX6_told_67 : decode cX6_told 67 = .ok (.getfield 19, 3) := by decide +kernel
theorem dX6_told_70 : decode cX6_told 70 = .ok (.getfield 109, 3) := by decide +kernel
theorem dX6_told_73 : decode cX6_told 73 = .ok (.iload_n 1, 1) := by decide +kernel
theorem dX6_told_74 : decode cX6_told 74 = .ok (.iconst 3, 1) := by decide +kernel
theorem dX6_told_75 : decode cX6_told 75 = .ok (.isub, 1) := by decide +kernel
theorem dX6_told_76 : decode cX6_told 76 = .ok (.iaload, 1) := by decide +kernel
theorem dX6_told_77 : decode cX6_told 77 = .ok (.ireturn, 1) := by decide +kernel
theorem dX6_told_78 : decode cX6_told 78 = .ok (.iload_n 1, 1) := by decide +kernel
theorem dX6_told_79 : decode cX6_told 79 = .ok (.bipush 10, 2) := by decide +kernel
theorem dX6_told_81 : decode cX6_told 81 = .ok (.if_icmp .lt 22, 3) := by decide +kernel
theorem dX6_told_84 : decode cX6_told 84 = .ok (.iload_n 1, 1) := by decide +kernel
theorem dX6_told_85 : decode cX6_told 85 = .ok (.bipush 34, 2) := by decide +kernel
theorem dX6_told_87 : decode cX6_told 87 = .ok (.if_icmp .ge 16, 3) := by decide +kernel
theorem dX6_told_90 : decode cX6_told 90 = .ok (.aload_n 0, 1) := by decide +kernel
theorem dX6_told_91 : decode cX6_told 91 = .ok (.getfield 19, 3) := by decide +kernel
theorem dX6_told_94 : decode cX6_told 94 = .ok (.getfield 102, 3) := by decide +kernel
theorem dX6_told_97 : decode cX6_told 97 = .ok (.iload_n 1, 1) := by decide +kernel
theorem dX6_told_98 : decode cX6_told 98 = .ok (.bipush 10, 2) := by decide +kernel
theorem dX6_told_100 : decode cX6_told 100 = .ok (.isub, 1) := by decide +kernel
theorem dX6_told_101 : decode cX6_told 101 = .ok (.iaload, 1) := by decide +kernel
theorem dX6_told_102 : decode cX6_told 102 = .ok (.ireturn, 1) := by decide +kernel
theorem dX6_told_103 : decode cX6_told 103 = .ok (.iload_n 1, 1) := by decide +kernel
theorem dX6_told_104 : decode cX6_told 104 = .ok (.bipush 100, 2) := by decide +kernel
theorem dX6_told_106 : decode cX6_told 106 = .ok (.if_icmp .lt 30, 3) := by decide +kernel
theorem dX6_told_109 : decode cX6_told 109 = .ok (.iload_n 1, 1) := by decide +kernel
theorem dX6_told_110 : decode cX6_told 110 = .ok (.bipush 100, 2) := by decide +kernel
theorem dX6_told_112 : decode cX6_told 112 = .ok (.isub, 1) := by decide +kernel
theorem dX6_told_113 : decode cX6_told 113 = .ok (.aload_n 0, 1) := by decide +kernel
theorem dX6_told_114 : decode cX6_told 114 = .ok (.getfield 19, 3) := by decide +kernel
theorem dX6_told_117 : decode cX6_told 117 = .ok (.getfield 95, 3) := by decide +kernel
theorem dX6_told_120 : decode cX6_told 120 = .ok (.if_icmp .ge 16, 3) := by decide +kernel
theorem dX6_told_123 : decode cX6_told 123 = .ok (.aload_n 0, 1) := by decide +kernel
theorem dX6_told_124 : decode cX6_told 124 = .ok (.getfield 19, 3) := by decide +kernel
theorem dX6_told_127 : decode cX6_told 127 = .ok (.getfield 173, 3) := by decide +kernel
theorem dX6_told_130 : decode cX6_told 130 = .ok (.iload_n 1, 1) := by decide +kernel
theorem dX6_told_131 : decode cX6_told 131 = .ok (.bipush 100, 2) := by decide +kernel
theorem dX6_told_133 : decode cX6_told 133 = .ok (.isub, 1) := by decide +kernel
theorem dX6_told_134 : decode cX6_told 134 = .ok (.iaload, 1) := by decide +kernel
theorem dX6_told_135 : decode cX6_told 135 = .ok (.ireturn, 1) := by decide +kernel
theorem dX6_told_136 : decode cX6_told 136 = .ok (.bipush (-2), 2) := by decide +kernel
theorem dX6_told_138 : decode cX6_told 138 = .ok (.ireturn, 1) := by decide +kernel
theorem dX6_isJoin_0 : decode cX6_isJoin 0 = .ok (.iload_n 0, 1) := by decide +kernel
theorem dX6_isJoin_1 : decode cX6_isJoin 1 = .ok (.ifCond .lt 17, 3) := by decide +kernel
theorem dX6_isJoin_4 : decode cX6_isJoin 4 = .ok (.iload_n 0, 1) := by decide +kernel
theorem dX6_isJoin_5 : decode cX6_isJoin 5 = .ok (.iconst 4, 1) := by decide +kernel
theorem dX6_isJoin_6 : decode cX6_isJoin 6 = .ok (.if_icmp .gt 12, 3) := by decide +kernel
theorem dX6_isJoin_9 : decode cX6_isJoin 9 = .ok (.iload_n 1, 1) := by decide +kernel
theorem dX6_isJoin_10 : decode cX6_isJoin 10 = .ok (.ifCond .lt 8, 3) := by decide +kernel
theorem dX6_isJoin_13 : decode cX6_isJoin 13 = .ok (.iload_n 1, 1) := by decide +kernel
theorem dX6_isJoin_14 : decode cX6_isJoin 14 = .ok (.iconst 4, 1) := by decide +kernel
theorem dX6_isJoin_15 : decode cX6_isJoin 15 = .ok (.if_icmp .le 5, 3) := by decide +kernel
theorem dX6_isJoin_18 : decode cX6_isJoin 18 = .ok (.iconst 0, 1) := by decide +kernel
theorem dX6_isJoin_19 : decode cX6_isJoin 19 = .ok (.ireturn, 1) := by decide +kernel
theorem dX6_isJoin_20 : decode cX6_isJoin 20 = .ok (.iload_n 0, 1) := by decide +kernel
theorem dX6_isJoin_21 : decode cX6_isJoin 21 = .ok (.iconst 4, 1) := by decide +kernel
theorem dX6_isJoin_22 : decode cX6_isJoin 22 = .ok (.if_icmp .ne 8, 3) := by decide +kernel
theorem dX6_isJoin_25 : decode cX6_isJoin 25 = .ok (.iload_n 1, 1) := by decide +kernel
theorem dX6_isJoin_26 : decode cX6_isJoin 26 = .ok (.iconst 4, 1) := by decide +kernel
theorem dX6_isJoin_27 : decode cX6_isJoin 27 = .ok (.if_icmp .eq 7, 3) := by decide +kernel
theorem dX6_isJoin_30 : decode cX6_isJoin 30 = .ok (.iconst 1, 1) := by decide +kernel
theorem dX6_isJoin_31 : decode cX6_isJoin 31 = .ok (.goto 4, 3) := by decide +kernel
theorem dX6_isJoin_34 : decode cX6_isJoin 34 = .ok (.iconst 0, 1) := by decide +kernel
theorem dX6_isJoin_35 : decode cX6_isJoin 35 = .ok (.ireturn, 1) := by decide +kernel
theorem dX6_hasLine_0 : decode cX6_hasLine 0 = .ok (.aload_n 0, 1) := by decide +kernel
theorem dX6_hasLine_1 : decode cX6_hasLine 1 = .ok (.getfield 19, 3) := by decide +kernel
theorem dX6_hasLine_4 : decode cX6_hasLine 4 = .ok (.getfield 95, 3) := by decide +kernel
theorem dX6_hasLine_7 : decode cX6_hasLine 7 = .ok (.ifCond .le 7, 3) := by decide +kernel
theorem dX6_hasLine_10 : decode cX6_hasLine 10 = .ok (.iconst 1, 1) := by decide +kernel
theorem dX6_hasLine_11 : decode cX6_hasLine 11 = .ok (.goto 4, 3) := by decide +kernel
theorem dX6_hasLine_14 : decode cX6_hasLine 14 = .ok (.iconst 0, 1) := by decide +kernel
theorem dX6_hasLine_15 : decode cX6_hasLine 15 = .ok (.ireturn, 1) := by decide +kernel
theorem dX6_somethingChanged_0 : decode cX6_somethingChanged 0 = .ok (.aload_n 0, 1) := by decide +kernel
theorem dX6_somethingChanged_1 : decode cX6_somethingChanged 1 = .ok (.iconst 0, 1) := by decide +kernel
theorem dX6_somethingChanged_2 : decode cX6_somethingChanged 2 = .ok (.putfield 176, 3) := by decide +kernel
theorem dX6_somethingChanged_5 : decode cX6_somethingChanged 5 = .ok (.aload_n 0, 1) := by decide +kernel
theorem dX6_somethingChanged_6 : decode cX6_somethingChanged 6 = .ok (.iconst 0, 1) := by decide +kernel
theorem dX6_somethingChanged_7 : decode cX6_somethingChanged 7 = .ok (.putfield 180, 3) := by decide +kernel
theorem dX6_somethingChanged_10 : decode cX6_somethingChanged 10 = .ok (.return_, 1) := by decide +kernel
theorem dX6_makeNet_0 : decode cX6_makeNet 0 = .ok (.aload_n 0, 1) := by decide +kernel
theorem dX6_makeNet_1 : decode cX6_makeNet 1 = .ok (.getfield 176, 3) := by decide +kernel
theorem dX6_makeNet_4 : decode cX6_makeNet 4 = .ok (.ifCond .ne 19, 3) := by decide +kernel
theorem dX6_makeNet_7 : decode cX6_makeNet 7 = .ok (.aload_n 0, 1) := by decide +kernel
theorem dX6_makeNet_8 : decode cX6_makeNet 8 = .ok (.getfield 30, 3) := by decide +kernel
theorem dX6_makeNet_11 : decode cX6_makeNet 11 = .ok (.aload_n 0, 1) := by decide +kernel
theorem dX6_makeNet_12 : decode cX6_makeNet 12 = .ok (.getfield 19, 3) := by decide +kernel
theorem dX6_makeNet_15 : decode cX6_makeNet 15 = .ok (.invokevirtual 183, 3) := by decide +kernel
theorem dX6_makeNet_18 : decode cX6_makeNet 18 = .ok (.aload_n 0, 1) := by decide +kernel
theorem dX6_makeNet_19 : decode cX6_makeNet 19 = .ok (.iconst 1, 1) := by decide +kernel
theorem dX6_makeNet_20 : decode cX6_makeNet 20 = .ok (.putfield 176, 3) := by decide +kernel
theorem dX6_makeNet_23 : decode cX6_makeNet 23 = .ok (.return_, 1) := by decide +kernel
theorem dX6_makeRanking_0 : decode cX6_makeRanking 0 = .ok (.aload_n 0, 1) := by decide +kernel
theorem dX6_makeRanking_1 : decode cX6_makeRanking 1 = .ok (.invokevirtual 116, 3) := by decide +kernel
theorem dX6_makeRanking_4 : decode cX6_makeRanking 4 = .ok (.aload_n 0, 1) := by decide +kernel
theorem dX6_makeRanking_5 : decode cX6_makeRanking 5 = .ok (.getfield 180, 3) := by decide +kernel
theorem dX6_makeRanking_8 : decode cX6_makeRanking 8 = .ok (.ifCond .ne 19, 3) := by decide +kernel
theorem dX6_makeRanking_11 : decode cX6_makeRanking 11 = .ok (.aload_n 0, 1) := by decide +kernel
theorem dX6_makeRanking_12 : decode cX6_makeRanking 12 = .ok (.getfield 37, 3) := by decide +kernel
theorem dX6_makeRanking_15 : decode cX6_makeRanking 15 = .ok (.aload_n 0, 1) := by decide +kernel
theorem dX6_makeRanking_16 : decode cX6_makeRanking 16 = .ok (.getfield 30, 3) := by decide +kernel
theorem dX6_makeRanking_19 : decode cX6_makeRanking 19 = .ok (.invokevirtual 186, 3) := by decide +kernel
theorem dX6_makeRanking_22 : decode cX6_makeRanking 22 = .ok (.aload_n 0, 1) := by decide +kernel
theorem dX6_makeRanking_23 : decode cX6_makeRanking 23 = .ok (.iconst 1, 1) := by decide +kernel
theorem dX6_makeRanking_24 : decode cX6_makeRanking 24 = .ok (.putfield 180, 3) := by decide +kernel
theorem dX6_makeRanking_27 : decode cX6_makeRanking 27 = .ok (.return_, 1) := by decide +kernel
