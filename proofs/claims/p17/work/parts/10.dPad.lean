theorem dX3_init_0 : decode cX3_init 0 = .ok (.aload_n 0, 1) := by decide +kernel
theorem dX3_init_1 : decode cX3_init 1 = .ok (.invokespecial 3, 3) := by decide +kernel
theorem dX3_init_4 : decode cX3_init 4 = .ok (.aload_n 0, 1) := by decide +kernel
theorem dX3_init_5 : decode cX3_init 5 = .ok (.bipush 40, 2) := by decide +kernel
theorem dX3_init_7 : decode cX3_init 7 = .ok (.newarray .int, 2) := by decide +kernel
theorem dX3_init_9 : decode cX3_init 9 = .ok (.putfield 9, 3) := by decide +kernel
theorem dX3_init_12 : decode cX3_init 12 = .ok (.return_, 1) := by decide +kernel
theorem dX3_add_0 : decode cX3_add 0 = .ok (.aload_n 0, 1) := by decide +kernel
theorem dX3_add_1 : decode cX3_add 1 = .ok (.getfield 15, 3) := by decide +kernel
theorem dX3_add_4 : decode cX3_add 4 = .ok (.bipush 40, 2) := by decide +kernel
theorem dX3_add_6 : decode cX3_add 6 = .ok (.if_icmp .lt 5, 3) := by decide +kernel
theorem dX3_add_9 : decode cX3_add 9 = .ok (.iconst 0, 1) := by decide +kernel
theorem dX3_add_10 : decode cX3_add 10 = .ok (.ireturn, 1) := by decide +kernel
theorem dX3_add_11 : decode cX3_add 11 = .ok (.aload_n 0, 1) := by decide +kernel
theorem dX3_add_12 : decode cX3_add 12 = .ok (.getfield 9, 3) := by decide +kernel
theorem dX3_add_15 : decode cX3_add 15 = .ok (.aload_n 0, 1) := by decide +kernel
theorem dX3_add_16 : decode cX3_add 16 = .ok (.getfield 15, 3) := by decide +kernel
theorem dX3_add_19 : decode cX3_add 19 = .ok (.iload_n 1, 1) := by decide +kernel
theorem dX3_add_20 : decode cX3_add 20 = .ok (.iastore, 1) := by decide +kernel
theorem dX3_add_21 : decode cX3_add 21 = .ok (.aload_n 0, 1) := by decide +kernel
theorem dX3_add_22 : decode cX3_add 22 = .ok (.dup, 1) := by decide +kernel
theorem dX3_add_23 : decode cX3_add 23 = .ok (.getfield 15, 3) := by decide +kernel
theorem dX3_add_26 : decode cX3_add 26 = .ok (.iconst 1, 1) := by decide +kernel
theorem dX3_add_27 : decode cX3_add 27 = .ok (.iadd, 1) := by decide +kernel
theorem dX3_add_28 : decode cX3_add 28 = .ok (.putfield 15, 3) := by decide +kernel
theorem dX3_add_31 : decode cX3_add 31 = .ok (.iconst 1, 1) := by decide +kernel
theorem dX3_add_32 : decode cX3_add 32 = .ok (.ireturn, 1) := by decide +kernel
theorem dX3_clear_0 : decode cX3_clear 0 = .ok (.aload_n 0, 1) := by decide +kernel
theorem dX3_clear_1 : decode cX3_clear 1 = .ok (.iconst 0, 1) := by decide +kernel
theorem dX3_clear_2 : decode cX3_clear 2 = .ok (.putfield 15, 3) := by decide +kernel
theorem dX3_clear_5 : decode cX3_clear 5 = .ok (.return_, 1) := by decide +kernel
theorem dX3_readLine_0 : decode cX3_readLine 0 = .ok (.aload_n 0, 1) := by decide +kernel
theorem dX3_readLine_1 : decode cX3_readLine 1 = .ok (.bipush 24, 2) := by decide +kernel
theorem dX3_readLine_3 : decode cX3_readLine 3 = .ok (.invokevirtual 19, 3) := by decide +kernel
theorem dX3_readLine_6 : decode cX3_readLine 6 = .ok (.istore_n 1, 1) := by decide +kernel
theorem dX3_readLine_7 : decode cX3_readLine 7 = .ok (.iload_n 1, 1) := by decide +kernel
theorem dX3_readLine_8 : decode cX3_readLine 8 = .ok (.ifCond .le 16, 3) := by decide +kernel
theorem dX3_readLine_11 : decode cX3_readLine 11 = .ok (.iload_n 1, 1) := by decide +kernel
theorem dX3_readLine_12 : decode cX3_readLine 12 = .ok (.aload_n 0, 1) := by decide +kernel
theorem dX3_readLine_13 : decode cX3_readLine 13 = .ok (.getfield 15, 3) := by decide +kernel
theorem dX3_readLine_16 : decode cX3_readLine 16 = .ok (.if_icmp .ne 8, 3) := by decide +kernel
theorem dX3_readLine_19 : decode cX3_readLine 19 = .ok (.bipush (-6), 2) := by decide +kernel
theorem dX3_readLine_21 : decode cX3_readLine 21 = .ok (.goto 4, 3) := by decide +kernel
theorem dX3_readLine_24 : decode cX3_readLine 24 = .ok (.iload_n 1, 1) := by decide +kernel
theorem dX3_readLine_25 : decode cX3_readLine 25 = .ok (.ireturn, 1) := by decide +kernel
theorem dX3_readWord_0 : decode cX3_readWord 0 = .ok (.aload_n 0, 1) := by decide +kernel
theorem dX3_readWord_1 : decode cX3_readWord 1 = .ok (.aload_n 0, 1) := by decide +kernel
theorem dX3_readWord_2 : decode cX3_readWord 2 = .ok (.bipush 6, 2) := by decide +kernel
theorem dX3_readWord_4 : decode cX3_readWord 4 = .ok (.invokevirtual 19, 3) := by decide +kernel
theorem dX3_readWord_7 : decode cX3_readWord 7 = .ok (.putfield 23, 3) := by decide +kernel
theorem dX3_readWord_10 : decode cX3_readWord 10 = .ok (.aload_n 0, 1) := by decide +kernel
theorem dX3_readWord_11 : decode cX3_readWord 11 = .ok (.getfield 23, 3) := by decide +kernel
theorem dX3_readWord_14 : decode cX3_readWord 14 = .ok (.ifCond .eq 16, 3) := by decide +kernel
theorem dX3_readWord_17 : decode cX3_readWord 17 = .ok (.aload_n 0, 1) := by decide +kernel
theorem dX3_readWord_18 : decode cX3_readWord 18 = .ok (.aload_n 0, 1) := by decide +kernel
theorem dX3_readWord_19 : decode cX3_readWord 19 = .ok (.getfield 23, 3) := by decide +kernel
theorem dX3_readWord_22 : decode cX3_readWord 22 = .ok (.invokevirtual 26, 3) := by decide +kernel
theorem dX3_readWord_25 : decode cX3_readWord 25 = .ok (.bipush 61, 2) := by decide +kernel
theorem dX3_readWord_27 : decode cX3_readWord 27 = .ok (.if_icmp .eq 8, 3) := by decide +kernel
theorem dX3_readWord_30 : decode cX3_readWord 30 = .ok (.aload_n 0, 1) := by decide +kernel
theorem dX3_readWord_31 : decode cX3_readWord 31 = .ok (.getfield 23, 3) := by decide +kernel
theorem dX3_readWord_34 : decode cX3_readWord 34 = .ok (.ireturn, 1) := by decide +kernel
theorem dX3_readWord_35 : decode cX3_readWord 35 = .ok (.aload_n 0, 1) := by decide +kernel
theorem dX3_readWord_36 : decode cX3_readWord 36 = .ok (.getfield 23, 3) := by decide +kernel
theorem dX3_readWord_39 : decode cX3_readWord 39 = .ok (.iconst 1, 1) := by decide +kernel
theorem dX3_readWord_40 : decode cX3_readWord 40 = .ok (.iadd, 1) := by decide +kernel
theorem dX3_readWord_41 : decode cX3_readWord 41 = .ok (.istore_n 1, 1) := by decide +kernel
theorem dX3_readWord_42 : decode cX3_readWord 42 = .ok (.aload_n 0, 1) := by decide +kernel
theorem dX3_readWord_43 : decode cX3_readWord 43 = .ok (.aload_n 0, 1) := by decide +kernel
theorem dX3_readWord_44 : decode cX3_readWord 44 = .ok (.iload_n 1, 1) := by decide +kernel
theorem dX3_readWord_45 : decode cX3_readWord 45 = .ok (.invokevirtual 29, 3) := by decide +kernel
theorem dX3_readWord_48 : decode cX3_readWord 48 = .ok (.putfield 32, 3) := by decide +kernel
theorem dX3_readWord_51 : decode cX3_readWord 51 = .ok (.aload_n 0, 1) := by decide +kernel
theorem dX3_readWord_52 : decode cX3_readWord 52 = .ok (.getfield 32, 3) := by decide +kernel
theorem dX3_readWord_55 : decode cX3_readWord 55 = .ok (.bipush (-6), 2) := by decide +kernel
theorem dX3_readWord_57 : decode cX3_readWord 57 = .ok (.if_icmp .ne 5, 3) := by decide +kernel
theorem dX3_readWord_60 : decode cX3_readWord 60 = .ok (.iload_n 1, 1) := by decide +kernel
theorem dX3_readWord_61 : decode cX3_readWord 61 = .ok (.ireturn, 1) := by decide +kernel
theorem dX3_readWord_62 : decode cX3_readWord 62 = .ok (.aload_n 0, 1) := by decide +kernel
theorem dX3_readWord_63 : decode cX3_readWord 63 = .ok (.aload_n 0, 1) := by decide +kernel
theorem dX3_readWord_64 : decode cX3_readWord 64 = .ok (.iload_n 1, 1) := by decide +kernel
theorem dX3_readWord_65 : decode cX3_readWord 65 = .ok (.aload_n 0, 1) := by decide +kernel
theorem dX3_readWord_66 : decode cX3_readWord 66 = .ok (.getfield 32, 3) := by decide +kernel
theorem dX3_readWord_69 : decode cX3_readWord 69 = .ok (.invokevirtual 35, 3) := by decide +kernel
theorem dX3_readWord_72 : decode cX3_readWord 72 = .ok (.ifCond .eq 9, 3) := by decide +kernel
theorem dX3_readWord_75 : decode cX3_readWord 75 = .ok (.iload_n 1, 1) := by decide +kernel
theorem dX3_readWord_76 : decode cX3_readWord 76 = .ok (.iconst 4, 1) := by decide +kernel
theorem dX3_readWord_77 : decode cX3_readWord 77 = .ok (.iadd, 1) := by decide +kernel
theorem dX3_readWord_78 : decode cX3_readWord 78 = .ok (.goto 6, 3) := by decide +kernel
theorem dX3_readWord_81 : decode cX3_readWord 81 = .ok (.iload_n 1, 1) := by decide +kernel
theorem dX3_readWord_82 : decode cX3_readWord 82 = .ok (.iconst 1, 1) := by decide +kernel
theorem dX3_readWord_83 : decode cX3_readWord 83 = .ok (.iadd, 1) := by decide +kernel
theorem dX3_readWord_84 : decode cX3_readWord 84 = .ok (.invokevirtual 39, 3) := by decide +kernel
theorem dX3_readWord_87 : decode cX3_readWord 87 = .ok (.ireturn, 1) := by decide +kernel
theorem dX3_readCost_0 : decode cX3_readCost 0 = .ok (.aload_n 0, 1) := by decide +kernel
theorem dX3_readCost_1 : decode cX3_readCost 1 = .ok (.iload_n 1, 1) := by decide +kernel
theorem dX3_readCost_2 : decode cX3_readCost 2 = .ok (.invokevirtual 26, 3) := by decide +kernel
theorem dX3_readCost_5 : decode cX3_readCost 5 = .ok (.invokestatic 42, 3) := by decide +kernel
theorem dX3_readCost_8 : decode cX3_readCost 8 = .ok (.ifCond .ne 5, 3) := by decide +kernel
theorem dX3_readCost_11 : decode cX3_readCost 11 = .ok (.iload_n 1, 1) := by decide +kernel
theorem dX3_readCost_12 : decode cX3_readCost 12 = .ok (.ireturn, 1) := by decide +kernel
theorem dX3_readCost_13 : decode cX3_readCost 13 = .ok (.aload_n 0, 1) := by decide +kernel
theorem dX3_readCost_14 : decode cX3_readCost 14 = .ok (.aload_n 0, 1) := by decide +kernel
theorem dX3_readCost_15 : decode cX3_readCost 15 = .ok (.iload_n 1, 1) := by decide +kernel
theorem dX3_readCost_16 : decode cX3_readCost 16 = .ok (.invokevirtual 26, 3) := by decide +kernel
theorem dX3_readCost_19 : decode cX3_readCost 19 = .ok (.bipush 48, 2) := by decide +kernel
theorem dX3_readCost_21 : decode cX3_readCost 21 = .ok (.isub, 1) := by decide +kernel
theorem dX3_readCost_22 : decode cX3_readCost 22 = .ok (.putfield 46, 3) := by decide +kernel
theorem dX3_readCost_25 : decode cX3_readCost 25 = .ok (.iload_n 1, 1) := by decide +kernel
theorem dX3_readCost_26 : decode cX3_readCost 26 = .ok (.iconst 1, 1) := by decide +kernel
theorem dX3_readCost_27 : decode cX3_readCost 27 = .ok (.iadd, 1) := by decide +kernel
theorem dX3_readCost_28 : decode cX3_readCost 28 = .ok (.istore_n 2, 1) := by decide +kernel
theorem dX3_readCost_29 : decode cX3_readCost 29 = .ok (.aload_n 0, 1) := by decide +kernel
theorem dX3_readCost_30 : decode cX3_readCost 30 = .ok (.iload_n 2, 1) := by decide +kernel
theorem dX3_readCost_31 : decode cX3_readCost 31 = .ok (.invokevirtual 26, 3) := by decide +kernel
theorem dX3_readCost_34 : decode cX3_readCost 34 = .ok (.invokestatic 42, 3) := by decide +kernel
theorem dX3_readCost_37 : decode cX3_readCost 37 = .ok (.ifCond .eq 26, 3) := by decide +kernel
theorem dX3_readCost_40 : decode cX3_readCost 40 = .ok (.aload_n 0, 1) := by decide +kernel
theorem dX3_readCost_41 : decode cX3_readCost 41 = .ok (.aload_n 0, 1) := by decide +kernel
theorem dX3_readCost_42 : decode cX3_readCost 42 = .ok (.getfield 46, 3) := by decide +kernel
theorem dX3_readCost_45 : decode cX3_readCost 45 = .ok (.bipush 10, 2) := by decide +kernel
theorem dX3_readCost_47 : decode cX3_readCost 47 = .ok (.imul, 1) := by decide +kernel
theorem dX3_readCost_48 : decode cX3_readCost 48 = .ok (.aload_n 0, 1) := by decide +kernel
theorem dX3_readCost_49 : decode cX3_readCost 49 = .ok (.iload_n 2, 1) := by decide +kernel
theorem dX3_readCost_50 : decode cX3_readCost 50 = .ok (.invokevirtual 26, 3) := by decide +kernel
theorem dX3_readCost_53 : decode cX3_readCost 53 = .ok (.iadd, 1) := by decide +kernel
theorem dX3_readCost_54 : decode cX3_readCost 54 = .ok (.bipush 48, 2) := by decide +kernel
theorem dX3_readCost_56 : decode cX3_readCost 56 = .ok (.isub, 1) := by decide +kernel
theorem dX3_readCost_57 : decode cX3_readCost 57 = .ok (.putfield 46, 3) := by decide +kernel
theorem dX3_readCost_60 : decode cX3_readCost 60 = .ok (.iinc 2 1, 3) := by decide +kernel
theorem dX3_readCost_63 : decode cX3_readCost 63 = .ok (.iload_n 2, 1) := by decide +kernel
theorem dX3_readCost_64 : decode cX3_readCost 64 = .ok (.aload_n 0, 1) := by decide +kernel
theorem dX3_readCost_65 : decode cX3_readCost 65 = .ok (.getfield 15, 3) := by decide +kernel
theorem dX3_readCost_68 : decode cX3_readCost 68 = .ok (.if_icmp .ne 8, 3) := by decide +kernel
theorem dX3_readCost_71 : decode cX3_readCost 71 = .ok (.bipush (-6), 2) := by decide +kernel
theorem dX3_readCost_73 : decode cX3_readCost 73 = .ok (.goto 4, 3) := by decide +kernel
theorem dX3_readCost_76 : decode cX3_readCost 76 = .ok (.iload_n 2, 1) := by decide +kernel
theorem dX3_readCost_77 : decode cX3_readCost 77 = .ok (.ireturn, 1) := by decide +kernel
theorem dX3_leadingLetters_0 : decode cX3_leadingLetters 0 = .ok (.iconst 0, 1) := by decide +kernel
theorem dX3_leadingLetters_1 : decode cX3_leadingLetters 1 = .ok (.istore_n 2, 1) := by decide +kernel
theorem dX3_leadingLetters_2 : decode cX3_leadingLetters 2 = .ok (.iload_n 2, 1) := by decide +kernel
theorem dX3_leadingLetters_3 : decode cX3_leadingLetters 3 = .ok (.iload_n 1, 1) := by decide +kernel
theorem dX3_leadingLetters_4 : decode cX3_leadingLetters 4 = .ok (.if_icmp .ge 20, 3) := by decide +kernel
theorem dX3_leadingLetters_7 : decode cX3_leadingLetters 7 = .ok (.aload_n 0, 1) := by decide +kernel
theorem dX3_leadingLetters_8 : decode cX3_leadingLetters 8 = .ok (.iload_n 2, 1) := by decide +kernel
theorem dX3_leadingLetters_9 : decode cX3_leadingLetters 9 = .ok (.invokevirtual 26, 3) := by decide +kernel
theorem dX3_leadingLetters_12 : decode cX3_leadingLetters 12 = .ok (.invokestatic 49, 3) := by decide +kernel
theorem dX3_leadingLetters_15 : decode cX3_leadingLetters 15 = .ok (.ifCond .eq 9, 3) := by decide +kernel
theorem dX3_leadingLetters_18 : decode cX3_leadingLetters 18 = .ok (.iinc 2 1, 3) := by decide +kernel
theorem dX3_leadingLetters_21 : decode cX3_leadingLetters 21 = .ok (.goto (-19), 3) := by decide +kernel
theorem dX3_leadingLetters_24 : decode cX3_leadingLetters 24 = .ok (.iload_n 2, 1) := by decide +kernel
theorem dX3_leadingLetters_25 : decode cX3_leadingLetters 25 = .ok (.ireturn, 1) := by decide +kernel
theorem dX3_signAt_0 : decode cX3_signAt 0 = .ok (.iload_n 1, 1) := by decide +kernel
theorem dX3_signAt_1 : decode cX3_signAt 1 = .ok (.ifCond .lt 26, 3) := by decide +kernel
theorem dX3_signAt_4 : decode cX3_signAt 4 = .ok (.iload_n 1, 1) := by decide +kernel
theorem dX3_signAt_5 : decode cX3_signAt 5 = .ok (.aload_n 0, 1) := by decide +kernel
theorem dX3_signAt_6 : decode cX3_signAt 6 = .ok (.getfield 15, 3) := by decide +kernel
theorem dX3_signAt_9 : decode cX3_signAt 9 = .ok (.if_icmp .ge 18, 3) := by decide +kernel
theorem dX3_signAt_12 : decode cX3_signAt 12 = .ok (.iload_n 1, 1) := by decide +kernel
theorem dX3_signAt_13 : decode cX3_signAt 13 = .ok (.bipush 40, 2) := by decide +kernel
theorem dX3_signAt_15 : decode cX3_signAt 15 = .ok (.if_icmp .ge 12, 3) := by decide +kernel
theorem dX3_signAt_18 : decode cX3_signAt 18 = .ok (.aload_n 0, 1) := by decide +kernel
theorem dX3_signAt_19 : decode cX3_signAt 19 = .ok (.getfield 9, 3) := by decide +kernel
theorem dX3_signAt_22 : decode cX3_signAt 22 = .ok (.iload_n 1, 1) := by decide +kernel
theorem dX3_signAt_23 : decode cX3_signAt 23 = .ok (.iaload, 1) := by decide +kernel
theorem dX3_signAt_24 : decode cX3_signAt 24 = .ok (.goto 4, 3) := by decide +kernel
theorem dX3_signAt_27 : decode cX3_signAt 27 = .ok (.iconst 0, 1) := by decide +kernel
theorem dX3_signAt_28 : decode cX3_signAt 28 = .ok (.ireturn, 1) := by decide +kernel
theorem dX3_kindNamedAt_0 : decode cX3_kindNamedAt 0 = .ok (.iconst 0, 1) := by decide +kernel
theorem dX3_kindNamedAt_1 : decode cX3_kindNamedAt 1 = .ok (.istore_n 2, 1) := by decide +kernel
theorem dX3_kindNamedAt_2 : decode cX3_kindNamedAt 2 = .ok (.iload_n 2, 1) := by decide +kernel
theorem dX3_kindNamedAt_3 : decode cX3_kindNamedAt 3 = .ok (.iconst 3, 1) := by decide +kernel
theorem dX3_kindNamedAt_4 : decode cX3_kindNamedAt 4 = .ok (.if_icmp .ge 27, 3) := by decide +kernel
theorem dX3_kindNamedAt_7 : decode cX3_kindNamedAt 7 = .ok (.aload_n 0, 1) := by decide +kernel
theorem dX3_kindNamedAt_8 : decode cX3_kindNamedAt 8 = .ok (.iload_n 1, 1) := by decide +kernel
theorem dX3_kindNamedAt_9 : decode cX3_kindNamedAt 9 = .ok (.invokevirtual 26, 3) := by decide +kernel
theorem dX3_kindNamedAt_12 : decode cX3_kindNamedAt 12 = .ok (.ldc 52, 2) := by decide +kernel
theorem dX3_kindNamedAt_14 : decode cX3_kindNamedAt 14 = .ok (.iload_n 2, 1) := by decide +kernel
theorem dX3_kindNamedAt_15 : decode cX3_kindNamedAt 15 = .ok (.iconst 4, 1) := by decide +kernel
theorem dX3_kindNamedAt_16 : decode cX3_kindNamedAt 16 = .ok (.imul, 1) := by decide +kernel
theorem dX3_kindNamedAt_17 : decode cX3_kindNamedAt 17 = .ok (.invokevirtual 54, 3) := by decide +kernel
theorem dX3_kindNamedAt_20 : decode cX3_kindNamedAt 20 = .ok (.if_icmp .ne 5, 3) := by decide +kernel
theorem dX3_kindNamedAt_23 : decode cX3_kindNamedAt 23 = .ok (.iload_n 2, 1) := by decide +kernel
theorem dX3_kindNamedAt_24 : decode cX3_kindNamedAt 24 = .ok (.ireturn, 1) := by decide +kernel
theorem dX3_kindNamedAt_25 : decode cX3_kindNamedAt 25 = .ok (.iinc 2 1, 3) := by decide +kernel
theorem dX3_kindNamedAt_28 : decode cX3_kindNamedAt 28 = .ok (.goto (-26), 3) := by decide +kernel
theorem dX3_kindNamedAt_31 : decode cX3_kindNamedAt 31 = .ok (.bipush (-6), 2) := by decide +kernel
theorem dX3_kindNamedAt_33 : decode cX3_kindNamedAt 33 = .ok (.ireturn, 1) := by decide +kernel
theorem dX3_nameStandsAt_0 : decode cX3_nameStandsAt 0 = .ok (.iconst 0, 1) := by decide +kernel
theorem dX3_nameStandsAt_1 : decode cX3_nameStandsAt 1 = .ok (.istore_n 3, 1) := by decide +kernel
theorem dX3_nameStandsAt_2 : decode cX3_nameStandsAt 2 = .ok (.iload_n 3, 1) := by decide +kernel
theorem dX3_nameStandsAt_3 : decode cX3_nameStandsAt 3 = .ok (.iconst 4, 1) := by decide +kernel
theorem dX3_nameStandsAt_4 : decode cX3_nameStandsAt 4 = .ok (.if_icmp .ge 31, 3) := by decide +kernel
theorem dX3_nameStandsAt_7 : decode cX3_nameStandsAt 7 = .ok (.aload_n 0, 1) := by decide +kernel
theorem dX3_nameStandsAt_8 : decode cX3_nameStandsAt 8 = .ok (.iload_n 1, 1) := by decide +kernel
theorem dX3_nameStandsAt_9 : decode cX3_nameStandsAt 9 = .ok (.iload_n 3, 1) := by decide +kernel
theorem dX3_nameStandsAt_10 : decode cX3_nameStandsAt 10 = .ok (.iadd, 1) := by decide +kernel
theorem dX3_nameStandsAt_11 : decode cX3_nameStandsAt 11 = .ok (.invokevirtual 26, 3) := by decide +kernel
theorem dX3_nameStandsAt_14 : decode cX3_nameStandsAt 14 = .ok (.ldc 52, 2) := by decide +kernel
theorem dX3_nameStandsAt_16 : decode cX3_nameStandsAt 16 = .ok (.iload_n 2, 1) := by decide +kernel
theorem dX3_nameStandsAt_17 : decode cX3_nameStandsAt 17 = .ok (.iconst 4, 1) := by decide +kernel
theorem dX3_nameStandsAt_18 : decode cX3_nameStandsAt 18 = .ok (.imul, 1) := by decide +kernel
theorem dX3_nameStandsAt_19 : decode cX3_nameStandsAt 19 = .ok (.iload_n 3, 1) := by decide +kernel
theorem dX3_nameStandsAt_20 : decode cX3_nameStandsAt 20 = .ok (.iadd, 1) := by decide +kernel
theorem dX3_nameStandsAt_21 : decode cX3_nameStandsAt 21 = .ok (.invokevirtual 54, 3) := by decide +kernel
theorem dX3_nameStandsAt_24 : decode cX3_nameStandsAt 24 = .ok (.if_icmp .eq 5, 3) := by decide +kernel
theorem dX3_nameStandsAt_27 : decode cX3_nameStandsAt 27 = .ok (.iconst 0, 1) := by decide +kernel
theorem dX3_nameStandsAt_28 : decode cX3_nameStandsAt 28 = .ok (.ireturn, 1) := by decide +kernel
theorem dX3_nameStandsAt_29 : decode cX3_nameStandsAt 29 = .ok (.iinc 3 1, 3) := by decide +kernel
theorem dX3_nameStandsAt_32 : decode cX3_nameStandsAt 32 = .ok (.goto (-30), 3) := by decide +kernel
theorem dX3_nameStandsAt_35 : decode cX3_nameStandsAt 35 = .ok (.iconst 1, 1) := by decide +kernel
theorem dX3_nameStandsAt_36 : decode cX3_nameStandsAt 36 = .ok (.ireturn, 1) := by decide +kernel
theorem dX3_isLetter_0 : decode cX3_isLetter 0 = .ok (.iload_n 0, 1) := by decide +kernel
theorem dX3_isLetter_1 : decode cX3_isLetter 1 = .ok (.bipush 97, 2) := by decide +kernel
theorem dX3_isLetter_3 : decode cX3_isLetter 3 = .ok (.if_icmp .lt 13, 3) := by decide +kernel
theorem dX3_isLetter_6 : decode cX3_isLetter 6 = .ok (.iload_n 0, 1) := by decide +kernel
theorem dX3_isLetter_7 : decode cX3_isLetter 7 = .ok (.bipush 104, 2) := by decide +kernel
theorem dX3_isLetter_9 : decode cX3_isLetter 9 = .ok (.if_icmp .gt 7, 3) := by decide +kernel
theorem dX3_isLetter_12 : decode cX3_isLetter 12 = .ok (.iconst 1, 1) := by decide +kernel
theorem dX3_isLetter_13 : decode cX3_isLetter 13 = .ok (.goto 4, 3) := by decide +kernel
theorem dX3_isLetter_16 : decode cX3_isLetter 16 = .ok (.iconst 0, 1) := by decide +kernel
theorem dX3_isLetter_17 : decode cX3_isLetter 17 = .ok (.ireturn, 1) := by decide +kernel
theorem dX3_isFigure_0 : decode cX3_isFigure 0 = .ok (.iload_n 0, 1) := by decide +kernel
theorem dX3_isFigure_1 : decode cX3_isFigure 1 = .ok (.bipush 48, 2) := by decide +kernel
theorem dX3_isFigure_3 : decode cX3_isFigure 3 = .ok (.if_icmp .lt 13, 3) := by decide +kernel
theorem dX3_isFigure_6 : decode cX3_isFigure 6 = .ok (.iload_n 0, 1) := by decide +kernel
theorem dX3_isFigure_7 : decode cX3_isFigure 7 = .ok (.bipush 57, 2) := by decide +kernel
theorem dX3_isFigure_9 : decode cX3_isFigure 9 = .ok (.if_icmp .gt 7, 3) := by decide +kernel
theorem dX3_isFigure_12 : decode cX3_isFigure 12 = .ok (.iconst 1, 1) := by decide +kernel
theorem dX3_isFigure_13 : decode cX3_isFigure 13 = .ok (.goto 4, 3) := by decide +kernel
theorem dX3_isFigure_16 : decode cX3_isFigure 16 = .ok (.iconst 0, 1) := by decide +kernel
theorem dX3_isFigure_17 : decode cX3_isFigure 17 = .ok (.ireturn, 1) := by decide +kernel
