theorem dX0_init_0 : decode cX0_init 0 = .ok (.aload_n 0, 1) := by decide +kernel
theorem dX0_init_1 : decode cX0_init 1 = .ok (.invokespecial 3, 3) := by decide +kernel
theorem dX0_init_4 : decode cX0_init 4 = .ok (.aload_n 0, 1) := by decide +kernel
theorem dX0_init_5 : decode cX0_init 5 = .ok (.new 9, 3) := by decide +kernel
theorem dX0_init_8 : decode cX0_init 8 = .ok (.dup, 1) := by decide +kernel
theorem dX0_init_9 : decode cX0_init 9 = .ok (.invokespecial 11, 3) := by decide +kernel
theorem dX0_init_12 : decode cX0_init 12 = .ok (.putfield 12, 3) := by decide +kernel
theorem dX0_init_15 : decode cX0_init 15 = .ok (.aload_n 0, 1) := by decide +kernel
theorem dX0_init_16 : decode cX0_init 16 = .ok (.bipush 25, 2) := by decide +kernel
theorem dX0_init_18 : decode cX0_init 18 = .ok (.newarray .int, 2) := by decide +kernel
theorem dX0_init_20 : decode cX0_init 20 = .ok (.putfield 18, 3) := by decide +kernel
theorem dX0_init_23 : decode cX0_init 23 = .ok (.aload_n 0, 1) := by decide +kernel
theorem dX0_init_24 : decode cX0_init 24 = .ok (.iconst 4, 1) := by decide +kernel
theorem dX0_init_25 : decode cX0_init 25 = .ok (.newarray .int, 2) := by decide +kernel
theorem dX0_init_27 : decode cX0_init 27 = .ok (.dup, 1) := by decide +kernel
theorem dX0_init_28 : decode cX0_init 28 = .ok (.iconst 0, 1) := by decide +kernel
theorem dX0_init_29 : decode cX0_init 29 = .ok (.iconst 0, 1) := by decide +kernel
theorem dX0_init_30 : decode cX0_init 30 = .ok (.iastore, 1) := by decide +kernel
theorem dX0_init_31 : decode cX0_init 31 = .ok (.dup, 1) := by decide +kernel
theorem dX0_init_32 : decode cX0_init 32 = .ok (.iconst 1, 1) := by decide +kernel
theorem dX0_init_33 : decode cX0_init 33 = .ok (.bipush 50, 2) := by decide +kernel
theorem dX0_init_35 : decode cX0_init 35 = .ok (.iastore, 1) := by decide +kernel
theorem dX0_init_36 : decode cX0_init 36 = .ok (.dup, 1) := by decide +kernel
theorem dX0_init_37 : decode cX0_init 37 = .ok (.iconst 2, 1) := by decide +kernel
theorem dX0_init_38 : decode cX0_init 38 = .ok (.bipush 10, 2) := by decide +kernel
theorem dX0_init_40 : decode cX0_init 40 = .ok (.iastore, 1) := by decide +kernel
theorem dX0_init_41 : decode cX0_init 41 = .ok (.dup, 1) := by decide +kernel
theorem dX0_init_42 : decode cX0_init 42 = .ok (.iconst 3, 1) := by decide +kernel
theorem dX0_init_43 : decode cX0_init 43 = .ok (.iconst 1, 1) := by decide +kernel
theorem dX0_init_44 : decode cX0_init 44 = .ok (.iastore, 1) := by decide +kernel
theorem dX0_init_45 : decode cX0_init 45 = .ok (.putfield 22, 3) := by decide +kernel
theorem dX0_init_48 : decode cX0_init 48 = .ok (.aload_n 0, 1) := by decide +kernel
theorem dX0_init_49 : decode cX0_init 49 = .ok (.bipush 24, 2) := by decide +kernel
theorem dX0_init_51 : decode cX0_init 51 = .ok (.newarray .int, 2) := by decide +kernel
theorem dX0_init_53 : decode cX0_init 53 = .ok (.putfield 25, 3) := by decide +kernel
theorem dX0_init_56 : decode cX0_init 56 = .ok (.return_, 1) := by decide +kernel
theorem dX0_takeLine_0 : decode cX0_takeLine 0 = .ok (.aload_n 0, 1) := by decide +kernel
theorem dX0_takeLine_1 : decode cX0_takeLine 1 = .ok (.aload_n 1, 1) := by decide +kernel
theorem dX0_takeLine_2 : decode cX0_takeLine 2 = .ok (.getfield 28, 3) := by decide +kernel
theorem dX0_takeLine_5 : decode cX0_takeLine 5 = .ok (.bipush 24, 2) := by decide +kernel
theorem dX0_takeLine_7 : decode cX0_takeLine 7 = .ok (.invokestatic 34, 3) := by decide +kernel
theorem dX0_takeLine_10 : decode cX0_takeLine 10 = .ok (.putfield 40, 3) := by decide +kernel
theorem dX0_takeLine_13 : decode cX0_takeLine 13 = .ok (.aload_n 1, 1) := by decide +kernel
theorem dX0_takeLine_14 : decode cX0_takeLine 14 = .ok (.getfield 43, 3) := by decide +kernel
theorem dX0_takeLine_17 : decode cX0_takeLine 17 = .ok (.iconst 0, 1) := by decide +kernel
theorem dX0_takeLine_18 : decode cX0_takeLine 18 = .ok (.aload_n 0, 1) := by decide +kernel
theorem dX0_takeLine_19 : decode cX0_takeLine 19 = .ok (.getfield 25, 3) := by decide +kernel
theorem dX0_takeLine_22 : decode cX0_takeLine 22 = .ok (.iconst 0, 1) := by decide +kernel
theorem dX0_takeLine_23 : decode cX0_takeLine 23 = .ok (.aload_n 0, 1) := by decide +kernel
theorem dX0_takeLine_24 : decode cX0_takeLine 24 = .ok (.getfield 40, 3) := by decide +kernel
theorem dX0_takeLine_27 : decode cX0_takeLine 27 = .ok (.invokestatic 46, 3) := by decide +kernel
theorem dX0_takeLine_30 : decode cX0_takeLine 30 = .ok (.return_, 1) := by decide +kernel
theorem dX0_runLength_0 : decode cX0_runLength 0 = .ok (.aload_n 0, 1) := by decide +kernel
theorem dX0_runLength_1 : decode cX0_runLength 1 = .ok (.getfield 40, 3) := by decide +kernel
theorem dX0_runLength_4 : decode cX0_runLength 4 = .ok (.iload_n 1, 1) := by decide +kernel
theorem dX0_runLength_5 : decode cX0_runLength 5 = .ok (.bipush 6, 2) := by decide +kernel
theorem dX0_runLength_7 : decode cX0_runLength 7 = .ok (.iadd, 1) := by decide +kernel
theorem dX0_runLength_8 : decode cX0_runLength 8 = .ok (.invokestatic 34, 3) := by decide +kernel
theorem dX0_runLength_11 : decode cX0_runLength 11 = .ok (.istore_n 2, 1) := by decide +kernel
theorem dX0_runLength_12 : decode cX0_runLength 12 = .ok (.iload_n 1, 1) := by decide +kernel
theorem dX0_runLength_13 : decode cX0_runLength 13 = .ok (.istore_n 3, 1) := by decide +kernel
theorem dX0_runLength_14 : decode cX0_runLength 14 = .ok (.iload_n 3, 1) := by decide +kernel
theorem dX0_runLength_15 : decode cX0_runLength 15 = .ok (.iload_n 2, 1) := by decide +kernel
theorem dX0_runLength_16 : decode cX0_runLength 16 = .ok (.if_icmp .ge 30, 3) := by decide +kernel
theorem dX0_runLength_19 : decode cX0_runLength 19 = .ok (.aload_n 0, 1) := by decide +kernel
theorem dX0_runLength_20 : decode cX0_runLength 20 = .ok (.getfield 25, 3) := by decide +kernel
theorem dX0_runLength_23 : decode cX0_runLength 23 = .ok (.iload_n 3, 1) := by decide +kernel
theorem dX0_runLength_24 : decode cX0_runLength 24 = .ok (.iaload, 1) := by decide +kernel
theorem dX0_runLength_25 : decode cX0_runLength 25 = .ok (.invokestatic 52, 3) := by decide +kernel
theorem dX0_runLength_28 : decode cX0_runLength 28 = .ok (.aload_n 0, 1) := by decide +kernel
theorem dX0_runLength_29 : decode cX0_runLength 29 = .ok (.getfield 25, 3) := by decide +kernel
theorem dX0_runLength_32 : decode cX0_runLength 32 = .ok (.iload_n 1, 1) := by decide +kernel
theorem dX0_runLength_33 : decode cX0_runLength 33 = .ok (.iaload, 1) := by decide +kernel
theorem dX0_runLength_34 : decode cX0_runLength 34 = .ok (.invokestatic 52, 3) := by decide +kernel
theorem dX0_runLength_37 : decode cX0_runLength 37 = .ok (.if_icmp .ne 9, 3) := by decide +kernel
theorem dX0_runLength_40 : decode cX0_runLength 40 = .ok (.iinc 3 1, 3) := by decide +kernel
theorem dX0_runLength_43 : decode cX0_runLength 43 = .ok (.goto (-29), 3) := by decide +kernel
theorem dX0_runLength_46 : decode cX0_runLength 46 = .ok (.iload_n 3, 1) := by decide +kernel
theorem dX0_runLength_47 : decode cX0_runLength 47 = .ok (.iload_n 1, 1) := by decide +kernel
theorem dX0_runLength_48 : decode cX0_runLength 48 = .ok (.isub, 1) := by decide +kernel
theorem dX0_runLength_49 : decode cX0_runLength 49 = .ok (.ireturn, 1) := by decide +kernel
theorem dX0_classOf_0 : decode cX0_classOf 0 = .ok (.iload_n 0, 1) := by decide +kernel
theorem dX0_classOf_1 : decode cX0_classOf 1 = .ok (.bipush 97, 2) := by decide +kernel
theorem dX0_classOf_3 : decode cX0_classOf 3 = .ok (.if_icmp .eq 9, 3) := by decide +kernel
theorem dX0_classOf_6 : decode cX0_classOf 6 = .ok (.iload_n 0, 1) := by decide +kernel
theorem dX0_classOf_7 : decode cX0_classOf 7 = .ok (.bipush 101, 2) := by decide +kernel
theorem dX0_classOf_9 : decode cX0_classOf 9 = .ok (.if_icmp .ne 7, 3) := by decide +kernel
theorem dX0_classOf_12 : decode cX0_classOf 12 = .ok (.iconst 0, 1) := by decide +kernel
theorem dX0_classOf_13 : decode cX0_classOf 13 = .ok (.goto 4, 3) := by decide +kernel
theorem dX0_classOf_16 : decode cX0_classOf 16 = .ok (.iconst 1, 1) := by decide +kernel
theorem dX0_classOf_17 : decode cX0_classOf 17 = .ok (.ireturn, 1) := by decide +kernel
theorem dX0_copy_0 : decode cX0_copy 0 = .ok (.aload_n 0, 1) := by decide +kernel
theorem dX0_copy_1 : decode cX0_copy 1 = .ok (.getfield 12, 3) := by decide +kernel
theorem dX0_copy_4 : decode cX0_copy 4 = .ok (.aload_n 1, 1) := by decide +kernel
theorem dX0_copy_5 : decode cX0_copy 5 = .ok (.getfield 12, 3) := by decide +kernel
theorem dX0_copy_8 : decode cX0_copy 8 = .ok (.invokevirtual 56, 3) := by decide +kernel
theorem dX0_copy_11 : decode cX0_copy 11 = .ok (.aload_n 1, 1) := by decide +kernel
theorem dX0_copy_12 : decode cX0_copy 12 = .ok (.getfield 18, 3) := by decide +kernel
theorem dX0_copy_15 : decode cX0_copy 15 = .ok (.iconst 0, 1) := by decide +kernel
theorem dX0_copy_16 : decode cX0_copy 16 = .ok (.aload_n 0, 1) := by decide +kernel
theorem dX0_copy_17 : decode cX0_copy 17 = .ok (.getfield 18, 3) := by decide +kernel
theorem dX0_copy_20 : decode cX0_copy 20 = .ok (.iconst 0, 1) := by decide +kernel
theorem dX0_copy_21 : decode cX0_copy 21 = .ok (.bipush 25, 2) := by decide +kernel
theorem dX0_copy_23 : decode cX0_copy 23 = .ok (.invokestatic 46, 3) := by decide +kernel
theorem dX0_copy_26 : decode cX0_copy 26 = .ok (.aload_n 1, 1) := by decide +kernel
theorem dX0_copy_27 : decode cX0_copy 27 = .ok (.getfield 22, 3) := by decide +kernel
theorem dX0_copy_30 : decode cX0_copy 30 = .ok (.iconst 0, 1) := by decide +kernel
theorem dX0_copy_31 : decode cX0_copy 31 = .ok (.aload_n 0, 1) := by decide +kernel
theorem dX0_copy_32 : decode cX0_copy 32 = .ok (.getfield 22, 3) := by decide +kernel
theorem dX0_copy_35 : decode cX0_copy 35 = .ok (.iconst 0, 1) := by decide +kernel
theorem dX0_copy_36 : decode cX0_copy 36 = .ok (.iconst 4, 1) := by decide +kernel
theorem dX0_copy_37 : decode cX0_copy 37 = .ok (.invokestatic 46, 3) := by decide +kernel
theorem dX0_copy_40 : decode cX0_copy 40 = .ok (.aload_n 1, 1) := by decide +kernel
theorem dX0_copy_41 : decode cX0_copy 41 = .ok (.getfield 25, 3) := by decide +kernel
theorem dX0_copy_44 : decode cX0_copy 44 = .ok (.iconst 0, 1) := by decide +kernel
theorem dX0_copy_45 : decode cX0_copy 45 = .ok (.aload_n 0, 1) := by decide +kernel
theorem dX0_copy_46 : decode cX0_copy 46 = .ok (.getfield 25, 3) := by decide +kernel
theorem dX0_copy_49 : decode cX0_copy 49 = .ok (.iconst 0, 1) := by decide +kernel
theorem dX0_copy_50 : decode cX0_copy 50 = .ok (.bipush 24, 2) := by decide +kernel
theorem dX0_copy_52 : decode cX0_copy 52 = .ok (.invokestatic 46, 3) := by decide +kernel
theorem dX0_copy_55 : decode cX0_copy 55 = .ok (.aload_n 0, 1) := by decide +kernel
theorem dX0_copy_56 : decode cX0_copy 56 = .ok (.aload_n 1, 1) := by decide +kernel
theorem dX0_copy_57 : decode cX0_copy 57 = .ok (.getfield 40, 3) := by decide +kernel
theorem dX0_copy_60 : decode cX0_copy 60 = .ok (.putfield 40, 3) := by decide +kernel
theorem dX0_copy_63 : decode cX0_copy 63 = .ok (.return_, 1) := by decide +kernel
theorem dX1_init_0 : decode cX1_init 0 = .ok (.aload_n 0, 1) := by decide +kernel
theorem dX1_init_1 : decode cX1_init 1 = .ok (.invokespecial 3, 3) := by decide +kernel
theorem dX1_init_4 : decode cX1_init 4 = .ok (.aload_n 0, 1) := by decide +kernel
theorem dX1_init_5 : decode cX1_init 5 = .ok (.bipush 96, 2) := by decide +kernel
theorem dX1_init_7 : decode cX1_init 7 = .ok (.newarray .int, 2) := by decide +kernel
theorem dX1_init_9 : decode cX1_init 9 = .ok (.putfield 9, 3) := by decide +kernel
theorem dX1_init_12 : decode cX1_init 12 = .ok (.aload_n 0, 1) := by decide +kernel
theorem dX1_init_13 : decode cX1_init 13 = .ok (.bipush 16, 2) := by decide +kernel
theorem dX1_init_15 : decode cX1_init 15 = .ok (.newarray .int, 2) := by decide +kernel
theorem dX1_init_17 : decode cX1_init 17 = .ok (.putfield 15, 3) := by decide +kernel
theorem dX1_init_20 : decode cX1_init 20 = .ok (.aload_n 0, 1) := by decide +kernel
theorem dX1_init_21 : decode cX1_init 21 = .ok (.bipush 16, 2) := by decide +kernel
theorem dX1_init_23 : decode cX1_init 23 = .ok (.newarray .int, 2) := by decide +kernel
theorem dX1_init_25 : decode cX1_init 25 = .ok (.putfield 18, 3) := by decide +kernel
theorem dX1_init_28 : decode cX1_init 28 = .ok (.aload_n 0, 1) := by decide +kernel
theorem dX1_init_29 : decode cX1_init 29 = .ok (.bipush 16, 2) := by decide +kernel
theorem dX1_init_31 : decode cX1_init 31 = .ok (.newarray .int, 2) := by decide +kernel
theorem dX1_init_33 : decode cX1_init 33 = .ok (.putfield 21, 3) := by decide +kernel
theorem dX1_init_36 : decode cX1_init 36 = .ok (.return_, 1) := by decide +kernel
theorem dX1_has_0 : decode cX1_has 0 = .ok (.iload_n 1, 1) := by decide +kernel
theorem dX1_has_1 : decode cX1_has 1 = .ok (.ifCond .lt 21, 3) := by decide +kernel
theorem dX1_has_4 : decode cX1_has 4 = .ok (.iload_n 1, 1) := by decide +kernel
theorem dX1_has_5 : decode cX1_has 5 = .ok (.aload_n 0, 1) := by decide +kernel
theorem dX1_has_6 : decode cX1_has 6 = .ok (.getfield 24, 3) := by decide +kernel
theorem dX1_has_9 : decode cX1_has 9 = .ok (.if_icmp .ge 13, 3) := by decide +kernel
theorem dX1_has_12 : decode cX1_has 12 = .ok (.iload_n 1, 1) := by decide +kernel
theorem dX1_has_13 : decode cX1_has 13 = .ok (.bipush 16, 2) := by decide +kernel
theorem dX1_has_15 : decode cX1_has 15 = .ok (.if_icmp .ge 7, 3) := by decide +kernel
theorem dX1_has_18 : decode cX1_has 18 = .ok (.iconst 1, 1) := by decide +kernel
theorem dX1_has_19 : decode cX1_has 19 = .ok (.goto 4, 3) := by decide +kernel
theorem dX1_has_22 : decode cX1_has 22 = .ok (.iconst 0, 1) := by decide +kernel
theorem dX1_has_23 : decode cX1_has 23 = .ok (.ireturn, 1) := by decide +kernel
theorem dX1_put_0 : decode cX1_put 0 = .ok (.aload_n 0, 1) := by decide +kernel
theorem dX1_put_1 : decode cX1_put 1 = .ok (.aload_n 1, 1) := by decide +kernel
theorem dX1_put_2 : decode cX1_put 2 = .ok (.invokevirtual 28, 3) := by decide +kernel
theorem dX1_put_5 : decode cX1_put 5 = .ok (.istore_n 2, 1) := by decide +kernel
theorem dX1_put_6 : decode cX1_put 6 = .ok (.iload_n 2, 1) := by decide +kernel
theorem dX1_put_7 : decode cX1_put 7 = .ok (.bipush (-6), 2) := by decide +kernel
theorem dX1_put_9 : decode cX1_put 9 = .ok (.if_icmp .ne 70, 3) := by decide +kernel
theorem dX1_put_12 : decode cX1_put 12 = .ok (.aload_n 0, 1) := by decide +kernel
theorem dX1_put_13 : decode cX1_put 13 = .ok (.getfield 24, 3) := by decide +kernel
theorem dX1_put_16 : decode cX1_put 16 = .ok (.bipush 16, 2) := by decide +kernel
theorem dX1_put_18 : decode cX1_put 18 = .ok (.if_icmp .lt 6, 3) := by decide +kernel
theorem dX1_put_21 : decode cX1_put 21 = .ok (.bipush (-4), 2) := by decide +kernel
theorem dX1_put_23 : decode cX1_put 23 = .ok (.ireturn, 1) := by decide +kernel
theorem dX1_put_24 : decode cX1_put 24 = .ok (.aload_n 0, 1) := by decide +kernel
theorem dX1_put_25 : decode cX1_put 25 = .ok (.getfield 24, 3) := by decide +kernel
theorem dX1_put_28 : decode cX1_put 28 = .ok (.istore_n 2, 1) := by decide +kernel
theorem dX1_put_29 : decode cX1_put 29 = .ok (.aload_n 0, 1) := by decide +kernel
theorem dX1_put_30 : decode cX1_put 30 = .ok (.dup, 1) := by decide +kernel
theorem dX1_put_31 : decode cX1_put 31 = .ok (.getfield 24, 3) := by decide +kernel
theorem dX1_put_34 : decode cX1_put 34 = .ok (.iconst 1, 1) := by decide +kernel
theorem dX1_put_35 : decode cX1_put 35 = .ok (.iadd, 1) := by decide +kernel
theorem dX1_put_36 : decode cX1_put 36 = .ok (.putfield 24, 3) := by decide +kernel
theorem dX1_put_39 : decode cX1_put 39 = .ok (.aload_n 0, 1) := by decide +kernel
theorem dX1_put_40 : decode cX1_put 40 = .ok (.getfield 15, 3) := by decide +kernel
theorem dX1_put_43 : decode cX1_put 43 = .ok (.iload_n 2, 1) := by decide +kernel
theorem dX1_put_44 : decode cX1_put 44 = .ok (.aload_n 1, 1) := by decide +kernel
theorem dX1_put_45 : decode cX1_put 45 = .ok (.getfield 32, 3) := by decide +kernel
theorem dX1_put_48 : decode cX1_put 48 = .ok (.iastore, 1) := by decide +kernel
theorem dX1_put_49 : decode cX1_put 49 = .ok (.aload_n 0, 1) := by decide +kernel
theorem dX1_put_50 : decode cX1_put 50 = .ok (.getfield 18, 3) := by decide +kernel
theorem dX1_put_53 : decode cX1_put 53 = .ok (.iload_n 2, 1) := by decide +kernel
theorem dX1_put_54 : decode cX1_put 54 = .ok (.aload_n 1, 1) := by decide +kernel
theorem dX1_put_55 : decode cX1_put 55 = .ok (.getfield 36, 3) := by decide +kernel
theorem dX1_put_58 : decode cX1_put 58 = .ok (.iastore, 1) := by decide +kernel
theorem dX1_put_59 : decode cX1_put 59 = .ok (.aload_n 1, 1) := by decide +kernel
theorem dX1_put_60 : decode cX1_put 60 = .ok (.getfield 39, 3) := by decide +kernel
theorem dX1_put_63 : decode cX1_put 63 = .ok (.iconst 0, 1) := by decide +kernel
theorem dX1_put_64 : decode cX1_put 64 = .ok (.aload_n 0, 1) := by decide +kernel
theorem dX1_put_65 : decode cX1_put 65 = .ok (.getfield 9, 3) := by decide +kernel
theorem dX1_put_68 : decode cX1_put 68 = .ok (.iload_n 2, 1) := by decide +kernel
theorem dX1_put_69 : decode cX1_put 69 = .ok (.bipush 6, 2) := by decide +kernel
theorem dX1_put_71 : decode cX1_put 71 = .ok (.imul, 1) := by decide +kernel
theorem dX1_put_72 : decode cX1_put 72 = .ok (.aload_n 1, 1) := by decide +kernel
theorem dX1_put_73 : decode cX1_put 73 = .ok (.getfield 32, 3) := by decide +kernel
theorem dX1_put_76 : decode cX1_put 76 = .ok (.invokestatic 42, 3) := by decide +kernel
theorem dX1_put_79 : decode cX1_put 79 = .ok (.aload_n 0, 1) := by decide +kernel
theorem dX1_put_80 : decode cX1_put 80 = .ok (.getfield 21, 3) := by decide +kernel
theorem dX1_put_83 : decode cX1_put 83 = .ok (.iload_n 2, 1) := by decide +kernel
theorem dX1_put_84 : decode cX1_put 84 = .ok (.aload_n 1, 1) := by decide +kernel
theorem dX1_put_85 : decode cX1_put 85 = .ok (.getfield 48, 3) := by decide +kernel
theorem dX1_put_88 : decode cX1_put 88 = .ok (.iastore, 1) := by decide +kernel
theorem dX1_put_89 : decode cX1_put 89 = .ok (.iload_n 2, 1) := by decide +kernel
theorem dX1_put_90 : decode cX1_put 90 = .ok (.ireturn, 1) := by decide +kernel
theorem dX1_find_0 : decode cX1_find 0 = .ok (.iconst 0, 1) := by decide +kernel
theorem dX1_find_1 : decode cX1_find 1 = .ok (.istore_n 2, 1) := by decide +kernel
theorem dX1_find_2 : decode cX1_find 2 = .ok (.iload_n 2, 1) := by decide +kernel
theorem dX1_find_3 : decode cX1_find 3 = .ok (.aload_n 0, 1) := by decide +kernel
theorem dX1_find_4 : decode cX1_find 4 = .ok (.getfield 24, 3) := by decide +kernel
theorem dX1_find_7 : decode cX1_find 7 = .ok (.if_icmp .ge 54, 3) := by decide +kernel
theorem dX1_find_10 : decode cX1_find 10 = .ok (.aload_n 0, 1) := by decide +kernel
theorem dX1_find_11 : decode cX1_find 11 = .ok (.getfield 15, 3) := by decide +kernel
theorem dX1_find_14 : decode cX1_find 14 = .ok (.iload_n 2, 1) := by decide +kernel
theorem dX1_find_15 : decode cX1_find 15 = .ok (.iaload, 1) := by decide +kernel
theorem dX1_find_16 : decode cX1_find 16 = .ok (.aload_n 1, 1) := by decide +kernel
theorem dX1_find_17 : decode cX1_find 17 = .ok (.getfield 32, 3) := by decide +kernel
theorem dX1_find_20 : decode cX1_find 20 = .ok (.if_icmp .ne 35, 3) := by decide +kernel
theorem dX1_find_23 : decode cX1_find 23 = .ok (.aload_n 0, 1) := by decide +kernel
theorem dX1_find_24 : decode cX1_find 24 = .ok (.getfield 18, 3) := by decide +kernel
theorem dX1_find_27 : decode cX1_find 27 = .ok (.iload_n 2, 1) := by decide +kernel
theorem dX1_find_28 : decode cX1_find 28 = .ok (.iaload, 1) := by decide +kernel
theorem dX1_find_29 : decode cX1_find 29 = .ok (.aload_n 1, 1) := by decide +kernel
theorem dX1_find_30 : decode cX1_find 30 = .ok (.getfield 36, 3) := by decide +kernel
theorem dX1_find_33 : decode cX1_find 33 = .ok (.if_icmp .ne 22, 3) := by decide +kernel
theorem dX1_find_36 : decode cX1_find 36 = .ok (.aload_n 0, 1) := by decide +kernel
theorem dX1_find_37 : decode cX1_find 37 = .ok (.iload_n 2, 1) := by decide +kernel
theorem dX1_find_38 : decode cX1_find 38 = .ok (.aload_n 1, 1) := by decide +kernel
theorem dX1_find_39 : decode cX1_find 39 = .ok (.getfield 39, 3) := by decide +kernel
theorem dX1_find_42 : decode cX1_find 42 = .ok (.iconst 0, 1) := by decide +kernel
theorem dX1_find_43 : decode cX1_find 43 = .ok (.aload_n 1, 1) := by decide +kernel
theorem dX1_find_44 : decode cX1_find 44 = .ok (.getfield 32, 3) := by decide +kernel
theorem dX1_find_47 : decode cX1_find 47 = .ok (.invokevirtual 51, 3) := by decide +kernel
theorem dX1_find_50 : decode cX1_find 50 = .ok (.ifCond .eq 5, 3) := by decide +kernel
theorem dX1_find_53 : decode cX1_find 53 = .ok (.iload_n 2, 1) := by decide +kernel
theorem dX1_find_54 : decode cX1_find 54 = .ok (.ireturn, 1) := by decide +kernel
theorem dX1_find_55 : decode cX1_find 55 = .ok (.iinc 2 1, 3) := by decide +kernel
theorem dX1_find_58 : decode cX1_find 58 = .ok (.goto (-56), 3) := by decide +kernel
theorem dX1_find_61 : decode cX1_find 61 = .ok (.bipush (-6), 2) := by decide +kernel
theorem dX1_find_63 : decode cX1_find 63 = .ok (.ireturn, 1) := by decide +kernel
theorem dX1_standsAt_0 : decode cX1_standsAt 0 = .ok (.aload_n 0, 1) := by decide +kernel
theorem dX1_standsAt_1 : decode cX1_standsAt 1 = .ok (.getfield 15, 3) := by decide +kernel
theorem dX1_standsAt_4 : decode cX1_standsAt 4 = .ok (.iload_n 1, 1) := by decide +kernel
theorem dX1_standsAt_5 : decode cX1_standsAt 5 = .ok (.iaload, 1) := by decide +kernel
theorem dX1_standsAt_6 : decode cX1_standsAt 6 = .ok (.iload 4, 2) := by decide +kernel
theorem dX1_standsAt_8 : decode cX1_standsAt 8 = .ok (.iload_n 3, 1) := by decide +kernel
theorem dX1_standsAt_9 : decode cX1_standsAt 9 = .ok (.isub, 1) := by decide +kernel
theorem dX1_standsAt_10 : decode cX1_standsAt 10 = .ok (.if_icmp .le 5, 3) := by decide +kernel
theorem dX1_standsAt_13 : decode cX1_standsAt 13 = .ok (.iconst 0, 1) := by decide +kernel
theorem dX1_standsAt_14 : decode cX1_standsAt 14 = .ok (.ireturn, 1) := by decide +kernel
theorem dX1_standsAt_15 : decode cX1_standsAt 15 = .ok (.iconst 0, 1) := by decide +kernel
theorem dX1_standsAt_16 : decode cX1_standsAt 16 = .ok (.istore 5, 2) := by decide +kernel
theorem dX1_standsAt_18 : decode cX1_standsAt 18 = .ok (.iload 5, 2) := by decide +kernel
theorem dX1_standsAt_20 : decode cX1_standsAt 20 = .ok (.aload_n 0, 1) := by decide +kernel
theorem dX1_standsAt_21 : decode cX1_standsAt 21 = .ok (.getfield 15, 3) := by decide +kernel
theorem dX1_standsAt_24 : decode cX1_standsAt 24 = .ok (.iload_n 1, 1) := by decide +kernel
theorem dX1_standsAt_25 : decode cX1_standsAt 25 = .ok (.iaload, 1) := by decide +kernel
theorem dX1_standsAt_26 : decode cX1_standsAt 26 = .ok (.if_icmp .ge 32, 3) := by decide +kernel
theorem dX1_standsAt_29 : decode cX1_standsAt 29 = .ok (.aload_n 0, 1) := by decide +kernel
theorem dX1_standsAt_30 : decode cX1_standsAt 30 = .ok (.getfield 9, 3) := by decide +kernel
theorem dX1_standsAt_33 : decode cX1_standsAt 33 = .ok (.iload_n 1, 1) := by decide +kernel
theorem dX1_standsAt_34 : decode cX1_standsAt 34 = .ok (.bipush 6, 2) := by decide +kernel
theorem dX1_standsAt_36 : decode cX1_standsAt 36 = .ok (.imul, 1) := by decide +kernel
theorem dX1_standsAt_37 : decode cX1_standsAt 37 = .ok (.iload 5, 2) := by decide +kernel
theorem dX1_standsAt_39 : decode cX1_standsAt 39 = .ok (.iadd, 1) := by decide +kernel
theorem dX1_standsAt_40 : decode cX1_standsAt 40 = .ok (.iaload, 1) := by decide +kernel
theorem dX1_standsAt_41 : decode cX1_standsAt 41 = .ok (.aload_n 2, 1) := by decide +kernel
theorem dX1_standsAt_42 : decode cX1_standsAt 42 = .ok (.iload_n 3, 1) := by decide +kernel
theorem dX1_standsAt_43 : decode cX1_standsAt 43 = .ok (.iload 5, 2) := by decide +kernel
theorem dX1_standsAt_45 : decode cX1_standsAt 45 = .ok (.iadd, 1) := by decide +kernel
theorem dX1_standsAt_46 : decode cX1_standsAt 46 = .ok (.iaload, 1) := by decide +kernel
theorem dX1_standsAt_47 : decode cX1_standsAt 47 = .ok (.if_icmp .eq 5, 3) := by decide +kernel
theorem dX1_standsAt_50 : decode cX1_standsAt 50 = .ok (.iconst 0, 1) := by decide +kernel
theorem dX1_standsAt_51 : decode cX1_standsAt 51 = .ok (.ireturn, 1) := by decide +kernel
theorem dX1_standsAt_52 : decode cX1_standsAt 52 = .ok (.iinc 5 1, 3) := by decide +kernel
theorem dX1_standsAt_55 : decode cX1_standsAt 55 = .ok (.goto (-37), 3) := by decide +kernel
theorem dX1_standsAt_58 : decode cX1_standsAt 58 = .ok (.iconst 1, 1) := by decide +kernel
theorem dX1_standsAt_59 : decode cX1_standsAt 59 = .ok (.ireturn, 1) := by decide +kernel
theorem dX1_remove_0 : decode cX1_remove 0 = .ok (.aload_n 0, 1) := by decide +kernel
theorem dX1_remove_1 : decode cX1_remove 1 = .ok (.getfield 24, 3) := by decide +kernel
theorem dX1_remove_4 : decode cX1_remove 4 = .ok (.iload_n 1, 1) := by decide +kernel
theorem dX1_remove_5 : decode cX1_remove 5 = .ok (.isub, 1) := by decide +kernel
theorem dX1_remove_6 : decode cX1_remove 6 = .ok (.iconst 1, 1) := by decide +kernel
theorem dX1_remove_7 : decode cX1_remove 7 = .ok (.isub, 1) := by decide +kernel
theorem dX1_remove_8 : decode cX1_remove 8 = .ok (.istore_n 2, 1) := by decide +kernel
theorem dX1_remove_9 : decode cX1_remove 9 = .ok (.aload_n 0, 1) := by decide +kernel
theorem dX1_remove_10 : decode cX1_remove 10 = .ok (.getfield 9, 3) := by decide +kernel
theorem dX1_remove_13 : decode cX1_remove 13 = .ok (.iload_n 1, 1) := by decide +kernel
theorem dX1_remove_14 : decode cX1_remove 14 = .ok (.iconst 1, 1) := by decide +kernel
theorem dX1_remove_15 : decode cX1_remove 15 = .ok (.iadd, 1) := by decide +kernel
theorem dX1_remove_16 : decode cX1_remove 16 = .ok (.bipush 6, 2) := by decide +kernel
theorem dX1_remove_18 : decode cX1_remove 18 = .ok (.imul, 1) := by decide +kernel
theorem dX1_remove_19 : decode cX1_remove 19 = .ok (.aload_n 0, 1) := by decide +kernel
theorem dX1_remove_20 : decode cX1_remove 20 = .ok (.getfield 9, 3) := by decide +kernel
theorem dX1_remove_23 : decode cX1_remove 23 = .ok (.iload_n 1, 1) := by decide +kernel
theorem dX1_remove_24 : decode cX1_remove 24 = .ok (.bipush 6, 2) := by decide +kernel
theorem dX1_remove_26 : decode cX1_remove 26 = .ok (.imul, 1) := by decide +kernel
theorem dX1_remove_27 : decode cX1_remove 27 = .ok (.iload_n 2, 1) := by decide +kernel
theorem dX1_remove_28 : decode cX1_remove 28 = .ok (.bipush 6, 2) := by decide +kernel
theorem dX1_remove_30 : decode cX1_remove 30 = .ok (.imul, 1) := by decide +kernel
theorem dX1_remove_31 : decode cX1_remove 31 = .ok (.invokestatic 42, 3) := by decide +kernel
theorem dX1_remove_34 : decode cX1_remove 34 = .ok (.aload_n 0, 1) := by decide +kernel
theorem dX1_remove_35 : decode cX1_remove 35 = .ok (.getfield 15, 3) := by decide +kernel
theorem dX1_remove_38 : decode cX1_remove 38 = .ok (.iload_n 1, 1) := by decide +kernel
theorem dX1_remove_39 : decode cX1_remove 39 = .ok (.iconst 1, 1) := by decide +kernel
theorem dX1_remove_40 : decode cX1_remove 40 = .ok (.iadd, 1) := by decide +kernel
theorem dX1_remove_41 : decode cX1_remove 41 = .ok (.aload_n 0, 1) := by decide +kernel
theorem dX1_remove_42 : decode cX1_remove 42 = .ok (.getfield 15, 3) := by decide +kernel
theorem dX1_remove_45 : decode cX1_remove 45 = .ok (.iload_n 1, 1) := by decide +kernel
theorem dX1_remove_46 : decode cX1_remove 46 = .ok (.iload_n 2, 1) := by decide +kernel
theorem dX1_remove_47 : decode cX1_remove 47 = .ok (.invokestatic 42, 3) := by decide +kernel
theorem dX1_remove_50 : decode cX1_remove 50 = .ok (.aload_n 0, 1) := by decide +kernel
theorem dX1_remove_51 : decode cX1_remove 51 = .ok (.getfield 18, 3) := by decide +kernel
theorem dX1_remove_54 : decode cX1_remove 54 = .ok (.iload_n 1, 1) := by decide +kernel
theorem dX1_remove_55 : decode cX1_remove 55 = .ok (.iconst 1, 1) := by decide +kernel
theorem dX1_remove_56 : decode cX1_remove 56 = .ok (.iadd, 1) := by decide +kernel
theorem dX1_remove_57 : decode cX1_remove 57 = .ok (.aload_n 0, 1) := by decide +kernel
theorem dX1_remove_58 : decode cX1_remove 58 = .ok (.getfield 18, 3) := by decide +kernel
theorem dX1_remove_61 : decode cX1_remove 61 = .ok (.iload_n 1, 1) := by decide +kernel
theorem dX1_remove_62 : decode cX1_remove 62 = .ok (.iload_n 2, 1) := by decide +kernel
theorem dX1_remove_63 : decode cX1_remove 63 = .ok (.invokestatic 42, 3) := by decide +kernel
theorem dX1_remove_66 : decode cX1_remove 66 = .ok (.aload_n 0, 1) := by decide +kernel
theorem dX1_remove_67 : decode cX1_remove 67 = .ok (.getfield 21, 3) := by decide +kernel
theorem dX1_remove_70 : decode cX1_remove 70 = .ok (.iload_n 1, 1) := by decide +kernel
theorem dX1_remove_71 : decode cX1_remove 71 = .ok (.iconst 1, 1) := by decide +kernel
theorem dX1_remove_72 : decode cX1_remove 72 = .ok (.iadd, 1) := by decide +kernel
theorem dX1_remove_73 : decode cX1_remove 73 = .ok (.aload_n 0, 1) := by decide +kernel
theorem dX1_remove_74 : decode cX1_remove 74 = .ok (.getfield 21, 3) := by decide +kernel
theorem dX1_remove_77 : decode cX1_remove 77 = .ok (.iload_n 1, 1) := by decide +kernel
theorem dX1_remove_78 : decode cX1_remove 78 = .ok (.iload_n 2, 1) := by decide +kernel
theorem dX1_remove_79 : decode cX1_remove 79 = .ok (.invokestatic 42, 3) := by decide +kernel
theorem dX1_remove_82 : decode cX1_remove 82 = .ok (.aload_n 0, 1) := by decide +kernel
theorem dX1_remove_83 : decode cX1_remove 83 = .ok (.dup, 1) := by decide +kernel
theorem dX1_remove_84 : decode cX1_remove 84 = .ok (.getfield 24, 3) := by decide +kernel
theorem dX1_remove_87 : decode cX1_remove 87 = .ok (.iconst 1, 1) := by decide +kernel
theorem dX1_remove_88 : decode cX1_remove 88 = .ok (.isub, 1) := by decide +kernel
theorem dX1_remove_89 : decode cX1_remove 89 = .ok (.putfield 24, 3) := by decide +kernel
theorem dX1_remove_92 : decode cX1_remove 92 = .ok (.return_, 1) := by decide +kernel
theorem dX1_tell_0 : decode cX1_tell 0 = .ok (.iload_n 2, 1) := by decide +kernel
theorem dX1_tell_1 : decode cX1_tell 1 = .ok (.tableswitch 48 0 2 #[27, 34, 41], 27) := by decide +kernel
theorem dX1_tell_28 : decode cX1_tell 28 = .ok (.aload_n 0, 1) := by decide +kernel
theorem dX1_tell_29 : decode cX1_tell 29 = .ok (.getfield 15, 3) := by decide +kernel
theorem dX1_tell_32 : decode cX1_tell 32 = .ok (.iload_n 1, 1) := by decide +kernel
theorem dX1_tell_33 : decode cX1_tell 33 = .ok (.iaload, 1) := by decide +kernel
theorem dX1_tell_34 : decode cX1_tell 34 = .ok (.ireturn, 1) := by decide +kernel
theorem dX1_tell_35 : decode cX1_tell 35 = .ok (.aload_n 0, 1) := by decide +kernel
theorem dX1_tell_36 : decode cX1_tell 36 = .ok (.getfield 18, 3) := by decide +kernel
theorem dX1_tell_39 : decode cX1_tell 39 = .ok (.iload_n 1, 1) := by decide +kernel
theorem dX1_tell_40 : decode cX1_tell 40 = .ok (.iaload, 1) := by decide +kernel
theorem dX1_tell_41 : decode cX1_tell 41 = .ok (.ireturn, 1) := by decide +kernel
theorem dX1_tell_42 : decode cX1_tell 42 = .ok (.aload_n 0, 1) := by decide +kernel
theorem dX1_tell_43 : decode cX1_tell 43 = .ok (.getfield 21, 3) := by decide +kernel
theorem dX1_tell_46 : decode cX1_tell 46 = .ok (.iload_n 1, 1) := by decide +kernel
theorem dX1_tell_47 : decode cX1_tell 47 = .ok (.iaload, 1) := by decide +kernel
theorem dX1_tell_48 : decode cX1_tell 48 = .ok (.ireturn, 1) := by decide +kernel
theorem dX1_tell_49 : decode cX1_tell 49 = .ok (.iload_n 2, 1) := by decide +kernel
theorem dX1_tell_50 : decode cX1_tell 50 = .ok (.iconst 3, 1) := by decide +kernel
theorem dX1_tell_51 : decode cX1_tell 51 = .ok (.isub, 1) := by decide +kernel
theorem dX1_tell_52 : decode cX1_tell 52 = .ok (.istore_n 3, 1) := by decide +kernel
theorem dX1_tell_53 : decode cX1_tell 53 = .ok (.iload_n 3, 1) := by decide +kernel
theorem dX1_tell_54 : decode cX1_tell 54 = .ok (.ifCond .lt 27, 3) := by decide +kernel
theorem dX1_tell_57 : decode cX1_tell 57 = .ok (.iload_n 3, 1) := by decide +kernel
theorem dX1_tell_58 : decode cX1_tell 58 = .ok (.aload_n 0, 1) := by decide +kernel
theorem dX1_tell_59 : decode cX1_tell 59 = .ok (.getfield 15, 3) := by decide +kernel
theorem dX1_tell_62 : decode cX1_tell 62 = .ok (.iload_n 1, 1) := by decide +kernel
theorem dX1_tell_63 : decode cX1_tell 63 = .ok (.iaload, 1) := by decide +kernel
theorem dX1_tell_64 : decode cX1_tell 64 = .ok (.if_icmp .ge 17, 3) := by decide +kernel
theorem dX1_tell_67 : decode cX1_tell 67 = .ok (.aload_n 0, 1) := by decide +kernel
theorem dX1_tell_68 : decode cX1_tell 68 = .ok (.getfield 9, 3) := by decide +kernel
theorem dX1_tell_71 : decode cX1_tell 71 = .ok (.iload_n 1, 1) := by decide +kernel
theorem dX1_tell_72 : decode cX1_tell 72 = .ok (.bipush 6, 2) := by decide +kernel
theorem dX1_tell_74 : decode cX1_tell 74 = .ok (.imul, 1) := by decide +kernel
theorem dX1_tell_75 : decode cX1_tell 75 = .ok (.iload_n 3, 1) := by decide +kernel
theorem dX1_tell_76 : decode cX1_tell 76 = .ok (.iadd, 1) := by decide +kernel
theorem dX1_tell_77 : decode cX1_tell 77 = .ok (.iaload, 1) := by decide +kernel
theorem dX1_tell_78 : decode cX1_tell 78 = .ok (.goto 5, 3) := by decide +kernel
theorem dX1_tell_81 : decode cX1_tell 81 = .ok (.bipush (-6), 2) := by decide +kernel
theorem dX1_tell_83 : decode cX1_tell 83 = .ok (.ireturn, 1) := by decide +kernel
theorem dX1_copy_0 : decode cX1_copy 0 = .ok (.aload_n 1, 1) := by decide +kernel
theorem dX1_copy_1 : decode cX1_copy 1 = .ok (.getfield 9, 3) := by decide +kernel
theorem dX1_copy_4 : decode cX1_copy 4 = .ok (.iconst 0, 1) := by decide +kernel
theorem dX1_copy_5 : decode cX1_copy 5 = .ok (.aload_n 0, 1) := by decide +kernel
theorem dX1_copy_6 : decode cX1_copy 6 = .ok (.getfield 9, 3) := by decide +kernel
theorem dX1_copy_9 : decode cX1_copy 9 = .ok (.iconst 0, 1) := by decide +kernel
theorem dX1_copy_10 : decode cX1_copy 10 = .ok (.bipush 96, 2) := by decide +kernel
theorem dX1_copy_12 : decode cX1_copy 12 = .ok (.invokestatic 42, 3) := by decide +kernel
theorem dX1_copy_15 : decode cX1_copy 15 = .ok (.aload_n 1, 1) := by decide +kernel
theorem dX1_copy_16 : decode cX1_copy 16 = .ok (.getfield 15, 3) := by decide +kernel
theorem dX1_copy_19 : decode cX1_copy 19 = .ok (.iconst 0, 1) := by decide +kernel
theorem dX1_copy_20 : decode cX1_copy 20 = .ok (.aload_n 0, 1) := by decide +kernel
theorem dX1_copy_21 : decode cX1_copy 21 = .ok (.getfield 15, 3) := by decide +kernel
theorem dX1_copy_24 : decode cX1_copy 24 = .ok (.iconst 0, 1) := by decide +kernel
theorem dX1_copy_25 : decode cX1_copy 25 = .ok (.bipush 16, 2) := by decide +kernel
theorem dX1_copy_27 : decode cX1_copy 27 = .ok (.invokestatic 42, 3) := by decide +kernel
theorem dX1_copy_30 : decode cX1_copy 30 = .ok (.aload_n 1, 1) := by decide +kernel
theorem dX1_copy_31 : decode cX1_copy 31 = .ok (.getfield 18, 3) := by decide +kernel
theorem dX1_copy_34 : decode cX1_copy 34 = .ok (.iconst 0, 1) := by decide +kernel
theorem dX1_copy_35 : decode cX1_copy 35 = .ok (.aload_n 0, 1) := by decide +kernel
theorem dX1_copy_36 : decode cX1_copy 36 = .ok (.getfield 18, 3) := by decide +kernel
theorem dX1_copy_39 : decode cX1_copy 39 = .ok (.iconst 0, 1) := by decide +kernel
theorem dX1_copy_40 : decode cX1_copy 40 = .ok (.bipush 16, 2) := by decide +kernel
theorem dX1_copy_42 : decode cX1_copy 42 = .ok (.invokestatic 42, 3) := by decide +kernel
theorem dX1_copy_45 : decode cX1_copy 45 = .ok (.aload_n 1, 1) := by decide +kernel
theorem dX1_copy_46 : decode cX1_copy 46 = .ok (.getfield 21, 3) := by decide +kernel
theorem dX1_copy_49 : decode cX1_copy 49 = .ok (.iconst 0, 1) := by decide +kernel
theorem dX1_copy_50 : decode cX1_copy 50 = .ok (.aload_n 0, 1) := by decide +kernel
theorem dX1_copy_51 : decode cX1_copy 51 = .ok (.getfield 21, 3) := by decide +kernel
theorem dX1_copy_54 : decode cX1_copy 54 = .ok (.iconst 0, 1) := by decide +kernel
theorem dX1_copy_55 : decode cX1_copy 55 = .ok (.bipush 16, 2) := by decide +kernel
theorem dX1_copy_57 : decode cX1_copy 57 = .ok (.invokestatic 42, 3) := by decide +kernel
theorem dX1_copy_60 : decode cX1_copy 60 = .ok (.aload_n 0, 1) := by decide +kernel
theorem dX1_copy_61 : decode cX1_copy 61 = .ok (.aload_n 1, 1) := by decide +kernel
theorem dX1_copy_62 : decode cX1_copy 62 = .ok (.getfield 24, 3) := by decide +kernel
theorem dX1_copy_65 : decode cX1_copy 65 = .ok (.putfield 24, 3) := by decide +kernel
theorem dX1_copy_68 : decode cX1_copy 68 = .ok (.return_, 1) := by decide +kernel
theorem dX2_init_0 : decode cX2_init 0 = .ok (.aload_n 0, 1) := by decide +kernel
theorem dX2_init_1 : decode cX2_init 1 = .ok (.invokespecial 3, 3) := by decide +kernel
theorem dX2_init_4 : decode cX2_init 4 = .ok (.aload_n 0, 1) := by decide +kernel
theorem dX2_init_5 : decode cX2_init 5 = .ok (.sipush 480, 3) := by decide +kernel
theorem dX2_init_8 : decode cX2_init 8 = .ok (.newarray .int, 2) := by decide +kernel
theorem dX2_init_10 : decode cX2_init 10 = .ok (.putfield 9, 3) := by decide +kernel
theorem dX2_init_13 : decode cX2_init 13 = .ok (.aload_n 0, 1) := by decide +kernel
theorem dX2_init_14 : decode cX2_init 14 = .ok (.sipush 480, 3) := by decide +kernel
theorem dX2_init_17 : decode cX2_init 17 = .ok (.newarray .int, 2) := by decide +kernel
theorem dX2_init_19 : decode cX2_init 19 = .ok (.putfield 15, 3) := by decide +kernel
theorem dX2_init_22 : decode cX2_init 22 = .ok (.aload_n 0, 1) := by decide +kernel
theorem dX2_init_23 : decode cX2_init 23 = .ok (.sipush 480, 3) := by decide +kernel
theorem dX2_init_26 : decode cX2_init 26 = .ok (.newarray .int, 2) := by decide +kernel
theorem dX2_init_28 : decode cX2_init 28 = .ok (.putfield 18, 3) := by decide +kernel
theorem dX2_init_31 : decode cX2_init 31 = .ok (.aload_n 0, 1) := by decide +kernel
theorem dX2_init_32 : decode cX2_init 32 = .ok (.sipush 480, 3) := by decide +kernel
theorem dX2_init_35 : decode cX2_init 35 = .ok (.newarray .int, 2) := by decide +kernel
theorem dX2_init_37 : decode cX2_init 37 = .ok (.putfield 21, 3) := by decide +kernel
theorem dX2_init_40 : decode cX2_init 40 = .ok (.aload_n 0, 1) := by decide +kernel
theorem dX2_init_41 : decode cX2_init 41 = .ok (.sipush 480, 3) := by decide +kernel
theorem dX2_init_44 : decode cX2_init 44 = .ok (.newarray .int, 2) := by decide +kernel
theorem dX2_init_46 : decode cX2_init 46 = .ok (.putfield 24, 3) := by decide +kernel
theorem dX2_init_49 : decode cX2_init 49 = .ok (.aload_n 0, 1) := by decide +kernel
theorem dX2_init_50 : decode cX2_init 50 = .ok (.bipush 25, 2) := by decide +kernel
theorem dX2_init_52 : decode cX2_init 52 = .ok (.newarray .int, 2) := by decide +kernel
theorem dX2_init_54 : decode cX2_init 54 = .ok (.putfield 27, 3) := by decide +kernel
theorem dX2_init_57 : decode cX2_init 57 = .ok (.aload_n 0, 1) := by decide +kernel
theorem dX2_init_58 : decode cX2_init 58 = .ok (.bipush 25, 2) := by decide +kernel
theorem dX2_init_60 : decode cX2_init 60 = .ok (.newarray .int, 2) := by decide +kernel
theorem dX2_init_62 : decode cX2_init 62 = .ok (.putfield 30, 3) := by decide +kernel
theorem dX2_init_65 : decode cX2_init 65 = .ok (.aload_n 0, 1) := by decide +kernel
theorem dX2_init_66 : decode cX2_init 66 = .ok (.bipush 28, 2) := by decide +kernel
theorem dX2_init_68 : decode cX2_init 68 = .ok (.newarray .int, 2) := by decide +kernel
theorem dX2_init_70 : decode cX2_init 70 = .ok (.putfield 33, 3) := by decide +kernel
theorem dX2_init_73 : decode cX2_init 73 = .ok (.aload_n 0, 1) := by decide +kernel
theorem dX2_init_74 : decode cX2_init 74 = .ok (.bipush 25, 2) := by decide +kernel
theorem dX2_init_76 : decode cX2_init 76 = .ok (.newarray .int, 2) := by decide +kernel
theorem dX2_init_78 : decode cX2_init 78 = .ok (.putfield 36, 3) := by decide +kernel
theorem dX2_init_81 : decode cX2_init 81 = .ok (.return_, 1) := by decide +kernel
theorem dX2_make_0 : decode cX2_make 0 = .ok (.aload_n 0, 1) := by decide +kernel
theorem dX2_make_1 : decode cX2_make 1 = .ok (.aload_n 1, 1) := by decide +kernel
theorem dX2_make_2 : decode cX2_make 2 = .ok (.getfield 39, 3) := by decide +kernel
theorem dX2_make_5 : decode cX2_make 5 = .ok (.putfield 45, 3) := by decide +kernel
theorem dX2_make_8 : decode cX2_make 8 = .ok (.aload_n 1, 1) := by decide +kernel
theorem dX2_make_9 : decode cX2_make 9 = .ok (.getfield 46, 3) := by decide +kernel
theorem dX2_make_12 : decode cX2_make 12 = .ok (.iconst 0, 1) := by decide +kernel
theorem dX2_make_13 : decode cX2_make 13 = .ok (.aload_n 0, 1) := by decide +kernel
theorem dX2_make_14 : decode cX2_make 14 = .ok (.getfield 30, 3) := by decide +kernel
theorem dX2_make_17 : decode cX2_make 17 = .ok (.iconst 0, 1) := by decide +kernel
theorem dX2_make_18 : decode cX2_make 18 = .ok (.bipush 25, 2) := by decide +kernel
theorem dX2_make_20 : decode cX2_make 20 = .ok (.invokestatic 47, 3) := by decide +kernel
theorem dX2_make_23 : decode cX2_make 23 = .ok (.aload_n 0, 1) := by decide +kernel
theorem dX2_make_24 : decode cX2_make 24 = .ok (.iconst 0, 1) := by decide +kernel
theorem dX2_make_25 : decode cX2_make 25 = .ok (.putfield 53, 3) := by decide +kernel
theorem dX2_make_28 : decode cX2_make 28 = .ok (.iconst 0, 1) := by decide +kernel
theorem dX2_make_29 : decode cX2_make 29 = .ok (.istore_n 2, 1) := by decide +kernel
theorem dX2_make_30 : decode cX2_make 30 = .ok (.iload_n 2, 1) := by decide +kernel
theorem dX2_make_31 : decode cX2_make 31 = .ok (.aload_n 0, 1) := by decide +kernel
theorem dX2_make_32 : decode cX2_make 32 = .ok (.getfield 45, 3) := by decide +kernel
theorem dX2_make_35 : decode cX2_make 35 = .ok (.if_icmp .ge 31, 3) := by decide +kernel
theorem dX2_make_38 : decode cX2_make 38 = .ok (.aload_n 0, 1) := by decide +kernel
theorem dX2_make_39 : decode cX2_make 39 = .ok (.getfield 27, 3) := by decide +kernel
theorem dX2_make_42 : decode cX2_make 42 = .ok (.iload_n 2, 1) := by decide +kernel
theorem dX2_make_43 : decode cX2_make 43 = .ok (.aload_n 0, 1) := by decide +kernel
theorem dX2_make_44 : decode cX2_make 44 = .ok (.getfield 53, 3) := by decide +kernel
theorem dX2_make_47 : decode cX2_make 47 = .ok (.iastore, 1) := by decide +kernel
theorem dX2_make_48 : decode cX2_make 48 = .ok (.aload_n 0, 1) := by decide +kernel
theorem dX2_make_49 : decode cX2_make 49 = .ok (.aload_n 1, 1) := by decide +kernel
theorem dX2_make_50 : decode cX2_make 50 = .ok (.iload_n 2, 1) := by decide +kernel
theorem dX2_make_51 : decode cX2_make 51 = .ok (.invokevirtual 56, 3) := by decide +kernel
theorem dX2_make_54 : decode cX2_make 54 = .ok (.aload_n 0, 1) := by decide +kernel
theorem dX2_make_55 : decode cX2_make 55 = .ok (.aload_n 1, 1) := by decide +kernel
theorem dX2_make_56 : decode cX2_make 56 = .ok (.iload_n 2, 1) := by decide +kernel
theorem dX2_make_57 : decode cX2_make 57 = .ok (.invokevirtual 60, 3) := by decide +kernel
theorem dX2_make_60 : decode cX2_make 60 = .ok (.iinc 2 1, 3) := by decide +kernel
theorem dX2_make_63 : decode cX2_make 63 = .ok (.goto (-33), 3) := by decide +kernel
theorem dX2_make_66 : decode cX2_make 66 = .ok (.aload_n 0, 1) := by decide +kernel
theorem dX2_make_67 : decode cX2_make 67 = .ok (.getfield 27, 3) := by decide +kernel
theorem dX2_make_70 : decode cX2_make 70 = .ok (.aload_n 0, 1) := by decide +kernel
theorem dX2_make_71 : decode cX2_make 71 = .ok (.getfield 45, 3) := by decide +kernel
theorem dX2_make_74 : decode cX2_make 74 = .ok (.aload_n 0, 1) := by decide +kernel
theorem dX2_make_75 : decode cX2_make 75 = .ok (.getfield 53, 3) := by decide +kernel
theorem dX2_make_78 : decode cX2_make 78 = .ok (.iastore, 1) := by decide +kernel
theorem dX2_make_79 : decode cX2_make 79 = .ok (.return_, 1) := by decide +kernel
theorem dX2_fillSlots_0 : decode cX2_fillSlots 0 = .ok (.iconst 0, 1) := by decide +kernel
theorem dX2_fillSlots_1 : decode cX2_fillSlots 1 = .ok (.istore_n 3, 1) := by decide +kernel
theorem dX2_fillSlots_2 : decode cX2_fillSlots 2 = .ok (.iload_n 3, 1) := by decide +kernel
theorem dX2_fillSlots_3 : decode cX2_fillSlots 3 = .ok (.aload_n 0, 1) := by decide +kernel
theorem dX2_fillSlots_4 : decode cX2_fillSlots 4 = .ok (.getfield 33, 3) := by decide +kernel
theorem dX2_fillSlots_7 : decode cX2_fillSlots 7 = .ok (.arraylength, 1) := by decide +kernel
theorem dX2_fillSlots_8 : decode cX2_fillSlots 8 = .ok (.if_icmp .ge 16, 3) := by decide +kernel
theorem dX2_fillSlots_11 : decode cX2_fillSlots 11 = .ok (.aload_n 0, 1) := by decide +kernel
theorem dX2_fillSlots_12 : decode cX2_fillSlots 12 = .ok (.getfield 33, 3) := by decide +kernel
theorem dX2_fillSlots_15 : decode cX2_fillSlots 15 = .ok (.iload_n 3, 1) := by decide +kernel
theorem dX2_fillSlots_16 : decode cX2_fillSlots 16 = .ok (.iconst (-1), 1) := by decide +kernel
theorem dX2_fillSlots_17 : decode cX2_fillSlots 17 = .ok (.iastore, 1) := by decide +kernel
theorem dX2_fillSlots_18 : decode cX2_fillSlots 18 = .ok (.iinc 3 1, 3) := by decide +kernel
theorem dX2_fillSlots_21 : decode cX2_fillSlots 21 = .ok (.goto (-19), 3) := by decide +kernel
theorem dX2_fillSlots_24 : decode cX2_fillSlots 24 = .ok (.aload_n 0, 1) := by decide +kernel
theorem dX2_fillSlots_25 : decode cX2_fillSlots 25 = .ok (.aload_n 1, 1) := by decide +kernel
theorem dX2_fillSlots_26 : decode cX2_fillSlots 26 = .ok (.iload_n 2, 1) := by decide +kernel
theorem dX2_fillSlots_27 : decode cX2_fillSlots 27 = .ok (.invokevirtual 63, 3) := by decide +kernel
theorem dX2_fillSlots_30 : decode cX2_fillSlots 30 = .ok (.istore_n 3, 1) := by decide +kernel
theorem dX2_fillSlots_31 : decode cX2_fillSlots 31 = .ok (.aload_n 1, 1) := by decide +kernel
theorem dX2_fillSlots_32 : decode cX2_fillSlots 32 = .ok (.getfield 67, 3) := by decide +kernel
theorem dX2_fillSlots_35 : decode cX2_fillSlots 35 = .ok (.iconst 0, 1) := by decide +kernel
theorem dX2_fillSlots_36 : decode cX2_fillSlots 36 = .ok (.iaload, 1) := by decide +kernel
theorem dX2_fillSlots_37 : decode cX2_fillSlots 37 = .ok (.istore 4, 2) := by decide +kernel
theorem dX2_fillSlots_39 : decode cX2_fillSlots 39 = .ok (.iload 4, 2) := by decide +kernel
theorem dX2_fillSlots_41 : decode cX2_fillSlots 41 = .ok (.iconst 2, 1) := by decide +kernel
theorem dX2_fillSlots_42 : decode cX2_fillSlots 42 = .ok (.if_icmp .eq 18, 3) := by decide +kernel
theorem dX2_fillSlots_45 : decode cX2_fillSlots 45 = .ok (.iload 4, 2) := by decide +kernel
theorem dX2_fillSlots_47 : decode cX2_fillSlots 47 = .ok (.ifCond .ne 7, 3) := by decide +kernel
theorem dX2_fillSlots_50 : decode cX2_fillSlots 50 = .ok (.iload_n 3, 1) := by decide +kernel
theorem dX2_fillSlots_51 : decode cX2_fillSlots 51 = .ok (.ifCond .ne 9, 3) := by decide +kernel
theorem dX2_fillSlots_54 : decode cX2_fillSlots 54 = .ok (.aload_n 0, 1) := by decide +kernel
theorem dX2_fillSlots_55 : decode cX2_fillSlots 55 = .ok (.aload_n 1, 1) := by decide +kernel
theorem dX2_fillSlots_56 : decode cX2_fillSlots 56 = .ok (.iload_n 2, 1) := by decide +kernel
theorem dX2_fillSlots_57 : decode cX2_fillSlots 57 = .ok (.invokevirtual 70, 3) := by decide +kernel
theorem dX2_fillSlots_60 : decode cX2_fillSlots 60 = .ok (.return_, 1) := by decide +kernel
theorem dX2_fillWords_0 : decode cX2_fillWords 0 = .ok (.aload_n 1, 1) := by decide +kernel
theorem dX2_fillWords_1 : decode cX2_fillWords 1 = .ok (.getfield 73, 3) := by decide +kernel
theorem dX2_fillWords_4 : decode cX2_fillWords 4 = .ok (.astore_n 3, 1) := by decide +kernel
theorem dX2_fillWords_5 : decode cX2_fillWords 5 = .ok (.iconst 0, 1) := by decide +kernel
theorem dX2_fillWords_6 : decode cX2_fillWords 6 = .ok (.istore 4, 2) := by decide +kernel
theorem dX2_fillWords_8 : decode cX2_fillWords 8 = .ok (.iconst 0, 1) := by decide +kernel
theorem dX2_fillWords_9 : decode cX2_fillWords 9 = .ok (.istore 5, 2) := by decide +kernel
theorem dX2_fillWords_11 : decode cX2_fillWords 11 = .ok (.iload 5, 2) := by decide +kernel
theorem dX2_fillWords_13 : decode cX2_fillWords 13 = .ok (.aload_n 3, 1) := by decide +kernel
theorem dX2_fillWords_14 : decode cX2_fillWords 14 = .ok (.getfield 77, 3) := by decide +kernel
theorem dX2_fillWords_17 : decode cX2_fillWords 17 = .ok (.if_icmp .ge 54, 3) := by decide +kernel
theorem dX2_fillWords_20 : decode cX2_fillWords 20 = .ok (.aload_n 3, 1) := by decide +kernel
theorem dX2_fillWords_21 : decode cX2_fillWords 21 = .ok (.iload 5, 2) := by decide +kernel
theorem dX2_fillWords_23 : decode cX2_fillWords 23 = .ok (.aload_n 1, 1) := by decide +kernel
theorem dX2_fillWords_24 : decode cX2_fillWords 24 = .ok (.getfield 80, 3) := by decide +kernel
theorem dX2_fillWords_27 : decode cX2_fillWords 27 = .ok (.iload_n 2, 1) := by decide +kernel
theorem dX2_fillWords_28 : decode cX2_fillWords 28 = .ok (.aload_n 1, 1) := by decide +kernel
theorem dX2_fillWords_29 : decode cX2_fillWords 29 = .ok (.getfield 39, 3) := by decide +kernel
theorem dX2_fillWords_32 : decode cX2_fillWords 32 = .ok (.invokevirtual 83, 3) := by decide +kernel
theorem dX2_fillWords_35 : decode cX2_fillWords 35 = .ok (.ifCond .eq 30, 3) := by decide +kernel
theorem dX2_fillWords_38 : decode cX2_fillWords 38 = .ok (.aload_n 0, 1) := by decide +kernel
theorem dX2_fillWords_39 : decode cX2_fillWords 39 = .ok (.getfield 33, 3) := by decide +kernel
theorem dX2_fillWords_42 : decode cX2_fillWords 42 = .ok (.aload_n 3, 1) := by decide +kernel
theorem dX2_fillWords_43 : decode cX2_fillWords 43 = .ok (.getfield 87, 3) := by decide +kernel
theorem dX2_fillWords_46 : decode cX2_fillWords 46 = .ok (.iload 5, 2) := by decide +kernel
theorem dX2_fillWords_48 : decode cX2_fillWords 48 = .ok (.iaload, 1) := by decide +kernel
theorem dX2_fillWords_49 : decode cX2_fillWords 49 = .ok (.iconst 4, 1) := by decide +kernel
theorem dX2_fillWords_50 : decode cX2_fillWords 50 = .ok (.imul, 1) := by decide +kernel
theorem dX2_fillWords_51 : decode cX2_fillWords 51 = .ok (.aload_n 3, 1) := by decide +kernel
theorem dX2_fillWords_52 : decode cX2_fillWords 52 = .ok (.getfield 88, 3) := by decide +kernel
theorem dX2_fillWords_55 : decode cX2_fillWords 55 = .ok (.iload 5, 2) := by decide +kernel
theorem dX2_fillWords_57 : decode cX2_fillWords 57 = .ok (.iaload, 1) := by decide +kernel
theorem dX2_fillWords_58 : decode cX2_fillWords 58 = .ok (.iadd, 1) := by decide +kernel
theorem dX2_fillWords_59 : decode cX2_fillWords 59 = .ok (.iload 5, 2) := by decide +kernel
theorem dX2_fillWords_61 : decode cX2_fillWords 61 = .ok (.iastore, 1) := by decide +kernel
theorem dX2_fillWords_62 : decode cX2_fillWords 62 = .ok (.iconst 1, 1) := by decide +kernel
theorem dX2_fillWords_63 : decode cX2_fillWords 63 = .ok (.istore 4, 2) := by decide +kernel
theorem dX2_fillWords_65 : decode cX2_fillWords 65 = .ok (.iinc 5 1, 3) := by decide +kernel
theorem dX2_fillWords_68 : decode cX2_fillWords 68 = .ok (.goto (-57), 3) := by decide +kernel
theorem dX2_fillWords_71 : decode cX2_fillWords 71 = .ok (.iload 4, 2) := by decide +kernel
theorem dX2_fillWords_73 : decode cX2_fillWords 73 = .ok (.ireturn, 1) := by decide +kernel
theorem dX2_fillWild_0 : decode cX2_fillWild 0 = .ok (.aload_n 1, 1) := by decide +kernel
theorem dX2_fillWild_1 : decode cX2_fillWild 1 = .ok (.iload_n 2, 1) := by decide +kernel
theorem dX2_fillWild_2 : decode cX2_fillWild 2 = .ok (.invokevirtual 89, 3) := by decide +kernel
theorem dX2_fillWild_5 : decode cX2_fillWild 5 = .ok (.istore_n 3, 1) := by decide +kernel
theorem dX2_fillWild_6 : decode cX2_fillWild 6 = .ok (.aload_n 0, 1) := by decide +kernel
theorem dX2_fillWild_7 : decode cX2_fillWild 7 = .ok (.getfield 33, 3) := by decide +kernel
theorem dX2_fillWild_10 : decode cX2_fillWild 10 = .ok (.iload_n 3, 1) := by decide +kernel
theorem dX2_fillWild_11 : decode cX2_fillWild 11 = .ok (.iconst 4, 1) := by decide +kernel
theorem dX2_fillWild_12 : decode cX2_fillWild 12 = .ok (.imul, 1) := by decide +kernel
theorem dX2_fillWild_13 : decode cX2_fillWild 13 = .ok (.iconst 3, 1) := by decide +kernel
theorem dX2_fillWild_14 : decode cX2_fillWild 14 = .ok (.iadd, 1) := by decide +kernel
theorem dX2_fillWild_15 : decode cX2_fillWild 15 = .ok (.bipush (-6), 2) := by decide +kernel
theorem dX2_fillWild_17 : decode cX2_fillWild 17 = .ok (.iastore, 1) := by decide +kernel
theorem dX2_fillWild_18 : decode cX2_fillWild 18 = .ok (.iconst 1, 1) := by decide +kernel
theorem dX2_fillWild_19 : decode cX2_fillWild 19 = .ok (.istore 4, 2) := by decide +kernel
theorem dX2_fillWild_21 : decode cX2_fillWild 21 = .ok (.iload 4, 2) := by decide +kernel
theorem dX2_fillWild_23 : decode cX2_fillWild 23 = .ok (.aload_n 1, 1) := by decide +kernel
theorem dX2_fillWild_24 : decode cX2_fillWild 24 = .ok (.getfield 67, 3) := by decide +kernel
theorem dX2_fillWild_27 : decode cX2_fillWild 27 = .ok (.iconst 3, 1) := by decide +kernel
theorem dX2_fillWild_28 : decode cX2_fillWild 28 = .ok (.iaload, 1) := by decide +kernel
theorem dX2_fillWild_29 : decode cX2_fillWild 29 = .ok (.if_icmp .gt 28, 3) := by decide +kernel
theorem dX2_fillWild_32 : decode cX2_fillWild 32 = .ok (.iload 4, 2) := by decide +kernel
theorem dX2_fillWild_34 : decode cX2_fillWild 34 = .ok (.iload_n 3, 1) := by decide +kernel
theorem dX2_fillWild_35 : decode cX2_fillWild 35 = .ok (.if_icmp .ge 22, 3) := by decide +kernel
theorem dX2_fillWild_38 : decode cX2_fillWild 38 = .ok (.aload_n 0, 1) := by decide +kernel
theorem dX2_fillWild_39 : decode cX2_fillWild 39 = .ok (.getfield 33, 3) := by decide +kernel
theorem dX2_fillWild_42 : decode cX2_fillWild 42 = .ok (.iload 4, 2) := by decide +kernel
theorem dX2_fillWild_44 : decode cX2_fillWild 44 = .ok (.iconst 4, 1) := by decide +kernel
theorem dX2_fillWild_45 : decode cX2_fillWild 45 = .ok (.imul, 1) := by decide +kernel
theorem dX2_fillWild_46 : decode cX2_fillWild 46 = .ok (.iconst 3, 1) := by decide +kernel
theorem dX2_fillWild_47 : decode cX2_fillWild 47 = .ok (.iadd, 1) := by decide +kernel
theorem dX2_fillWild_48 : decode cX2_fillWild 48 = .ok (.bipush (-6), 2) := by decide +kernel
theorem dX2_fillWild_50 : decode cX2_fillWild 50 = .ok (.iastore, 1) := by decide +kernel
theorem dX2_fillWild_51 : decode cX2_fillWild 51 = .ok (.iinc 4 1, 3) := by decide +kernel
theorem dX2_fillWild_54 : decode cX2_fillWild 54 = .ok (.goto (-33), 3) := by decide +kernel
theorem dX2_fillWild_57 : decode cX2_fillWild 57 = .ok (.return_, 1) := by decide +kernel
theorem dX2_addSlots_0 : decode cX2_addSlots 0 = .ok (.iconst 0, 1) := by decide +kernel
theorem dX2_addSlots_1 : decode cX2_addSlots 1 = .ok (.istore_n 3, 1) := by decide +kernel
theorem dX2_addSlots_2 : decode cX2_addSlots 2 = .ok (.iload_n 3, 1) := by decide +kernel
theorem dX2_addSlots_3 : decode cX2_addSlots 3 = .ok (.aload_n 0, 1) := by decide +kernel
theorem dX2_addSlots_4 : decode cX2_addSlots 4 = .ok (.getfield 33, 3) := by decide +kernel
theorem dX2_addSlots_7 : decode cX2_addSlots 7 = .ok (.arraylength, 1) := by decide +kernel
theorem dX2_addSlots_8 : decode cX2_addSlots 8 = .ok (.if_icmp .ge 36, 3) := by decide +kernel
theorem dX2_addSlots_11 : decode cX2_addSlots 11 = .ok (.aload_n 0, 1) := by decide +kernel
theorem dX2_addSlots_12 : decode cX2_addSlots 12 = .ok (.getfield 33, 3) := by decide +kernel
theorem dX2_addSlots_15 : decode cX2_addSlots 15 = .ok (.iload_n 3, 1) := by decide +kernel
theorem dX2_addSlots_16 : decode cX2_addSlots 16 = .ok (.iaload, 1) := by decide +kernel
theorem dX2_addSlots_17 : decode cX2_addSlots 17 = .ok (.iconst (-1), 1) := by decide +kernel
theorem dX2_addSlots_18 : decode cX2_addSlots 18 = .ok (.if_icmp .eq 20, 3) := by decide +kernel
theorem dX2_addSlots_21 : decode cX2_addSlots 21 = .ok (.aload_n 0, 1) := by decide +kernel
theorem dX2_addSlots_22 : decode cX2_addSlots 22 = .ok (.getfield 53, 3) := by decide +kernel
theorem dX2_addSlots_25 : decode cX2_addSlots 25 = .ok (.sipush 480, 3) := by decide +kernel
theorem dX2_addSlots_28 : decode cX2_addSlots 28 = .ok (.if_icmp .ge 10, 3) := by decide +kernel
theorem dX2_addSlots_31 : decode cX2_addSlots 31 = .ok (.aload_n 0, 1) := by decide +kernel
theorem dX2_addSlots_32 : decode cX2_addSlots 32 = .ok (.aload_n 1, 1) := by decide +kernel
theorem dX2_addSlots_33 : decode cX2_addSlots 33 = .ok (.iload_n 2, 1) := by decide +kernel
theorem dX2_addSlots_34 : decode cX2_addSlots 34 = .ok (.iload_n 3, 1) := by decide +kernel
theorem dX2_addSlots_35 : decode cX2_addSlots 35 = .ok (.invokevirtual 93, 3) := by decide +kernel
theorem dX2_addSlots_38 : decode cX2_addSlots 38 = .ok (.iinc 3 1, 3) := by decide +kernel
theorem dX2_addSlots_41 : decode cX2_addSlots 41 = .ok (.goto (-39), 3) := by decide +kernel
theorem dX2_addSlots_44 : decode cX2_addSlots 44 = .ok (.return_, 1) := by decide +kernel
theorem dX2_add_0 : decode cX2_add 0 = .ok (.aload_n 0, 1) := by decide +kernel
theorem dX2_add_1 : decode cX2_add 1 = .ok (.getfield 33, 3) := by decide +kernel
theorem dX2_add_4 : decode cX2_add 4 = .ok (.iload_n 3, 1) := by decide +kernel
theorem dX2_add_5 : decode cX2_add 5 = .ok (.iaload, 1) := by decide +kernel
theorem dX2_add_6 : decode cX2_add 6 = .ok (.istore 4, 2) := by decide +kernel
theorem dX2_add_8 : decode cX2_add 8 = .ok (.iload_n 3, 1) := by decide +kernel
theorem dX2_add_9 : decode cX2_add 9 = .ok (.iconst 4, 1) := by decide +kernel
theorem dX2_add_10 : decode cX2_add 10 = .ok (.idiv, 1) := by decide +kernel
theorem dX2_add_11 : decode cX2_add 11 = .ok (.istore 5, 2) := by decide +kernel
theorem dX2_add_13 : decode cX2_add 13 = .ok (.aload_n 0, 1) := by decide +kernel
theorem dX2_add_14 : decode cX2_add 14 = .ok (.getfield 9, 3) := by decide +kernel
theorem dX2_add_17 : decode cX2_add 17 = .ok (.aload_n 0, 1) := by decide +kernel
theorem dX2_add_18 : decode cX2_add 18 = .ok (.getfield 53, 3) := by decide +kernel
theorem dX2_add_21 : decode cX2_add 21 = .ok (.iload_n 2, 1) := by decide +kernel
theorem dX2_add_22 : decode cX2_add 22 = .ok (.iastore, 1) := by decide +kernel
theorem dX2_add_23 : decode cX2_add 23 = .ok (.aload_n 0, 1) := by decide +kernel
theorem dX2_add_24 : decode cX2_add 24 = .ok (.getfield 15, 3) := by decide +kernel
theorem dX2_add_27 : decode cX2_add 27 = .ok (.aload_n 0, 1) := by decide +kernel
theorem dX2_add_28 : decode cX2_add 28 = .ok (.getfield 53, 3) := by decide +kernel
theorem dX2_add_31 : decode cX2_add 31 = .ok (.iload 5, 2) := by decide +kernel
theorem dX2_add_33 : decode cX2_add 33 = .ok (.iastore, 1) := by decide +kernel
theorem dX2_add_34 : decode cX2_add 34 = .ok (.aload_n 0, 1) := by decide +kernel
theorem dX2_add_35 : decode cX2_add 35 = .ok (.getfield 18, 3) := by decide +kernel
theorem dX2_add_38 : decode cX2_add 38 = .ok (.aload_n 0, 1) := by decide +kernel
theorem dX2_add_39 : decode cX2_add 39 = .ok (.getfield 53, 3) := by decide +kernel
theorem dX2_add_42 : decode cX2_add 42 = .ok (.iload_n 3, 1) := by decide +kernel
theorem dX2_add_43 : decode cX2_add 43 = .ok (.iconst 4, 1) := by decide +kernel
theorem dX2_add_44 : decode cX2_add 44 = .ok (.irem, 1) := by decide +kernel
theorem dX2_add_45 : decode cX2_add 45 = .ok (.iastore, 1) := by decide +kernel
theorem dX2_add_46 : decode cX2_add 46 = .ok (.aload_n 0, 1) := by decide +kernel
theorem dX2_add_47 : decode cX2_add 47 = .ok (.getfield 24, 3) := by decide +kernel
theorem dX2_add_50 : decode cX2_add 50 = .ok (.aload_n 0, 1) := by decide +kernel
theorem dX2_add_51 : decode cX2_add 51 = .ok (.getfield 53, 3) := by decide +kernel
theorem dX2_add_54 : decode cX2_add 54 = .ok (.iload 4, 2) := by decide +kernel
theorem dX2_add_56 : decode cX2_add 56 = .ok (.iastore, 1) := by decide +kernel
theorem dX2_add_57 : decode cX2_add 57 = .ok (.aload_n 0, 1) := by decide +kernel
theorem dX2_add_58 : decode cX2_add 58 = .ok (.getfield 21, 3) := by decide +kernel
theorem dX2_add_61 : decode cX2_add 61 = .ok (.aload_n 0, 1) := by decide +kernel
theorem dX2_add_62 : decode cX2_add 62 = .ok (.getfield 53, 3) := by decide +kernel
theorem dX2_add_65 : decode cX2_add 65 = .ok (.iload 4, 2) := by decide +kernel
theorem dX2_add_67 : decode cX2_add 67 = .ok (.bipush (-6), 2) := by decide +kernel
theorem dX2_add_69 : decode cX2_add 69 = .ok (.if_icmp .ne 22, 3) := by decide +kernel
theorem dX2_add_72 : decode cX2_add 72 = .ok (.aload_n 1, 1) := by decide +kernel
theorem dX2_add_73 : decode cX2_add 73 = .ok (.getfield 67, 3) := by decide +kernel
theorem dX2_add_76 : decode cX2_add 76 = .ok (.iconst 1, 1) := by decide +kernel
theorem dX2_add_77 : decode cX2_add 77 = .ok (.iaload, 1) := by decide +kernel
theorem dX2_add_78 : decode cX2_add 78 = .ok (.aload_n 1, 1) := by decide +kernel
theorem dX2_add_79 : decode cX2_add 79 = .ok (.getfield 67, 3) := by decide +kernel
theorem dX2_add_82 : decode cX2_add 82 = .ok (.iconst 2, 1) := by decide +kernel
theorem dX2_add_83 : decode cX2_add 83 = .ok (.iaload, 1) := by decide +kernel
theorem dX2_add_84 : decode cX2_add 84 = .ok (.iload 5, 2) := by decide +kernel
theorem dX2_add_86 : decode cX2_add 86 = .ok (.imul, 1) := by decide +kernel
theorem dX2_add_87 : decode cX2_add 87 = .ok (.iadd, 1) := by decide +kernel
theorem dX2_add_88 : decode cX2_add 88 = .ok (.goto 13, 3) := by decide +kernel
theorem dX2_add_91 : decode cX2_add 91 = .ok (.aload_n 1, 1) := by decide +kernel
theorem dX2_add_92 : decode cX2_add 92 = .ok (.getfield 73, 3) := by decide +kernel
theorem dX2_add_95 : decode cX2_add 95 = .ok (.getfield 97, 3) := by decide +kernel
theorem dX2_add_98 : decode cX2_add 98 = .ok (.iload 4, 2) := by decide +kernel
theorem dX2_add_100 : decode cX2_add 100 = .ok (.iaload, 1) := by decide +kernel
theorem dX2_add_101 : decode cX2_add 101 = .ok (.iastore, 1) := by decide +kernel
theorem dX2_add_102 : decode cX2_add 102 = .ok (.aload_n 0, 1) := by decide +kernel
theorem dX2_add_103 : decode cX2_add 103 = .ok (.dup, 1) := by decide +kernel
theorem dX2_add_104 : decode cX2_add 104 = .ok (.getfield 53, 3) := by decide +kernel
theorem dX2_add_107 : decode cX2_add 107 = .ok (.iconst 1, 1) := by decide +kernel
theorem dX2_add_108 : decode cX2_add 108 = .ok (.iadd, 1) := by decide +kernel
theorem dX2_add_109 : decode cX2_add 109 = .ok (.putfield 53, 3) := by decide +kernel
theorem dX2_add_112 : decode cX2_add 112 = .ok (.return_, 1) := by decide +kernel
theorem dX2_joinBefore_0 : decode cX2_joinBefore 0 = .ok (.aload_n 0, 1) := by decide +kernel
theorem dX2_joinBefore_1 : decode cX2_joinBefore 1 = .ok (.getfield 30, 3) := by decide +kernel
theorem dX2_joinBefore_4 : decode cX2_joinBefore 4 = .ok (.iload_n 1, 1) := by decide +kernel
theorem dX2_joinBefore_5 : decode cX2_joinBefore 5 = .ok (.iconst 5, 1) := by decide +kernel
theorem dX2_joinBefore_6 : decode cX2_joinBefore 6 = .ok (.imul, 1) := by decide +kernel
theorem dX2_joinBefore_7 : decode cX2_joinBefore 7 = .ok (.aload_n 0, 1) := by decide +kernel
theorem dX2_joinBefore_8 : decode cX2_joinBefore 8 = .ok (.getfield 18, 3) := by decide +kernel
theorem dX2_joinBefore_11 : decode cX2_joinBefore 11 = .ok (.iload_n 2, 1) := by decide +kernel
theorem dX2_joinBefore_12 : decode cX2_joinBefore 12 = .ok (.iaload, 1) := by decide +kernel
theorem dX2_joinBefore_13 : decode cX2_joinBefore 13 = .ok (.iadd, 1) := by decide +kernel
theorem dX2_joinBefore_14 : decode cX2_joinBefore 14 = .ok (.iaload, 1) := by decide +kernel
theorem dX2_joinBefore_15 : decode cX2_joinBefore 15 = .ok (.ireturn, 1) := by decide +kernel
theorem dX2_joinAtEnd_0 : decode cX2_joinAtEnd 0 = .ok (.aload_n 0, 1) := by decide +kernel
theorem dX2_joinAtEnd_1 : decode cX2_joinAtEnd 1 = .ok (.getfield 30, 3) := by decide +kernel
theorem dX2_joinAtEnd_4 : decode cX2_joinAtEnd 4 = .ok (.iload_n 1, 1) := by decide +kernel
theorem dX2_joinAtEnd_5 : decode cX2_joinAtEnd 5 = .ok (.iconst 5, 1) := by decide +kernel
theorem dX2_joinAtEnd_6 : decode cX2_joinAtEnd 6 = .ok (.imul, 1) := by decide +kernel
theorem dX2_joinAtEnd_7 : decode cX2_joinAtEnd 7 = .ok (.iconst 4, 1) := by decide +kernel
theorem dX2_joinAtEnd_8 : decode cX2_joinAtEnd 8 = .ok (.iadd, 1) := by decide +kernel
theorem dX2_joinAtEnd_9 : decode cX2_joinAtEnd 9 = .ok (.iaload, 1) := by decide +kernel
theorem dX2_joinAtEnd_10 : decode cX2_joinAtEnd 10 = .ok (.ireturn, 1) := by decide +kernel
theorem dX2_countWays_0 : decode cX2_countWays 0 = .ok (.iconst 0, 1) := by decide +kernel
theorem dX2_countWays_1 : decode cX2_countWays 1 = .ok (.istore_n 1, 1) := by decide +kernel
theorem dX2_countWays_2 : decode cX2_countWays 2 = .ok (.iload_n 1, 1) := by decide +kernel
theorem dX2_countWays_3 : decode cX2_countWays 3 = .ok (.aload_n 0, 1) := by decide +kernel
theorem dX2_countWays_4 : decode cX2_countWays 4 = .ok (.getfield 45, 3) := by decide +kernel
theorem dX2_countWays_7 : decode cX2_countWays 7 = .ok (.if_icmp .ge 16, 3) := by decide +kernel
theorem dX2_countWays_10 : decode cX2_countWays 10 = .ok (.aload_n 0, 1) := by decide +kernel
theorem dX2_countWays_11 : decode cX2_countWays 11 = .ok (.getfield 36, 3) := by decide +kernel
theorem dX2_countWays_14 : decode cX2_countWays 14 = .ok (.iload_n 1, 1) := by decide +kernel
theorem dX2_countWays_15 : decode cX2_countWays 15 = .ok (.iconst 0, 1) := by decide +kernel
theorem dX2_countWays_16 : decode cX2_countWays 16 = .ok (.iastore, 1) := by decide +kernel
theorem dX2_countWays_17 : decode cX2_countWays 17 = .ok (.iinc 1 1, 3) := by decide +kernel
theorem dX2_countWays_20 : decode cX2_countWays 20 = .ok (.goto (-18), 3) := by decide +kernel
theorem dX2_countWays_23 : decode cX2_countWays 23 = .ok (.aload_n 0, 1) := by decide +kernel
theorem dX2_countWays_24 : decode cX2_countWays 24 = .ok (.getfield 36, 3) := by decide +kernel
theorem dX2_countWays_27 : decode cX2_countWays 27 = .ok (.aload_n 0, 1) := by decide +kernel
theorem dX2_countWays_28 : decode cX2_countWays 28 = .ok (.getfield 45, 3) := by decide +kernel
theorem dX2_countWays_31 : decode cX2_countWays 31 = .ok (.iconst 1, 1) := by decide +kernel
theorem dX2_countWays_32 : decode cX2_countWays 32 = .ok (.iastore, 1) := by decide +kernel
theorem dX2_countWays_33 : decode cX2_countWays 33 = .ok (.aload_n 0, 1) := by decide +kernel
theorem dX2_countWays_34 : decode cX2_countWays 34 = .ok (.getfield 53, 3) := by decide +kernel
theorem dX2_countWays_37 : decode cX2_countWays 37 = .ok (.iconst 1, 1) := by decide +kernel
theorem dX2_countWays_38 : decode cX2_countWays 38 = .ok (.isub, 1) := by decide +kernel
theorem dX2_countWays_39 : decode cX2_countWays 39 = .ok (.istore_n 1, 1) := by decide +kernel
theorem dX2_countWays_40 : decode cX2_countWays 40 = .ok (.iload_n 1, 1) := by decide +kernel
theorem dX2_countWays_41 : decode cX2_countWays 41 = .ok (.ifCond .lt 45, 3) := by decide +kernel
theorem dX2_countWays_44 : decode cX2_countWays 44 = .ok (.aload_n 0, 1) := by decide +kernel
theorem dX2_countWays_45 : decode cX2_countWays 45 = .ok (.getfield 9, 3) := by decide +kernel
theorem dX2_countWays_48 : decode cX2_countWays 48 = .ok (.iload_n 1, 1) := by decide +kernel
theorem dX2_countWays_49 : decode cX2_countWays 49 = .ok (.iaload, 1) := by decide +kernel
theorem dX2_countWays_50 : decode cX2_countWays 50 = .ok (.istore_n 2, 1) := by decide +kernel
theorem dX2_countWays_51 : decode cX2_countWays 51 = .ok (.aload_n 0, 1) := by decide +kernel
theorem dX2_countWays_52 : decode cX2_countWays 52 = .ok (.getfield 36, 3) := by decide +kernel
theorem dX2_countWays_55 : decode cX2_countWays 55 = .ok (.iload_n 2, 1) := by decide +kernel
theorem dX2_countWays_56 : decode cX2_countWays 56 = .ok (.aload_n 0, 1) := by decide +kernel
theorem dX2_countWays_57 : decode cX2_countWays 57 = .ok (.getfield 36, 3) := by decide +kernel
theorem dX2_countWays_60 : decode cX2_countWays 60 = .ok (.iload_n 2, 1) := by decide +kernel
theorem dX2_countWays_61 : decode cX2_countWays 61 = .ok (.iaload, 1) := by decide +kernel
theorem dX2_countWays_62 : decode cX2_countWays 62 = .ok (.aload_n 0, 1) := by decide +kernel
theorem dX2_countWays_63 : decode cX2_countWays 63 = .ok (.getfield 36, 3) := by decide +kernel
theorem dX2_countWays_66 : decode cX2_countWays 66 = .ok (.iload_n 2, 1) := by decide +kernel
theorem dX2_countWays_67 : decode cX2_countWays 67 = .ok (.aload_n 0, 1) := by decide +kernel
theorem dX2_countWays_68 : decode cX2_countWays 68 = .ok (.getfield 15, 3) := by decide +kernel
theorem dX2_countWays_71 : decode cX2_countWays 71 = .ok (.iload_n 1, 1) := by decide +kernel
theorem dX2_countWays_72 : decode cX2_countWays 72 = .ok (.iaload, 1) := by decide +kernel
theorem dX2_countWays_73 : decode cX2_countWays 73 = .ok (.iadd, 1) := by decide +kernel
theorem dX2_countWays_74 : decode cX2_countWays 74 = .ok (.iaload, 1) := by decide +kernel
theorem dX2_countWays_75 : decode cX2_countWays 75 = .ok (.iadd, 1) := by decide +kernel
theorem dX2_countWays_76 : decode cX2_countWays 76 = .ok (.ldc 98, 2) := by decide +kernel
theorem dX2_countWays_78 : decode cX2_countWays 78 = .ok (.irem, 1) := by decide +kernel
theorem dX2_countWays_79 : decode cX2_countWays 79 = .ok (.iastore, 1) := by decide +kernel
theorem dX2_countWays_80 : decode cX2_countWays 80 = .ok (.iinc 1 (-1), 3) := by decide +kernel
theorem dX2_countWays_83 : decode cX2_countWays 83 = .ok (.goto (-43), 3) := by decide +kernel
theorem dX2_countWays_86 : decode cX2_countWays 86 = .ok (.aload_n 0, 1) := by decide +kernel
theorem dX2_countWays_87 : decode cX2_countWays 87 = .ok (.getfield 36, 3) := by decide +kernel
theorem dX2_countWays_90 : decode cX2_countWays 90 = .ok (.iconst 0, 1) := by decide +kernel
theorem dX2_countWays_91 : decode cX2_countWays 91 = .ok (.iaload, 1) := by decide +kernel
theorem dX2_countWays_92 : decode cX2_countWays 92 = .ok (.ireturn, 1) := by decide +kernel
theorem dX3_init_0 : decode cX3_init 0 = .ok (.aload_n 0, 1) := by decide +kernel
theorem dX3_init_1 : decode cX3_init 1 = .ok (.invokespecial 3, 3) := by decide +kernel
theorem dX3_init_4 : decode cX3_init 4 = .ok (.aload_n 0, 1) := by decide +kernel
theorem dX3_init_5 : decode cX3_init 5 = .ok (.bipush 40, 2) := by decide +kernel
theorem dX3_init_7 : decode cX3_init 7 = .ok (.newarray .int, 2) := by decide +kernel
theorem dX3_init_9 : decode cX3_init 9 = .ok (.putfield 9, 3) := by decide +kernel
theorem dX3_init_12 : decode cX3_init 12 = .ok (.return_, 1) := by decide +kernel
theorem dX3_add_0 : decode cX3_add 0 = .ok (.aload_n 0, 1) := by decide +kernel
theorem dX3_add_1 : decode cX3_add 1 = .ok (.getfield 15, 3) := by decide +kernel
theorem dX3_add_4 : decode cX3_add 4 = .ok (.bipush 40, 2) := by decide +kernel
theorem dX3_add_6 : decode cX3_add 6 = .ok (.if_icmp .lt 5, 3) := by decide +kernel
theorem dX3_add_9 : decode cX3_add 9 = .ok (.iconst 0, 1) := by decide +kernel
theorem dX3_add_10 : decode cX3_add 10 = .ok (.ireturn, 1) := by decide +kernel
theorem dX3_add_11 : decode cX3_add 11 = .ok (.aload_n 0, 1) := by decide +kernel
theorem dX3_add_12 : decode cX3_add 12 = .ok (.getfield 9, 3) := by decide +kernel
theorem dX3_add_15 : decode cX3_add 15 = .ok (.aload_n 0, 1) := by decide +kernel
theorem dX3_add_16 : decode cX3_add 16 = .ok (.getfield 15, 3) := by decide +kernel
theorem dX3_add_19 : decode cX3_add 19 = .ok (.iload_n 1, 1) := by decide +kernel
theorem dX3_add_20 : decode cX3_add 20 = .ok (.iastore, 1) := by decide +kernel
theorem dX3_add_21 : decode cX3_add 21 = .ok (.aload_n 0, 1) := by decide +kernel
theorem dX3_add_22 : decode cX3_add 22 = .ok (.dup, 1) := by decide +kernel
theorem dX3_add_23 : decode cX3_add 23 = .ok (.getfield 15, 3) := by decide +kernel
theorem dX3_add_26 : decode cX3_add 26 = .ok (.iconst 1, 1) := by decide +kernel
theorem dX3_add_27 : decode cX3_add 27 = .ok (.iadd, 1) := by decide +kernel
theorem dX3_add_28 : decode cX3_add 28 = .ok (.putfield 15, 3) := by decide +kernel
theorem dX3_add_31 : decode cX3_add 31 = .ok (.iconst 1, 1) := by decide +kernel
theorem dX3_add_32 : decode cX3_add 32 = .ok (.ireturn, 1) := by decide +kernel
theorem dX3_clear_0 : decode cX3_clear 0 = .ok (.aload_n 0, 1) := by decide +kernel
theorem dX3_clear_1 : decode cX3_clear 1 = .ok (.iconst 0, 1) := by decide +kernel
theorem dX3_clear_2 : decode cX3_clear 2 = .ok (.putfield 15, 3) := by decide +kernel
theorem dX3_clear_5 : decode cX3_clear 5 = .ok (.return_, 1) := by decide +kernel
theorem dX3_readLine_0 : decode cX3_readLine 0 = .ok (.aload_n 0, 1) := by decide +kernel
theorem dX3_readLine_1 : decode cX3_readLine 1 = .ok (.bipush 24, 2) := by decide +kernel
theorem dX3_readLine_3 : decode cX3_readLine 3 = .ok (.invokevirtual 19, 3) := by decide +kernel
theorem dX3_readLine_6 : decode cX3_readLine 6 = .ok (.istore_n 1, 1) := by decide +kernel
theorem dX3_readLine_7 : decode cX3_readLine 7 = .ok (.iload_n 1, 1) := by decide +kernel
theorem dX3_readLine_8 : decode cX3_readLine 8 = .ok (.ifCond .le 16, 3) := by decide +kernel
theorem dX3_readLine_11 : decode cX3_readLine 11 = .ok (.iload_n 1, 1) := by decide +kernel
theorem dX3_readLine_12 : decode cX3_readLine 12 = .ok (.aload_n 0, 1) := by decide +kernel
theorem dX3_readLine_13 : decode cX3_readLine 13 = .ok (.getfield 15, 3) := by decide +kernel
theorem dX3_readLine_16 : decode cX3_readLine 16 = .ok (.if_icmp .ne 8, 3) := by decide +kernel
theorem dX3_readLine_19 : decode cX3_readLine 19 = .ok (.bipush (-6), 2) := by decide +kernel
theorem dX3_readLine_21 : decode cX3_readLine 21 = .ok (.goto 4, 3) := by decide +kernel
theorem dX3_readLine_24 : decode cX3_readLine 24 = .ok (.iload_n 1, 1) := by decide +kernel
theorem dX3_readLine_25 : decode cX3_readLine 25 = .ok (.ireturn, 1) := by decide +kernel
theorem dX3_readWord_0 : decode cX3_readWord 0 = .ok (.aload_n 0, 1) := by decide +kernel
theorem dX3_readWord_1 : decode cX3_readWord 1 = .ok (.aload_n 0, 1) := by decide +kernel
theorem dX3_readWord_2 : decode cX3_readWord 2 = .ok (.bipush 6, 2) := by decide +kernel
theorem dX3_readWord_4 : decode cX3_readWord 4 = .ok (.invokevirtual 19, 3) := by decide +kernel
theorem dX3_readWord_7 : decode cX3_readWord 7 = .ok (.putfield 23, 3) := by decide +kernel
theorem dX3_readWord_10 : decode cX3_readWord 10 = .ok (.aload_n 0, 1) := by decide +kernel
theorem dX3_readWord_11 : decode cX3_readWord 11 = .ok (.getfield 23, 3) := by decide +kernel
theorem dX3_readWord_14 : decode cX3_readWord 14 = .ok (.ifCond .eq 16, 3) := by decide +kernel
theorem dX3_readWord_17 : decode cX3_readWord 17 = .ok (.aload_n 0, 1) := by decide +kernel
theorem dX3_readWord_18 : decode cX3_readWord 18 = .ok (.aload_n 0, 1) := by decide +kernel
theorem dX3_readWord_19 : decode cX3_readWord 19 = .ok (.getfield 23, 3) := by decide +kernel
theorem dX3_readWord_22 : decode cX3_readWord 22 = .ok (.invokevirtual 26, 3) := by decide +kernel
theorem dX3_readWord_25 : decode cX3_readWord 25 = .ok (.bipush 61, 2) := by decide +kernel
theorem dX3_readWord_27 : decode cX3_readWord 27 = .ok (.if_icmp .eq 8, 3) := by decide +kernel
theorem dX3_readWord_30 : decode cX3_readWord 30 = .ok (.aload_n 0, 1) := by decide +kernel
theorem dX3_readWord_31 : decode cX3_readWord 31 = .ok (.getfield 23, 3) := by decide +kernel
theorem dX3_readWord_34 : decode cX3_readWord 34 = .ok (.ireturn, 1) := by decide +kernel
theorem dX3_readWord_35 : decode cX3_readWord 35 = .ok (.aload_n 0, 1) := by decide +kernel
theorem dX3_readWord_36 : decode cX3_readWord 36 = .ok (.getfield 23, 3) := by decide +kernel
theorem dX3_readWord_39 : decode cX3_readWord 39 = .ok (.iconst 1, 1) := by decide +kernel
theorem dX3_readWord_40 : decode cX3_readWord 40 = .ok (.iadd, 1) := by decide +kernel
theorem dX3_readWord_41 : decode cX3_readWord 41 = .ok (.istore_n 1, 1) := by decide +kernel
theorem dX3_readWord_42 : decode cX3_readWord 42 = .ok (.aload_n 0, 1) := by decide +kernel
theorem dX3_readWord_43 : decode cX3_readWord 43 = .ok (.aload_n 0, 1) := by decide +kernel
theorem dX3_readWord_44 : decode cX3_readWord 44 = .ok (.iload_n 1, 1) := by decide +kernel
theorem dX3_readWord_45 : decode cX3_readWord 45 = .ok (.invokevirtual 29, 3) := by decide +kernel
theorem dX3_readWord_48 : decode cX3_readWord 48 = .ok (.putfield 32, 3) := by decide +kernel
theorem dX3_readWord_51 : decode cX3_readWord 51 = .ok (.aload_n 0, 1) := by decide +kernel
theorem dX3_readWord_52 : decode cX3_readWord 52 = .ok (.getfield 32, 3) := by decide +kernel
theorem dX3_readWord_55 : decode cX3_readWord 55 = .ok (.bipush (-6), 2) := by decide +kernel
theorem dX3_readWord_57 : decode cX3_readWord 57 = .ok (.if_icmp .ne 5, 3) := by decide +kernel
theorem dX3_readWord_60 : decode cX3_readWord 60 = .ok (.iload_n 1, 1) := by decide +kernel
theorem dX3_readWord_61 : decode cX3_readWord 61 = .ok (.ireturn, 1) := by decide +kernel
theorem dX3_readWord_62 : decode cX3_readWord 62 = .ok (.aload_n 0, 1) := by decide +kernel
theorem dX3_readWord_63 : decode cX3_readWord 63 = .ok (.aload_n 0, 1) := by decide +kernel
theorem dX3_readWord_64 : decode cX3_readWord 64 = .ok (.iload_n 1, 1) := by decide +kernel
theorem dX3_readWord_65 : decode cX3_readWord 65 = .ok (.aload_n 0, 1) := by decide +kernel
theorem dX3_readWord_66 : decode cX3_readWord 66 = .ok (.getfield 32, 3) := by decide +kernel
theorem dX3_readWord_69 : decode cX3_readWord 69 = .ok (.invokevirtual 35, 3) := by decide +kernel
theorem dX3_readWord_72 : decode cX3_readWord 72 = .ok (.ifCond .eq 9, 3) := by decide +kernel
theorem dX3_readWord_75 : decode cX3_readWord 75 = .ok (.iload_n 1, 1) := by decide +kernel
theorem dX3_readWord_76 : decode cX3_readWord 76 = .ok (.iconst 4, 1) := by decide +kernel
theorem dX3_readWord_77 : decode cX3_readWord 77 = .ok (.iadd, 1) := by decide +kernel
theorem dX3_readWord_78 : decode cX3_readWord 78 = .ok (.goto 6, 3) := by decide +kernel
theorem dX3_readWord_81 : decode cX3_readWord 81 = .ok (.iload_n 1, 1) := by decide +kernel
theorem dX3_readWord_82 : decode cX3_readWord 82 = .ok (.iconst 1, 1) := by decide +kernel
theorem dX3_readWord_83 : decode cX3_readWord 83 = .ok (.iadd, 1) := by decide +kernel
theorem dX3_readWord_84 : decode cX3_readWord 84 = .ok (.invokevirtual 39, 3) := by decide +kernel
theorem dX3_readWord_87 : decode cX3_readWord 87 = .ok (.ireturn, 1) := by decide +kernel
theorem dX3_readCost_0 : decode cX3_readCost 0 = .ok (.aload_n 0, 1) := by decide +kernel
theorem dX3_readCost_1 : decode cX3_readCost 1 = .ok (.iload_n 1, 1) := by decide +kernel
theorem dX3_readCost_2 : decode cX3_readCost 2 = .ok (.invokevirtual 26, 3) := by decide +kernel
theorem dX3_readCost_5 : decode cX3_readCost 5 = .ok (.invokestatic 42, 3) := by decide +kernel
theorem dX3_readCost_8 : decode cX3_readCost 8 = .ok (.ifCond .ne 5, 3) := by decide +kernel
theorem dX3_readCost_11 : decode cX3_readCost 11 = .ok (.iload_n 1, 1) := by decide +kernel
theorem dX3_readCost_12 : decode cX3_readCost 12 = .ok (.ireturn, 1) := by decide +kernel
theorem dX3_readCost_13 : decode cX3_readCost 13 = .ok (.aload_n 0, 1) := by decide +kernel
theorem dX3_readCost_14 : decode cX3_readCost 14 = .ok (.aload_n 0, 1) := by decide +kernel
theorem dX3_readCost_15 : decode cX3_readCost 15 = .ok (.iload_n 1, 1) := by decide +kernel
theorem dX3_readCost_16 : decode cX3_readCost 16 = .ok (.invokevirtual 26, 3) := by decide +kernel
theorem dX3_readCost_19 : decode cX3_readCost 19 = .ok (.bipush 48, 2) := by decide +kernel
theorem dX3_readCost_21 : decode cX3_readCost 21 = .ok (.isub, 1) := by decide +kernel
theorem dX3_readCost_22 : decode cX3_readCost 22 = .ok (.putfield 46, 3) := by decide +kernel
theorem dX3_readCost_25 : decode cX3_readCost 25 = .ok (.iload_n 1, 1) := by decide +kernel
theorem dX3_readCost_26 : decode cX3_readCost 26 = .ok (.iconst 1, 1) := by decide +kernel
theorem dX3_readCost_27 : decode cX3_readCost 27 = .ok (.iadd, 1) := by decide +kernel
theorem dX3_readCost_28 : decode cX3_readCost 28 = .ok (.istore_n 2, 1) := by decide +kernel
theorem dX3_readCost_29 : decode cX3_readCost 29 = .ok (.aload_n 0, 1) := by decide +kernel
theorem dX3_readCost_30 : decode cX3_readCost 30 = .ok (.iload_n 2, 1) := by decide +kernel
theorem dX3_readCost_31 : decode cX3_readCost 31 = .ok (.invokevirtual 26, 3) := by decide +kernel
theorem dX3_readCost_34 : decode cX3_readCost 34 = .ok (.invokestatic 42, 3) := by decide +kernel
theorem dX3_readCost_37 : decode cX3_readCost 37 = .ok (.ifCond .eq 26, 3) := by decide +kernel
theorem dX3_readCost_40 : decode cX3_readCost 40 = .ok (.aload_n 0, 1) := by decide +kernel
theorem dX3_readCost_41 : decode cX3_readCost 41 = .ok (.aload_n 0, 1) := by decide +kernel
theorem dX3_readCost_42 : decode cX3_readCost 42 = .ok (.getfield 46, 3) := by decide +kernel
theorem dX3_readCost_45 : decode cX3_readCost 45 = .ok (.bipush 10, 2) := by decide +kernel
theorem dX3_readCost_47 : decode cX3_readCost 47 = .ok (.imul, 1) := by decide +kernel
theorem dX3_readCost_48 : decode cX3_readCost 48 = .ok (.aload_n 0, 1) := by decide +kernel
theorem dX3_readCost_49 : decode cX3_readCost 49 = .ok (.iload_n 2, 1) := by decide +kernel
theorem dX3_readCost_50 : decode cX3_readCost 50 = .ok (.invokevirtual 26, 3) := by decide +kernel
theorem dX3_readCost_53 : decode cX3_readCost 53 = .ok (.iadd, 1) := by decide +kernel
theorem dX3_readCost_54 : decode cX3_readCost 54 = .ok (.bipush 48, 2) := by decide +kernel
theorem dX3_readCost_56 : decode cX3_readCost 56 = .ok (.isub, 1) := by decide +kernel
theorem dX3_readCost_57 : decode cX3_readCost 57 = .ok (.putfield 46, 3) := by decide +kernel
theorem dX3_readCost_60 : decode cX3_readCost 60 = .ok (.iinc 2 1, 3) := by decide +kernel
theorem dX3_readCost_63 : decode cX3_readCost 63 = .ok (.iload_n 2, 1) := by decide +kernel
theorem dX3_readCost_64 : decode cX3_readCost 64 = .ok (.aload_n 0, 1) := by decide +kernel
theorem dX3_readCost_65 : decode cX3_readCost 65 = .ok (.getfield 15, 3) := by decide +kernel
theorem dX3_readCost_68 : decode cX3_readCost 68 = .ok (.if_icmp .ne 8, 3) := by decide +kernel
theorem dX3_readCost_71 : decode cX3_readCost 71 = .ok (.bipush (-6), 2) := by decide +kernel
theorem dX3_readCost_73 : decode cX3_readCost 73 = .ok (.goto 4, 3) := by decide +kernel
theorem dX3_readCost_76 : decode cX3_readCost 76 = .ok (.iload_n 2, 1) := by decide +kernel
theorem dX3_readCost_77 : decode cX3_readCost 77 = .ok (.ireturn, 1) := by decide +kernel
theorem dX3_leadingLetters_0 : decode cX3_leadingLetters 0 = .ok (.iconst 0, 1) := by decide +kernel
theorem dX3_leadingLetters_1 : decode cX3_leadingLetters 1 = .ok (.istore_n 2, 1) := by decide +kernel
theorem dX3_leadingLetters_2 : decode cX3_leadingLetters 2 = .ok (.iload_n 2, 1) := by decide +kernel
theorem dX3_leadingLetters_3 : decode cX3_leadingLetters 3 = .ok (.iload_n 1, 1) := by decide +kernel
theorem dX3_leadingLetters_4 : decode cX3_leadingLetters 4 = .ok (.if_icmp .ge 20, 3) := by decide +kernel
theorem dX3_leadingLetters_7 : decode cX3_leadingLetters 7 = .ok (.aload_n 0, 1) := by decide +kernel
theorem dX3_leadingLetters_8 : decode cX3_leadingLetters 8 = .ok (.iload_n 2, 1) := by decide +kernel
theorem dX3_leadingLetters_9 : decode cX3_leadingLetters 9 = .ok (.invokevirtual 26, 3) := by decide +kernel
theorem dX3_leadingLetters_12 : decode cX3_leadingLetters 12 = .ok (.invokestatic 49, 3) := by decide +kernel
theorem dX3_leadingLetters_15 : decode cX3_leadingLetters 15 = .ok (.ifCond .eq 9, 3) := by decide +kernel
theorem dX3_leadingLetters_18 : decode cX3_leadingLetters 18 = .ok (.iinc 2 1, 3) := by decide +kernel
theorem dX3_leadingLetters_21 : decode cX3_leadingLetters 21 = .ok (.goto (-19), 3) := by decide +kernel
theorem dX3_leadingLetters_24 : decode cX3_leadingLetters 24 = .ok (.iload_n 2, 1) := by decide +kernel
theorem dX3_leadingLetters_25 : decode cX3_leadingLetters 25 = .ok (.ireturn, 1) := by decide +kernel
theorem dX3_signAt_0 : decode cX3_signAt 0 = .ok (.iload_n 1, 1) := by decide +kernel
theorem dX3_signAt_1 : decode cX3_signAt 1 = .ok (.ifCond .lt 26, 3) := by decide +kernel
theorem dX3_signAt_4 : decode cX3_signAt 4 = .ok (.iload_n 1, 1) := by decide +kernel
theorem dX3_signAt_5 : decode cX3_signAt 5 = .ok (.aload_n 0, 1) := by decide +kernel
theorem dX3_signAt_6 : decode cX3_signAt 6 = .ok (.getfield 15, 3) := by decide +kernel
theorem dX3_signAt_9 : decode cX3_signAt 9 = .ok (.if_icmp .ge 18, 3) := by decide +kernel
theorem dX3_signAt_12 : decode cX3_signAt 12 = .ok (.iload_n 1, 1) := by decide +kernel
theorem dX3_signAt_13 : decode cX3_signAt 13 = .ok (.bipush 40, 2) := by decide +kernel
theorem dX3_signAt_15 : decode cX3_signAt 15 = .ok (.if_icmp .ge 12, 3) := by decide +kernel
theorem dX3_signAt_18 : decode cX3_signAt 18 = .ok (.aload_n 0, 1) := by decide +kernel
theorem dX3_signAt_19 : decode cX3_signAt 19 = .ok (.getfield 9, 3) := by decide +kernel
theorem dX3_signAt_22 : decode cX3_signAt 22 = .ok (.iload_n 1, 1) := by decide +kernel
theorem dX3_signAt_23 : decode cX3_signAt 23 = .ok (.iaload, 1) := by decide +kernel
theorem dX3_signAt_24 : decode cX3_signAt 24 = .ok (.goto 4, 3) := by decide +kernel
theorem dX3_signAt_27 : decode cX3_signAt 27 = .ok (.iconst 0, 1) := by decide +kernel
theorem dX3_signAt_28 : decode cX3_signAt 28 = .ok (.ireturn, 1) := by decide +kernel
theorem dX3_kindNamedAt_0 : decode cX3_kindNamedAt 0 = .ok (.iconst 0, 1) := by decide +kernel
theorem dX3_kindNamedAt_1 : decode cX3_kindNamedAt 1 = .ok (.istore_n 2, 1) := by decide +kernel
theorem dX3_kindNamedAt_2 : decode cX3_kindNamedAt 2 = .ok (.iload_n 2, 1) := by decide +kernel
theorem dX3_kindNamedAt_3 : decode cX3_kindNamedAt 3 = .ok (.iconst 3, 1) := by decide +kernel
theorem dX3_kindNamedAt_4 : decode cX3_kindNamedAt 4 = .ok (.if_icmp .ge 27, 3) := by decide +kernel
theorem dX3_kindNamedAt_7 : decode cX3_kindNamedAt 7 = .ok (.aload_n 0, 1) := by decide +kernel
theorem dX3_kindNamedAt_8 : decode cX3_kindNamedAt 8 = .ok (.iload_n 1, 1) := by decide +kernel
theorem dX3_kindNamedAt_9 : decode cX3_kindNamedAt 9 = .ok (.invokevirtual 26, 3) := by decide +kernel
theorem dX3_kindNamedAt_12 : decode cX3_kindNamedAt 12 = .ok (.ldc 52, 2) := by decide +kernel
theorem dX3_kindNamedAt_14 : decode cX3_kindNamedAt 14 = .ok (.iload_n 2, 1) := by decide +kernel
theorem dX3_kindNamedAt_15 : decode cX3_kindNamedAt 15 = .ok (.iconst 4, 1) := by decide +kernel
theorem dX3_kindNamedAt_16 : decode cX3_kindNamedAt 16 = .ok (.imul, 1) := by decide +kernel
theorem dX3_kindNamedAt_17 : decode cX3_kindNamedAt 17 = .ok (.invokevirtual 54, 3) := by decide +kernel
theorem dX3_kindNamedAt_20 : decode cX3_kindNamedAt 20 = .ok (.if_icmp .ne 5, 3) := by decide +kernel
theorem dX3_kindNamedAt_23 : decode cX3_kindNamedAt 23 = .ok (.iload_n 2, 1) := by decide +kernel
theorem dX3_kindNamedAt_24 : decode cX3_kindNamedAt 24 = .ok (.ireturn, 1) := by decide +kernel
theorem dX3_kindNamedAt_25 : decode cX3_kindNamedAt 25 = .ok (.iinc 2 1, 3) := by decide +kernel
theorem dX3_kindNamedAt_28 : decode cX3_kindNamedAt 28 = .ok (.goto (-26), 3) := by decide +kernel
theorem dX3_kindNamedAt_31 : decode cX3_kindNamedAt 31 = .ok (.bipush (-6), 2) := by decide +kernel
theorem dX3_kindNamedAt_33 : decode cX3_kindNamedAt 33 = .ok (.ireturn, 1) := by decide +kernel
theorem dX3_nameStandsAt_0 : decode cX3_nameStandsAt 0 = .ok (.iconst 0, 1) := by decide +kernel
theorem dX3_nameStandsAt_1 : decode cX3_nameStandsAt 1 = .ok (.istore_n 3, 1) := by decide +kernel
theorem dX3_nameStandsAt_2 : decode cX3_nameStandsAt 2 = .ok (.iload_n 3, 1) := by decide +kernel
theorem dX3_nameStandsAt_3 : decode cX3_nameStandsAt 3 = .ok (.iconst 4, 1) := by decide +kernel
theorem dX3_nameStandsAt_4 : decode cX3_nameStandsAt 4 = .ok (.if_icmp .ge 31, 3) := by decide +kernel
theorem dX3_nameStandsAt_7 : decode cX3_nameStandsAt 7 = .ok (.aload_n 0, 1) := by decide +kernel
theorem dX3_nameStandsAt_8 : decode cX3_nameStandsAt 8 = .ok (.iload_n 1, 1) := by decide +kernel
theorem dX3_nameStandsAt_9 : decode cX3_nameStandsAt 9 = .ok (.iload_n 3, 1) := by decide +kernel
theorem dX3_nameStandsAt_10 : decode cX3_nameStandsAt 10 = .ok (.iadd, 1) := by decide +kernel
theorem dX3_nameStandsAt_11 : decode cX3_nameStandsAt 11 = .ok (.invokevirtual 26, 3) := by decide +kernel
theorem dX3_nameStandsAt_14 : decode cX3_nameStandsAt 14 = .ok (.ldc 52, 2) := by decide +kernel
theorem dX3_nameStandsAt_16 : decode cX3_nameStandsAt 16 = .ok (.iload_n 2, 1) := by decide +kernel
theorem dX3_nameStandsAt_17 : decode cX3_nameStandsAt 17 = .ok (.iconst 4, 1) := by decide +kernel
theorem dX3_nameStandsAt_18 : decode cX3_nameStandsAt 18 = .ok (.imul, 1) := by decide +kernel
theorem dX3_nameStandsAt_19 : decode cX3_nameStandsAt 19 = .ok (.iload_n 3, 1) := by decide +kernel
theorem dX3_nameStandsAt_20 : decode cX3_nameStandsAt 20 = .ok (.iadd, 1) := by decide +kernel
theorem dX3_nameStandsAt_21 : decode cX3_nameStandsAt 21 = .ok (.invokevirtual 54, 3) := by decide +kernel
theorem dX3_nameStandsAt_24 : decode cX3_nameStandsAt 24 = .ok (.if_icmp .eq 5, 3) := by decide +kernel
theorem dX3_nameStandsAt_27 : decode cX3_nameStandsAt 27 = .ok (.iconst 0, 1) := by decide +kernel
theorem dX3_nameStandsAt_28 : decode cX3_nameStandsAt 28 = .ok (.ireturn, 1) := by decide +kernel
theorem dX3_nameStandsAt_29 : decode cX3_nameStandsAt 29 = .ok (.iinc 3 1, 3) := by decide +kernel
theorem dX3_nameStandsAt_32 : decode cX3_nameStandsAt 32 = .ok (.goto (-30), 3) := by decide +kernel
theorem dX3_nameStandsAt_35 : decode cX3_nameStandsAt 35 = .ok (.iconst 1, 1) := by decide +kernel
theorem dX3_nameStandsAt_36 : decode cX3_nameStandsAt 36 = .ok (.ireturn, 1) := by decide +kernel
theorem dX3_isLetter_0 : decode cX3_isLetter 0 = .ok (.iload_n 0, 1) := by decide +kernel
theorem dX3_isLetter_1 : decode cX3_isLetter 1 = .ok (.bipush 97, 2) := by decide +kernel
theorem dX3_isLetter_3 : decode cX3_isLetter 3 = .ok (.if_icmp .lt 13, 3) := by decide +kernel
theorem dX3_isLetter_6 : decode cX3_isLetter 6 = .ok (.iload_n 0, 1) := by decide +kernel
theorem dX3_isLetter_7 : decode cX3_isLetter 7 = .ok (.bipush 104, 2) := by decide +kernel
theorem dX3_isLetter_9 : decode cX3_isLetter 9 = .ok (.if_icmp .gt 7, 3) := by decide +kernel
theorem dX3_isLetter_12 : decode cX3_isLetter 12 = .ok (.iconst 1, 1) := by decide +kernel
theorem dX3_isLetter_13 : decode cX3_isLetter 13 = .ok (.goto 4, 3) := by decide +kernel
theorem dX3_isLetter_16 : decode cX3_isLetter 16 = .ok (.iconst 0, 1) := by decide +kernel
theorem dX3_isLetter_17 : decode cX3_isLetter 17 = .ok (.ireturn, 1) := by decide +kernel
theorem dX3_isFigure_0 : decode cX3_isFigure 0 = .ok (.iload_n 0, 1) := by decide +kernel
theorem dX3_isFigure_1 : decode cX3_isFigure 1 = .ok (.bipush 48, 2) := by decide +kernel
theorem dX3_isFigure_3 : decode cX3_isFigure 3 = .ok (.if_icmp .lt 13, 3) := by decide +kernel
theorem dX3_isFigure_6 : decode cX3_isFigure 6 = .ok (.iload_n 0, 1) := by decide +kernel
theorem dX3_isFigure_7 : decode cX3_isFigure 7 = .ok (.bipush 57, 2) := by decide +kernel
theorem dX3_isFigure_9 : decode cX3_isFigure 9 = .ok (.if_icmp .gt 7, 3) := by decide +kernel
theorem dX3_isFigure_12 : decode cX3_isFigure 12 = .ok (.iconst 1, 1) := by decide +kernel
theorem dX3_isFigure_13 : decode cX3_isFigure 13 = .ok (.goto 4, 3) := by decide +kernel
theorem dX3_isFigure_16 : decode cX3_isFigure 16 = .ok (.iconst 0, 1) := by decide +kernel
theorem dX3_isFigure_17 : decode cX3_isFigure 17 = .ok (.ireturn, 1) := by decide +kernel
theorem dX4_init_0 : decode cX4_init 0 = .ok (.aload_n 0, 1) := by decide +kernel
theorem dX4_init_1 : decode cX4_init 1 = .ok (.invokespecial 5, 3) := by decide +kernel
theorem dX4_init_4 : decode cX4_init 4 = .ok (.aload_n 0, 1) := by decide +kernel
theorem dX4_init_5 : decode cX4_init 5 = .ok (.bipush 125, 2) := by decide +kernel
theorem dX4_init_7 : decode cX4_init 7 = .ok (.newarray .int, 2) := by decide +kernel
theorem dX4_init_9 : decode cX4_init 9 = .ok (.putfield 11, 3) := by decide +kernel
theorem dX4_init_12 : decode cX4_init 12 = .ok (.aload_n 0, 1) := by decide +kernel
theorem dX4_init_13 : decode cX4_init 13 = .ok (.bipush 125, 2) := by decide +kernel
theorem dX4_init_15 : decode cX4_init 15 = .ok (.newarray .int, 2) := by decide +kernel
theorem dX4_init_17 : decode cX4_init 17 = .ok (.putfield 15, 3) := by decide +kernel
theorem dX4_init_20 : decode cX4_init 20 = .ok (.aload_n 0, 1) := by decide +kernel
theorem dX4_init_21 : decode cX4_init 21 = .ok (.sipush 1500, 3) := by decide +kernel
theorem dX4_init_24 : decode cX4_init 24 = .ok (.newarray .int, 2) := by decide +kernel
theorem dX4_init_26 : decode cX4_init 26 = .ok (.putfield 18, 3) := by decide +kernel
theorem dX4_init_29 : decode cX4_init 29 = .ok (.aload_n 0, 1) := by decide +kernel
theorem dX4_init_30 : decode cX4_init 30 = .ok (.bipush 24, 2) := by decide +kernel
theorem dX4_init_32 : decode cX4_init 32 = .ok (.newarray .int, 2) := by decide +kernel
theorem dX4_init_34 : decode cX4_init 34 = .ok (.putfield 21, 3) := by decide +kernel
theorem dX4_init_37 : decode cX4_init 37 = .ok (.return_, 1) := by decide +kernel
theorem dX4_make_0 : decode cX4_make 0 = .ok (.aload_n 0, 1) := by decide +kernel
theorem dX4_make_1 : decode cX4_make 1 = .ok (.aload_n 1, 1) := by decide +kernel
theorem dX4_make_2 : decode cX4_make 2 = .ok (.invokevirtual 24, 3) := by decide +kernel
theorem dX4_make_5 : decode cX4_make 5 = .ok (.aload_n 0, 1) := by decide +kernel
theorem dX4_make_6 : decode cX4_make 6 = .ok (.aload_n 1, 1) := by decide +kernel
theorem dX4_make_7 : decode cX4_make 7 = .ok (.invokevirtual 28, 3) := by decide +kernel
theorem dX4_make_10 : decode cX4_make 10 = .ok (.aload_n 1, 1) := by decide +kernel
theorem dX4_make_11 : decode cX4_make 11 = .ok (.getfield 31, 3) := by decide +kernel
theorem dX4_make_14 : decode cX4_make 14 = .ok (.iconst 1, 1) := by decide +kernel
theorem dX4_make_15 : decode cX4_make 15 = .ok (.isub, 1) := by decide +kernel
theorem dX4_make_16 : decode cX4_make 16 = .ok (.istore_n 2, 1) := by decide +kernel
theorem dX4_make_17 : decode cX4_make 17 = .ok (.iload_n 2, 1) := by decide +kernel
theorem dX4_make_18 : decode cX4_make 18 = .ok (.ifCond .le 29, 3) := by decide +kernel
theorem dX4_make_21 : decode cX4_make 21 = .ok (.iconst 0, 1) := by decide +kernel
theorem dX4_make_22 : decode cX4_make 22 = .ok (.istore_n 3, 1) := by decide +kernel
theorem dX4_make_23 : decode cX4_make 23 = .ok (.iload_n 3, 1) := by decide +kernel
theorem dX4_make_24 : decode cX4_make 24 = .ok (.iconst 4, 1) := by decide +kernel
theorem dX4_make_25 : decode cX4_make 25 = .ok (.if_icmp .ge 16, 3) := by decide +kernel
theorem dX4_make_28 : decode cX4_make 28 = .ok (.aload_n 0, 1) := by decide +kernel
theorem dX4_make_29 : decode cX4_make 29 = .ok (.aload_n 1, 1) := by decide +kernel
theorem dX4_make_30 : decode cX4_make 30 = .ok (.iload_n 2, 1) := by decide +kernel
theorem dX4_make_31 : decode cX4_make 31 = .ok (.iload_n 3, 1) := by decide +kernel
theorem dX4_make_32 : decode cX4_make 32 = .ok (.invokevirtual 37, 3) := by decide +kernel
theorem dX4_make_35 : decode cX4_make 35 = .ok (.iinc 3 1, 3) := by decide +kernel
theorem dX4_make_38 : decode cX4_make 38 = .ok (.goto (-15), 3) := by decide +kernel
theorem dX4_make_41 : decode cX4_make 41 = .ok (.iinc 2 (-1), 3) := by decide +kernel
theorem dX4_make_44 : decode cX4_make 44 = .ok (.goto (-27), 3) := by decide +kernel
theorem dX4_make_47 : decode cX4_make 47 = .ok (.aload_n 0, 1) := by decide +kernel
theorem dX4_make_48 : decode cX4_make 48 = .ok (.aload_n 1, 1) := by decide +kernel
theorem dX4_make_49 : decode cX4_make 49 = .ok (.iconst 0, 1) := by decide +kernel
theorem dX4_make_50 : decode cX4_make 50 = .ok (.iconst 4, 1) := by decide +kernel
theorem dX4_make_51 : decode cX4_make 51 = .ok (.invokevirtual 37, 3) := by decide +kernel
theorem dX4_make_54 : decode cX4_make 54 = .ok (.return_, 1) := by decide +kernel
theorem dX4_rankEnds_0 : decode cX4_rankEnds 0 = .ok (.iconst 0, 1) := by decide +kernel
theorem dX4_rankEnds_1 : decode cX4_rankEnds 1 = .ok (.istore_n 2, 1) := by decide +kernel
theorem dX4_rankEnds_2 : decode cX4_rankEnds 2 = .ok (.iload_n 2, 1) := by decide +kernel
theorem dX4_rankEnds_3 : decode cX4_rankEnds 3 = .ok (.iconst 4, 1) := by decide +kernel
theorem dX4_rankEnds_4 : decode cX4_rankEnds 4 = .ok (.if_icmp .ge 43, 3) := by decide +kernel
theorem dX4_rankEnds_7 : decode cX4_rankEnds 7 = .ok (.aload_n 1, 1) := by decide +kernel
theorem dX4_rankEnds_8 : decode cX4_rankEnds 8 = .ok (.getfield 31, 3) := by decide +kernel
theorem dX4_rankEnds_11 : decode cX4_rankEnds 11 = .ok (.iconst 5, 1) := by decide +kernel
theorem dX4_rankEnds_12 : decode cX4_rankEnds 12 = .ok (.imul, 1) := by decide +kernel
theorem dX4_rankEnds_13 : decode cX4_rankEnds 13 = .ok (.iload_n 2, 1) := by decide +kernel
theorem dX4_rankEnds_14 : decode cX4_rankEnds 14 = .ok (.iadd, 1) := by decide +kernel
theorem dX4_rankEnds_15 : decode cX4_rankEnds 15 = .ok (.istore_n 3, 1) := by decide +kernel
theorem dX4_rankEnds_16 : decode cX4_rankEnds 16 = .ok (.aload_n 0, 1) := by decide +kernel
theorem dX4_rankEnds_17 : decode cX4_rankEnds 17 = .ok (.getfield 15, 3) := by decide +kernel
theorem dX4_rankEnds_20 : decode cX4_rankEnds 20 = .ok (.iload_n 3, 1) := by decide +kernel
theorem dX4_rankEnds_21 : decode cX4_rankEnds 21 = .ok (.iconst 1, 1) := by decide +kernel
theorem dX4_rankEnds_22 : decode cX4_rankEnds 22 = .ok (.iastore, 1) := by decide +kernel
theorem dX4_rankEnds_23 : decode cX4_rankEnds 23 = .ok (.aload_n 0, 1) := by decide +kernel
theorem dX4_rankEnds_24 : decode cX4_rankEnds 24 = .ok (.getfield 18, 3) := by decide +kernel
theorem dX4_rankEnds_27 : decode cX4_rankEnds 27 = .ok (.iload_n 3, 1) := by decide +kernel
theorem dX4_rankEnds_28 : decode cX4_rankEnds 28 = .ok (.bipush 12, 2) := by decide +kernel
theorem dX4_rankEnds_30 : decode cX4_rankEnds 30 = .ok (.imul, 1) := by decide +kernel
theorem dX4_rankEnds_31 : decode cX4_rankEnds 31 = .ok (.aload_n 1, 1) := by decide +kernel
theorem dX4_rankEnds_32 : decode cX4_rankEnds 32 = .ok (.iload_n 2, 1) := by decide +kernel
theorem dX4_rankEnds_33 : decode cX4_rankEnds 33 = .ok (.invokevirtual 41, 3) := by decide +kernel
theorem dX4_rankEnds_36 : decode cX4_rankEnds 36 = .ok (.sipush 8192, 3) := by decide +kernel
theorem dX4_rankEnds_39 : decode cX4_rankEnds 39 = .ok (.imul, 1) := by decide +kernel
theorem dX4_rankEnds_40 : decode cX4_rankEnds 40 = .ok (.iastore, 1) := by decide +kernel
theorem dX4_rankEnds_41 : decode cX4_rankEnds 41 = .ok (.iinc 2 1, 3) := by decide +kernel
theorem dX4_rankEnds_44 : decode cX4_rankEnds 44 = .ok (.goto (-42), 3) := by decide +kernel
theorem dX4_rankEnds_47 : decode cX4_rankEnds 47 = .ok (.return_, 1) := by decide +kernel
theorem dX4_rankSpot_0 : decode cX4_rankSpot 0 = .ok (.iload_n 2, 1) := by decide +kernel
theorem dX4_rankSpot_1 : decode cX4_rankSpot 1 = .ok (.iconst 5, 1) := by decide +kernel
theorem dX4_rankSpot_2 : decode cX4_rankSpot 2 = .ok (.imul, 1) := by decide +kernel
theorem dX4_rankSpot_3 : decode cX4_rankSpot 3 = .ok (.iload_n 3, 1) := by decide +kernel
theorem dX4_rankSpot_4 : decode cX4_rankSpot 4 = .ok (.iadd, 1) := by decide +kernel
theorem dX4_rankSpot_5 : decode cX4_rankSpot 5 = .ok (.istore 4, 2) := by decide +kernel
theorem dX4_rankSpot_7 : decode cX4_rankSpot 7 = .ok (.aload_n 0, 1) := by decide +kernel
theorem dX4_rankSpot_8 : decode cX4_rankSpot 8 = .ok (.getfield 15, 3) := by decide +kernel
theorem dX4_rankSpot_11 : decode cX4_rankSpot 11 = .ok (.iload 4, 2) := by decide +kernel
theorem dX4_rankSpot_13 : decode cX4_rankSpot 13 = .ok (.iconst 0, 1) := by decide +kernel
theorem dX4_rankSpot_14 : decode cX4_rankSpot 14 = .ok (.iastore, 1) := by decide +kernel
theorem dX4_rankSpot_15 : decode cX4_rankSpot 15 = .ok (.aload_n 0, 1) := by decide +kernel
theorem dX4_rankSpot_16 : decode cX4_rankSpot 16 = .ok (.getfield 11, 3) := by decide +kernel
theorem dX4_rankSpot_19 : decode cX4_rankSpot 19 = .ok (.iload 4, 2) := by decide +kernel
theorem dX4_rankSpot_21 : decode cX4_rankSpot 21 = .ok (.iaload, 1) := by decide +kernel
theorem dX4_rankSpot_22 : decode cX4_rankSpot 22 = .ok (.ldc 45, 2) := by decide +kernel
theorem dX4_rankSpot_24 : decode cX4_rankSpot 24 = .ok (.if_icmp .lt 4, 3) := by decide +kernel
theorem dX4_rankSpot_27 : decode cX4_rankSpot 27 = .ok (.return_, 1) := by decide +kernel
theorem dX4_rankSpot_28 : decode cX4_rankSpot 28 = .ok (.aload_n 1, 1) := by decide +kernel
theorem dX4_rankSpot_29 : decode cX4_rankSpot 29 = .ok (.getfield 46, 3) := by decide +kernel
theorem dX4_rankSpot_32 : decode cX4_rankSpot 32 = .ok (.iload_n 2, 1) := by decide +kernel
theorem dX4_rankSpot_33 : decode cX4_rankSpot 33 = .ok (.iaload, 1) := by decide +kernel
theorem dX4_rankSpot_34 : decode cX4_rankSpot 34 = .ok (.istore 5, 2) := by decide +kernel
theorem dX4_rankSpot_36 : decode cX4_rankSpot 36 = .ok (.iload 5, 2) := by decide +kernel
theorem dX4_rankSpot_38 : decode cX4_rankSpot 38 = .ok (.aload_n 1, 1) := by decide +kernel
theorem dX4_rankSpot_39 : decode cX4_rankSpot 39 = .ok (.getfield 46, 3) := by decide +kernel
theorem dX4_rankSpot_42 : decode cX4_rankSpot 42 = .ok (.iload_n 2, 1) := by decide +kernel
theorem dX4_rankSpot_43 : decode cX4_rankSpot 43 = .ok (.iconst 1, 1) := by decide +kernel
theorem dX4_rankSpot_44 : decode cX4_rankSpot 44 = .ok (.iadd, 1) := by decide +kernel
theorem dX4_rankSpot_45 : decode cX4_rankSpot 45 = .ok (.iaload, 1) := by decide +kernel
theorem dX4_rankSpot_46 : decode cX4_rankSpot 46 = .ok (.if_icmp .ge 33, 3) := by decide +kernel
theorem dX4_rankSpot_49 : decode cX4_rankSpot 49 = .ok (.aload_n 0, 1) := by decide +kernel
theorem dX4_rankSpot_50 : decode cX4_rankSpot 50 = .ok (.aload_n 1, 1) := by decide +kernel
theorem dX4_rankSpot_51 : decode cX4_rankSpot 51 = .ok (.iload 4, 2) := by decide +kernel
theorem dX4_rankSpot_53 : decode cX4_rankSpot 53 = .ok (.iload 5, 2) := by decide +kernel
theorem dX4_rankSpot_55 : decode cX4_rankSpot 55 = .ok (.aload_n 1, 1) := by decide +kernel
theorem dX4_rankSpot_56 : decode cX4_rankSpot 56 = .ok (.iload_n 3, 1) := by decide +kernel
theorem dX4_rankSpot_57 : decode cX4_rankSpot 57 = .ok (.iload 5, 2) := by decide +kernel
theorem dX4_rankSpot_59 : decode cX4_rankSpot 59 = .ok (.invokevirtual 49, 3) := by decide +kernel
theorem dX4_rankSpot_62 : decode cX4_rankSpot 62 = .ok (.aload_n 1, 1) := by decide +kernel
theorem dX4_rankSpot_63 : decode cX4_rankSpot 63 = .ok (.getfield 53, 3) := by decide +kernel
theorem dX4_rankSpot_66 : decode cX4_rankSpot 66 = .ok (.iload 5, 2) := by decide +kernel
theorem dX4_rankSpot_68 : decode cX4_rankSpot 68 = .ok (.iaload, 1) := by decide +kernel
theorem dX4_rankSpot_69 : decode cX4_rankSpot 69 = .ok (.iadd, 1) := by decide +kernel
theorem dX4_rankSpot_70 : decode cX4_rankSpot 70 = .ok (.invokevirtual 56, 3) := by decide +kernel
theorem dX4_rankSpot_73 : decode cX4_rankSpot 73 = .ok (.iinc 5 1, 3) := by decide +kernel
theorem dX4_rankSpot_76 : decode cX4_rankSpot 76 = .ok (.goto (-40), 3) := by decide +kernel
theorem dX4_rankSpot_79 : decode cX4_rankSpot 79 = .ok (.return_, 1) := by decide +kernel
theorem dX4_offerWays_0 : decode cX4_offerWays 0 = .ok (.aload_n 1, 1) := by decide +kernel
theorem dX4_offerWays_1 : decode cX4_offerWays 1 = .ok (.iload_n 3, 1) := by decide +kernel
theorem dX4_offerWays_2 : decode cX4_offerWays 2 = .ok (.invokestatic 60, 3) := by decide +kernel
theorem dX4_offerWays_5 : decode cX4_offerWays 5 = .ok (.istore 5, 2) := by decide +kernel
theorem dX4_offerWays_7 : decode cX4_offerWays 7 = .ok (.aload_n 0, 1) := by decide +kernel
theorem dX4_offerWays_8 : decode cX4_offerWays 8 = .ok (.getfield 15, 3) := by decide +kernel
theorem dX4_offerWays_11 : decode cX4_offerWays 11 = .ok (.iload 5, 2) := by decide +kernel
theorem dX4_offerWays_13 : decode cX4_offerWays 13 = .ok (.iaload, 1) := by decide +kernel
theorem dX4_offerWays_14 : decode cX4_offerWays 14 = .ok (.istore 6, 2) := by decide +kernel
theorem dX4_offerWays_16 : decode cX4_offerWays 16 = .ok (.iconst 1, 1) := by decide +kernel
theorem dX4_offerWays_17 : decode cX4_offerWays 17 = .ok (.istore 7, 2) := by decide +kernel
theorem dX4_offerWays_19 : decode cX4_offerWays 19 = .ok (.iconst 0, 1) := by decide +kernel
theorem dX4_offerWays_20 : decode cX4_offerWays 20 = .ok (.istore 8, 2) := by decide +kernel
theorem dX4_offerWays_22 : decode cX4_offerWays 22 = .ok (.iload 8, 2) := by decide +kernel
theorem dX4_offerWays_24 : decode cX4_offerWays 24 = .ok (.iload 6, 2) := by decide +kernel
theorem dX4_offerWays_26 : decode cX4_offerWays 26 = .ok (.if_icmp .ge 57, 3) := by decide +kernel
theorem dX4_offerWays_29 : decode cX4_offerWays 29 = .ok (.iload 7, 2) := by decide +kernel
theorem dX4_offerWays_31 : decode cX4_offerWays 31 = .ok (.ifCond .eq 52, 3) := by decide +kernel
theorem dX4_offerWays_34 : decode cX4_offerWays 34 = .ok (.iload 4, 2) := by decide +kernel
theorem dX4_offerWays_36 : decode cX4_offerWays 36 = .ok (.aload_n 0, 1) := by decide +kernel
theorem dX4_offerWays_37 : decode cX4_offerWays 37 = .ok (.getfield 18, 3) := by decide +kernel
theorem dX4_offerWays_40 : decode cX4_offerWays 40 = .ok (.iload 5, 2) := by decide +kernel
theorem dX4_offerWays_42 : decode cX4_offerWays 42 = .ok (.bipush 12, 2) := by decide +kernel
theorem dX4_offerWays_44 : decode cX4_offerWays 44 = .ok (.imul, 1) := by decide +kernel
theorem dX4_offerWays_45 : decode cX4_offerWays 45 = .ok (.iload 8, 2) := by decide +kernel
theorem dX4_offerWays_47 : decode cX4_offerWays 47 = .ok (.iadd, 1) := by decide +kernel
theorem dX4_offerWays_48 : decode cX4_offerWays 48 = .ok (.iaload, 1) := by decide +kernel
theorem dX4_offerWays_49 : decode cX4_offerWays 49 = .ok (.sipush 8192, 3) := by decide +kernel
theorem dX4_offerWays_52 : decode cX4_offerWays 52 = .ok (.idiv, 1) := by decide +kernel
theorem dX4_offerWays_53 : decode cX4_offerWays 53 = .ok (.iadd, 1) := by decide +kernel
theorem dX4_offerWays_54 : decode cX4_offerWays 54 = .ok (.istore 9, 2) := by decide +kernel
theorem dX4_offerWays_56 : decode cX4_offerWays 56 = .ok (.aload_n 0, 1) := by decide +kernel
theorem dX4_offerWays_57 : decode cX4_offerWays 57 = .ok (.iload_n 2, 1) := by decide +kernel
theorem dX4_offerWays_58 : decode cX4_offerWays 58 = .ok (.iload 9, 2) := by decide +kernel
theorem dX4_offerWays_60 : decode cX4_offerWays 60 = .ok (.sipush 8192, 3) := by decide +kernel
theorem dX4_offerWays_63 : decode cX4_offerWays 63 = .ok (.imul, 1) := by decide +kernel
theorem dX4_offerWays_64 : decode cX4_offerWays 64 = .ok (.iload_n 3, 1) := by decide +kernel
theorem dX4_offerWays_65 : decode cX4_offerWays 65 = .ok (.bipush 16, 2) := by decide +kernel
theorem dX4_offerWays_67 : decode cX4_offerWays 67 = .ok (.imul, 1) := by decide +kernel
theorem dX4_offerWays_68 : decode cX4_offerWays 68 = .ok (.iadd, 1) := by decide +kernel
theorem dX4_offerWays_69 : decode cX4_offerWays 69 = .ok (.iload 8, 2) := by decide +kernel
theorem dX4_offerWays_71 : decode cX4_offerWays 71 = .ok (.iadd, 1) := by decide +kernel
theorem dX4_offerWays_72 : decode cX4_offerWays 72 = .ok (.invokevirtual 64, 3) := by decide +kernel
theorem dX4_offerWays_75 : decode cX4_offerWays 75 = .ok (.istore 7, 2) := by decide +kernel
theorem dX4_offerWays_77 : decode cX4_offerWays 77 = .ok (.iinc 8 1, 3) := by decide +kernel
theorem dX4_offerWays_80 : decode cX4_offerWays 80 = .ok (.goto (-58), 3) := by decide +kernel
theorem dX4_offerWays_83 : decode cX4_offerWays 83 = .ok (.return_, 1) := by decide +kernel
theorem dX4_offer_0 : decode cX4_offer 0 = .ok (.iload_n 1, 1) := by decide +kernel
theorem dX4_offer_1 : decode cX4_offer 1 = .ok (.bipush 12, 2) := by decide +kernel
theorem dX4_offer_3 : decode cX4_offer 3 = .ok (.imul, 1) := by decide +kernel
theorem dX4_offer_4 : decode cX4_offer 4 = .ok (.istore_n 3, 1) := by decide +kernel
theorem dX4_offer_5 : decode cX4_offer 5 = .ok (.iload_n 3, 1) := by decide +kernel
theorem dX4_offer_6 : decode cX4_offer 6 = .ok (.aload_n 0, 1) := by decide +kernel
theorem dX4_offer_7 : decode cX4_offer 7 = .ok (.getfield 15, 3) := by decide +kernel
theorem dX4_offer_10 : decode cX4_offer 10 = .ok (.iload_n 1, 1) := by decide +kernel
theorem dX4_offer_11 : decode cX4_offer 11 = .ok (.iaload, 1) := by decide +kernel
theorem dX4_offer_12 : decode cX4_offer 12 = .ok (.iadd, 1) := by decide +kernel
theorem dX4_offer_13 : decode cX4_offer 13 = .ok (.istore 4, 2) := by decide +kernel
theorem dX4_offer_15 : decode cX4_offer 15 = .ok (.aload_n 0, 1) := by decide +kernel
theorem dX4_offer_16 : decode cX4_offer 16 = .ok (.getfield 15, 3) := by decide +kernel
theorem dX4_offer_19 : decode cX4_offer 19 = .ok (.iload_n 1, 1) := by decide +kernel
theorem dX4_offer_20 : decode cX4_offer 20 = .ok (.iaload, 1) := by decide +kernel
theorem dX4_offer_21 : decode cX4_offer 21 = .ok (.bipush 12, 2) := by decide +kernel
theorem dX4_offer_23 : decode cX4_offer 23 = .ok (.if_icmp .ge 16, 3) := by decide +kernel
theorem dX4_offer_26 : decode cX4_offer 26 = .ok (.aload_n 0, 1) := by decide +kernel
theorem dX4_offer_27 : decode cX4_offer 27 = .ok (.getfield 15, 3) := by decide +kernel
theorem dX4_offer_30 : decode cX4_offer 30 = .ok (.iload_n 1, 1) := by decide +kernel
theorem dX4_offer_31 : decode cX4_offer 31 = .ok (.dup2, 1) := by decide +kernel
theorem dX4_offer_32 : decode cX4_offer 32 = .ok (.iaload, 1) := by decide +kernel
theorem dX4_offer_33 : decode cX4_offer 33 = .ok (.iconst 1, 1) := by decide +kernel
theorem dX4_offer_34 : decode cX4_offer 34 = .ok (.iadd, 1) := by decide +kernel
theorem dX4_offer_35 : decode cX4_offer 35 = .ok (.iastore, 1) := by decide +kernel
theorem dX4_offer_36 : decode cX4_offer 36 = .ok (.goto 19, 3) := by decide +kernel
theorem dX4_offer_39 : decode cX4_offer 39 = .ok (.iinc 4 (-1), 3) := by decide +kernel
theorem dX4_offer_42 : decode cX4_offer 42 = .ok (.aload_n 0, 1) := by decide +kernel
theorem dX4_offer_43 : decode cX4_offer 43 = .ok (.getfield 18, 3) := by decide +kernel
theorem dX4_offer_46 : decode cX4_offer 46 = .ok (.iload 4, 2) := by decide +kernel
theorem dX4_offer_48 : decode cX4_offer 48 = .ok (.iaload, 1) := by decide +kernel
theorem dX4_offer_49 : decode cX4_offer 49 = .ok (.iload_n 2, 1) := by decide +kernel
theorem dX4_offer_50 : decode cX4_offer 50 = .ok (.if_icmp .ge 5, 3) := by decide +kernel
theorem dX4_offer_53 : decode cX4_offer 53 = .ok (.iconst 0, 1) := by decide +kernel
theorem dX4_offer_54 : decode cX4_offer 54 = .ok (.ireturn, 1) := by decide +kernel
theorem dX4_offer_55 : decode cX4_offer 55 = .ok (.iload 4, 2) := by decide +kernel
theorem dX4_offer_57 : decode cX4_offer 57 = .ok (.iload_n 3, 1) := by decide +kernel
theorem dX4_offer_58 : decode cX4_offer 58 = .ok (.if_icmp .le 38, 3) := by decide +kernel
theorem dX4_offer_61 : decode cX4_offer 61 = .ok (.aload_n 0, 1) := by decide +kernel
theorem dX4_offer_62 : decode cX4_offer 62 = .ok (.getfield 18, 3) := by decide +kernel
theorem dX4_offer_65 : decode cX4_offer 65 = .ok (.iload 4, 2) := by decide +kernel
theorem dX4_offer_67 : decode cX4_offer 67 = .ok (.iconst 1, 1) := by decide +kernel
theorem dX4_offer_68 : decode cX4_offer 68 = .ok (.isub, 1) := by decide +kernel
theorem dX4_offer_69 : decode cX4_offer 69 = .ok (.iaload, 1) := by decide +kernel
theorem dX4_offer_70 : decode cX4_offer 70 = .ok (.iload_n 2, 1) := by decide +kernel
theorem dX4_offer_71 : decode cX4_offer 71 = .ok (.if_icmp .le 25, 3) := by decide +kernel
theorem dX4_offer_74 : decode cX4_offer 74 = .ok (.aload_n 0, 1) := by decide +kernel
theorem dX4_offer_75 : decode cX4_offer 75 = .ok (.getfield 18, 3) := by decide +kernel
theorem dX4_offer_78 : decode cX4_offer 78 = .ok (.iload 4, 2) := by decide +kernel
theorem dX4_offer_80 : decode cX4_offer 80 = .ok (.aload_n 0, 1) := by decide +kernel
theorem dX4_offer_81 : decode cX4_offer 81 = .ok (.getfield 18, 3) := by decide +kernel
theorem dX4_offer_84 : decode cX4_offer 84 = .ok (.iload 4, 2) := by decide +kernel
theorem dX4_offer_86 : decode cX4_offer 86 = .ok (.iconst 1, 1) := by decide +kernel
theorem dX4_offer_87 : decode cX4_offer 87 = .ok (.isub, 1) := by decide +kernel
theorem dX4_offer_88 : decode cX4_offer 88 = .ok (.iaload, 1) := by decide +kernel
theorem dX4_offer_89 : decode cX4_offer 89 = .ok (.iastore, 1) := by decide +kernel
theorem dX4_offer_90 : decode cX4_offer 90 = .ok (.iinc 4 (-1), 3) := by decide +kernel
theorem dX4_offer_93 : decode cX4_offer 93 = .ok (.goto (-38), 3) := by decide +kernel
theorem dX4_offer_96 : decode cX4_offer 96 = .ok (.aload_n 0, 1) := by decide +kernel
theorem dX4_offer_97 : decode cX4_offer 97 = .ok (.getfield 18, 3) := by decide +kernel
theorem dX4_offer_100 : decode cX4_offer 100 = .ok (.iload 4, 2) := by decide +kernel
theorem dX4_offer_102 : decode cX4_offer 102 = .ok (.iload_n 2, 1) := by decide +kernel
theorem dX4_offer_103 : decode cX4_offer 103 = .ok (.iastore, 1) := by decide +kernel
theorem dX4_offer_104 : decode cX4_offer 104 = .ok (.iconst 1, 1) := by decide +kernel
theorem dX4_offer_105 : decode cX4_offer 105 = .ok (.ireturn, 1) := by decide +kernel
theorem dX4_spotBehind_0 : decode cX4_spotBehind 0 = .ok (.aload_n 0, 1) := by decide +kernel
theorem dX4_spotBehind_1 : decode cX4_spotBehind 1 = .ok (.getfield 68, 3) := by decide +kernel
theorem dX4_spotBehind_4 : decode cX4_spotBehind 4 = .ok (.iload_n 1, 1) := by decide +kernel
theorem dX4_spotBehind_5 : decode cX4_spotBehind 5 = .ok (.iaload, 1) := by decide +kernel
theorem dX4_spotBehind_6 : decode cX4_spotBehind 6 = .ok (.aload_n 0, 1) := by decide +kernel
theorem dX4_spotBehind_7 : decode cX4_spotBehind 7 = .ok (.getfield 71, 3) := by decide +kernel
theorem dX4_spotBehind_10 : decode cX4_spotBehind 10 = .ok (.iload_n 1, 1) := by decide +kernel
theorem dX4_spotBehind_11 : decode cX4_spotBehind 11 = .ok (.iaload, 1) := by decide +kernel
theorem dX4_spotBehind_12 : decode cX4_spotBehind 12 = .ok (.iadd, 1) := by decide +kernel
theorem dX4_spotBehind_13 : decode cX4_spotBehind 13 = .ok (.iconst 5, 1) := by decide +kernel
theorem dX4_spotBehind_14 : decode cX4_spotBehind 14 = .ok (.imul, 1) := by decide +kernel
theorem dX4_spotBehind_15 : decode cX4_spotBehind 15 = .ok (.aload_n 0, 1) := by decide +kernel
theorem dX4_spotBehind_16 : decode cX4_spotBehind 16 = .ok (.getfield 74, 3) := by decide +kernel
theorem dX4_spotBehind_19 : decode cX4_spotBehind 19 = .ok (.iload_n 1, 1) := by decide +kernel
theorem dX4_spotBehind_20 : decode cX4_spotBehind 20 = .ok (.iaload, 1) := by decide +kernel
theorem dX4_spotBehind_21 : decode cX4_spotBehind 21 = .ok (.iadd, 1) := by decide +kernel
theorem dX4_spotBehind_22 : decode cX4_spotBehind 22 = .ok (.ireturn, 1) := by decide +kernel
theorem dX4_reachSpots_0 : decode cX4_reachSpots 0 = .ok (.iconst 0, 1) := by decide +kernel
theorem dX4_reachSpots_1 : decode cX4_reachSpots 1 = .ok (.istore_n 2, 1) := by decide +kernel
theorem dX4_reachSpots_2 : decode cX4_reachSpots 2 = .ok (.iload_n 2, 1) := by decide +kernel
theorem dX4_reachSpots_3 : decode cX4_reachSpots 3 = .ok (.bipush 125, 2) := by decide +kernel
theorem dX4_reachSpots_5 : decode cX4_reachSpots 5 = .ok (.if_icmp .ge 17, 3) := by decide +kernel
theorem dX4_reachSpots_8 : decode cX4_reachSpots 8 = .ok (.aload_n 0, 1) := by decide +kernel
theorem dX4_reachSpots_9 : decode cX4_reachSpots 9 = .ok (.getfield 11, 3) := by decide +kernel
theorem dX4_reachSpots_12 : decode cX4_reachSpots 12 = .ok (.iload_n 2, 1) := by decide +kernel
theorem dX4_reachSpots_13 : decode cX4_reachSpots 13 = .ok (.ldc 45, 2) := by decide +kernel
theorem dX4_reachSpots_15 : decode cX4_reachSpots 15 = .ok (.iastore, 1) := by decide +kernel
theorem dX4_reachSpots_16 : decode cX4_reachSpots 16 = .ok (.iinc 2 1, 3) := by decide +kernel
theorem dX4_reachSpots_19 : decode cX4_reachSpots 19 = .ok (.goto (-17), 3) := by decide +kernel
theorem dX4_reachSpots_22 : decode cX4_reachSpots 22 = .ok (.aload_n 0, 1) := by decide +kernel
theorem dX4_reachSpots_23 : decode cX4_reachSpots 23 = .ok (.getfield 11, 3) := by decide +kernel
theorem dX4_reachSpots_26 : decode cX4_reachSpots 26 = .ok (.iconst 4, 1) := by decide +kernel
theorem dX4_reachSpots_27 : decode cX4_reachSpots 27 = .ok (.iconst 0, 1) := by decide +kernel
theorem dX4_reachSpots_28 : decode cX4_reachSpots 28 = .ok (.iastore, 1) := by decide +kernel
theorem dX4_reachSpots_29 : decode cX4_reachSpots 29 = .ok (.iconst 0, 1) := by decide +kernel
theorem dX4_reachSpots_30 : decode cX4_reachSpots 30 = .ok (.istore_n 2, 1) := by decide +kernel
theorem dX4_reachSpots_31 : decode cX4_reachSpots 31 = .ok (.iload_n 2, 1) := by decide +kernel
theorem dX4_reachSpots_32 : decode cX4_reachSpots 32 = .ok (.aload_n 1, 1) := by decide +kernel
theorem dX4_reachSpots_33 : decode cX4_reachSpots 33 = .ok (.getfield 77, 3) := by decide +kernel
theorem dX4_reachSpots_36 : decode cX4_reachSpots 36 = .ok (.if_icmp .ge 36, 3) := by decide +kernel
theorem dX4_reachSpots_39 : decode cX4_reachSpots 39 = .ok (.aload_n 1, 1) := by decide +kernel
theorem dX4_reachSpots_40 : decode cX4_reachSpots 40 = .ok (.iload_n 2, 1) := by decide +kernel
theorem dX4_reachSpots_41 : decode cX4_reachSpots 41 = .ok (.invokestatic 60, 3) := by decide +kernel
theorem dX4_reachSpots_44 : decode cX4_reachSpots 44 = .ok (.istore_n 3, 1) := by decide +kernel
theorem dX4_reachSpots_45 : decode cX4_reachSpots 45 = .ok (.aload_n 0, 1) := by decide +kernel
theorem dX4_reachSpots_46 : decode cX4_reachSpots 46 = .ok (.getfield 11, 3) := by decide +kernel
theorem dX4_reachSpots_49 : decode cX4_reachSpots 49 = .ok (.iload_n 3, 1) := by decide +kernel
theorem dX4_reachSpots_50 : decode cX4_reachSpots 50 = .ok (.aload_n 0, 1) := by decide +kernel
theorem dX4_reachSpots_51 : decode cX4_reachSpots 51 = .ok (.getfield 11, 3) := by decide +kernel
theorem dX4_reachSpots_54 : decode cX4_reachSpots 54 = .ok (.iload_n 3, 1) := by decide +kernel
theorem dX4_reachSpots_55 : decode cX4_reachSpots 55 = .ok (.iaload, 1) := by decide +kernel
theorem dX4_reachSpots_56 : decode cX4_reachSpots 56 = .ok (.aload_n 0, 1) := by decide +kernel
theorem dX4_reachSpots_57 : decode cX4_reachSpots 57 = .ok (.aload_n 1, 1) := by decide +kernel
theorem dX4_reachSpots_58 : decode cX4_reachSpots 58 = .ok (.iload_n 2, 1) := by decide +kernel
theorem dX4_reachSpots_59 : decode cX4_reachSpots 59 = .ok (.invokevirtual 80, 3) := by decide +kernel
theorem dX4_reachSpots_62 : decode cX4_reachSpots 62 = .ok (.invokestatic 83, 3) := by decide +kernel
theorem dX4_reachSpots_65 : decode cX4_reachSpots 65 = .ok (.iastore, 1) := by decide +kernel
theorem dX4_reachSpots_66 : decode cX4_reachSpots 66 = .ok (.iinc 2 1, 3) := by decide +kernel
theorem dX4_reachSpots_69 : decode cX4_reachSpots 69 = .ok (.goto (-38), 3) := by decide +kernel
theorem dX4_reachSpots_72 : decode cX4_reachSpots 72 = .ok (.return_, 1) := by decide +kernel
theorem dX4_leastUpTo_0 : decode cX4_leastUpTo 0 = .ok (.ldc 45, 2) := by decide +kernel
theorem dX4_leastUpTo_2 : decode cX4_leastUpTo 2 = .ok (.istore_n 3, 1) := by decide +kernel
theorem dX4_leastUpTo_3 : decode cX4_leastUpTo 3 = .ok (.iconst 0, 1) := by decide +kernel
theorem dX4_leastUpTo_4 : decode cX4_leastUpTo 4 = .ok (.istore 4, 2) := by decide +kernel
theorem dX4_leastUpTo_6 : decode cX4_leastUpTo 6 = .ok (.iload 4, 2) := by decide +kernel
theorem dX4_leastUpTo_8 : decode cX4_leastUpTo 8 = .ok (.iconst 5, 1) := by decide +kernel
theorem dX4_leastUpTo_9 : decode cX4_leastUpTo 9 = .ok (.if_icmp .ge 42, 3) := by decide +kernel
theorem dX4_leastUpTo_12 : decode cX4_leastUpTo 12 = .ok (.aload_n 1, 1) := by decide +kernel
theorem dX4_leastUpTo_13 : decode cX4_leastUpTo 13 = .ok (.getfield 68, 3) := by decide +kernel
theorem dX4_leastUpTo_16 : decode cX4_leastUpTo 16 = .ok (.iload_n 2, 1) := by decide +kernel
theorem dX4_leastUpTo_17 : decode cX4_leastUpTo 17 = .ok (.iaload, 1) := by decide +kernel
theorem dX4_leastUpTo_18 : decode cX4_leastUpTo 18 = .ok (.iconst 5, 1) := by decide +kernel
theorem dX4_leastUpTo_19 : decode cX4_leastUpTo 19 = .ok (.imul, 1) := by decide +kernel
theorem dX4_leastUpTo_20 : decode cX4_leastUpTo 20 = .ok (.iload 4, 2) := by decide +kernel
theorem dX4_leastUpTo_22 : decode cX4_leastUpTo 22 = .ok (.iadd, 1) := by decide +kernel
theorem dX4_leastUpTo_23 : decode cX4_leastUpTo 23 = .ok (.istore 5, 2) := by decide +kernel
theorem dX4_leastUpTo_25 : decode cX4_leastUpTo 25 = .ok (.iload_n 3, 1) := by decide +kernel
theorem dX4_leastUpTo_26 : decode cX4_leastUpTo 26 = .ok (.aload_n 0, 1) := by decide +kernel
theorem dX4_leastUpTo_27 : decode cX4_leastUpTo 27 = .ok (.getfield 11, 3) := by decide +kernel
theorem dX4_leastUpTo_30 : decode cX4_leastUpTo 30 = .ok (.iload 5, 2) := by decide +kernel
theorem dX4_leastUpTo_32 : decode cX4_leastUpTo 32 = .ok (.iaload, 1) := by decide +kernel
theorem dX4_leastUpTo_33 : decode cX4_leastUpTo 33 = .ok (.aload_n 1, 1) := by decide +kernel
theorem dX4_leastUpTo_34 : decode cX4_leastUpTo 34 = .ok (.iload 4, 2) := by decide +kernel
theorem dX4_leastUpTo_36 : decode cX4_leastUpTo 36 = .ok (.iload_n 2, 1) := by decide +kernel
theorem dX4_leastUpTo_37 : decode cX4_leastUpTo 37 = .ok (.invokevirtual 49, 3) := by decide +kernel
theorem dX4_leastUpTo_40 : decode cX4_leastUpTo 40 = .ok (.iadd, 1) := by decide +kernel
theorem dX4_leastUpTo_41 : decode cX4_leastUpTo 41 = .ok (.invokestatic 83, 3) := by decide +kernel
theorem dX4_leastUpTo_44 : decode cX4_leastUpTo 44 = .ok (.istore_n 3, 1) := by decide +kernel
theorem dX4_leastUpTo_45 : decode cX4_leastUpTo 45 = .ok (.iinc 4 1, 3) := by decide +kernel
theorem dX4_leastUpTo_48 : decode cX4_leastUpTo 48 = .ok (.goto (-42), 3) := by decide +kernel
theorem dX4_leastUpTo_51 : decode cX4_leastUpTo 51 = .ok (.iload_n 3, 1) := by decide +kernel
theorem dX4_leastUpTo_52 : decode cX4_leastUpTo 52 = .ok (.aload_n 1, 1) := by decide +kernel
theorem dX4_leastUpTo_53 : decode cX4_leastUpTo 53 = .ok (.getfield 53, 3) := by decide +kernel
theorem dX4_leastUpTo_56 : decode cX4_leastUpTo 56 = .ok (.iload_n 2, 1) := by decide +kernel
theorem dX4_leastUpTo_57 : decode cX4_leastUpTo 57 = .ok (.iaload, 1) := by decide +kernel
theorem dX4_leastUpTo_58 : decode cX4_leastUpTo 58 = .ok (.iadd, 1) := by decide +kernel
theorem dX4_leastUpTo_59 : decode cX4_leastUpTo 59 = .ok (.ireturn, 1) := by decide +kernel
theorem dX4_leastWith_0 : decode cX4_leastWith 0 = .ok (.aload_n 0, 1) := by decide +kernel
theorem dX4_leastWith_1 : decode cX4_leastWith 1 = .ok (.aload_n 1, 1) := by decide +kernel
theorem dX4_leastWith_2 : decode cX4_leastWith 2 = .ok (.iload_n 2, 1) := by decide +kernel
theorem dX4_leastWith_3 : decode cX4_leastWith 3 = .ok (.invokevirtual 80, 3) := by decide +kernel
theorem dX4_leastWith_6 : decode cX4_leastWith 6 = .ok (.istore_n 3, 1) := by decide +kernel
theorem dX4_leastWith_7 : decode cX4_leastWith 7 = .ok (.aload_n 1, 1) := by decide +kernel
theorem dX4_leastWith_8 : decode cX4_leastWith 8 = .ok (.iload_n 2, 1) := by decide +kernel
theorem dX4_leastWith_9 : decode cX4_leastWith 9 = .ok (.invokestatic 60, 3) := by decide +kernel
theorem dX4_leastWith_12 : decode cX4_leastWith 12 = .ok (.istore 4, 2) := by decide +kernel
theorem dX4_leastWith_14 : decode cX4_leastWith 14 = .ok (.iload_n 3, 1) := by decide +kernel
theorem dX4_leastWith_15 : decode cX4_leastWith 15 = .ok (.ldc 45, 2) := by decide +kernel
theorem dX4_leastWith_17 : decode cX4_leastWith 17 = .ok (.if_icmp .ge 13, 3) := by decide +kernel
theorem dX4_leastWith_20 : decode cX4_leastWith 20 = .ok (.aload_n 0, 1) := by decide +kernel
theorem dX4_leastWith_21 : decode cX4_leastWith 21 = .ok (.getfield 15, 3) := by decide +kernel
theorem dX4_leastWith_24 : decode cX4_leastWith 24 = .ok (.iload 4, 2) := by decide +kernel
theorem dX4_leastWith_26 : decode cX4_leastWith 26 = .ok (.iaload, 1) := by decide +kernel
theorem dX4_leastWith_27 : decode cX4_leastWith 27 = .ok (.ifCond .ne 6, 3) := by decide +kernel
theorem dX4_leastWith_30 : decode cX4_leastWith 30 = .ok (.bipush (-6), 2) := by decide +kernel
theorem dX4_leastWith_32 : decode cX4_leastWith 32 = .ok (.ireturn, 1) := by decide +kernel
theorem dX4_leastWith_33 : decode cX4_leastWith 33 = .ok (.iload_n 3, 1) := by decide +kernel
theorem dX4_leastWith_34 : decode cX4_leastWith 34 = .ok (.aload_n 0, 1) := by decide +kernel
theorem dX4_leastWith_35 : decode cX4_leastWith 35 = .ok (.getfield 18, 3) := by decide +kernel
theorem dX4_leastWith_38 : decode cX4_leastWith 38 = .ok (.iload 4, 2) := by decide +kernel
theorem dX4_leastWith_40 : decode cX4_leastWith 40 = .ok (.bipush 12, 2) := by decide +kernel
theorem dX4_leastWith_42 : decode cX4_leastWith 42 = .ok (.imul, 1) := by decide +kernel
theorem dX4_leastWith_43 : decode cX4_leastWith 43 = .ok (.iaload, 1) := by decide +kernel
theorem dX4_leastWith_44 : decode cX4_leastWith 44 = .ok (.sipush 8192, 3) := by decide +kernel
theorem dX4_leastWith_47 : decode cX4_leastWith 47 = .ok (.idiv, 1) := by decide +kernel
theorem dX4_leastWith_48 : decode cX4_leastWith 48 = .ok (.iadd, 1) := by decide +kernel
theorem dX4_leastWith_49 : decode cX4_leastWith 49 = .ok (.ireturn, 1) := by decide +kernel
theorem dX4_cuttings_0 : decode cX4_cuttings 0 = .ok (.aload_n 0, 1) := by decide +kernel
theorem dX4_cuttings_1 : decode cX4_cuttings 1 = .ok (.getfield 15, 3) := by decide +kernel
theorem dX4_cuttings_4 : decode cX4_cuttings 4 = .ok (.iconst 4, 1) := by decide +kernel
theorem dX4_cuttings_5 : decode cX4_cuttings 5 = .ok (.iaload, 1) := by decide +kernel
theorem dX4_cuttings_6 : decode cX4_cuttings 6 = .ok (.ireturn, 1) := by decide +kernel
theorem dX4_costOf_0 : decode cX4_costOf 0 = .ok (.aload_n 0, 1) := by decide +kernel
theorem dX4_costOf_1 : decode cX4_costOf 1 = .ok (.getfield 18, 3) := by decide +kernel
theorem dX4_costOf_4 : decode cX4_costOf 4 = .ok (.bipush 48, 2) := by decide +kernel
theorem dX4_costOf_6 : decode cX4_costOf 6 = .ok (.iload_n 1, 1) := by decide +kernel
theorem dX4_costOf_7 : decode cX4_costOf 7 = .ok (.iadd, 1) := by decide +kernel
theorem dX4_costOf_8 : decode cX4_costOf 8 = .ok (.iaload, 1) := by decide +kernel
theorem dX4_costOf_9 : decode cX4_costOf 9 = .ok (.sipush 8192, 3) := by decide +kernel
theorem dX4_costOf_12 : decode cX4_costOf 12 = .ok (.idiv, 1) := by decide +kernel
theorem dX4_costOf_13 : decode cX4_costOf 13 = .ok (.ireturn, 1) := by decide +kernel
theorem dX4_follow_0 : decode cX4_follow 0 = .ok (.aload_n 1, 1) := by decide +kernel
theorem dX4_follow_1 : decode cX4_follow 1 = .ok (.getfield 31, 3) := by decide +kernel
theorem dX4_follow_4 : decode cX4_follow 4 = .ok (.iconst 5, 1) := by decide +kernel
theorem dX4_follow_5 : decode cX4_follow 5 = .ok (.imul, 1) := by decide +kernel
theorem dX4_follow_6 : decode cX4_follow 6 = .ok (.istore_n 3, 1) := by decide +kernel
theorem dX4_follow_7 : decode cX4_follow 7 = .ok (.iconst 0, 1) := by decide +kernel
theorem dX4_follow_8 : decode cX4_follow 8 = .ok (.istore 4, 2) := by decide +kernel
theorem dX4_follow_10 : decode cX4_follow 10 = .ok (.iconst 4, 1) := by decide +kernel
theorem dX4_follow_11 : decode cX4_follow 11 = .ok (.istore 5, 2) := by decide +kernel
theorem dX4_follow_13 : decode cX4_follow 13 = .ok (.iload_n 2, 1) := by decide +kernel
theorem dX4_follow_14 : decode cX4_follow 14 = .ok (.istore 6, 2) := by decide +kernel
theorem dX4_follow_16 : decode cX4_follow 16 = .ok (.iload 4, 2) := by decide +kernel
theorem dX4_follow_18 : decode cX4_follow 18 = .ok (.bipush 24, 2) := by decide +kernel
theorem dX4_follow_20 : decode cX4_follow 20 = .ok (.if_icmp .ge 65, 3) := by decide +kernel
theorem dX4_follow_23 : decode cX4_follow 23 = .ok (.iload 5, 2) := by decide +kernel
theorem dX4_follow_25 : decode cX4_follow 25 = .ok (.iload_n 3, 1) := by decide +kernel
theorem dX4_follow_26 : decode cX4_follow 26 = .ok (.if_icmp .ge 59, 3) := by decide +kernel
theorem dX4_follow_29 : decode cX4_follow 29 = .ok (.aload_n 0, 1) := by decide +kernel
theorem dX4_follow_30 : decode cX4_follow 30 = .ok (.getfield 18, 3) := by decide +kernel
theorem dX4_follow_33 : decode cX4_follow 33 = .ok (.iload 5, 2) := by decide +kernel
theorem dX4_follow_35 : decode cX4_follow 35 = .ok (.bipush 12, 2) := by decide +kernel
theorem dX4_follow_37 : decode cX4_follow 37 = .ok (.imul, 1) := by decide +kernel
theorem dX4_follow_38 : decode cX4_follow 38 = .ok (.iload 6, 2) := by decide +kernel
theorem dX4_follow_40 : decode cX4_follow 40 = .ok (.iadd, 1) := by decide +kernel
theorem dX4_follow_41 : decode cX4_follow 41 = .ok (.iaload, 1) := by decide +kernel
theorem dX4_follow_42 : decode cX4_follow 42 = .ok (.istore 7, 2) := by decide +kernel
theorem dX4_follow_44 : decode cX4_follow 44 = .ok (.iload 7, 2) := by decide +kernel
theorem dX4_follow_46 : decode cX4_follow 46 = .ok (.bipush 16, 2) := by decide +kernel
theorem dX4_follow_48 : decode cX4_follow 48 = .ok (.idiv, 1) := by decide +kernel
theorem dX4_follow_49 : decode cX4_follow 49 = .ok (.sipush 512, 3) := by decide +kernel
theorem dX4_follow_52 : decode cX4_follow 52 = .ok (.irem, 1) := by decide +kernel
theorem dX4_follow_53 : decode cX4_follow 53 = .ok (.istore 8, 2) := by decide +kernel
theorem dX4_follow_55 : decode cX4_follow 55 = .ok (.aload_n 0, 1) := by decide +kernel
theorem dX4_follow_56 : decode cX4_follow 56 = .ok (.getfield 21, 3) := by decide +kernel
theorem dX4_follow_59 : decode cX4_follow 59 = .ok (.iload 4, 2) := by decide +kernel
theorem dX4_follow_61 : decode cX4_follow 61 = .ok (.iload 8, 2) := by decide +kernel
theorem dX4_follow_63 : decode cX4_follow 63 = .ok (.iastore, 1) := by decide +kernel
theorem dX4_follow_64 : decode cX4_follow 64 = .ok (.iinc 4 1, 3) := by decide +kernel
theorem dX4_follow_67 : decode cX4_follow 67 = .ok (.aload_n 1, 1) := by decide +kernel
theorem dX4_follow_68 : decode cX4_follow 68 = .ok (.iload 8, 2) := by decide +kernel
theorem dX4_follow_70 : decode cX4_follow 70 = .ok (.invokestatic 60, 3) := by decide +kernel
theorem dX4_follow_73 : decode cX4_follow 73 = .ok (.istore 5, 2) := by decide +kernel
theorem dX4_follow_75 : decode cX4_follow 75 = .ok (.iload 7, 2) := by decide +kernel
theorem dX4_follow_77 : decode cX4_follow 77 = .ok (.bipush 16, 2) := by decide +kernel
theorem dX4_follow_79 : decode cX4_follow 79 = .ok (.irem, 1) := by decide +kernel
theorem dX4_follow_80 : decode cX4_follow 80 = .ok (.istore 6, 2) := by decide +kernel
theorem dX4_follow_82 : decode cX4_follow 82 = .ok (.goto (-66), 3) := by decide +kernel
theorem dX4_follow_85 : decode cX4_follow 85 = .ok (.iload 4, 2) := by decide +kernel
theorem dX4_follow_87 : decode cX4_follow 87 = .ok (.ireturn, 1) := by decide +kernel
theorem dX4_surePlaces_0 : decode cX4_surePlaces 0 = .ok (.aload_n 0, 1) := by decide +kernel
theorem dX4_surePlaces_1 : decode cX4_surePlaces 1 = .ok (.iconst 0, 1) := by decide +kernel
theorem dX4_surePlaces_2 : decode cX4_surePlaces 2 = .ok (.invokevirtual 88, 3) := by decide +kernel
theorem dX4_surePlaces_5 : decode cX4_surePlaces 5 = .ok (.iload_n 2, 1) := by decide +kernel
theorem dX4_surePlaces_6 : decode cX4_surePlaces 6 = .ok (.iadd, 1) := by decide +kernel
theorem dX4_surePlaces_7 : decode cX4_surePlaces 7 = .ok (.istore_n 3, 1) := by decide +kernel
theorem dX4_surePlaces_8 : decode cX4_surePlaces 8 = .ok (.iconst 1, 1) := by decide +kernel
theorem dX4_surePlaces_9 : decode cX4_surePlaces 9 = .ok (.aload_n 1, 1) := by decide +kernel
theorem dX4_surePlaces_10 : decode cX4_surePlaces 10 = .ok (.getfield 31, 3) := by decide +kernel
theorem dX4_surePlaces_13 : decode cX4_surePlaces 13 = .ok (.ishl, 1) := by decide +kernel
theorem dX4_surePlaces_14 : decode cX4_surePlaces 14 = .ok (.iconst 2, 1) := by decide +kernel
theorem dX4_surePlaces_15 : decode cX4_surePlaces 15 = .ok (.isub, 1) := by decide +kernel
theorem dX4_surePlaces_16 : decode cX4_surePlaces 16 = .ok (.istore 4, 2) := by decide +kernel
theorem dX4_surePlaces_18 : decode cX4_surePlaces 18 = .ok (.iconst 0, 1) := by decide +kernel
theorem dX4_surePlaces_19 : decode cX4_surePlaces 19 = .ok (.istore 5, 2) := by decide +kernel
theorem dX4_surePlaces_21 : decode cX4_surePlaces 21 = .ok (.iload 5, 2) := by decide +kernel
theorem dX4_surePlaces_23 : decode cX4_surePlaces 23 = .ok (.aload_n 1, 1) := by decide +kernel
theorem dX4_surePlaces_24 : decode cX4_surePlaces 24 = .ok (.getfield 77, 3) := by decide +kernel
theorem dX4_surePlaces_27 : decode cX4_surePlaces 27 = .ok (.if_icmp .ge 74, 3) := by decide +kernel
theorem dX4_surePlaces_30 : decode cX4_surePlaces 30 = .ok (.aload_n 0, 1) := by decide +kernel
theorem dX4_surePlaces_31 : decode cX4_surePlaces 31 = .ok (.aload_n 1, 1) := by decide +kernel
theorem dX4_surePlaces_32 : decode cX4_surePlaces 32 = .ok (.iload 5, 2) := by decide +kernel
theorem dX4_surePlaces_34 : decode cX4_surePlaces 34 = .ok (.invokevirtual 91, 3) := by decide +kernel
theorem dX4_surePlaces_37 : decode cX4_surePlaces 37 = .ok (.istore 6, 2) := by decide +kernel
theorem dX4_surePlaces_39 : decode cX4_surePlaces 39 = .ok (.iload 6, 2) := by decide +kernel
theorem dX4_surePlaces_41 : decode cX4_surePlaces 41 = .ok (.bipush (-6), 2) := by decide +kernel
theorem dX4_surePlaces_43 : decode cX4_surePlaces 43 = .ok (.if_icmp .eq 52, 3) := by decide +kernel
theorem dX4_surePlaces_46 : decode cX4_surePlaces 46 = .ok (.iload 6, 2) := by decide +kernel
theorem dX4_surePlaces_48 : decode cX4_surePlaces 48 = .ok (.iload_n 3, 1) := by decide +kernel
theorem dX4_surePlaces_49 : decode cX4_surePlaces 49 = .ok (.if_icmp .gt 46, 3) := by decide +kernel
theorem dX4_surePlaces_52 : decode cX4_surePlaces 52 = .ok (.aload_n 1, 1) := by decide +kernel
theorem dX4_surePlaces_53 : decode cX4_surePlaces 53 = .ok (.getfield 68, 3) := by decide +kernel
theorem dX4_surePlaces_56 : decode cX4_surePlaces 56 = .ok (.iload 5, 2) := by decide +kernel
theorem dX4_surePlaces_58 : decode cX4_surePlaces 58 = .ok (.iaload, 1) := by decide +kernel
theorem dX4_surePlaces_59 : decode cX4_surePlaces 59 = .ok (.istore 7, 2) := by decide +kernel
theorem dX4_surePlaces_61 : decode cX4_surePlaces 61 = .ok (.iload 7, 2) := by decide +kernel
theorem dX4_surePlaces_63 : decode cX4_surePlaces 63 = .ok (.aload_n 1, 1) := by decide +kernel
theorem dX4_surePlaces_64 : decode cX4_surePlaces 64 = .ok (.getfield 71, 3) := by decide +kernel
theorem dX4_surePlaces_67 : decode cX4_surePlaces 67 = .ok (.iload 5, 2) := by decide +kernel
theorem dX4_surePlaces_69 : decode cX4_surePlaces 69 = .ok (.iaload, 1) := by decide +kernel
theorem dX4_surePlaces_70 : decode cX4_surePlaces 70 = .ok (.iadd, 1) := by decide +kernel
theorem dX4_surePlaces_71 : decode cX4_surePlaces 71 = .ok (.istore 8, 2) := by decide +kernel
theorem dX4_surePlaces_73 : decode cX4_surePlaces 73 = .ok (.iconst 1, 1) := by decide +kernel
theorem dX4_surePlaces_74 : decode cX4_surePlaces 74 = .ok (.iload 8, 2) := by decide +kernel
theorem dX4_surePlaces_76 : decode cX4_surePlaces 76 = .ok (.ishl, 1) := by decide +kernel
theorem dX4_surePlaces_77 : decode cX4_surePlaces 77 = .ok (.iconst 1, 1) := by decide +kernel
theorem dX4_surePlaces_78 : decode cX4_surePlaces 78 = .ok (.iload 7, 2) := by decide +kernel
theorem dX4_surePlaces_80 : decode cX4_surePlaces 80 = .ok (.iconst 1, 1) := by decide +kernel
theorem dX4_surePlaces_81 : decode cX4_surePlaces 81 = .ok (.iadd, 1) := by decide +kernel
theorem dX4_surePlaces_82 : decode cX4_surePlaces 82 = .ok (.ishl, 1) := by decide +kernel
theorem dX4_surePlaces_83 : decode cX4_surePlaces 83 = .ok (.isub, 1) := by decide +kernel
theorem dX4_surePlaces_84 : decode cX4_surePlaces 84 = .ok (.istore 9, 2) := by decide +kernel
theorem dX4_surePlaces_86 : decode cX4_surePlaces 86 = .ok (.iload 4, 2) := by decide +kernel
theorem dX4_surePlaces_88 : decode cX4_surePlaces 88 = .ok (.iload 9, 2) := by decide +kernel
theorem dX4_surePlaces_90 : decode cX4_surePlaces 90 = .ok (.iconst (-1), 1) := by decide +kernel
theorem dX4_surePlaces_91 : decode cX4_surePlaces 91 = .ok (.ixor, 1) := by decide +kernel
theorem dX4_surePlaces_92 : decode cX4_surePlaces 92 = .ok (.iand, 1) := by decide +kernel
theorem dX4_surePlaces_93 : decode cX4_surePlaces 93 = .ok (.istore 4, 2) := by decide +kernel
theorem dX4_surePlaces_95 : decode cX4_surePlaces 95 = .ok (.iinc 5 1, 3) := by decide +kernel
theorem dX4_surePlaces_98 : decode cX4_surePlaces 98 = .ok (.goto (-77), 3) := by decide +kernel
theorem dX4_surePlaces_101 : decode cX4_surePlaces 101 = .ok (.iload 4, 2) := by decide +kernel
theorem dX4_surePlaces_103 : decode cX4_surePlaces 103 = .ok (.ireturn, 1) := by decide +kernel
theorem dX5_init_0 : decode cX5_init 0 = .ok (.aload_n 0, 1) := by decide +kernel
theorem dX5_init_1 : decode cX5_init 1 = .ok (.invokespecial 3, 3) := by decide +kernel
theorem dX5_init_4 : decode cX5_init 4 = .ok (.aload_n 0, 1) := by decide +kernel
theorem dX5_init_5 : decode cX5_init 5 = .ok (.bipush 71, 2) := by decide +kernel
theorem dX5_init_7 : decode cX5_init 7 = .ok (.newarray .int, 2) := by decide +kernel
theorem dX5_init_9 : decode cX5_init 9 = .ok (.putfield 9, 3) := by decide +kernel
theorem dX5_init_12 : decode cX5_init 12 = .ok (.return_, 1) := by decide +kernel
theorem dX5_write_0 : decode cX5_write 0 = .ok (.aload_n 0, 1) := by decide +kernel
theorem dX5_write_1 : decode cX5_write 1 = .ok (.iconst 0, 1) := by decide +kernel
theorem dX5_write_2 : decode cX5_write 2 = .ok (.putfield 15, 3) := by decide +kernel
theorem dX5_write_5 : decode cX5_write 5 = .ok (.aload_n 2, 1) := by decide +kernel
theorem dX5_write_6 : decode cX5_write 6 = .ok (.aload_n 3, 1) := by decide +kernel
theorem dX5_write_7 : decode cX5_write 7 = .ok (.iload_n 1, 1) := by decide +kernel
theorem dX5_write_8 : decode cX5_write 8 = .ok (.invokevirtual 19, 3) := by decide +kernel
theorem dX5_write_11 : decode cX5_write 11 = .ok (.istore 5, 2) := by decide +kernel
theorem dX5_write_13 : decode cX5_write 13 = .ok (.iconst 0, 1) := by decide +kernel
theorem dX5_write_14 : decode cX5_write 14 = .ok (.istore 6, 2) := by decide +kernel
theorem dX5_write_16 : decode cX5_write 16 = .ok (.iload 6, 2) := by decide +kernel
theorem dX5_write_18 : decode cX5_write 18 = .ok (.iload 5, 2) := by decide +kernel
theorem dX5_write_20 : decode cX5_write 20 = .ok (.if_icmp .ge 34, 3) := by decide +kernel
theorem dX5_write_23 : decode cX5_write 23 = .ok (.iload 6, 2) := by decide +kernel
theorem dX5_write_25 : decode cX5_write 25 = .ok (.ifCond .le 9, 3) := by decide +kernel
theorem dX5_write_28 : decode cX5_write 28 = .ok (.aload_n 0, 1) := by decide +kernel
theorem dX5_write_29 : decode cX5_write 29 = .ok (.bipush 124, 2) := by decide +kernel
theorem dX5_write_31 : decode cX5_write 31 = .ok (.invokevirtual 25, 3) := by decide +kernel
theorem dX5_write_34 : decode cX5_write 34 = .ok (.aload_n 0, 1) := by decide +kernel
theorem dX5_write_35 : decode cX5_write 35 = .ok (.aload_n 2, 1) := by decide +kernel
theorem dX5_write_36 : decode cX5_write 36 = .ok (.getfield 29, 3) := by decide +kernel
theorem dX5_write_39 : decode cX5_write 39 = .ok (.iload 6, 2) := by decide +kernel
theorem dX5_write_41 : decode cX5_write 41 = .ok (.iaload, 1) := by decide +kernel
theorem dX5_write_42 : decode cX5_write 42 = .ok (.aload_n 3, 1) := by decide +kernel
theorem dX5_write_43 : decode cX5_write 43 = .ok (.aload 4, 2) := by decide +kernel
theorem dX5_write_45 : decode cX5_write 45 = .ok (.invokevirtual 32, 3) := by decide +kernel
theorem dX5_write_48 : decode cX5_write 48 = .ok (.iinc 6 1, 3) := by decide +kernel
theorem dX5_write_51 : decode cX5_write 51 = .ok (.goto (-35), 3) := by decide +kernel
theorem dX5_write_54 : decode cX5_write 54 = .ok (.return_, 1) := by decide +kernel
theorem dX5_writePiece_0 : decode cX5_writePiece 0 = .ok (.aload_n 2, 1) := by decide +kernel
theorem dX5_writePiece_1 : decode cX5_writePiece 1 = .ok (.getfield 36, 3) := by decide +kernel
theorem dX5_writePiece_4 : decode cX5_writePiece 4 = .ok (.iload_n 1, 1) := by decide +kernel
theorem dX5_writePiece_5 : decode cX5_writePiece 5 = .ok (.iaload, 1) := by decide +kernel
theorem dX5_writePiece_6 : decode cX5_writePiece 6 = .ok (.istore 4, 2) := by decide +kernel
theorem dX5_writePiece_8 : decode cX5_writePiece 8 = .ok (.iconst 0, 1) := by decide +kernel
theorem dX5_writePiece_9 : decode cX5_writePiece 9 = .ok (.istore 5, 2) := by decide +kernel
theorem dX5_writePiece_11 : decode cX5_writePiece 11 = .ok (.iload 5, 2) := by decide +kernel
theorem dX5_writePiece_13 : decode cX5_writePiece 13 = .ok (.aload_n 2, 1) := by decide +kernel
theorem dX5_writePiece_14 : decode cX5_writePiece 14 = .ok (.getfield 41, 3) := by decide +kernel
theorem dX5_writePiece_17 : decode cX5_writePiece 17 = .ok (.iload_n 1, 1) := by decide +kernel
theorem dX5_writePiece_18 : decode cX5_writePiece 18 = .ok (.iaload, 1) := by decide +kernel
theorem dX5_writePiece_19 : decode cX5_writePiece 19 = .ok (.if_icmp .ge 23, 3) := by decide +kernel
theorem dX5_writePiece_22 : decode cX5_writePiece 22 = .ok (.aload_n 0, 1) := by decide +kernel
theorem dX5_writePiece_23 : decode cX5_writePiece 23 = .ok (.aload_n 3, 1) := by decide +kernel
theorem dX5_writePiece_24 : decode cX5_writePiece 24 = .ok (.getfield 44, 3) := by decide +kernel
theorem dX5_writePiece_27 : decode cX5_writePiece 27 = .ok (.iload 4, 2) := by decide +kernel
theorem dX5_writePiece_29 : decode cX5_writePiece 29 = .ok (.iload 5, 2) := by decide +kernel
theorem dX5_writePiece_31 : decode cX5_writePiece 31 = .ok (.iadd, 1) := by decide +kernel
theorem dX5_writePiece_32 : decode cX5_writePiece 32 = .ok (.iaload, 1) := by decide +kernel
theorem dX5_writePiece_33 : decode cX5_writePiece 33 = .ok (.invokevirtual 25, 3) := by decide +kernel
theorem dX5_writePiece_36 : decode cX5_writePiece 36 = .ok (.iinc 5 1, 3) := by decide +kernel
theorem dX5_writePiece_39 : decode cX5_writePiece 39 = .ok (.goto (-28), 3) := by decide +kernel
theorem dX5_writePiece_42 : decode cX5_writePiece 42 = .ok (.aload_n 2, 1) := by decide +kernel
theorem dX5_writePiece_43 : decode cX5_writePiece 43 = .ok (.getfield 49, 3) := by decide +kernel
theorem dX5_writePiece_46 : decode cX5_writePiece 46 = .ok (.iload_n 1, 1) := by decide +kernel
theorem dX5_writePiece_47 : decode cX5_writePiece 47 = .ok (.iaload, 1) := by decide +kernel
theorem dX5_writePiece_48 : decode cX5_writePiece 48 = .ok (.iconst 3, 1) := by decide +kernel
theorem dX5_writePiece_49 : decode cX5_writePiece 49 = .ok (.if_icmp .ne 9, 3) := by decide +kernel
theorem dX5_writePiece_52 : decode cX5_writePiece 52 = .ok (.aload_n 0, 1) := by decide +kernel
theorem dX5_writePiece_53 : decode cX5_writePiece 53 = .ok (.bipush 63, 2) := by decide +kernel
theorem dX5_writePiece_55 : decode cX5_writePiece 55 = .ok (.invokevirtual 25, 3) := by decide +kernel
theorem dX5_writePiece_58 : decode cX5_writePiece 58 = .ok (.return_, 1) := by decide +kernel
theorem dX5_add_0 : decode cX5_add 0 = .ok (.aload_n 0, 1) := by decide +kernel
theorem dX5_add_1 : decode cX5_add 1 = .ok (.getfield 15, 3) := by decide +kernel
theorem dX5_add_4 : decode cX5_add 4 = .ok (.bipush 71, 2) := by decide +kernel
theorem dX5_add_6 : decode cX5_add 6 = .ok (.if_icmp .ge 23, 3) := by decide +kernel
theorem dX5_add_9 : decode cX5_add 9 = .ok (.aload_n 0, 1) := by decide +kernel
theorem dX5_add_10 : decode cX5_add 10 = .ok (.getfield 9, 3) := by decide +kernel
theorem dX5_add_13 : decode cX5_add 13 = .ok (.aload_n 0, 1) := by decide +kernel
theorem dX5_add_14 : decode cX5_add 14 = .ok (.getfield 15, 3) := by decide +kernel
theorem dX5_add_17 : decode cX5_add 17 = .ok (.iload_n 1, 1) := by decide +kernel
theorem dX5_add_18 : decode cX5_add 18 = .ok (.iastore, 1) := by decide +kernel
theorem dX5_add_19 : decode cX5_add 19 = .ok (.aload_n 0, 1) := by decide +kernel
theorem dX5_add_20 : decode cX5_add 20 = .ok (.dup, 1) := by decide +kernel
theorem dX5_add_21 : decode cX5_add 21 = .ok (.getfield 15, 3) := by decide +kernel
theorem dX5_add_24 : decode cX5_add 24 = .ok (.iconst 1, 1) := by decide +kernel
theorem dX5_add_25 : decode cX5_add 25 = .ok (.iadd, 1) := by decide +kernel
theorem dX5_add_26 : decode cX5_add 26 = .ok (.putfield 15, 3) := by decide +kernel
theorem dX5_add_29 : decode cX5_add 29 = .ok (.return_, 1) := by decide +kernel
