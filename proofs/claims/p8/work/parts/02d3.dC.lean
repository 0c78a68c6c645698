theorem dX7_init_0 : decode cX7_init 0 = .ok (.aload_n 0, 1) := by decide +kernel
theorem dX7_init_1 : decode cX7_init 1 = .ok (.invokespecial 1, 3) := by decide +kernel
theorem dX7_init_4 : decode cX7_init 4 = .ok (.aload_n 0, 1) := by decide +kernel
theorem dX7_init_5 : decode cX7_init 5 = .ok (.bipush 96, 2) := by decide +kernel
theorem dX7_init_7 : decode cX7_init 7 = .ok (.newarray .int, 2) := by decide +kernel
theorem dX7_init_9 : decode cX7_init 9 = .ok (.putfield 7, 3) := by decide +kernel
theorem dX7_init_12 : decode cX7_init 12 = .ok (.aload_n 0, 1) := by decide +kernel
theorem dX7_init_13 : decode cX7_init 13 = .ok (.bipush 16, 2) := by decide +kernel
theorem dX7_init_15 : decode cX7_init 15 = .ok (.newarray .int, 2) := by decide +kernel
theorem dX7_init_17 : decode cX7_init 17 = .ok (.putfield 13, 3) := by decide +kernel
theorem dX7_init_20 : decode cX7_init 20 = .ok (.aload_n 0, 1) := by decide +kernel
theorem dX7_init_21 : decode cX7_init 21 = .ok (.bipush 16, 2) := by decide +kernel
theorem dX7_init_23 : decode cX7_init 23 = .ok (.newarray .int, 2) := by decide +kernel
theorem dX7_init_25 : decode cX7_init 25 = .ok (.putfield 16, 3) := by decide +kernel
theorem dX7_init_28 : decode cX7_init 28 = .ok (.aload_n 0, 1) := by decide +kernel
theorem dX7_init_29 : decode cX7_init 29 = .ok (.bipush 16, 2) := by decide +kernel
theorem dX7_init_31 : decode cX7_init 31 = .ok (.newarray .int, 2) := by decide +kernel
theorem dX7_init_33 : decode cX7_init 33 = .ok (.putfield 19, 3) := by decide +kernel
theorem dX7_init_36 : decode cX7_init 36 = .ok (.aload_n 0, 1) := by decide +kernel
theorem dX7_init_37 : decode cX7_init 37 = .ok (.bipush 25, 2) := by decide +kernel
theorem dX7_init_39 : decode cX7_init 39 = .ok (.newarray .int, 2) := by decide +kernel
theorem dX7_init_41 : decode cX7_init 41 = .ok (.putfield 22, 3) := by decide +kernel
theorem dX7_init_44 : decode cX7_init 44 = .ok (.aload_n 0, 1) := by decide +kernel
theorem dX7_init_45 : decode cX7_init 45 = .ok (.iconst 4, 1) := by decide +kernel
theorem dX7_init_46 : decode cX7_init 46 = .ok (.newarray .int, 2) := by decide +kernel
theorem dX7_init_48 : decode cX7_init 48 = .ok (.putfield 25, 3) := by decide +kernel
theorem dX7_init_51 : decode cX7_init 51 = .ok (.aload_n 0, 1) := by decide +kernel
theorem dX7_init_52 : decode cX7_init 52 = .ok (.bipush 24, 2) := by decide +kernel
theorem dX7_init_54 : decode cX7_init 54 = .ok (.newarray .int, 2) := by decide +kernel
theorem dX7_init_56 : decode cX7_init 56 = .ok (.putfield 28, 3) := by decide +kernel
theorem dX7_init_59 : decode cX7_init 59 = .ok (.aload_n 0, 1) := by decide +kernel
theorem dX7_init_60 : decode cX7_init 60 = .ok (.bipush 40, 2) := by decide +kernel
theorem dX7_init_62 : decode cX7_init 62 = .ok (.newarray .int, 2) := by decide +kernel
theorem dX7_init_64 : decode cX7_init 64 = .ok (.putfield 31, 3) := by decide +kernel
theorem dX7_init_67 : decode cX7_init 67 = .ok (.aload_n 0, 1) := by decide +kernel
theorem dX7_init_68 : decode cX7_init 68 = .ok (.sipush 480, 3) := by decide +kernel
theorem dX7_init_71 : decode cX7_init 71 = .ok (.newarray .int, 2) := by decide +kernel
theorem dX7_init_73 : decode cX7_init 73 = .ok (.putfield 34, 3) := by decide +kernel
theorem dX7_init_76 : decode cX7_init 76 = .ok (.aload_n 0, 1) := by decide +kernel
theorem dX7_init_77 : decode cX7_init 77 = .ok (.sipush 480, 3) := by decide +kernel
theorem dX7_init_80 : decode cX7_init 80 = .ok (.newarray .int, 2) := by decide +kernel
theorem dX7_init_82 : decode cX7_init 82 = .ok (.putfield 37, 3) := by decide +kernel
theorem dX7_init_85 : decode cX7_init 85 = .ok (.aload_n 0, 1) := by decide +kernel
theorem dX7_init_86 : decode cX7_init 86 = .ok (.sipush 480, 3) := by decide +kernel
theorem dX7_init_89 : decode cX7_init 89 = .ok (.newarray .int, 2) := by decide +kernel
theorem dX7_init_91 : decode cX7_init 91 = .ok (.putfield 40, 3) := by decide +kernel
theorem dX7_init_94 : decode cX7_init 94 = .ok (.aload_n 0, 1) := by decide +kernel
theorem dX7_init_95 : decode cX7_init 95 = .ok (.sipush 480, 3) := by decide +kernel
theorem dX7_init_98 : decode cX7_init 98 = .ok (.newarray .int, 2) := by decide +kernel
theorem dX7_init_100 : decode cX7_init 100 = .ok (.putfield 43, 3) := by decide +kernel
theorem dX7_init_103 : decode cX7_init 103 = .ok (.aload_n 0, 1) := by decide +kernel
theorem dX7_init_104 : decode cX7_init 104 = .ok (.sipush 480, 3) := by decide +kernel
theorem dX7_init_107 : decode cX7_init 107 = .ok (.newarray .int, 2) := by decide +kernel
theorem dX7_init_109 : decode cX7_init 109 = .ok (.putfield 46, 3) := by decide +kernel
theorem dX7_init_112 : decode cX7_init 112 = .ok (.aload_n 0, 1) := by decide +kernel
theorem dX7_init_113 : decode cX7_init 113 = .ok (.bipush 26, 2) := by decide +kernel
theorem dX7_init_115 : decode cX7_init 115 = .ok (.newarray .int, 2) := by decide +kernel
theorem dX7_init_117 : decode cX7_init 117 = .ok (.putfield 49, 3) := by decide +kernel
theorem dX7_init_120 : decode cX7_init 120 = .ok (.aload_n 0, 1) := by decide +kernel
theorem dX7_init_121 : decode cX7_init 121 = .ok (.sipush 5760, 3) := by decide +kernel
theorem dX7_init_124 : decode cX7_init 124 = .ok (.newarray .int, 2) := by decide +kernel
theorem dX7_init_126 : decode cX7_init 126 = .ok (.putfield 52, 3) := by decide +kernel
theorem dX7_init_129 : decode cX7_init 129 = .ok (.aload_n 0, 1) := by decide +kernel
theorem dX7_init_130 : decode cX7_init 130 = .ok (.sipush 5760, 3) := by decide +kernel
theorem dX7_init_133 : decode cX7_init 133 = .ok (.newarray .int, 2) := by decide +kernel
theorem dX7_init_135 : decode cX7_init 135 = .ok (.putfield 55, 3) := by decide +kernel
theorem dX7_init_138 : decode cX7_init 138 = .ok (.aload_n 0, 1) := by decide +kernel
theorem dX7_init_139 : decode cX7_init 139 = .ok (.sipush 480, 3) := by decide +kernel
theorem dX7_init_142 : decode cX7_init 142 = .ok (.newarray .int, 2) := by decide +kernel
theorem dX7_init_144 : decode cX7_init 144 = .ok (.putfield 58, 3) := by decide +kernel
theorem dX7_init_147 : decode cX7_init 147 = .ok (.aload_n 0, 1) := by decide +kernel
theorem dX7_init_148 : decode cX7_init 148 = .ok (.sipush 480, 3) := by decide +kernel
theorem dX7_init_151 : decode cX7_init 151 = .ok (.newarray .int, 2) := by decide +kernel
theorem dX7_init_153 : decode cX7_init 153 = .ok (.putfield 61, 3) := by decide +kernel
theorem dX7_init_156 : decode cX7_init 156 = .ok (.aload_n 0, 1) := by decide +kernel
theorem dX7_init_157 : decode cX7_init 157 = .ok (.bipush 26, 2) := by decide +kernel
theorem dX7_init_159 : decode cX7_init 159 = .ok (.newarray .int, 2) := by decide +kernel
theorem dX7_init_161 : decode cX7_init 161 = .ok (.putfield 64, 3) := by decide +kernel
theorem dX7_init_164 : decode cX7_init 164 = .ok (.aload_n 0, 1) := by decide +kernel
theorem dX7_init_165 : decode cX7_init 165 = .ok (.sipush 460, 3) := by decide +kernel
theorem dX7_init_168 : decode cX7_init 168 = .ok (.newarray .int, 2) := by decide +kernel
theorem dX7_init_170 : decode cX7_init 170 = .ok (.putfield 67, 3) := by decide +kernel
theorem dX7_init_173 : decode cX7_init 173 = .ok (.aload_n 0, 1) := by decide +kernel
theorem dX7_init_174 : decode cX7_init 174 = .ok (.iconst 2, 1) := by decide +kernel
theorem dX7_init_175 : decode cX7_init 175 = .ok (.newarray .boolean, 2) := by decide +kernel
theorem dX7_init_177 : decode cX7_init 177 = .ok (.putfield 70, 3) := by decide +kernel
theorem dX7_init_180 : decode cX7_init 180 = .ok (.aload_n 0, 1) := by decide +kernel
theorem dX7_init_181 : decode cX7_init 181 = .ok (.getfield 25, 3) := by decide +kernel
theorem dX7_init_184 : decode cX7_init 184 = .ok (.iconst 1, 1) := by decide +kernel
theorem dX7_init_185 : decode cX7_init 185 = .ok (.bipush 50, 2) := by decide +kernel
theorem dX7_init_187 : decode cX7_init 187 = .ok (.iastore, 1) := by decide +kernel
theorem dX7_init_188 : decode cX7_init 188 = .ok (.aload_n 0, 1) := by decide +kernel
theorem dX7_init_189 : decode cX7_init 189 = .ok (.getfield 25, 3) := by decide +kernel
theorem dX7_init_192 : decode cX7_init 192 = .ok (.iconst 2, 1) := by decide +kernel
theorem dX7_init_193 : decode cX7_init 193 = .ok (.bipush 10, 2) := by decide +kernel
theorem dX7_init_195 : decode cX7_init 195 = .ok (.iastore, 1) := by decide +kernel
theorem dX7_init_196 : decode cX7_init 196 = .ok (.aload_n 0, 1) := by decide +kernel
theorem dX7_init_197 : decode cX7_init 197 = .ok (.getfield 25, 3) := by decide +kernel
theorem dX7_init_200 : decode cX7_init 200 = .ok (.iconst 3, 1) := by decide +kernel
theorem dX7_init_201 : decode cX7_init 201 = .ok (.iconst 1, 1) := by decide +kernel
theorem dX7_init_202 : decode cX7_init 202 = .ok (.iastore, 1) := by decide +kernel
theorem dX7_init_203 : decode cX7_init 203 = .ok (.return_, 1) := by decide +kernel
theorem dX7_in_0 : decode cX7_in 0 = .ok (.iload_n 0, 1) := by decide +kernel
theorem dX7_in_1 : decode cX7_in 1 = .ok (.iload_n 1, 1) := by decide +kernel
theorem dX7_in_2 : decode cX7_in 2 = .ok (.if_icmp .lt 12, 3) := by decide +kernel
theorem dX7_in_5 : decode cX7_in 5 = .ok (.iload_n 0, 1) := by decide +kernel
theorem dX7_in_6 : decode cX7_in 6 = .ok (.iload_n 2, 1) := by decide +kernel
theorem dX7_in_7 : decode cX7_in 7 = .ok (.if_icmp .gt 7, 3) := by decide +kernel
theorem dX7_in_10 : decode cX7_in 10 = .ok (.iconst 1, 1) := by decide +kernel
theorem dX7_in_11 : decode cX7_in 11 = .ok (.goto 4, 3) := by decide +kernel
theorem dX7_in_14 : decode cX7_in 14 = .ok (.iconst 0, 1) := by decide +kernel
theorem dX7_in_15 : decode cX7_in 15 = .ok (.ireturn, 1) := by decide +kernel
theorem dX7_isLetter_0 : decode cX7_isLetter 0 = .ok (.iload_n 0, 1) := by decide +kernel
theorem dX7_isLetter_1 : decode cX7_isLetter 1 = .ok (.bipush 97, 2) := by decide +kernel
theorem dX7_isLetter_3 : decode cX7_isLetter 3 = .ok (.bipush 104, 2) := by decide +kernel
theorem dX7_isLetter_5 : decode cX7_isLetter 5 = .ok (.invokestatic 74, 3) := by decide +kernel
theorem dX7_isLetter_8 : decode cX7_isLetter 8 = .ok (.ireturn, 1) := by decide +kernel
theorem dX7_say_0 : decode cX7_say 0 = .ok (.iload_n 1, 1) := by decide +kernel
theorem dX7_say_1 : decode cX7_say 1 = .ok (.bipush 33, 2) := by decide +kernel
theorem dX7_say_3 : decode cX7_say 3 = .ok (.bipush 126, 2) := by decide +kernel
theorem dX7_say_5 : decode cX7_say 5 = .ok (.invokestatic 74, 3) := by decide +kernel
theorem dX7_say_8 : decode cX7_say 8 = .ok (.ifCond .ne 6, 3) := by decide +kernel
theorem dX7_say_11 : decode cX7_say 11 = .ok (.bipush (-2), 2) := by decide +kernel
theorem dX7_say_13 : decode cX7_say 13 = .ok (.ireturn, 1) := by decide +kernel
theorem dX7_say_14 : decode cX7_say 14 = .ok (.aload_n 0, 1) := by decide +kernel
theorem dX7_say_15 : decode cX7_say 15 = .ok (.getfield 78, 3) := by decide +kernel
theorem dX7_say_18 : decode cX7_say 18 = .ok (.bipush 40, 2) := by decide +kernel
theorem dX7_say_20 : decode cX7_say 20 = .ok (.if_icmp .ne 6, 3) := by decide +kernel
theorem dX7_say_23 : decode cX7_say 23 = .ok (.bipush (-4), 2) := by decide +kernel
theorem dX7_say_25 : decode cX7_say 25 = .ok (.ireturn, 1) := by decide +kernel
theorem dX7_say_26 : decode cX7_say 26 = .ok (.aload_n 0, 1) := by decide +kernel
theorem dX7_say_27 : decode cX7_say 27 = .ok (.getfield 31, 3) := by decide +kernel
theorem dX7_say_30 : decode cX7_say 30 = .ok (.aload_n 0, 1) := by decide +kernel
theorem dX7_say_31 : decode cX7_say 31 = .ok (.getfield 78, 3) := by decide +kernel
theorem dX7_say_34 : decode cX7_say 34 = .ok (.iload_n 1, 1) := by decide +kernel
theorem dX7_say_35 : decode cX7_say 35 = .ok (.iastore, 1) := by decide +kernel
theorem dX7_say_36 : decode cX7_say 36 = .ok (.aload_n 0, 1) := by decide +kernel
theorem dX7_say_37 : decode cX7_say 37 = .ok (.dup, 1) := by decide +kernel
theorem dX7_say_38 : decode cX7_say 38 = .ok (.getfield 78, 3) := by decide +kernel
theorem dX7_say_41 : decode cX7_say 41 = .ok (.iconst 1, 1) := by decide +kernel
theorem dX7_say_42 : decode cX7_say 42 = .ok (.iadd, 1) := by decide +kernel
theorem dX7_say_43 : decode cX7_say 43 = .ok (.putfield 78, 3) := by decide +kernel
theorem dX7_say_46 : decode cX7_say 46 = .ok (.aload_n 0, 1) := by decide +kernel
theorem dX7_say_47 : decode cX7_say 47 = .ok (.getfield 78, 3) := by decide +kernel
theorem dX7_say_50 : decode cX7_say 50 = .ok (.ireturn, 1) := by decide +kernel
theorem dX7_wipe_0 : decode cX7_wipe 0 = .ok (.aload_n 0, 1) := by decide +kernel
theorem dX7_wipe_1 : decode cX7_wipe 1 = .ok (.getfield 78, 3) := by decide +kernel
theorem dX7_wipe_4 : decode cX7_wipe 4 = .ok (.istore_n 1, 1) := by decide +kernel
theorem dX7_wipe_5 : decode cX7_wipe 5 = .ok (.aload_n 0, 1) := by decide +kernel
theorem dX7_wipe_6 : decode cX7_wipe 6 = .ok (.iconst 0, 1) := by decide +kernel
theorem dX7_wipe_7 : decode cX7_wipe 7 = .ok (.putfield 78, 3) := by decide +kernel
theorem dX7_wipe_10 : decode cX7_wipe 10 = .ok (.iload_n 1, 1) := by decide +kernel
theorem dX7_wipe_11 : decode cX7_wipe 11 = .ok (.ireturn, 1) := by decide +kernel
theorem dX7_name_0 : decode cX7_name 0 = .ok (.iconst 4, 1) := by decide +kernel
theorem dX7_name_1 : decode cX7_name 1 = .ok (.iload_n 0, 1) := by decide +kernel
theorem dX7_name_2 : decode cX7_name 2 = .ok (.imul, 1) := by decide +kernel
theorem dX7_name_3 : decode cX7_name 3 = .ok (.iload_n 1, 1) := by decide +kernel
theorem dX7_name_4 : decode cX7_name 4 = .ok (.iadd, 1) := by decide +kernel
theorem dX7_name_5 : decode cX7_name 5 = .ok (.tableswitch 92 0 10 #[59, 62, 65, 68, 71, 74, 77, 80, 83, 86, 89], 59) := by decide +kernel
theorem dX7_name_64 : decode cX7_name 64 = .ok (.bipush 110, 2) := by decide +kernel
theorem dX7_name_66 : decode cX7_name 66 = .ok (.ireturn, 1) := by decide +kernel
theorem dX7_name_67 : decode cX7_name 67 = .ok (.bipush 111, 2) := by decide +kernel
theorem dX7_name_69 : decode cX7_name 69 = .ok (.ireturn, 1) := by decide +kernel
theorem dX7_name_70 : decode cX7_name 70 = .ok (.bipush 117, 2) := by decide +kernel
theorem dX7_name_72 : decode cX7_name 72 = .ok (.ireturn, 1) := by decide +kernel
theorem dX7_name_73 : decode cX7_name 73 = .ok (.bipush 110, 2) := by decide +kernel
theorem dX7_name_75 : decode cX7_name 75 = .ok (.ireturn, 1) := by decide +kernel
theorem dX7_name_76 : decode cX7_name 76 = .ok (.bipush 118, 2) := by decide +kernel
theorem dX7_name_78 : decode cX7_name 78 = .ok (.ireturn, 1) := by decide +kernel
theorem dX7_name_79 : decode cX7_name 79 = .ok (.bipush 101, 2) := by decide +kernel
theorem dX7_name_81 : decode cX7_name 81 = .ok (.ireturn, 1) := by decide +kernel
theorem dX7_name_82 : decode cX7_name 82 = .ok (.bipush 114, 2) := by decide +kernel
theorem dX7_name_84 : decode cX7_name 84 = .ok (.ireturn, 1) := by decide +kernel
theorem dX7_name_85 : decode cX7_name 85 = .ok (.bipush 98, 2) := by decide +kernel
theorem dX7_name_87 : decode cX7_name 87 = .ok (.ireturn, 1) := by decide +kernel
theorem dX7_name_88 : decode cX7_name 88 = .ok (.bipush 109, 2) := by decide +kernel
theorem dX7_name_90 : decode cX7_name 90 = .ok (.ireturn, 1) := by decide +kernel
theorem dX7_name_91 : decode cX7_name 91 = .ok (.bipush 97, 2) := by decide +kernel
theorem dX7_name_93 : decode cX7_name 93 = .ok (.ireturn, 1) := by decide +kernel
theorem dX7_name_94 : decode cX7_name 94 = .ok (.bipush 114, 2) := by decide +kernel
theorem dX7_name_96 : decode cX7_name 96 = .ok (.ireturn, 1) := by decide +kernel
theorem dX7_name_97 : decode cX7_name 97 = .ok (.bipush 107, 2) := by decide +kernel
theorem dX7_name_99 : decode cX7_name 99 = .ok (.ireturn, 1) := by decide +kernel
theorem dX7_wordFault_0 : decode cX7_wordFault 0 = .ok (.iconst 0, 1) := by decide +kernel
theorem dX7_wordFault_1 : decode cX7_wordFault 1 = .ok (.istore_n 1, 1) := by decide +kernel
theorem dX7_wordFault_2 : decode cX7_wordFault 2 = .ok (.iload_n 1, 1) := by decide +kernel
theorem dX7_wordFault_3 : decode cX7_wordFault 3 = .ok (.aload_n 0, 1) := by decide +kernel
theorem dX7_wordFault_4 : decode cX7_wordFault 4 = .ok (.getfield 78, 3) := by decide +kernel
theorem dX7_wordFault_7 : decode cX7_wordFault 7 = .ok (.if_icmp .ge 27, 3) := by decide +kernel
theorem dX7_wordFault_10 : decode cX7_wordFault 10 = .ok (.iload_n 1, 1) := by decide +kernel
theorem dX7_wordFault_11 : decode cX7_wordFault 11 = .ok (.bipush 6, 2) := by decide +kernel
theorem dX7_wordFault_13 : decode cX7_wordFault 13 = .ok (.if_icmp .ge 21, 3) := by decide +kernel
theorem dX7_wordFault_16 : decode cX7_wordFault 16 = .ok (.aload_n 0, 1) := by decide +kernel
theorem dX7_wordFault_17 : decode cX7_wordFault 17 = .ok (.getfield 31, 3) := by decide +kernel
theorem dX7_wordFault_20 : decode cX7_wordFault 20 = .ok (.iload_n 1, 1) := by decide +kernel
theorem dX7_wordFault_21 : decode cX7_wordFault 21 = .ok (.iaload, 1) := by decide +kernel
theorem dX7_wordFault_22 : decode cX7_wordFault 22 = .ok (.invokestatic 82, 3) := by decide +kernel
theorem dX7_wordFault_25 : decode cX7_wordFault 25 = .ok (.ifCond .eq 9, 3) := by decide +kernel
theorem dX7_wordFault_28 : decode cX7_wordFault 28 = .ok (.iinc 1 1, 3) := by decide +kernel
theorem dX7_wordFault_31 : decode cX7_wordFault 31 = .ok (.goto (-29), 3) := by decide +kernel
theorem dX7_wordFault_34 : decode cX7_wordFault 34 = .ok (.aload_n 0, 1) := by decide +kernel
theorem dX7_wordFault_35 : decode cX7_wordFault 35 = .ok (.iload_n 1, 1) := by decide +kernel
theorem dX7_wordFault_36 : decode cX7_wordFault 36 = .ok (.putfield 86, 3) := by decide +kernel
theorem dX7_wordFault_39 : decode cX7_wordFault 39 = .ok (.iload_n 1, 1) := by decide +kernel
theorem dX7_wordFault_40 : decode cX7_wordFault 40 = .ok (.aload_n 0, 1) := by decide +kernel
theorem dX7_wordFault_41 : decode cX7_wordFault 41 = .ok (.getfield 78, 3) := by decide +kernel
theorem dX7_wordFault_44 : decode cX7_wordFault 44 = .ok (.if_icmp .eq 18, 3) := by decide +kernel
theorem dX7_wordFault_47 : decode cX7_wordFault 47 = .ok (.iload_n 1, 1) := by decide +kernel
theorem dX7_wordFault_48 : decode cX7_wordFault 48 = .ok (.ifCond .eq 14, 3) := by decide +kernel
theorem dX7_wordFault_51 : decode cX7_wordFault 51 = .ok (.aload_n 0, 1) := by decide +kernel
theorem dX7_wordFault_52 : decode cX7_wordFault 52 = .ok (.getfield 31, 3) := by decide +kernel
theorem dX7_wordFault_55 : decode cX7_wordFault 55 = .ok (.iload_n 1, 1) := by decide +kernel
theorem dX7_wordFault_56 : decode cX7_wordFault 56 = .ok (.iaload, 1) := by decide +kernel
theorem dX7_wordFault_57 : decode cX7_wordFault 57 = .ok (.bipush 61, 2) := by decide +kernel
theorem dX7_wordFault_59 : decode cX7_wordFault 59 = .ok (.if_icmp .eq 5, 3) := by decide +kernel
theorem dX7_wordFault_62 : decode cX7_wordFault 62 = .ok (.iload_n 1, 1) := by decide +kernel
theorem dX7_wordFault_63 : decode cX7_wordFault 63 = .ok (.ireturn, 1) := by decide +kernel
theorem dX7_wordFault_64 : decode cX7_wordFault 64 = .ok (.iinc 1 1, 3) := by decide +kernel
theorem dX7_wordFault_67 : decode cX7_wordFault 67 = .ok (.aload_n 0, 1) := by decide +kernel
theorem dX7_wordFault_68 : decode cX7_wordFault 68 = .ok (.bipush (-6), 2) := by decide +kernel
theorem dX7_wordFault_70 : decode cX7_wordFault 70 = .ok (.putfield 89, 3) := by decide +kernel
theorem dX7_wordFault_73 : decode cX7_wordFault 73 = .ok (.iconst 0, 1) := by decide +kernel
theorem dX7_wordFault_74 : decode cX7_wordFault 74 = .ok (.istore_n 2, 1) := by decide +kernel
theorem dX7_wordFault_75 : decode cX7_wordFault 75 = .ok (.iload_n 2, 1) := by decide +kernel
theorem dX7_wordFault_76 : decode cX7_wordFault 76 = .ok (.iconst 3, 1) := by decide +kernel
theorem dX7_wordFault_77 : decode cX7_wordFault 77 = .ok (.if_icmp .ge 43, 3) := by decide +kernel
theorem dX7_wordFault_80 : decode cX7_wordFault 80 = .ok (.iload_n 1, 1) := by decide +kernel
theorem dX7_wordFault_81 : decode cX7_wordFault 81 = .ok (.aload_n 0, 1) := by decide +kernel
theorem dX7_wordFault_82 : decode cX7_wordFault 82 = .ok (.getfield 78, 3) := by decide +kernel
theorem dX7_wordFault_85 : decode cX7_wordFault 85 = .ok (.if_icmp .ge 35, 3) := by decide +kernel
theorem dX7_wordFault_88 : decode cX7_wordFault 88 = .ok (.aload_n 0, 1) := by decide +kernel
theorem dX7_wordFault_89 : decode cX7_wordFault 89 = .ok (.aload_n 0, 1) := by decide +kernel
theorem dX7_wordFault_90 : decode cX7_wordFault 90 = .ok (.getfield 31, 3) := by decide +kernel
theorem dX7_wordFault_93 : decode cX7_wordFault 93 = .ok (.iload_n 1, 1) := by decide +kernel
theorem dX7_wordFault_94 : decode cX7_wordFault 94 = .ok (.iaload, 1) := by decide +kernel
theorem dX7_wordFault_95 : decode cX7_wordFault 95 = .ok (.iload_n 2, 1) := by decide +kernel
theorem dX7_wordFault_96 : decode cX7_wordFault 96 = .ok (.iconst 0, 1) := by decide +kernel
theorem dX7_wordFault_97 : decode cX7_wordFault 97 = .ok (.invokestatic 92, 3) := by decide +kernel
theorem dX7_wordFault_100 : decode cX7_wordFault 100 = .ok (.if_icmp .ne 7, 3) := by decide +kernel
theorem dX7_wordFault_103 : decode cX7_wordFault 103 = .ok (.iload_n 2, 1) := by decide +kernel
theorem dX7_wordFault_104 : decode cX7_wordFault 104 = .ok (.goto 7, 3) := by decide +kernel
theorem dX7_wordFault_107 : decode cX7_wordFault 107 = .ok (.aload_n 0, 1) := by decide +kernel
theorem dX7_wordFault_108 : decode cX7_wordFault 108 = .ok (.getfield 89, 3) := by decide +kernel
theorem dX7_wordFault_111 : decode cX7_wordFault 111 = .ok (.putfield 89, 3) := by decide +kernel
theorem dX7_wordFault_114 : decode cX7_wordFault 114 = .ok (.iinc 2 1, 3) := by decide +kernel
theorem dX7_wordFault_117 : decode cX7_wordFault 117 = .ok (.goto (-42), 3) := by decide +kernel
theorem dX7_wordFault_120 : decode cX7_wordFault 120 = .ok (.aload_n 0, 1) := by decide +kernel
theorem dX7_wordFault_121 : decode cX7_wordFault 121 = .ok (.getfield 89, 3) := by decide +kernel
theorem dX7_wordFault_124 : decode cX7_wordFault 124 = .ok (.ifCond .ge 5, 3) := by decide +kernel
theorem dX7_wordFault_127 : decode cX7_wordFault 127 = .ok (.iload_n 1, 1) := by decide +kernel
theorem dX7_wordFault_128 : decode cX7_wordFault 128 = .ok (.ireturn, 1) := by decide +kernel
theorem dX7_wordFault_129 : decode cX7_wordFault 129 = .ok (.iload_n 1, 1) := by decide +kernel
theorem dX7_wordFault_130 : decode cX7_wordFault 130 = .ok (.iconst 3, 1) := by decide +kernel
theorem dX7_wordFault_131 : decode cX7_wordFault 131 = .ok (.iadd, 1) := by decide +kernel
theorem dX7_wordFault_132 : decode cX7_wordFault 132 = .ok (.aload_n 0, 1) := by decide +kernel
theorem dX7_wordFault_133 : decode cX7_wordFault 133 = .ok (.getfield 78, 3) := by decide +kernel
theorem dX7_wordFault_136 : decode cX7_wordFault 136 = .ok (.if_icmp .ge 7, 3) := by decide +kernel
theorem dX7_wordFault_139 : decode cX7_wordFault 139 = .ok (.iconst 1, 1) := by decide +kernel
theorem dX7_wordFault_140 : decode cX7_wordFault 140 = .ok (.goto 4, 3) := by decide +kernel
theorem dX7_wordFault_143 : decode cX7_wordFault 143 = .ok (.iconst 0, 1) := by decide +kernel
theorem dX7_wordFault_144 : decode cX7_wordFault 144 = .ok (.istore_n 2, 1) := by decide +kernel
theorem dX7_wordFault_145 : decode cX7_wordFault 145 = .ok (.iconst 1, 1) := by decide +kernel
theorem dX7_wordFault_146 : decode cX7_wordFault 146 = .ok (.istore_n 3, 1) := by decide +kernel
theorem dX7_wordFault_147 : decode cX7_wordFault 147 = .ok (.iload_n 3, 1) := by decide +kernel
theorem dX7_wordFault_148 : decode cX7_wordFault 148 = .ok (.iconst 4, 1) := by decide +kernel
theorem dX7_wordFault_149 : decode cX7_wordFault 149 = .ok (.if_icmp .ge 38, 3) := by decide +kernel
theorem dX7_wordFault_152 : decode cX7_wordFault 152 = .ok (.iload_n 2, 1) := by decide +kernel
theorem dX7_wordFault_153 : decode cX7_wordFault 153 = .ok (.ifCond .eq 34, 3) := by decide +kernel
theorem dX7_wordFault_156 : decode cX7_wordFault 156 = .ok (.aload_n 0, 1) := by decide +kernel
theorem dX7_wordFault_157 : decode cX7_wordFault 157 = .ok (.getfield 31, 3) := by decide +kernel
theorem dX7_wordFault_160 : decode cX7_wordFault 160 = .ok (.iload_n 1, 1) := by decide +kernel
theorem dX7_wordFault_161 : decode cX7_wordFault 161 = .ok (.iload_n 3, 1) := by decide +kernel
theorem dX7_wordFault_162 : decode cX7_wordFault 162 = .ok (.iadd, 1) := by decide +kernel
theorem dX7_wordFault_163 : decode cX7_wordFault 163 = .ok (.iaload, 1) := by decide +kernel
theorem dX7_wordFault_164 : decode cX7_wordFault 164 = .ok (.aload_n 0, 1) := by decide +kernel
theorem dX7_wordFault_165 : decode cX7_wordFault 165 = .ok (.getfield 89, 3) := by decide +kernel
theorem dX7_wordFault_168 : decode cX7_wordFault 168 = .ok (.iload_n 3, 1) := by decide +kernel
theorem dX7_wordFault_169 : decode cX7_wordFault 169 = .ok (.invokestatic 92, 3) := by decide +kernel
theorem dX7_wordFault_172 : decode cX7_wordFault 172 = .ok (.if_icmp .ne 7, 3) := by decide +kernel
theorem dX7_wordFault_175 : decode cX7_wordFault 175 = .ok (.iconst 1, 1) := by decide +kernel
theorem dX7_wordFault_176 : decode cX7_wordFault 176 = .ok (.goto 4, 3) := by decide +kernel
theorem dX7_wordFault_179 : decode cX7_wordFault 179 = .ok (.iconst 0, 1) := by decide +kernel
theorem dX7_wordFault_180 : decode cX7_wordFault 180 = .ok (.istore_n 2, 1) := by decide +kernel
theorem dX7_wordFault_181 : decode cX7_wordFault 181 = .ok (.iinc 3 1, 3) := by decide +kernel
theorem dX7_wordFault_184 : decode cX7_wordFault 184 = .ok (.goto (-37), 3) := by decide +kernel
theorem dX7_wordFault_187 : decode cX7_wordFault 187 = .ok (.iload_n 1, 1) := by decide +kernel
theorem dX7_wordFault_188 : decode cX7_wordFault 188 = .ok (.iload_n 2, 1) := by decide +kernel
theorem dX7_wordFault_189 : decode cX7_wordFault 189 = .ok (.ifCond .eq 7, 3) := by decide +kernel
theorem dX7_wordFault_192 : decode cX7_wordFault 192 = .ok (.iconst 4, 1) := by decide +kernel
theorem dX7_wordFault_193 : decode cX7_wordFault 193 = .ok (.goto 4, 3) := by decide +kernel
theorem dX7_wordFault_196 : decode cX7_wordFault 196 = .ok (.iconst 1, 1) := by decide +kernel
theorem dX7_wordFault_197 : decode cX7_wordFault 197 = .ok (.iadd, 1) := by decide +kernel
theorem dX7_wordFault_198 : decode cX7_wordFault 198 = .ok (.istore_n 1, 1) := by decide +kernel
theorem dX7_wordFault_199 : decode cX7_wordFault 199 = .ok (.iload_n 1, 1) := by decide +kernel
theorem dX7_wordFault_200 : decode cX7_wordFault 200 = .ok (.aload_n 0, 1) := by decide +kernel
theorem dX7_wordFault_201 : decode cX7_wordFault 201 = .ok (.getfield 78, 3) := by decide +kernel
theorem dX7_wordFault_204 : decode cX7_wordFault 204 = .ok (.if_icmp .eq 19, 3) := by decide +kernel
theorem dX7_wordFault_207 : decode cX7_wordFault 207 = .ok (.aload_n 0, 1) := by decide +kernel
theorem dX7_wordFault_208 : decode cX7_wordFault 208 = .ok (.getfield 31, 3) := by decide +kernel
theorem dX7_wordFault_211 : decode cX7_wordFault 211 = .ok (.iload_n 1, 1) := by decide +kernel
theorem dX7_wordFault_212 : decode cX7_wordFault 212 = .ok (.iaload, 1) := by decide +kernel
theorem dX7_wordFault_213 : decode cX7_wordFault 213 = .ok (.bipush 48, 2) := by decide +kernel
theorem dX7_wordFault_215 : decode cX7_wordFault 215 = .ok (.bipush 57, 2) := by decide +kernel
theorem dX7_wordFault_217 : decode cX7_wordFault 217 = .ok (.invokestatic 74, 3) := by decide +kernel
theorem dX7_wordFault_220 : decode cX7_wordFault 220 = .ok (.ifCond .ne 5, 3) := by decide +kernel
theorem dX7_wordFault_223 : decode cX7_wordFault 223 = .ok (.iload_n 1, 1) := by decide +kernel
theorem dX7_wordFault_224 : decode cX7_wordFault 224 = .ok (.ireturn, 1) := by decide +kernel
theorem dX7_wordFault_225 : decode cX7_wordFault 225 = .ok (.aload_n 0, 1) := by decide +kernel
theorem dX7_wordFault_226 : decode cX7_wordFault 226 = .ok (.aload_n 0, 1) := by decide +kernel
theorem dX7_wordFault_227 : decode cX7_wordFault 227 = .ok (.getfield 31, 3) := by decide +kernel
theorem dX7_wordFault_230 : decode cX7_wordFault 230 = .ok (.iload_n 1, 1) := by decide +kernel
theorem dX7_wordFault_231 : decode cX7_wordFault 231 = .ok (.iaload, 1) := by decide +kernel
theorem dX7_wordFault_232 : decode cX7_wordFault 232 = .ok (.bipush 48, 2) := by decide +kernel
theorem dX7_wordFault_234 : decode cX7_wordFault 234 = .ok (.isub, 1) := by decide +kernel
theorem dX7_wordFault_235 : decode cX7_wordFault 235 = .ok (.putfield 96, 3) := by decide +kernel
theorem dX7_wordFault_238 : decode cX7_wordFault 238 = .ok (.iinc 1 1, 3) := by decide +kernel
theorem dX7_wordFault_241 : decode cX7_wordFault 241 = .ok (.iload_n 1, 1) := by decide +kernel
theorem dX7_wordFault_242 : decode cX7_wordFault 242 = .ok (.aload_n 0, 1) := by decide +kernel
theorem dX7_wordFault_243 : decode cX7_wordFault 243 = .ok (.getfield 78, 3) := by decide +kernel
theorem dX7_wordFault_246 : decode cX7_wordFault 246 = .ok (.if_icmp .ge 43, 3) := by decide +kernel
theorem dX7_wordFault_249 : decode cX7_wordFault 249 = .ok (.aload_n 0, 1) := by decide +kernel
theorem dX7_wordFault_250 : decode cX7_wordFault 250 = .ok (.getfield 31, 3) := by decide +kernel
theorem dX7_wordFault_253 : decode cX7_wordFault 253 = .ok (.iload_n 1, 1) := by decide +kernel
theorem dX7_wordFault_254 : decode cX7_wordFault 254 = .ok (.iaload, 1) := by decide +kernel
theorem dX7_wordFault_255 : decode cX7_wordFault 255 = .ok (.bipush 48, 2) := by decide +kernel
theorem dX7_wordFault_257 : decode cX7_wordFault 257 = .ok (.bipush 57, 2) := by decide +kernel
theorem dX7_wordFault_259 : decode cX7_wordFault 259 = .ok (.invokestatic 74, 3) := by decide +kernel
theorem dX7_wordFault_262 : decode cX7_wordFault 262 = .ok (.ifCond .eq 27, 3) := by decide +kernel
theorem dX7_wordFault_265 : decode cX7_wordFault 265 = .ok (.aload_n 0, 1) := by decide +kernel
theorem dX7_wordFault_266 : decode cX7_wordFault 266 = .ok (.bipush 10, 2) := by decide +kernel
theorem dX7_wordFault_268 : decode cX7_wordFault 268 = .ok (.aload_n 0, 1) := by decide +kernel
theorem dX7_wordFault_269 : decode cX7_wordFault 269 = .ok (.getfield 96, 3) := by decide +kernel
theorem dX7_wordFault_272 : decode cX7_wordFault 272 = .ok (.imul, 1) := by decide +kernel
theorem dX7_wordFault_273 : decode cX7_wordFault 273 = .ok (.aload_n 0, 1) := by decide +kernel
theorem dX7_wordFault_274 : decode cX7_wordFault 274 = .ok (.getfield 31, 3) := by decide +kernel
theorem dX7_wordFault_277 : decode cX7_wordFault 277 = .ok (.iload_n 1, 1) := by decide +kernel
theorem dX7_wordFault_278 : decode cX7_wordFault 278 = .ok (.iaload, 1) := by decide +kernel
theorem dX7_wordFault_279 : decode cX7_wordFault 279 = .ok (.iadd, 1) := by decide +kernel
theorem dX7_wordFault_280 : decode cX7_wordFault 280 = .ok (.bipush 48, 2) := by decide +kernel
theorem dX7_wordFault_282 : decode cX7_wordFault 282 = .ok (.isub, 1) := by decide +kernel
theorem dX7_wordFault_283 : decode cX7_wordFault 283 = .ok (.putfield 96, 3) := by decide +kernel
theorem dX7_wordFault_286 : decode cX7_wordFault 286 = .ok (.iinc 1 1, 3) := by decide +kernel
theorem dX7_wordFault_289 : decode cX7_wordFault 289 = .ok (.iload_n 1, 1) := by decide +kernel
theorem dX7_wordFault_290 : decode cX7_wordFault 290 = .ok (.aload_n 0, 1) := by decide +kernel
theorem dX7_wordFault_291 : decode cX7_wordFault 291 = .ok (.getfield 78, 3) := by decide +kernel
theorem dX7_wordFault_294 : decode cX7_wordFault 294 = .ok (.if_icmp .ge 7, 3) := by decide +kernel
theorem dX7_wordFault_297 : decode cX7_wordFault 297 = .ok (.iload_n 1, 1) := by decide +kernel
theorem dX7_wordFault_298 : decode cX7_wordFault 298 = .ok (.goto 5, 3) := by decide +kernel
theorem dX7_wordFault_301 : decode cX7_wordFault 301 = .ok (.bipush (-6), 2) := by decide +kernel
theorem dX7_wordFault_303 : decode cX7_wordFault 303 = .ok (.ireturn, 1) := by decide +kernel
theorem dX7_lineFault_0 : decode cX7_lineFault 0 = .ok (.iconst 0, 1) := by decide +kernel
theorem dX7_lineFault_1 : decode cX7_lineFault 1 = .ok (.istore_n 1, 1) := by decide +kernel
theorem dX7_lineFault_2 : decode cX7_lineFault 2 = .ok (.iload_n 1, 1) := by decide +kernel
theorem dX7_lineFault_3 : decode cX7_lineFault 3 = .ok (.aload_n 0, 1) := by decide +kernel
theorem dX7_lineFault_4 : decode cX7_lineFault 4 = .ok (.getfield 78, 3) := by decide +kernel
theorem dX7_lineFault_7 : decode cX7_lineFault 7 = .ok (.if_icmp .ge 29, 3) := by decide +kernel
theorem dX7_lineFault_10 : decode cX7_lineFault 10 = .ok (.aload_n 0, 1) := by decide +kernel
theorem dX7_lineFault_11 : decode cX7_lineFault 11 = .ok (.getfield 31, 3) := by decide +kernel
theorem dX7_lineFault_14 : decode cX7_lineFault 14 = .ok (.iload_n 1, 1) := by decide +kernel
theorem dX7_lineFault_15 : decode cX7_lineFault 15 = .ok (.iaload, 1) := by decide +kernel
theorem dX7_lineFault_16 : decode cX7_lineFault 16 = .ok (.invokestatic 82, 3) := by decide +kernel
theorem dX7_lineFault_19 : decode cX7_lineFault 19 = .ok (.ifCond .eq 9, 3) := by decide +kernel
theorem dX7_lineFault_22 : decode cX7_lineFault 22 = .ok (.iload_n 1, 1) := by decide +kernel
theorem dX7_lineFault_23 : decode cX7_lineFault 23 = .ok (.bipush 24, 2) := by decide +kernel
theorem dX7_lineFault_25 : decode cX7_lineFault 25 = .ok (.if_icmp .ne 5, 3) := by decide +kernel
theorem dX7_lineFault_28 : decode cX7_lineFault 28 = .ok (.iload_n 1, 1) := by decide +kernel
theorem dX7_lineFault_29 : decode cX7_lineFault 29 = .ok (.ireturn, 1) := by decide +kernel
theorem dX7_lineFault_30 : decode cX7_lineFault 30 = .ok (.iinc 1 1, 3) := by decide +kernel
theorem dX7_lineFault_33 : decode cX7_lineFault 33 = .ok (.goto (-31), 3) := by decide +kernel
theorem dX7_lineFault_36 : decode cX7_lineFault 36 = .ok (.aload_n 0, 1) := by decide +kernel
theorem dX7_lineFault_37 : decode cX7_lineFault 37 = .ok (.getfield 78, 3) := by decide +kernel
theorem dX7_lineFault_40 : decode cX7_lineFault 40 = .ok (.ifCond .ne 7, 3) := by decide +kernel
theorem dX7_lineFault_43 : decode cX7_lineFault 43 = .ok (.iconst 0, 1) := by decide +kernel
theorem dX7_lineFault_44 : decode cX7_lineFault 44 = .ok (.goto 5, 3) := by decide +kernel
theorem dX7_lineFault_47 : decode cX7_lineFault 47 = .ok (.bipush (-6), 2) := by decide +kernel
theorem dX7_lineFault_49 : decode cX7_lineFault 49 = .ok (.ireturn, 1) := by decide +kernel
theorem dX7_fault_0 : decode cX7_fault 0 = .ok (.iload_n 1, 1) := by decide +kernel
theorem dX7_fault_1 : decode cX7_fault 1 = .ok (.ifCond .ne 10, 3) := by decide +kernel
theorem dX7_fault_4 : decode cX7_fault 4 = .ok (.aload_n 0, 1) := by decide +kernel
theorem dX7_fault_5 : decode cX7_fault 5 = .ok (.invokevirtual 99, 3) := by decide +kernel
theorem dX7_fault_8 : decode cX7_fault 8 = .ok (.goto 17, 3) := by decide +kernel
theorem dX7_fault_11 : decode cX7_fault 11 = .ok (.iload_n 1, 1) := by decide +kernel
theorem dX7_fault_12 : decode cX7_fault 12 = .ok (.iconst 1, 1) := by decide +kernel
theorem dX7_fault_13 : decode cX7_fault 13 = .ok (.if_icmp .ne 10, 3) := by decide +kernel
theorem dX7_fault_16 : decode cX7_fault 16 = .ok (.aload_n 0, 1) := by decide +kernel
theorem dX7_fault_17 : decode cX7_fault 17 = .ok (.invokevirtual 103, 3) := by decide +kernel
theorem dX7_fault_20 : decode cX7_fault 20 = .ok (.goto 5, 3) := by decide +kernel
theorem dX7_fault_23 : decode cX7_fault 23 = .ok (.bipush (-2), 2) := by decide +kernel
theorem dX7_fault_25 : decode cX7_fault 25 = .ok (.ireturn, 1) := by decide +kernel
theorem dX7_learn_0 : decode cX7_learn 0 = .ok (.aload_n 0, 1) := by decide +kernel
theorem dX7_learn_1 : decode cX7_learn 1 = .ok (.invokevirtual 99, 3) := by decide +kernel
theorem dX7_learn_4 : decode cX7_learn 4 = .ok (.ifCond .lt 6, 3) := by decide +kernel
theorem dX7_learn_7 : decode cX7_learn 7 = .ok (.bipush (-5), 2) := by decide +kernel
theorem dX7_learn_9 : decode cX7_learn 9 = .ok (.ireturn, 1) := by decide +kernel
theorem dX7_learn_10 : decode cX7_learn 10 = .ok (.bipush (-6), 2) := by decide +kernel
theorem dX7_learn_12 : decode cX7_learn 12 = .ok (.istore_n 1, 1) := by decide +kernel
theorem dX7_learn_13 : decode cX7_learn 13 = .ok (.iconst 0, 1) := by decide +kernel
theorem dX7_learn_14 : decode cX7_learn 14 = .ok (.istore_n 2, 1) := by decide +kernel
theorem dX7_learn_15 : decode cX7_learn 15 = .ok (.iload_n 2, 1) := by decide +kernel
theorem dX7_learn_16 : decode cX7_learn 16 = .ok (.aload_n 0, 1) := by decide +kernel
theorem dX7_learn_17 : decode cX7_learn 17 = .ok (.getfield 106, 3) := by decide +kernel
theorem dX7_learn_20 : decode cX7_learn 20 = .ok (.if_icmp .ge 101, 3) := by decide +kernel
theorem dX7_learn_23 : decode cX7_learn 23 = .ok (.aload_n 0, 1) := by decide +kernel
theorem dX7_learn_24 : decode cX7_learn 24 = .ok (.getfield 13, 3) := by decide +kernel
theorem dX7_learn_27 : decode cX7_learn 27 = .ok (.iload_n 2, 1) := by decide +kernel
theorem dX7_learn_28 : decode cX7_learn 28 = .ok (.iaload, 1) := by decide +kernel
theorem dX7_learn_29 : decode cX7_learn 29 = .ok (.aload_n 0, 1) := by decide +kernel
theorem dX7_learn_30 : decode cX7_learn 30 = .ok (.getfield 86, 3) := by decide +kernel
theorem dX7_learn_33 : decode cX7_learn 33 = .ok (.if_icmp .ne 20, 3) := by decide +kernel
theorem dX7_learn_36 : decode cX7_learn 36 = .ok (.aload_n 0, 1) := by decide +kernel
theorem dX7_learn_37 : decode cX7_learn 37 = .ok (.getfield 16, 3) := by decide +kernel
theorem dX7_learn_40 : decode cX7_learn 40 = .ok (.iload_n 2, 1) := by decide +kernel
theorem dX7_learn_41 : decode cX7_learn 41 = .ok (.iaload, 1) := by decide +kernel
theorem dX7_learn_42 : decode cX7_learn 42 = .ok (.aload_n 0, 1) := by decide +kernel
theorem dX7_learn_43 : decode cX7_learn 43 = .ok (.getfield 89, 3) := by decide +kernel
theorem dX7_learn_46 : decode cX7_learn 46 = .ok (.if_icmp .ne 7, 3) := by decide +kernel
theorem dX7_learn_49 : decode cX7_learn 49 = .ok (.iconst 1, 1) := by decide +kernel
theorem dX7_learn_50 : decode cX7_learn 50 = .ok (.goto 4, 3) := by decide +kernel
theorem dX7_learn_53 : decode cX7_learn 53 = .ok (.iconst 0, 1) := by decide +kernel
theorem dX7_learn_54 : decode cX7_learn 54 = .ok (.istore_n 3, 1) := by decide +kernel
theorem dX7_learn_55 : decode cX7_learn 55 = .ok (.iconst 0, 1) := by decide +kernel
theorem dX7_learn_56 : decode cX7_learn 56 = .ok (.istore 4, 2) := by decide +kernel
theorem dX7_learn_58 : decode cX7_learn 58 = .ok (.iload 4, 2) := by decide +kernel
theorem dX7_learn_60 : decode cX7_learn 60 = .ok (.aload_n 0, 1) := by decide +kernel
theorem dX7_learn_61 : decode cX7_learn 61 = .ok (.getfield 86, 3) := by decide +kernel
theorem dX7_learn_64 : decode cX7_learn 64 = .ok (.if_icmp .ge 41, 3) := by decide +kernel
theorem dX7_learn_67 : decode cX7_learn 67 = .ok (.iload_n 3, 1) := by decide +kernel
theorem dX7_learn_68 : decode cX7_learn 68 = .ok (.ifCond .eq 37, 3) := by decide +kernel
theorem dX7_learn_71 : decode cX7_learn 71 = .ok (.aload_n 0, 1) := by decide +kernel
theorem dX7_learn_72 : decode cX7_learn 72 = .ok (.getfield 7, 3) := by decide +kernel
theorem dX7_learn_75 : decode cX7_learn 75 = .ok (.bipush 6, 2) := by decide +kernel
theorem dX7_learn_77 : decode cX7_learn 77 = .ok (.iload_n 2, 1) := by decide +kernel
theorem dX7_learn_78 : decode cX7_learn 78 = .ok (.imul, 1) := by decide +kernel
theorem dX7_learn_79 : decode cX7_learn 79 = .ok (.iload 4, 2) := by decide +kernel
theorem dX7_learn_81 : decode cX7_learn 81 = .ok (.iadd, 1) := by decide +kernel
theorem dX7_learn_82 : decode cX7_learn 82 = .ok (.iaload, 1) := by decide +kernel
theorem dX7_learn_83 : decode cX7_learn 83 = .ok (.aload_n 0, 1) := by decide +kernel
theorem dX7_learn_84 : decode cX7_learn 84 = .ok (.getfield 31, 3) := by decide +kernel
theorem dX7_learn_87 : decode cX7_learn 87 = .ok (.iload 4, 2) := by decide +kernel
theorem dX7_learn_89 : decode cX7_learn 89 = .ok (.iaload, 1) := by decide +kernel
theorem dX7_learn_90 : decode cX7_learn 90 = .ok (.if_icmp .ne 7, 3) := by decide +kernel
theorem dX7_learn_93 : decode cX7_learn 93 = .ok (.iconst 1, 1) := by decide +kernel
theorem dX7_learn_94 : decode cX7_learn 94 = .ok (.goto 4, 3) := by decide +kernel
theorem dX7_learn_97 : decode cX7_learn 97 = .ok (.iconst 0, 1) := by decide +kernel
theorem dX7_learn_98 : decode cX7_learn 98 = .ok (.istore_n 3, 1) := by decide +kernel
theorem dX7_learn_99 : decode cX7_learn 99 = .ok (.iinc 4 1, 3) := by decide +kernel
theorem dX7_learn_102 : decode cX7_learn 102 = .ok (.goto (-44), 3) := by decide +kernel
theorem dX7_learn_105 : decode cX7_learn 105 = .ok (.iload_n 3, 1) := by decide +kernel
theorem dX7_learn_106 : decode cX7_learn 106 = .ok (.ifCond .eq 7, 3) := by decide +kernel
theorem dX7_learn_109 : decode cX7_learn 109 = .ok (.iload_n 2, 1) := by decide +kernel
theorem dX7_learn_110 : decode cX7_learn 110 = .ok (.goto 4, 3) := by decide +kernel
theorem dX7_learn_113 : decode cX7_learn 113 = .ok (.iload_n 1, 1) := by decide +kernel
theorem dX7_learn_114 : decode cX7_learn 114 = .ok (.istore_n 1, 1) := by decide +kernel
theorem dX7_learn_115 : decode cX7_learn 115 = .ok (.iinc 2 1, 3) := by decide +kernel
theorem dX7_learn_118 : decode cX7_learn 118 = .ok (.goto (-103), 3) := by decide +kernel
theorem dX7_learn_121 : decode cX7_learn 121 = .ok (.iload_n 1, 1) := by decide +kernel
theorem dX7_learn_122 : decode cX7_learn 122 = .ok (.ifCond .ge 15, 3) := by decide +kernel
theorem dX7_learn_125 : decode cX7_learn 125 = .ok (.aload_n 0, 1) := by decide +kernel
theorem dX7_learn_126 : decode cX7_learn 126 = .ok (.getfield 106, 3) := by decide +kernel
theorem dX7_learn_129 : decode cX7_learn 129 = .ok (.bipush 16, 2) := by decide +kernel
theorem dX7_learn_131 : decode cX7_learn 131 = .ok (.if_icmp .ne 6, 3) := by decide +kernel
theorem dX7_learn_134 : decode cX7_learn 134 = .ok (.bipush (-4), 2) := by decide +kernel
theorem dX7_learn_136 : decode cX7_learn 136 = .ok (.ireturn, 1) := by decide +kernel
theorem dX7_learn_137 : decode cX7_learn 137 = .ok (.iload_n 1, 1) := by decide +kernel
theorem dX7_learn_138 : decode cX7_learn 138 = .ok (.ifCond .ge 18, 3) := by decide +kernel
theorem dX7_learn_141 : decode cX7_learn 141 = .ok (.aload_n 0, 1) := by decide +kernel
theorem dX7_learn_142 : decode cX7_learn 142 = .ok (.getfield 106, 3) := by decide +kernel
theorem dX7_learn_145 : decode cX7_learn 145 = .ok (.istore_n 1, 1) := by decide +kernel
theorem dX7_learn_146 : decode cX7_learn 146 = .ok (.aload_n 0, 1) := by decide +kernel
theorem dX7_learn_147 : decode cX7_learn 147 = .ok (.dup, 1) := by decide +kernel
theorem dX7_learn_148 : decode cX7_learn 148 = .ok (.getfield 106, 3) := by decide +kernel
theorem dX7_learn_151 : decode cX7_learn 151 = .ok (.iconst 1, 1) := by decide +kernel
theorem dX7_learn_152 : decode cX7_learn 152 = .ok (.iadd, 1) := by decide +kernel
theorem dX7_learn_153 : decode cX7_learn 153 = .ok (.putfield 106, 3) := by decide +kernel
theorem dX7_learn_156 : decode cX7_learn 156 = .ok (.iconst 0, 1) := by decide +kernel
theorem dX7_learn_157 : decode cX7_learn 157 = .ok (.istore_n 2, 1) := by decide +kernel
theorem dX7_learn_158 : decode cX7_learn 158 = .ok (.iload_n 2, 1) := by decide +kernel
theorem dX7_learn_159 : decode cX7_learn 159 = .ok (.aload_n 0, 1) := by decide +kernel
theorem dX7_learn_160 : decode cX7_learn 160 = .ok (.getfield 86, 3) := by decide +kernel
theorem dX7_learn_163 : decode cX7_learn 163 = .ok (.if_icmp .ge 26, 3) := by decide +kernel
theorem dX7_learn_166 : decode cX7_learn 166 = .ok (.aload_n 0, 1) := by decide +kernel
theorem dX7_learn_167 : decode cX7_learn 167 = .ok (.getfield 7, 3) := by decide +kernel
theorem dX7_learn_170 : decode cX7_learn 170 = .ok (.bipush 6, 2) := by decide +kernel
theorem dX7_learn_172 : decode cX7_learn 172 = .ok (.iload_n 1, 1) := by decide +kernel
theorem dX7_learn_173 : decode cX7_learn 173 = .ok (.imul, 1) := by decide +kernel
theorem dX7_learn_174 : decode cX7_learn 174 = .ok (.iload_n 2, 1) := by decide +kernel
theorem dX7_learn_175 : decode cX7_learn 175 = .ok (.iadd, 1) := by decide +kernel
theorem dX7_learn_176 : decode cX7_learn 176 = .ok (.aload_n 0, 1) := by decide +kernel
theorem dX7_learn_177 : decode cX7_learn 177 = .ok (.getfield 31, 3) := by decide +kernel
theorem dX7_learn_180 : decode cX7_learn 180 = .ok (.iload_n 2, 1) := by decide +kernel
theorem dX7_learn_181 : decode cX7_learn 181 = .ok (.iaload, 1) := by decide +kernel
theorem dX7_learn_182 : decode cX7_learn 182 = .ok (.iastore, 1) := by decide +kernel
theorem dX7_learn_183 : decode cX7_learn 183 = .ok (.iinc 2 1, 3) := by decide +kernel
theorem dX7_learn_186 : decode cX7_learn 186 = .ok (.goto (-28), 3) := by decide +kernel
theorem dX7_learn_189 : decode cX7_learn 189 = .ok (.aload_n 0, 1) := by decide +kernel
theorem dX7_learn_190 : decode cX7_learn 190 = .ok (.getfield 13, 3) := by decide +kernel
theorem dX7_learn_193 : decode cX7_learn 193 = .ok (.iload_n 1, 1) := by decide +kernel
theorem dX7_learn_194 : decode cX7_learn 194 = .ok (.aload_n 0, 1) := by decide +kernel
theorem dX7_learn_195 : decode cX7_learn 195 = .ok (.getfield 86, 3) := by decide +kernel
theorem dX7_learn_198 : decode cX7_learn 198 = .ok (.iastore, 1) := by decide +kernel
theorem dX7_learn_199 : decode cX7_learn 199 = .ok (.aload_n 0, 1) := by decide +kernel
theorem dX7_learn_200 : decode cX7_learn 200 = .ok (.getfield 16, 3) := by decide +kernel
theorem dX7_learn_203 : decode cX7_learn 203 = .ok (.iload_n 1, 1) := by decide +kernel
theorem dX7_learn_204 : decode cX7_learn 204 = .ok (.aload_n 0, 1) := by decide +kernel
theorem dX7_learn_205 : decode cX7_learn 205 = .ok (.getfield 89, 3) := by decide +kernel
theorem dX7_learn_208 : decode cX7_learn 208 = .ok (.iastore, 1) := by decide +kernel
theorem dX7_learn_209 : decode cX7_learn 209 = .ok (.aload_n 0, 1) := by decide +kernel
theorem dX7_learn_210 : decode cX7_learn 210 = .ok (.getfield 19, 3) := by decide +kernel
theorem dX7_learn_213 : decode cX7_learn 213 = .ok (.iload_n 1, 1) := by decide +kernel
theorem dX7_learn_214 : decode cX7_learn 214 = .ok (.aload_n 0, 1) := by decide +kernel
theorem dX7_learn_215 : decode cX7_learn 215 = .ok (.getfield 96, 3) := by decide +kernel
theorem dX7_learn_218 : decode cX7_learn 218 = .ok (.iastore, 1) := by decide +kernel
theorem dX7_learn_219 : decode cX7_learn 219 = .ok (.aload_n 0, 1) := by decide +kernel
theorem dX7_learn_220 : decode cX7_learn 220 = .ok (.iconst 0, 1) := by decide +kernel
theorem dX7_learn_221 : decode cX7_learn 221 = .ok (.putfield 78, 3) := by decide +kernel
theorem dX7_learn_224 : decode cX7_learn 224 = .ok (.iload_n 1, 1) := by decide +kernel
theorem dX7_learn_225 : decode cX7_learn 225 = .ok (.ireturn, 1) := by decide +kernel
theorem dX7_forget_0 : decode cX7_forget 0 = .ok (.iload_n 1, 1) := by decide +kernel
theorem dX7_forget_1 : decode cX7_forget 1 = .ok (.iconst 0, 1) := by decide +kernel
theorem dX7_forget_2 : decode cX7_forget 2 = .ok (.aload_n 0, 1) := by decide +kernel
theorem dX7_forget_3 : decode cX7_forget 3 = .ok (.getfield 106, 3) := by decide +kernel
theorem dX7_forget_6 : decode cX7_forget 6 = .ok (.iconst 1, 1) := by decide +kernel
theorem dX7_forget_7 : decode cX7_forget 7 = .ok (.isub, 1) := by decide +kernel
theorem dX7_forget_8 : decode cX7_forget 8 = .ok (.invokestatic 74, 3) := by decide +kernel
theorem dX7_forget_11 : decode cX7_forget 11 = .ok (.ifCond .ne 5, 3) := by decide +kernel
theorem dX7_forget_14 : decode cX7_forget 14 = .ok (.iconst (-1), 1) := by decide +kernel
theorem dX7_forget_15 : decode cX7_forget 15 = .ok (.ireturn, 1) := by decide +kernel
theorem dX7_forget_16 : decode cX7_forget 16 = .ok (.aload_n 0, 1) := by decide +kernel
theorem dX7_forget_17 : decode cX7_forget 17 = .ok (.dup, 1) := by decide +kernel
theorem dX7_forget_18 : decode cX7_forget 18 = .ok (.getfield 106, 3) := by decide +kernel
theorem dX7_forget_21 : decode cX7_forget 21 = .ok (.iconst 1, 1) := by decide +kernel
theorem dX7_forget_22 : decode cX7_forget 22 = .ok (.isub, 1) := by decide +kernel
theorem dX7_forget_23 : decode cX7_forget 23 = .ok (.putfield 106, 3) := by decide +kernel
theorem dX7_forget_26 : decode cX7_forget 26 = .ok (.iload_n 1, 1) := by decide +kernel
theorem dX7_forget_27 : decode cX7_forget 27 = .ok (.istore_n 2, 1) := by decide +kernel
theorem dX7_forget_28 : decode cX7_forget 28 = .ok (.iload_n 2, 1) := by decide +kernel
theorem dX7_forget_29 : decode cX7_forget 29 = .ok (.aload_n 0, 1) := by decide +kernel
theorem dX7_forget_30 : decode cX7_forget 30 = .ok (.getfield 106, 3) := by decide +kernel
theorem dX7_forget_33 : decode cX7_forget 33 = .ok (.if_icmp .ge 90, 3) := by decide +kernel
theorem dX7_forget_36 : decode cX7_forget 36 = .ok (.iconst 0, 1) := by decide +kernel
theorem dX7_forget_37 : decode cX7_forget 37 = .ok (.istore_n 3, 1) := by decide +kernel
theorem dX7_forget_38 : decode cX7_forget 38 = .ok (.iload_n 3, 1) := by decide +kernel
theorem dX7_forget_39 : decode cX7_forget 39 = .ok (.bipush 6, 2) := by decide +kernel
theorem dX7_forget_41 : decode cX7_forget 41 = .ok (.if_icmp .ge 34, 3) := by decide +kernel
theorem dX7_forget_44 : decode cX7_forget 44 = .ok (.aload_n 0, 1) := by decide +kernel
theorem dX7_forget_45 : decode cX7_forget 45 = .ok (.getfield 7, 3) := by decide +kernel
theorem dX7_forget_48 : decode cX7_forget 48 = .ok (.bipush 6, 2) := by decide +kernel
theorem dX7_forget_50 : decode cX7_forget 50 = .ok (.iload_n 2, 1) := by decide +kernel
theorem dX7_forget_51 : decode cX7_forget 51 = .ok (.imul, 1) := by decide +kernel
theorem dX7_forget_52 : decode cX7_forget 52 = .ok (.iload_n 3, 1) := by decide +kernel
theorem dX7_forget_53 : decode cX7_forget 53 = .ok (.iadd, 1) := by decide +kernel
theorem dX7_forget_54 : decode cX7_forget 54 = .ok (.aload_n 0, 1) := by decide +kernel
theorem dX7_forget_55 : decode cX7_forget 55 = .ok (.getfield 7, 3) := by decide +kernel
theorem dX7_forget_58 : decode cX7_forget 58 = .ok (.bipush 6, 2) := by decide +kernel
theorem dX7_forget_60 : decode cX7_forget 60 = .ok (.iload_n 2, 1) := by decide +kernel
theorem dX7_forget_61 : decode cX7_forget 61 = .ok (.imul, 1) := by decide +kernel
theorem dX7_forget_62 : decode cX7_forget 62 = .ok (.bipush 6, 2) := by decide +kernel
theorem dX7_forget_64 : decode cX7_forget 64 = .ok (.iadd, 1) := by decide +kernel
theorem dX7_forget_65 : decode cX7_forget 65 = .ok (.iload_n 3, 1) := by decide +kernel
theorem dX7_forget_66 : decode cX7_forget 66 = .ok (.iadd, 1) := by decide +kernel
theorem dX7_forget_67 : decode cX7_forget 67 = .ok (.iaload, 1) := by decide +kernel
theorem dX7_forget_68 : decode cX7_forget 68 = .ok (.iastore, 1) := by decide +kernel
theorem dX7_forget_69 : decode cX7_forget 69 = .ok (.iinc 3 1, 3) := by decide +kernel
theorem dX7_forget_72 : decode cX7_forget 72 = .ok (.goto (-34), 3) := by decide +kernel
theorem dX7_forget_75 : decode cX7_forget 75 = .ok (.aload_n 0, 1) := by decide +kernel
theorem dX7_forget_76 : decode cX7_forget 76 = .ok (.getfield 13, 3) := by decide +kernel
theorem dX7_forget_79 : decode cX7_forget 79 = .ok (.iload_n 2, 1) := by decide +kernel
theorem dX7_forget_80 : decode cX7_forget 80 = .ok (.aload_n 0, 1) := by decide +kernel
theorem dX7_forget_81 : decode cX7_forget 81 = .ok (.getfield 13, 3) := by decide +kernel
theorem dX7_forget_84 : decode cX7_forget 84 = .ok (.iload_n 2, 1) := by decide +kernel
theorem dX7_forget_85 : decode cX7_forget 85 = .ok (.iconst 1, 1) := by decide +kernel
theorem dX7_forget_86 : decode cX7_forget 86 = .ok (.iadd, 1) := by decide +kernel
theorem dX7_forget_87 : decode cX7_forget 87 = .ok (.iaload, 1) := by decide +kernel
theorem dX7_forget_88 : decode cX7_forget 88 = .ok (.iastore, 1) := by decide +kernel
theorem dX7_forget_89 : decode cX7_forget 89 = .ok (.aload_n 0, 1) := by decide +kernel
theorem dX7_forget_90 : decode cX7_forget 90 = .ok (.getfield 16, 3) := by decide +kernel
theorem dX7_forget_93 : decode cX7_forget 93 = .ok (.iload_n 2, 1) := by decide +kernel
theorem dX7_forget_94 : decode cX7_forget 94 = .ok (.aload_n 0, 1) := by decide +kernel
theorem dX7_forget_95 : decode cX7_forget 95 = .ok (.getfield 16, 3) := by decide +kernel
theorem dX7_forget_98 : decode cX7_forget 98 = .ok (.iload_n 2, 1) := by decide +kernel
theorem dX7_forget_99 : decode cX7_forget 99 = .ok (.iconst 1, 1) := by decide +kernel
theorem dX7_forget_100 : decode cX7_forget 100 = .ok (.iadd, 1) := by decide +kernel
theorem dX7_forget_101 : decode cX7_forget 101 = .ok (.iaload, 1) := by decide +kernel
theorem dX7_forget_102 : decode cX7_forget 102 = .ok (.iastore, 1) := by decide +kernel
theorem dX7_forget_103 : decode cX7_forget 103 = .ok (.aload_n 0, 1) := by decide +kernel
theorem dX7_forget_104 : decode cX7_forget 104 = .ok (.getfield 19, 3) := by decide +kernel
theorem dX7_forget_107 : decode cX7_forget 107 = .ok (.iload_n 2, 1) := by decide +kernel
theorem dX7_forget_108 : decode cX7_forget 108 = .ok (.aload_n 0, 1) := by decide +kernel
theorem dX7_forget_109 : decode cX7_forget 109 = .ok (.getfield 19, 3) := by decide +kernel
theorem dX7_forget_112 : decode cX7_forget 112 = .ok (.iload_n 2, 1) := by decide +kernel
theorem dX7_forget_113 : decode cX7_forget 113 = .ok (.iconst 1, 1) := by decide +kernel
theorem dX7_forget_114 : decode cX7_forget 114 = .ok (.iadd, 1) := by decide +kernel
theorem dX7_forget_115 : decode cX7_forget 115 = .ok (.iaload, 1) := by decide +kernel
theorem dX7_forget_116 : decode cX7_forget 116 = .ok (.iastore, 1) := by decide +kernel
theorem dX7_forget_117 : decode cX7_forget 117 = .ok (.iinc 2 1, 3) := by decide +kernel
theorem dX7_forget_120 : decode cX7_forget 120 = .ok (.goto (-92), 3) := by decide +kernel
theorem dX7_forget_123 : decode cX7_forget 123 = .ok (.aload_n 0, 1) := by decide +kernel
theorem dX7_forget_124 : decode cX7_forget 124 = .ok (.getfield 106, 3) := by decide +kernel
theorem dX7_forget_127 : decode cX7_forget 127 = .ok (.ireturn, 1) := by decide +kernel
theorem dX7_word_0 : decode cX7_word 0 = .ok (.iload_n 1, 1) := by decide +kernel
theorem dX7_word_1 : decode cX7_word 1 = .ok (.iconst 0, 1) := by decide +kernel
theorem dX7_word_2 : decode cX7_word 2 = .ok (.aload_n 0, 1) := by decide +kernel
theorem dX7_word_3 : decode cX7_word 3 = .ok (.getfield 106, 3) := by decide +kernel
theorem dX7_word_6 : decode cX7_word 6 = .ok (.iconst 1, 1) := by decide +kernel
theorem dX7_word_7 : decode cX7_word 7 = .ok (.isub, 1) := by decide +kernel
theorem dX7_word_8 : decode cX7_word 8 = .ok (.invokestatic 74, 3) := by decide +kernel
theorem dX7_word_11 : decode cX7_word 11 = .ok (.ifCond .ne 5, 3) := by decide +kernel
theorem dX7_word_14 : decode cX7_word 14 = .ok (.iconst (-1), 1) := by decide +kernel
theorem dX7_word_15 : decode cX7_word 15 = .ok (.ireturn, 1) := by decide +kernel
theorem dX7_word_16 : decode cX7_word 16 = .ok (.iload_n 2, 1) := by decide +kernel
theorem dX7_word_17 : decode cX7_word 17 = .ok (.ifCond .ge 6, 3) := by decide +kernel
theorem dX7_word_20 : decode cX7_word 20 = .ok (.bipush (-2), 2) := by decide +kernel
theorem dX7_word_22 : decode cX7_word 22 = .ok (.ireturn, 1) := by decide +kernel
theorem dX7_word_23 : decode cX7_word 23 = .ok (.iload_n 2, 1) := by decide +kernel
theorem dX7_word_24 : decode cX7_word 24 = .ok (.tableswitch 49 0 2 #[28, 35, 42], 28) := by decide +kernel
theorem dX7_word_52 : decode cX7_word 52 = .ok (.aload_n 0, 1) := by decide +kernel
theorem dX7_word_53 : decode cX7_word 53 = .ok (.getfield 13, 3) := by decide +kernel
theorem dX7_word_56 : decode cX7_word 56 = .ok (.iload_n 1, 1) := by decide +kernel
theorem dX7_word_57 : decode cX7_word 57 = .ok (.iaload, 1) := by decide +kernel
theorem dX7_word_58 : decode cX7_word 58 = .ok (.ireturn, 1) := by decide +kernel
theorem dX7_word_59 : decode cX7_word 59 = .ok (.aload_n 0, 1) := by decide +kernel
theorem dX7_word_60 : decode cX7_word 60 = .ok (.getfield 16, 3) := by decide +kernel
theorem dX7_word_63 : decode cX7_word 63 = .ok (.iload_n 1, 1) := by decide +kernel
theorem dX7_word_64 : decode cX7_word 64 = .ok (.iaload, 1) := by decide +kernel
theorem dX7_word_65 : decode cX7_word 65 = .ok (.ireturn, 1) := by decide +kernel
theorem dX7_word_66 : decode cX7_word 66 = .ok (.aload_n 0, 1) := by decide +kernel
theorem dX7_word_67 : decode cX7_word 67 = .ok (.getfield 19, 3) := by decide +kernel
theorem dX7_word_70 : decode cX7_word 70 = .ok (.iload_n 1, 1) := by decide +kernel
theorem dX7_word_71 : decode cX7_word 71 = .ok (.iaload, 1) := by decide +kernel
theorem dX7_word_72 : decode cX7_word 72 = .ok (.ireturn, 1) := by decide +kernel
theorem dX7_word_73 : decode cX7_word 73 = .ok (.iload_n 2, 1) := by decide +kernel
theorem dX7_word_74 : decode cX7_word 74 = .ok (.iconst 3, 1) := by decide +kernel
theorem dX7_word_75 : decode cX7_word 75 = .ok (.isub, 1) := by decide +kernel
theorem dX7_word_76 : decode cX7_word 76 = .ok (.aload_n 0, 1) := by decide +kernel
theorem dX7_word_77 : decode cX7_word 77 = .ok (.getfield 13, 3) := by decide +kernel
theorem dX7_word_80 : decode cX7_word 80 = .ok (.iload_n 1, 1) := by decide +kernel
theorem dX7_word_81 : decode cX7_word 81 = .ok (.iaload, 1) := by decide +kernel
theorem dX7_word_82 : decode cX7_word 82 = .ok (.if_icmp .ge 19, 3) := by decide +kernel
theorem dX7_word_85 : decode cX7_word 85 = .ok (.aload_n 0, 1) := by decide +kernel
theorem dX7_word_86 : decode cX7_word 86 = .ok (.getfield 7, 3) := by decide +kernel
theorem dX7_word_89 : decode cX7_word 89 = .ok (.bipush 6, 2) := by decide +kernel
theorem dX7_word_91 : decode cX7_word 91 = .ok (.iload_n 1, 1) := by decide +kernel
theorem dX7_word_92 : decode cX7_word 92 = .ok (.imul, 1) := by decide +kernel
theorem dX7_word_93 : decode cX7_word 93 = .ok (.iload_n 2, 1) := by decide +kernel
theorem dX7_word_94 : decode cX7_word 94 = .ok (.iadd, 1) := by decide +kernel
theorem dX7_word_95 : decode cX7_word 95 = .ok (.iconst 3, 1) := by decide +kernel
theorem dX7_word_96 : decode cX7_word 96 = .ok (.isub, 1) := by decide +kernel
theorem dX7_word_97 : decode cX7_word 97 = .ok (.iaload, 1) := by decide +kernel
theorem dX7_word_98 : decode cX7_word 98 = .ok (.goto 5, 3) := by decide +kernel
theorem dX7_word_101 : decode cX7_word 101 = .ok (.bipush (-6), 2) := by decide +kernel
theorem dX7_word_103 : decode cX7_word 103 = .ok (.ireturn, 1) := by decide +kernel
theorem dX7_line_0 : decode cX7_line 0 = .ok (.aload_n 0, 1) := by decide +kernel
theorem dX7_line_1 : decode cX7_line 1 = .ok (.invokevirtual 103, 3) := by decide +kernel
theorem dX7_line_4 : decode cX7_line 4 = .ok (.ifCond .lt 6, 3) := by decide +kernel
theorem dX7_line_7 : decode cX7_line 7 = .ok (.bipush (-5), 2) := by decide +kernel
theorem dX7_line_9 : decode cX7_line 9 = .ok (.ireturn, 1) := by decide +kernel
theorem dX7_line_10 : decode cX7_line 10 = .ok (.aload_n 0, 1) := by decide +kernel
theorem dX7_line_11 : decode cX7_line 11 = .ok (.aload_n 0, 1) := by decide +kernel
theorem dX7_line_12 : decode cX7_line 12 = .ok (.getfield 78, 3) := by decide +kernel
theorem dX7_line_15 : decode cX7_line 15 = .ok (.putfield 109, 3) := by decide +kernel
theorem dX7_line_18 : decode cX7_line 18 = .ok (.iconst 0, 1) := by decide +kernel
theorem dX7_line_19 : decode cX7_line 19 = .ok (.istore_n 1, 1) := by decide +kernel
theorem dX7_line_20 : decode cX7_line 20 = .ok (.iload_n 1, 1) := by decide +kernel
theorem dX7_line_21 : decode cX7_line 21 = .ok (.aload_n 0, 1) := by decide +kernel
theorem dX7_line_22 : decode cX7_line 22 = .ok (.getfield 78, 3) := by decide +kernel
theorem dX7_line_25 : decode cX7_line 25 = .ok (.if_icmp .ge 21, 3) := by decide +kernel
theorem dX7_line_28 : decode cX7_line 28 = .ok (.aload_n 0, 1) := by decide +kernel
theorem dX7_line_29 : decode cX7_line 29 = .ok (.getfield 28, 3) := by decide +kernel
theorem dX7_line_32 : decode cX7_line 32 = .ok (.iload_n 1, 1) := by decide +kernel
theorem dX7_line_33 : decode cX7_line 33 = .ok (.aload_n 0, 1) := by decide +kernel
theorem dX7_line_34 : decode cX7_line 34 = .ok (.getfield 31, 3) := by decide +kernel
theorem dX7_line_37 : decode cX7_line 37 = .ok (.iload_n 1, 1) := by decide +kernel
theorem dX7_line_38 : decode cX7_line 38 = .ok (.iaload, 1) := by decide +kernel
theorem dX7_line_39 : decode cX7_line 39 = .ok (.iastore, 1) := by decide +kernel
theorem dX7_line_40 : decode cX7_line 40 = .ok (.iinc 1 1, 3) := by decide +kernel
theorem dX7_line_43 : decode cX7_line 43 = .ok (.goto (-23), 3) := by decide +kernel
theorem dX7_line_46 : decode cX7_line 46 = .ok (.aload_n 0, 1) := by decide +kernel
theorem dX7_line_47 : decode cX7_line 47 = .ok (.iconst 0, 1) := by decide +kernel
theorem dX7_line_48 : decode cX7_line 48 = .ok (.putfield 78, 3) := by decide +kernel
theorem dX7_line_51 : decode cX7_line 51 = .ok (.aload_n 0, 1) := by decide +kernel
theorem dX7_line_52 : decode cX7_line 52 = .ok (.getfield 109, 3) := by decide +kernel
theorem dX7_line_55 : decode cX7_line 55 = .ok (.ireturn, 1) := by decide +kernel
theorem dX7_join_0 : decode cX7_join 0 = .ok (.iload_n 1, 1) := by decide +kernel
theorem dX7_join_1 : decode cX7_join 1 = .ok (.iconst 0, 1) := by decide +kernel
theorem dX7_join_2 : decode cX7_join 2 = .ok (.iconst 4, 1) := by decide +kernel
theorem dX7_join_3 : decode cX7_join 3 = .ok (.invokestatic 74, 3) := by decide +kernel
theorem dX7_join_6 : decode cX7_join 6 = .ok (.ifCond .eq 22, 3) := by decide +kernel
theorem dX7_join_9 : decode cX7_join 9 = .ok (.iload_n 2, 1) := by decide +kernel
theorem dX7_join_10 : decode cX7_join 10 = .ok (.iconst 0, 1) := by decide +kernel
theorem dX7_join_11 : decode cX7_join 11 = .ok (.iconst 4, 1) := by decide +kernel
theorem dX7_join_12 : decode cX7_join 12 = .ok (.invokestatic 74, 3) := by decide +kernel
theorem dX7_join_15 : decode cX7_join 15 = .ok (.ifCond .eq 13, 3) := by decide +kernel
theorem dX7_join_18 : decode cX7_join 18 = .ok (.iload_n 1, 1) := by decide +kernel
theorem dX7_join_19 : decode cX7_join 19 = .ok (.iconst 4, 1) := by decide +kernel
theorem dX7_join_20 : decode cX7_join 20 = .ok (.if_icmp .ne 10, 3) := by decide +kernel
theorem dX7_join_23 : decode cX7_join 23 = .ok (.iload_n 2, 1) := by decide +kernel
theorem dX7_join_24 : decode cX7_join 24 = .ok (.iconst 4, 1) := by decide +kernel
theorem dX7_join_25 : decode cX7_join 25 = .ok (.if_icmp .ne 5, 3) := by decide +kernel
theorem dX7_join_28 : decode cX7_join 28 = .ok (.iconst (-1), 1) := by decide +kernel
theorem dX7_join_29 : decode cX7_join 29 = .ok (.ireturn, 1) := by decide +kernel
theorem dX7_join_30 : decode cX7_join 30 = .ok (.iload_n 3, 1) := by decide +kernel
theorem dX7_join_31 : decode cX7_join 31 = .ok (.iconst 0, 1) := by decide +kernel
theorem dX7_join_32 : decode cX7_join 32 = .ok (.bipush 99, 2) := by decide +kernel
theorem dX7_join_34 : decode cX7_join 34 = .ok (.invokestatic 74, 3) := by decide +kernel
theorem dX7_join_37 : decode cX7_join 37 = .ok (.ifCond .ne 6, 3) := by decide +kernel
theorem dX7_join_40 : decode cX7_join 40 = .ok (.bipush (-2), 2) := by decide +kernel
theorem dX7_join_42 : decode cX7_join 42 = .ok (.ireturn, 1) := by decide +kernel
theorem dX7_join_43 : decode cX7_join 43 = .ok (.aload_n 0, 1) := by decide +kernel
theorem dX7_join_44 : decode cX7_join 44 = .ok (.getfield 22, 3) := by decide +kernel
theorem dX7_join_47 : decode cX7_join 47 = .ok (.iconst 5, 1) := by decide +kernel
theorem dX7_join_48 : decode cX7_join 48 = .ok (.iload_n 1, 1) := by decide +kernel
theorem dX7_join_49 : decode cX7_join 49 = .ok (.imul, 1) := by decide +kernel
theorem dX7_join_50 : decode cX7_join 50 = .ok (.iload_n 2, 1) := by decide +kernel
theorem dX7_join_51 : decode cX7_join 51 = .ok (.iadd, 1) := by decide +kernel
theorem dX7_join_52 : decode cX7_join 52 = .ok (.iaload, 1) := by decide +kernel
theorem dX7_join_53 : decode cX7_join 53 = .ok (.istore 4, 2) := by decide +kernel
theorem dX7_join_55 : decode cX7_join 55 = .ok (.aload_n 0, 1) := by decide +kernel
theorem dX7_join_56 : decode cX7_join 56 = .ok (.getfield 22, 3) := by decide +kernel
theorem dX7_join_59 : decode cX7_join 59 = .ok (.iconst 5, 1) := by decide +kernel
theorem dX7_join_60 : decode cX7_join 60 = .ok (.iload_n 1, 1) := by decide +kernel
theorem dX7_join_61 : decode cX7_join 61 = .ok (.imul, 1) := by decide +kernel
theorem dX7_join_62 : decode cX7_join 62 = .ok (.iload_n 2, 1) := by decide +kernel
theorem dX7_join_63 : decode cX7_join 63 = .ok (.iadd, 1) := by decide +kernel
theorem dX7_join_64 : decode cX7_join 64 = .ok (.iload_n 3, 1) := by decide +kernel
theorem dX7_join_65 : decode cX7_join 65 = .ok (.iastore, 1) := by decide +kernel
theorem dX7_join_66 : decode cX7_join 66 = .ok (.iload 4, 2) := by decide +kernel
theorem dX7_join_68 : decode cX7_join 68 = .ok (.ireturn, 1) := by decide +kernel
theorem dX7_rule_0 : decode cX7_rule 0 = .ok (.iload_n 1, 1) := by decide +kernel
theorem dX7_rule_1 : decode cX7_rule 1 = .ok (.iconst 0, 1) := by decide +kernel
theorem dX7_rule_2 : decode cX7_rule 2 = .ok (.iconst 3, 1) := by decide +kernel
theorem dX7_rule_3 : decode cX7_rule 3 = .ok (.invokestatic 74, 3) := by decide +kernel
theorem dX7_rule_6 : decode cX7_rule 6 = .ok (.ifCond .eq 30, 3) := by decide +kernel
theorem dX7_rule_9 : decode cX7_rule 9 = .ok (.iload_n 2, 1) := by decide +kernel
theorem dX7_rule_10 : decode cX7_rule 10 = .ok (.iconst 0, 1) := by decide +kernel
theorem dX7_rule_11 : decode cX7_rule 11 = .ok (.iload_n 1, 1) := by decide +kernel
theorem dX7_rule_12 : decode cX7_rule 12 = .ok (.ifCond .ne 7, 3) := by decide +kernel
theorem dX7_rule_15 : decode cX7_rule 15 = .ok (.iconst 2, 1) := by decide +kernel
theorem dX7_rule_16 : decode cX7_rule 16 = .ok (.goto 14, 3) := by decide +kernel
theorem dX7_rule_19 : decode cX7_rule 19 = .ok (.iload_n 1, 1) := by decide +kernel
theorem dX7_rule_20 : decode cX7_rule 20 = .ok (.iconst 3, 1) := by decide +kernel
theorem dX7_rule_21 : decode cX7_rule 21 = .ok (.if_icmp .ne 7, 3) := by decide +kernel
theorem dX7_rule_24 : decode cX7_rule 24 = .ok (.iconst 3, 1) := by decide +kernel
theorem dX7_rule_25 : decode cX7_rule 25 = .ok (.goto 5, 3) := by decide +kernel
theorem dX7_rule_28 : decode cX7_rule 28 = .ok (.bipush 99, 2) := by decide +kernel
theorem dX7_rule_30 : decode cX7_rule 30 = .ok (.invokestatic 74, 3) := by decide +kernel
theorem dX7_rule_33 : decode cX7_rule 33 = .ok (.ifCond .ne 6, 3) := by decide +kernel
theorem dX7_rule_36 : decode cX7_rule 36 = .ok (.bipush (-2), 2) := by decide +kernel
theorem dX7_rule_38 : decode cX7_rule 38 = .ok (.ireturn, 1) := by decide +kernel
theorem dX7_rule_39 : decode cX7_rule 39 = .ok (.aload_n 0, 1) := by decide +kernel
theorem dX7_rule_40 : decode cX7_rule 40 = .ok (.getfield 25, 3) := by decide +kernel
theorem dX7_rule_43 : decode cX7_rule 43 = .ok (.iload_n 1, 1) := by decide +kernel
theorem dX7_rule_44 : decode cX7_rule 44 = .ok (.iaload, 1) := by decide +kernel
theorem dX7_rule_45 : decode cX7_rule 45 = .ok (.istore_n 3, 1) := by decide +kernel
theorem dX7_rule_46 : decode cX7_rule 46 = .ok (.aload_n 0, 1) := by decide +kernel
theorem dX7_rule_47 : decode cX7_rule 47 = .ok (.getfield 25, 3) := by decide +kernel
theorem dX7_rule_50 : decode cX7_rule 50 = .ok (.iload_n 1, 1) := by decide +kernel
theorem dX7_rule_51 : decode cX7_rule 51 = .ok (.iload_n 2, 1) := by decide +kernel
theorem dX7_rule_52 : decode cX7_rule 52 = .ok (.iastore, 1) := by decide +kernel
theorem dX7_rule_53 : decode cX7_rule 53 = .ok (.iload_n 3, 1) := by decide +kernel
theorem dX7_rule_54 : decode cX7_rule 54 = .ok (.ireturn, 1) := by decide +kernel
theorem dX7_stands_0 : decode cX7_stands 0 = .ok (.iload_n 2, 1) := by decide +kernel
theorem dX7_stands_1 : decode cX7_stands 1 = .ok (.aload_n 0, 1) := by decide +kernel
theorem dX7_stands_2 : decode cX7_stands 2 = .ok (.getfield 13, 3) := by decide +kernel
theorem dX7_stands_5 : decode cX7_stands 5 = .ok (.iload_n 1, 1) := by decide +kernel
theorem dX7_stands_6 : decode cX7_stands 6 = .ok (.iaload, 1) := by decide +kernel
theorem dX7_stands_7 : decode cX7_stands 7 = .ok (.iadd, 1) := by decide +kernel
theorem dX7_stands_8 : decode cX7_stands 8 = .ok (.aload_n 0, 1) := by decide +kernel
theorem dX7_stands_9 : decode cX7_stands 9 = .ok (.getfield 109, 3) := by decide +kernel
theorem dX7_stands_12 : decode cX7_stands 12 = .ok (.if_icmp .gt 7, 3) := by decide +kernel
theorem dX7_stands_15 : decode cX7_stands 15 = .ok (.iconst 1, 1) := by decide +kernel
theorem dX7_stands_16 : decode cX7_stands 16 = .ok (.goto 4, 3) := by decide +kernel
theorem dX7_stands_19 : decode cX7_stands 19 = .ok (.iconst 0, 1) := by decide +kernel
theorem dX7_stands_20 : decode cX7_stands 20 = .ok (.istore_n 3, 1) := by decide +kernel
theorem dX7_stands_21 : decode cX7_stands 21 = .ok (.iconst 0, 1) := by decide +kernel
theorem dX7_stands_22 : decode cX7_stands 22 = .ok (.istore 4, 2) := by decide +kernel
theorem dX7_stands_24 : decode cX7_stands 24 = .ok (.iload 4, 2) := by decide +kernel
theorem dX7_stands_26 : decode cX7_stands 26 = .ok (.aload_n 0, 1) := by decide +kernel
theorem dX7_stands_27 : decode cX7_stands 27 = .ok (.getfield 13, 3) := by decide +kernel
theorem dX7_stands_30 : decode cX7_stands 30 = .ok (.iload_n 1, 1) := by decide +kernel
theorem dX7_stands_31 : decode cX7_stands 31 = .ok (.iaload, 1) := by decide +kernel
theorem dX7_stands_32 : decode cX7_stands 32 = .ok (.if_icmp .ge 43, 3) := by decide +kernel
theorem dX7_stands_35 : decode cX7_stands 35 = .ok (.iload_n 3, 1) := by decide +kernel
theorem dX7_stands_36 : decode cX7_stands 36 = .ok (.ifCond .eq 39, 3) := by decide +kernel
theorem dX7_stands_39 : decode cX7_stands 39 = .ok (.aload_n 0, 1) := by decide +kernel
theorem dX7_stands_40 : decode cX7_stands 40 = .ok (.getfield 28, 3) := by decide +kernel
theorem dX7_stands_43 : decode cX7_stands 43 = .ok (.iload_n 2, 1) := by decide +kernel
theorem dX7_stands_44 : decode cX7_stands 44 = .ok (.iload 4, 2) := by decide +kernel
theorem dX7_stands_46 : decode cX7_stands 46 = .ok (.iadd, 1) := by decide +kernel
theorem dX7_stands_47 : decode cX7_stands 47 = .ok (.iaload, 1) := by decide +kernel
theorem dX7_stands_48 : decode cX7_stands 48 = .ok (.aload_n 0, 1) := by decide +kernel
theorem dX7_stands_49 : decode cX7_stands 49 = .ok (.getfield 7, 3) := by decide +kernel
theorem dX7_stands_52 : decode cX7_stands 52 = .ok (.bipush 6, 2) := by decide +kernel
theorem dX7_stands_54 : decode cX7_stands 54 = .ok (.iload_n 1, 1) := by decide +kernel
theorem dX7_stands_55 : decode cX7_stands 55 = .ok (.imul, 1) := by decide +kernel
theorem dX7_stands_56 : decode cX7_stands 56 = .ok (.iload 4, 2) := by decide +kernel
theorem dX7_stands_58 : decode cX7_stands 58 = .ok (.iadd, 1) := by decide +kernel
theorem dX7_stands_59 : decode cX7_stands 59 = .ok (.iaload, 1) := by decide +kernel
theorem dX7_stands_60 : decode cX7_stands 60 = .ok (.if_icmp .ne 7, 3) := by decide +kernel
theorem dX7_stands_63 : decode cX7_stands 63 = .ok (.iconst 1, 1) := by decide +kernel
theorem dX7_stands_64 : decode cX7_stands 64 = .ok (.goto 4, 3) := by decide +kernel
theorem dX7_stands_67 : decode cX7_stands 67 = .ok (.iconst 0, 1) := by decide +kernel
theorem dX7_stands_68 : decode cX7_stands 68 = .ok (.istore_n 3, 1) := by decide +kernel
theorem dX7_stands_69 : decode cX7_stands 69 = .ok (.iinc 4 1, 3) := by decide +kernel
theorem dX7_stands_72 : decode cX7_stands 72 = .ok (.goto (-48), 3) := by decide +kernel
theorem dX7_stands_75 : decode cX7_stands 75 = .ok (.iload_n 3, 1) := by decide +kernel
theorem dX7_stands_76 : decode cX7_stands 76 = .ok (.ireturn, 1) := by decide +kernel
theorem dX7_classOf_0 : decode cX7_classOf 0 = .ok (.iload_n 0, 1) := by decide +kernel
theorem dX7_classOf_1 : decode cX7_classOf 1 = .ok (.bipush 97, 2) := by decide +kernel
theorem dX7_classOf_3 : decode cX7_classOf 3 = .ok (.if_icmp .eq 9, 3) := by decide +kernel
theorem dX7_classOf_6 : decode cX7_classOf 6 = .ok (.iload_n 0, 1) := by decide +kernel
theorem dX7_classOf_7 : decode cX7_classOf 7 = .ok (.bipush 101, 2) := by decide +kernel
theorem dX7_classOf_9 : decode cX7_classOf 9 = .ok (.if_icmp .ne 7, 3) := by decide +kernel
theorem dX7_classOf_12 : decode cX7_classOf 12 = .ok (.iconst 0, 1) := by decide +kernel
theorem dX7_classOf_13 : decode cX7_classOf 13 = .ok (.goto 4, 3) := by decide +kernel
theorem dX7_classOf_16 : decode cX7_classOf 16 = .ok (.iconst 1, 1) := by decide +kernel
theorem dX7_classOf_17 : decode cX7_classOf 17 = .ok (.ireturn, 1) := by decide +kernel
theorem dX7_put_0 : decode cX7_put 0 = .ok (.aload_n 0, 1) := by decide +kernel
theorem dX7_put_1 : decode cX7_put 1 = .ok (.getfield 34, 3) := by decide +kernel
theorem dX7_put_4 : decode cX7_put 4 = .ok (.aload_n 0, 1) := by decide +kernel
theorem dX7_put_5 : decode cX7_put 5 = .ok (.getfield 112, 3) := by decide +kernel
theorem dX7_put_8 : decode cX7_put 8 = .ok (.iload_n 1, 1) := by decide +kernel
theorem dX7_put_9 : decode cX7_put 9 = .ok (.iastore, 1) := by decide +kernel
theorem dX7_put_10 : decode cX7_put 10 = .ok (.aload_n 0, 1) := by decide +kernel
theorem dX7_put_11 : decode cX7_put 11 = .ok (.getfield 37, 3) := by decide +kernel
theorem dX7_put_14 : decode cX7_put 14 = .ok (.aload_n 0, 1) := by decide +kernel
theorem dX7_put_15 : decode cX7_put 15 = .ok (.getfield 112, 3) := by decide +kernel
theorem dX7_put_18 : decode cX7_put 18 = .ok (.iload_n 2, 1) := by decide +kernel
theorem dX7_put_19 : decode cX7_put 19 = .ok (.iastore, 1) := by decide +kernel
theorem dX7_put_20 : decode cX7_put 20 = .ok (.aload_n 0, 1) := by decide +kernel
theorem dX7_put_21 : decode cX7_put 21 = .ok (.getfield 40, 3) := by decide +kernel
theorem dX7_put_24 : decode cX7_put 24 = .ok (.aload_n 0, 1) := by decide +kernel
theorem dX7_put_25 : decode cX7_put 25 = .ok (.getfield 112, 3) := by decide +kernel
theorem dX7_put_28 : decode cX7_put 28 = .ok (.iload_n 3, 1) := by decide +kernel
theorem dX7_put_29 : decode cX7_put 29 = .ok (.iastore, 1) := by decide +kernel
theorem dX7_put_30 : decode cX7_put 30 = .ok (.aload_n 0, 1) := by decide +kernel
theorem dX7_put_31 : decode cX7_put 31 = .ok (.getfield 43, 3) := by decide +kernel
theorem dX7_put_34 : decode cX7_put 34 = .ok (.aload_n 0, 1) := by decide +kernel
theorem dX7_put_35 : decode cX7_put 35 = .ok (.getfield 112, 3) := by decide +kernel
theorem dX7_put_38 : decode cX7_put 38 = .ok (.iload 4, 2) := by decide +kernel
theorem dX7_put_40 : decode cX7_put 40 = .ok (.iastore, 1) := by decide +kernel
theorem dX7_put_41 : decode cX7_put 41 = .ok (.aload_n 0, 1) := by decide +kernel
theorem dX7_put_42 : decode cX7_put 42 = .ok (.getfield 46, 3) := by decide +kernel
theorem dX7_put_45 : decode cX7_put 45 = .ok (.aload_n 0, 1) := by decide +kernel
theorem dX7_put_46 : decode cX7_put 46 = .ok (.getfield 112, 3) := by decide +kernel
theorem dX7_put_49 : decode cX7_put 49 = .ok (.iload 5, 2) := by decide +kernel
theorem dX7_put_51 : decode cX7_put 51 = .ok (.iastore, 1) := by decide +kernel
theorem dX7_put_52 : decode cX7_put 52 = .ok (.aload_n 0, 1) := by decide +kernel
theorem dX7_put_53 : decode cX7_put 53 = .ok (.dup, 1) := by decide +kernel
theorem dX7_put_54 : decode cX7_put 54 = .ok (.getfield 112, 3) := by decide +kernel
theorem dX7_put_57 : decode cX7_put 57 = .ok (.iconst 1, 1) := by decide +kernel
theorem dX7_put_58 : decode cX7_put 58 = .ok (.iadd, 1) := by decide +kernel
theorem dX7_put_59 : decode cX7_put 59 = .ok (.putfield 112, 3) := by decide +kernel
theorem dX7_put_62 : decode cX7_put 62 = .ok (.return_, 1) := by decide +kernel
theorem dX7_layPieces_0 : decode cX7_layPieces 0 = .ok (.aload_n 0, 1) := by decide +kernel
theorem dX7_layPieces_1 : decode cX7_layPieces 1 = .ok (.iconst 0, 1) := by decide +kernel
theorem dX7_layPieces_2 : decode cX7_layPieces 2 = .ok (.putfield 112, 3) := by decide +kernel
theorem dX7_layPieces_5 : decode cX7_layPieces 5 = .ok (.iconst 0, 1) := by decide +kernel
theorem dX7_layPieces_6 : decode cX7_layPieces 6 = .ok (.istore_n 1, 1) := by decide +kernel
theorem dX7_layPieces_7 : decode cX7_layPieces 7 = .ok (.iload_n 1, 1) := by decide +kernel
theorem dX7_layPieces_8 : decode cX7_layPieces 8 = .ok (.aload_n 0, 1) := by decide +kernel
theorem dX7_layPieces_9 : decode cX7_layPieces 9 = .ok (.getfield 109, 3) := by decide +kernel
theorem dX7_layPieces_12 : decode cX7_layPieces 12 = .ok (.if_icmp .ge 291, 3) := by decide +kernel
theorem dX7_layPieces_15 : decode cX7_layPieces 15 = .ok (.aload_n 0, 1) := by decide +kernel
theorem dX7_layPieces_16 : decode cX7_layPieces 16 = .ok (.getfield 49, 3) := by decide +kernel
theorem dX7_layPieces_19 : decode cX7_layPieces 19 = .ok (.iload_n 1, 1) := by decide +kernel
theorem dX7_layPieces_20 : decode cX7_layPieces 20 = .ok (.aload_n 0, 1) := by decide +kernel
theorem dX7_layPieces_21 : decode cX7_layPieces 21 = .ok (.getfield 112, 3) := by decide +kernel
theorem dX7_layPieces_24 : decode cX7_layPieces 24 = .ok (.iastore, 1) := by decide +kernel
theorem dX7_layPieces_25 : decode cX7_layPieces 25 = .ok (.iconst 1, 1) := by decide +kernel
theorem dX7_layPieces_26 : decode cX7_layPieces 26 = .ok (.istore_n 2, 1) := by decide +kernel
theorem dX7_layPieces_27 : decode cX7_layPieces 27 = .ok (.iload_n 2, 1) := by decide +kernel
theorem dX7_layPieces_28 : decode cX7_layPieces 28 = .ok (.bipush 6, 2) := by decide +kernel
theorem dX7_layPieces_30 : decode cX7_layPieces 30 = .ok (.if_icmp .ge 42, 3) := by decide +kernel
theorem dX7_layPieces_33 : decode cX7_layPieces 33 = .ok (.iload_n 1, 1) := by decide +kernel
theorem dX7_layPieces_34 : decode cX7_layPieces 34 = .ok (.iload_n 2, 1) := by decide +kernel
theorem dX7_layPieces_35 : decode cX7_layPieces 35 = .ok (.iadd, 1) := by decide +kernel
theorem dX7_layPieces_36 : decode cX7_layPieces 36 = .ok (.aload_n 0, 1) := by decide +kernel
theorem dX7_layPieces_37 : decode cX7_layPieces 37 = .ok (.getfield 109, 3) := by decide +kernel
theorem dX7_layPieces_40 : decode cX7_layPieces 40 = .ok (.if_icmp .ge 32, 3) := by decide +kernel
theorem dX7_layPieces_43 : decode cX7_layPieces 43 = .ok (.aload_n 0, 1) := by decide +kernel
theorem dX7_layPieces_44 : decode cX7_layPieces 44 = .ok (.getfield 28, 3) := by decide +kernel
theorem dX7_layPieces_47 : decode cX7_layPieces 47 = .ok (.iload_n 1, 1) := by decide +kernel
theorem dX7_layPieces_48 : decode cX7_layPieces 48 = .ok (.iload_n 2, 1) := by decide +kernel
theorem dX7_layPieces_49 : decode cX7_layPieces 49 = .ok (.iadd, 1) := by decide +kernel
theorem dX7_layPieces_50 : decode cX7_layPieces 50 = .ok (.iaload, 1) := by decide +kernel
theorem dX7_layPieces_51 : decode cX7_layPieces 51 = .ok (.invokestatic 115, 3) := by decide +kernel
theorem dX7_layPieces_54 : decode cX7_layPieces 54 = .ok (.aload_n 0, 1) := by decide +kernel
theorem dX7_layPieces_55 : decode cX7_layPieces 55 = .ok (.getfield 28, 3) := by decide +kernel
theorem dX7_layPieces_58 : decode cX7_layPieces 58 = .ok (.iload_n 1, 1) := by decide +kernel
theorem dX7_layPieces_59 : decode cX7_layPieces 59 = .ok (.iaload, 1) := by decide +kernel
theorem dX7_layPieces_60 : decode cX7_layPieces 60 = .ok (.invokestatic 115, 3) := by decide +kernel
theorem dX7_layPieces_63 : decode cX7_layPieces 63 = .ok (.if_icmp .ne 9, 3) := by decide +kernel
theorem dX7_layPieces_66 : decode cX7_layPieces 66 = .ok (.iinc 2 1, 3) := by decide +kernel
theorem dX7_layPieces_69 : decode cX7_layPieces 69 = .ok (.goto (-42), 3) := by decide +kernel
theorem dX7_layPieces_72 : decode cX7_layPieces 72 = .ok (.iconst 0, 1) := by decide +kernel
theorem dX7_layPieces_73 : decode cX7_layPieces 73 = .ok (.istore_n 3, 1) := by decide +kernel
theorem dX7_layPieces_74 : decode cX7_layPieces 74 = .ok (.iconst 0, 1) := by decide +kernel
theorem dX7_layPieces_75 : decode cX7_layPieces 75 = .ok (.istore 4, 2) := by decide +kernel
theorem dX7_layPieces_77 : decode cX7_layPieces 77 = .ok (.iload 4, 2) := by decide +kernel
theorem dX7_layPieces_79 : decode cX7_layPieces 79 = .ok (.aload_n 0, 1) := by decide +kernel
theorem dX7_layPieces_80 : decode cX7_layPieces 80 = .ok (.getfield 106, 3) := by decide +kernel
theorem dX7_layPieces_83 : decode cX7_layPieces 83 = .ok (.if_icmp .ge 29, 3) := by decide +kernel
theorem dX7_layPieces_86 : decode cX7_layPieces 86 = .ok (.iload_n 3, 1) := by decide +kernel
theorem dX7_layPieces_87 : decode cX7_layPieces 87 = .ok (.ifCond .ne 13, 3) := by decide +kernel
theorem dX7_layPieces_90 : decode cX7_layPieces 90 = .ok (.aload_n 0, 1) := by decide +kernel
theorem dX7_layPieces_91 : decode cX7_layPieces 91 = .ok (.iload 4, 2) := by decide +kernel
theorem dX7_layPieces_93 : decode cX7_layPieces 93 = .ok (.iload_n 1, 1) := by decide +kernel
theorem dX7_layPieces_94 : decode cX7_layPieces 94 = .ok (.invokevirtual 119, 3) := by decide +kernel
theorem dX7_layPieces_97 : decode cX7_layPieces 97 = .ok (.ifCond .eq 7, 3) := by decide +kernel
theorem dX7_layPieces_100 : decode cX7_layPieces 100 = .ok (.iconst 1, 1) := by decide +kernel
theorem dX7_layPieces_101 : decode cX7_layPieces 101 = .ok (.goto 4, 3) := by decide +kernel
theorem dX7_layPieces_104 : decode cX7_layPieces 104 = .ok (.iconst 0, 1) := by decide +kernel
theorem dX7_layPieces_105 : decode cX7_layPieces 105 = .ok (.istore_n 3, 1) := by decide +kernel
theorem dX7_layPieces_106 : decode cX7_layPieces 106 = .ok (.iinc 4 1, 3) := by decide +kernel
theorem dX7_layPieces_109 : decode cX7_layPieces 109 = .ok (.goto (-32), 3) := by decide +kernel
theorem dX7_layPieces_112 : decode cX7_layPieces 112 = .ok (.aload_n 0, 1) := by decide +kernel
theorem dX7_layPieces_113 : decode cX7_layPieces 113 = .ok (.getfield 25, 3) := by decide +kernel
theorem dX7_layPieces_116 : decode cX7_layPieces 116 = .ok (.iconst 0, 1) := by decide +kernel
theorem dX7_layPieces_117 : decode cX7_layPieces 117 = .ok (.iaload, 1) := by decide +kernel
theorem dX7_layPieces_118 : decode cX7_layPieces 118 = .ok (.iconst 1, 1) := by decide +kernel
theorem dX7_layPieces_119 : decode cX7_layPieces 119 = .ok (.if_icmp .eq 16, 3) := by decide +kernel
theorem dX7_layPieces_122 : decode cX7_layPieces 122 = .ok (.aload_n 0, 1) := by decide +kernel
theorem dX7_layPieces_123 : decode cX7_layPieces 123 = .ok (.getfield 25, 3) := by decide +kernel
theorem dX7_layPieces_126 : decode cX7_layPieces 126 = .ok (.iconst 0, 1) := by decide +kernel
theorem dX7_layPieces_127 : decode cX7_layPieces 127 = .ok (.iaload, 1) := by decide +kernel
theorem dX7_layPieces_128 : decode cX7_layPieces 128 = .ok (.ifCond .ne 11, 3) := by decide +kernel
theorem dX7_layPieces_131 : decode cX7_layPieces 131 = .ok (.iload_n 3, 1) := by decide +kernel
theorem dX7_layPieces_132 : decode cX7_layPieces 132 = .ok (.ifCond .ne 7, 3) := by decide +kernel
theorem dX7_layPieces_135 : decode cX7_layPieces 135 = .ok (.iconst 1, 1) := by decide +kernel
theorem dX7_layPieces_136 : decode cX7_layPieces 136 = .ok (.goto 4, 3) := by decide +kernel
theorem dX7_layPieces_139 : decode cX7_layPieces 139 = .ok (.iconst 0, 1) := by decide +kernel
theorem dX7_layPieces_140 : decode cX7_layPieces 140 = .ok (.istore 4, 2) := by decide +kernel
theorem dX7_layPieces_142 : decode cX7_layPieces 142 = .ok (.iconst 1, 1) := by decide +kernel
theorem dX7_layPieces_143 : decode cX7_layPieces 143 = .ok (.istore 5, 2) := by decide +kernel
theorem dX7_layPieces_145 : decode cX7_layPieces 145 = .ok (.iload 5, 2) := by decide +kernel
theorem dX7_layPieces_147 : decode cX7_layPieces 147 = .ok (.bipush 6, 2) := by decide +kernel
theorem dX7_layPieces_149 : decode cX7_layPieces 149 = .ok (.if_icmp .gt 148, 3) := by decide +kernel
theorem dX7_layPieces_152 : decode cX7_layPieces 152 = .ok (.iconst 0, 1) := by decide +kernel
theorem dX7_layPieces_153 : decode cX7_layPieces 153 = .ok (.istore 6, 2) := by decide +kernel
theorem dX7_layPieces_155 : decode cX7_layPieces 155 = .ok (.iload 6, 2) := by decide +kernel
theorem dX7_layPieces_157 : decode cX7_layPieces 157 = .ok (.iconst 3, 1) := by decide +kernel
theorem dX7_layPieces_158 : decode cX7_layPieces 158 = .ok (.if_icmp .ge 79, 3) := by decide +kernel
theorem dX7_layPieces_161 : decode cX7_layPieces 161 = .ok (.iconst 0, 1) := by decide +kernel
theorem dX7_layPieces_162 : decode cX7_layPieces 162 = .ok (.istore 7, 2) := by decide +kernel
theorem dX7_layPieces_164 : decode cX7_layPieces 164 = .ok (.iload 7, 2) := by decide +kernel
theorem dX7_layPieces_166 : decode cX7_layPieces 166 = .ok (.aload_n 0, 1) := by decide +kernel
theorem dX7_layPieces_167 : decode cX7_layPieces 167 = .ok (.getfield 106, 3) := by decide +kernel
theorem dX7_layPieces_170 : decode cX7_layPieces 170 = .ok (.if_icmp .ge 61, 3) := by decide +kernel
theorem dX7_layPieces_173 : decode cX7_layPieces 173 = .ok (.aload_n 0, 1) := by decide +kernel
theorem dX7_layPieces_174 : decode cX7_layPieces 174 = .ok (.getfield 13, 3) := by decide +kernel
theorem dX7_layPieces_177 : decode cX7_layPieces 177 = .ok (.iload 7, 2) := by decide +kernel
theorem dX7_layPieces_179 : decode cX7_layPieces 179 = .ok (.iaload, 1) := by decide +kernel
theorem dX7_layPieces_180 : decode cX7_layPieces 180 = .ok (.iload 5, 2) := by decide +kernel
theorem dX7_layPieces_182 : decode cX7_layPieces 182 = .ok (.if_icmp .ne 43, 3) := by decide +kernel
theorem dX7_layPieces_185 : decode cX7_layPieces 185 = .ok (.aload_n 0, 1) := by decide +kernel
theorem dX7_layPieces_186 : decode cX7_layPieces 186 = .ok (.getfield 16, 3) := by decide +kernel
theorem dX7_layPieces_189 : decode cX7_layPieces 189 = .ok (.iload 7, 2) := by decide +kernel
theorem dX7_layPieces_191 : decode cX7_layPieces 191 = .ok (.iaload, 1) := by decide +kernel
theorem dX7_layPieces_192 : decode cX7_layPieces 192 = .ok (.iload 6, 2) := by decide +kernel
theorem dX7_layPieces_194 : decode cX7_layPieces 194 = .ok (.if_icmp .ne 31, 3) := by decide +kernel
theorem dX7_layPieces_197 : decode cX7_layPieces 197 = .ok (.aload_n 0, 1) := by decide +kernel
theorem dX7_layPieces_198 : decode cX7_layPieces 198 = .ok (.iload 7, 2) := by decide +kernel
theorem dX7_layPieces_200 : decode cX7_layPieces 200 = .ok (.iload_n 1, 1) := by decide +kernel
theorem dX7_layPieces_201 : decode cX7_layPieces 201 = .ok (.invokevirtual 119, 3) := by decide +kernel
theorem dX7_layPieces_204 : decode cX7_layPieces 204 = .ok (.ifCond .eq 21, 3) := by decide +kernel
theorem dX7_layPieces_207 : decode cX7_layPieces 207 = .ok (.aload_n 0, 1) := by decide +kernel
theorem dX7_layPieces_208 : decode cX7_layPieces 208 = .ok (.iload_n 1, 1) := by decide +kernel
theorem dX7_layPieces_209 : decode cX7_layPieces 209 = .ok (.iload 5, 2) := by decide +kernel
theorem dX7_layPieces_211 : decode cX7_layPieces 211 = .ok (.iload 6, 2) := by decide +kernel
theorem dX7_layPieces_213 : decode cX7_layPieces 213 = .ok (.aload_n 0, 1) := by decide +kernel
theorem dX7_layPieces_214 : decode cX7_layPieces 214 = .ok (.getfield 19, 3) := by decide +kernel
theorem dX7_layPieces_217 : decode cX7_layPieces 217 = .ok (.iload 7, 2) := by decide +kernel
theorem dX7_layPieces_219 : decode cX7_layPieces 219 = .ok (.iaload, 1) := by decide +kernel
theorem dX7_layPieces_220 : decode cX7_layPieces 220 = .ok (.iload 7, 2) := by decide +kernel
theorem dX7_layPieces_222 : decode cX7_layPieces 222 = .ok (.invokevirtual 123, 3) := by decide +kernel
theorem dX7_layPieces_225 : decode cX7_layPieces 225 = .ok (.iinc 7 1, 3) := by decide +kernel
theorem dX7_layPieces_228 : decode cX7_layPieces 228 = .ok (.goto (-64), 3) := by decide +kernel
theorem dX7_layPieces_231 : decode cX7_layPieces 231 = .ok (.iinc 6 1, 3) := by decide +kernel
theorem dX7_layPieces_234 : decode cX7_layPieces 234 = .ok (.goto (-79), 3) := by decide +kernel
theorem dX7_layPieces_237 : decode cX7_layPieces 237 = .ok (.iload 4, 2) := by decide +kernel
theorem dX7_layPieces_239 : decode cX7_layPieces 239 = .ok (.ifCond .eq 52, 3) := by decide +kernel
theorem dX7_layPieces_242 : decode cX7_layPieces 242 = .ok (.iload 5, 2) := by decide +kernel
theorem dX7_layPieces_244 : decode cX7_layPieces 244 = .ok (.iload_n 2, 1) := by decide +kernel
theorem dX7_layPieces_245 : decode cX7_layPieces 245 = .ok (.if_icmp .eq 20, 3) := by decide +kernel
theorem dX7_layPieces_248 : decode cX7_layPieces 248 = .ok (.iload 5, 2) := by decide +kernel
theorem dX7_layPieces_250 : decode cX7_layPieces 250 = .ok (.iload_n 2, 1) := by decide +kernel
theorem dX7_layPieces_251 : decode cX7_layPieces 251 = .ok (.if_icmp .ge 40, 3) := by decide +kernel
theorem dX7_layPieces_254 : decode cX7_layPieces 254 = .ok (.iload 5, 2) := by decide +kernel
theorem dX7_layPieces_256 : decode cX7_layPieces 256 = .ok (.aload_n 0, 1) := by decide +kernel
theorem dX7_layPieces_257 : decode cX7_layPieces 257 = .ok (.getfield 25, 3) := by decide +kernel
theorem dX7_layPieces_260 : decode cX7_layPieces 260 = .ok (.iconst 3, 1) := by decide +kernel
theorem dX7_layPieces_261 : decode cX7_layPieces 261 = .ok (.iaload, 1) := by decide +kernel
theorem dX7_layPieces_262 : decode cX7_layPieces 262 = .ok (.if_icmp .gt 29, 3) := by decide +kernel
theorem dX7_layPieces_265 : decode cX7_layPieces 265 = .ok (.aload_n 0, 1) := by decide +kernel
theorem dX7_layPieces_266 : decode cX7_layPieces 266 = .ok (.iload_n 1, 1) := by decide +kernel
theorem dX7_layPieces_267 : decode cX7_layPieces 267 = .ok (.iload 5, 2) := by decide +kernel
theorem dX7_layPieces_269 : decode cX7_layPieces 269 = .ok (.iconst 3, 1) := by decide +kernel
theorem dX7_layPieces_270 : decode cX7_layPieces 270 = .ok (.aload_n 0, 1) := by decide +kernel
theorem dX7_layPieces_271 : decode cX7_layPieces 271 = .ok (.getfield 25, 3) := by decide +kernel
theorem dX7_layPieces_274 : decode cX7_layPieces 274 = .ok (.iconst 1, 1) := by decide +kernel
theorem dX7_layPieces_275 : decode cX7_layPieces 275 = .ok (.iaload, 1) := by decide +kernel
theorem dX7_layPieces_276 : decode cX7_layPieces 276 = .ok (.iload 5, 2) := by decide +kernel
theorem dX7_layPieces_278 : decode cX7_layPieces 278 = .ok (.aload_n 0, 1) := by decide +kernel
theorem dX7_layPieces_279 : decode cX7_layPieces 279 = .ok (.getfield 25, 3) := by decide +kernel
theorem dX7_layPieces_282 : decode cX7_layPieces 282 = .ok (.iconst 2, 1) := by decide +kernel
theorem dX7_layPieces_283 : decode cX7_layPieces 283 = .ok (.iaload, 1) := by decide +kernel
theorem dX7_layPieces_284 : decode cX7_layPieces 284 = .ok (.imul, 1) := by decide +kernel
theorem dX7_layPieces_285 : decode cX7_layPieces 285 = .ok (.iadd, 1) := by decide +kernel
theorem dX7_layPieces_286 : decode cX7_layPieces 286 = .ok (.bipush (-6), 2) := by decide +kernel
theorem dX7_layPieces_288 : decode cX7_layPieces 288 = .ok (.invokevirtual 123, 3) := by decide +kernel
theorem dX7_layPieces_291 : decode cX7_layPieces 291 = .ok (.iinc 5 1, 3) := by decide +kernel
theorem dX7_layPieces_294 : decode cX7_layPieces 294 = .ok (.goto (-149), 3) := by decide +kernel
theorem dX7_layPieces_297 : decode cX7_layPieces 297 = .ok (.iinc 1 1, 3) := by decide +kernel
theorem dX7_layPieces_300 : decode cX7_layPieces 300 = .ok (.goto (-293), 3) := by decide +kernel
theorem dX7_layPieces_303 : decode cX7_layPieces 303 = .ok (.aload_n 0, 1) := by decide +kernel
theorem dX7_layPieces_304 : decode cX7_layPieces 304 = .ok (.getfield 49, 3) := by decide +kernel
theorem dX7_layPieces_307 : decode cX7_layPieces 307 = .ok (.aload_n 0, 1) := by decide +kernel
theorem dX7_layPieces_308 : decode cX7_layPieces 308 = .ok (.getfield 109, 3) := by decide +kernel
theorem dX7_layPieces_311 : decode cX7_layPieces 311 = .ok (.aload_n 0, 1) := by decide +kernel
theorem dX7_layPieces_312 : decode cX7_layPieces 312 = .ok (.getfield 112, 3) := by decide +kernel
theorem dX7_layPieces_315 : decode cX7_layPieces 315 = .ok (.iastore, 1) := by decide +kernel
theorem dX7_layPieces_316 : decode cX7_layPieces 316 = .ok (.return_, 1) := by decide +kernel
theorem dX7_behind_0 : decode cX7_behind 0 = .ok (.aload_n 0, 1) := by decide +kernel
theorem dX7_behind_1 : decode cX7_behind 1 = .ok (.getfield 34, 3) := by decide +kernel
theorem dX7_behind_4 : decode cX7_behind 4 = .ok (.iload_n 1, 1) := by decide +kernel
theorem dX7_behind_5 : decode cX7_behind 5 = .ok (.iaload, 1) := by decide +kernel
theorem dX7_behind_6 : decode cX7_behind 6 = .ok (.aload_n 0, 1) := by decide +kernel
theorem dX7_behind_7 : decode cX7_behind 7 = .ok (.getfield 37, 3) := by decide +kernel
theorem dX7_behind_10 : decode cX7_behind 10 = .ok (.iload_n 1, 1) := by decide +kernel
theorem dX7_behind_11 : decode cX7_behind 11 = .ok (.iaload, 1) := by decide +kernel
theorem dX7_behind_12 : decode cX7_behind 12 = .ok (.iadd, 1) := by decide +kernel
theorem dX7_behind_13 : decode cX7_behind 13 = .ok (.ireturn, 1) := by decide +kernel
theorem dX7_joinOf_0 : decode cX7_joinOf 0 = .ok (.aload_n 0, 1) := by decide +kernel
theorem dX7_joinOf_1 : decode cX7_joinOf 1 = .ok (.getfield 22, 3) := by decide +kernel
theorem dX7_joinOf_4 : decode cX7_joinOf 4 = .ok (.iconst 5, 1) := by decide +kernel
theorem dX7_joinOf_5 : decode cX7_joinOf 5 = .ok (.aload_n 0, 1) := by decide +kernel
theorem dX7_joinOf_6 : decode cX7_joinOf 6 = .ok (.getfield 40, 3) := by decide +kernel
theorem dX7_joinOf_9 : decode cX7_joinOf 9 = .ok (.iload_n 1, 1) := by decide +kernel
theorem dX7_joinOf_10 : decode cX7_joinOf 10 = .ok (.iaload, 1) := by decide +kernel
theorem dX7_joinOf_11 : decode cX7_joinOf 11 = .ok (.imul, 1) := by decide +kernel
theorem dX7_joinOf_12 : decode cX7_joinOf 12 = .ok (.aload_n 0, 1) := by decide +kernel
theorem dX7_joinOf_13 : decode cX7_joinOf 13 = .ok (.getfield 40, 3) := by decide +kernel
theorem dX7_joinOf_16 : decode cX7_joinOf 16 = .ok (.iload_n 2, 1) := by decide +kernel
theorem dX7_joinOf_17 : decode cX7_joinOf 17 = .ok (.iaload, 1) := by decide +kernel
theorem dX7_joinOf_18 : decode cX7_joinOf 18 = .ok (.iadd, 1) := by decide +kernel
theorem dX7_joinOf_19 : decode cX7_joinOf 19 = .ok (.iaload, 1) := by decide +kernel
theorem dX7_joinOf_20 : decode cX7_joinOf 20 = .ok (.ireturn, 1) := by decide +kernel
theorem dX7_layRows_0 : decode cX7_layRows 0 = .ok (.aload_n 0, 1) := by decide +kernel
theorem dX7_layRows_1 : decode cX7_layRows 1 = .ok (.invokevirtual 127, 3) := by decide +kernel
theorem dX7_layRows_4 : decode cX7_layRows 4 = .ok (.aload_n 0, 1) := by decide +kernel
theorem dX7_layRows_5 : decode cX7_layRows 5 = .ok (.getfield 112, 3) := by decide +kernel
theorem dX7_layRows_8 : decode cX7_layRows 8 = .ok (.iconst 1, 1) := by decide +kernel
theorem dX7_layRows_9 : decode cX7_layRows 9 = .ok (.isub, 1) := by decide +kernel
theorem dX7_layRows_10 : decode cX7_layRows 10 = .ok (.istore_n 1, 1) := by decide +kernel
theorem dX7_layRows_11 : decode cX7_layRows 11 = .ok (.iload_n 1, 1) := by decide +kernel
theorem dX7_layRows_12 : decode cX7_layRows 12 = .ok (.ifCond .lt 339, 3) := by decide +kernel
theorem dX7_layRows_15 : decode cX7_layRows 15 = .ok (.aload_n 0, 1) := by decide +kernel
theorem dX7_layRows_16 : decode cX7_layRows 16 = .ok (.getfield 58, 3) := by decide +kernel
theorem dX7_layRows_19 : decode cX7_layRows 19 = .ok (.iload_n 1, 1) := by decide +kernel
theorem dX7_layRows_20 : decode cX7_layRows 20 = .ok (.iconst 0, 1) := by decide +kernel
theorem dX7_layRows_21 : decode cX7_layRows 21 = .ok (.iastore, 1) := by decide +kernel
theorem dX7_layRows_22 : decode cX7_layRows 22 = .ok (.aload_n 0, 1) := by decide +kernel
theorem dX7_layRows_23 : decode cX7_layRows 23 = .ok (.iload_n 1, 1) := by decide +kernel
theorem dX7_layRows_24 : decode cX7_layRows 24 = .ok (.invokevirtual 130, 3) := by decide +kernel
theorem dX7_layRows_27 : decode cX7_layRows 27 = .ok (.istore_n 2, 1) := by decide +kernel
theorem dX7_layRows_28 : decode cX7_layRows 28 = .ok (.iload_n 2, 1) := by decide +kernel
theorem dX7_layRows_29 : decode cX7_layRows 29 = .ok (.aload_n 0, 1) := by decide +kernel
theorem dX7_layRows_30 : decode cX7_layRows 30 = .ok (.getfield 109, 3) := by decide +kernel
theorem dX7_layRows_33 : decode cX7_layRows 33 = .ok (.if_icmp .ne 55, 3) := by decide +kernel
theorem dX7_layRows_36 : decode cX7_layRows 36 = .ok (.aload_n 0, 1) := by decide +kernel
theorem dX7_layRows_37 : decode cX7_layRows 37 = .ok (.getfield 52, 3) := by decide +kernel
theorem dX7_layRows_40 : decode cX7_layRows 40 = .ok (.bipush 12, 2) := by decide +kernel
theorem dX7_layRows_42 : decode cX7_layRows 42 = .ok (.iload_n 1, 1) := by decide +kernel
theorem dX7_layRows_43 : decode cX7_layRows 43 = .ok (.imul, 1) := by decide +kernel
theorem dX7_layRows_44 : decode cX7_layRows 44 = .ok (.aload_n 0, 1) := by decide +kernel
theorem dX7_layRows_45 : decode cX7_layRows 45 = .ok (.getfield 43, 3) := by decide +kernel
theorem dX7_layRows_48 : decode cX7_layRows 48 = .ok (.iload_n 1, 1) := by decide +kernel
theorem dX7_layRows_49 : decode cX7_layRows 49 = .ok (.iaload, 1) := by decide +kernel
theorem dX7_layRows_50 : decode cX7_layRows 50 = .ok (.aload_n 0, 1) := by decide +kernel
theorem dX7_layRows_51 : decode cX7_layRows 51 = .ok (.getfield 22, 3) := by decide +kernel
theorem dX7_layRows_54 : decode cX7_layRows 54 = .ok (.iconst 5, 1) := by decide +kernel
theorem dX7_layRows_55 : decode cX7_layRows 55 = .ok (.aload_n 0, 1) := by decide +kernel
theorem dX7_layRows_56 : decode cX7_layRows 56 = .ok (.getfield 40, 3) := by decide +kernel
theorem dX7_layRows_59 : decode cX7_layRows 59 = .ok (.iload_n 1, 1) := by decide +kernel
theorem dX7_layRows_60 : decode cX7_layRows 60 = .ok (.iaload, 1) := by decide +kernel
theorem dX7_layRows_61 : decode cX7_layRows 61 = .ok (.imul, 1) := by decide +kernel
theorem dX7_layRows_62 : decode cX7_layRows 62 = .ok (.iconst 4, 1) := by decide +kernel
theorem dX7_layRows_63 : decode cX7_layRows 63 = .ok (.iadd, 1) := by decide +kernel
theorem dX7_layRows_64 : decode cX7_layRows 64 = .ok (.iaload, 1) := by decide +kernel
theorem dX7_layRows_65 : decode cX7_layRows 65 = .ok (.iadd, 1) := by decide +kernel
theorem dX7_layRows_66 : decode cX7_layRows 66 = .ok (.iastore, 1) := by decide +kernel
theorem dX7_layRows_67 : decode cX7_layRows 67 = .ok (.aload_n 0, 1) := by decide +kernel
theorem dX7_layRows_68 : decode cX7_layRows 68 = .ok (.getfield 55, 3) := by decide +kernel
theorem dX7_layRows_71 : decode cX7_layRows 71 = .ok (.bipush 12, 2) := by decide +kernel
theorem dX7_layRows_73 : decode cX7_layRows 73 = .ok (.iload_n 1, 1) := by decide +kernel
theorem dX7_layRows_74 : decode cX7_layRows 74 = .ok (.imul, 1) := by decide +kernel
theorem dX7_layRows_75 : decode cX7_layRows 75 = .ok (.bipush (-6), 2) := by decide +kernel
theorem dX7_layRows_77 : decode cX7_layRows 77 = .ok (.iastore, 1) := by decide +kernel
theorem dX7_layRows_78 : decode cX7_layRows 78 = .ok (.aload_n 0, 1) := by decide +kernel
theorem dX7_layRows_79 : decode cX7_layRows 79 = .ok (.getfield 58, 3) := by decide +kernel
theorem dX7_layRows_82 : decode cX7_layRows 82 = .ok (.iload_n 1, 1) := by decide +kernel
theorem dX7_layRows_83 : decode cX7_layRows 83 = .ok (.iconst 1, 1) := by decide +kernel
theorem dX7_layRows_84 : decode cX7_layRows 84 = .ok (.iastore, 1) := by decide +kernel
theorem dX7_layRows_85 : decode cX7_layRows 85 = .ok (.goto 260, 3) := by decide +kernel
theorem dX7_layRows_88 : decode cX7_layRows 88 = .ok (.iconst 1, 1) := by decide +kernel
theorem dX7_layRows_89 : decode cX7_layRows 89 = .ok (.istore_n 3, 1) := by decide +kernel
theorem dX7_layRows_90 : decode cX7_layRows 90 = .ok (.iconst (-1), 1) := by decide +kernel
theorem dX7_layRows_91 : decode cX7_layRows 91 = .ok (.istore 4, 2) := by decide +kernel
theorem dX7_layRows_93 : decode cX7_layRows 93 = .ok (.iconst (-1), 1) := by decide +kernel
theorem dX7_layRows_94 : decode cX7_layRows 94 = .ok (.istore 5, 2) := by decide +kernel
theorem dX7_layRows_96 : decode cX7_layRows 96 = .ok (.iload_n 3, 1) := by decide +kernel
theorem dX7_layRows_97 : decode cX7_layRows 97 = .ok (.ifCond .eq 248, 3) := by decide +kernel
theorem dX7_layRows_100 : decode cX7_layRows 100 = .ok (.aload_n 0, 1) := by decide +kernel
theorem dX7_layRows_101 : decode cX7_layRows 101 = .ok (.getfield 58, 3) := by decide +kernel
theorem dX7_layRows_104 : decode cX7_layRows 104 = .ok (.iload_n 1, 1) := by decide +kernel
theorem dX7_layRows_105 : decode cX7_layRows 105 = .ok (.iaload, 1) := by decide +kernel
theorem dX7_layRows_106 : decode cX7_layRows 106 = .ok (.bipush 12, 2) := by decide +kernel
theorem dX7_layRows_108 : decode cX7_layRows 108 = .ok (.if_icmp .ge 237, 3) := by decide +kernel
theorem dX7_layRows_111 : decode cX7_layRows 111 = .ok (.iconst 0, 1) := by decide +kernel
theorem dX7_layRows_112 : decode cX7_layRows 112 = .ok (.istore 6, 2) := by decide +kernel
theorem dX7_layRows_114 : decode cX7_layRows 114 = .ok (.bipush (-6), 2) := by decide +kernel
theorem dX7_layRows_116 : decode cX7_layRows 116 = .ok (.istore 7, 2) := by decide +kernel
theorem dX7_layRows_118 : decode cX7_layRows 118 = .ok (.aload_n 0, 1) := by decide +kernel
theorem dX7_layRows_119 : decode cX7_layRows 119 = .ok (.getfield 49, 3) := by decide +kernel
theorem dX7_layRows_122 : decode cX7_layRows 122 = .ok (.iload_n 2, 1) := by decide +kernel
theorem dX7_layRows_123 : decode cX7_layRows 123 = .ok (.iaload, 1) := by decide +kernel
theorem dX7_layRows_124 : decode cX7_layRows 124 = .ok (.istore 8, 2) := by decide +kernel
theorem dX7_layRows_126 : decode cX7_layRows 126 = .ok (.iload 8, 2) := by decide +kernel
theorem dX7_layRows_128 : decode cX7_layRows 128 = .ok (.aload_n 0, 1) := by decide +kernel
theorem dX7_layRows_129 : decode cX7_layRows 129 = .ok (.getfield 49, 3) := by decide +kernel
theorem dX7_layRows_132 : decode cX7_layRows 132 = .ok (.iload_n 2, 1) := by decide +kernel
theorem dX7_layRows_133 : decode cX7_layRows 133 = .ok (.iconst 1, 1) := by decide +kernel
theorem dX7_layRows_134 : decode cX7_layRows 134 = .ok (.iadd, 1) := by decide +kernel
theorem dX7_layRows_135 : decode cX7_layRows 135 = .ok (.iaload, 1) := by decide +kernel
theorem dX7_layRows_136 : decode cX7_layRows 136 = .ok (.if_icmp .ge 137, 3) := by decide +kernel
theorem dX7_layRows_139 : decode cX7_layRows 139 = .ok (.iconst 0, 1) := by decide +kernel
theorem dX7_layRows_140 : decode cX7_layRows 140 = .ok (.istore 9, 2) := by decide +kernel
theorem dX7_layRows_142 : decode cX7_layRows 142 = .ok (.iload 9, 2) := by decide +kernel
theorem dX7_layRows_144 : decode cX7_layRows 144 = .ok (.aload_n 0, 1) := by decide +kernel
theorem dX7_layRows_145 : decode cX7_layRows 145 = .ok (.getfield 58, 3) := by decide +kernel
theorem dX7_layRows_148 : decode cX7_layRows 148 = .ok (.iload 8, 2) := by decide +kernel
theorem dX7_layRows_150 : decode cX7_layRows 150 = .ok (.iaload, 1) := by decide +kernel
theorem dX7_layRows_151 : decode cX7_layRows 151 = .ok (.if_icmp .ge 116, 3) := by decide +kernel
theorem dX7_layRows_154 : decode cX7_layRows 154 = .ok (.aload_n 0, 1) := by decide +kernel
theorem dX7_layRows_155 : decode cX7_layRows 155 = .ok (.getfield 43, 3) := by decide +kernel
theorem dX7_layRows_158 : decode cX7_layRows 158 = .ok (.iload_n 1, 1) := by decide +kernel
theorem dX7_layRows_159 : decode cX7_layRows 159 = .ok (.iaload, 1) := by decide +kernel
theorem dX7_layRows_160 : decode cX7_layRows 160 = .ok (.aload_n 0, 1) := by decide +kernel
theorem dX7_layRows_161 : decode cX7_layRows 161 = .ok (.iload_n 1, 1) := by decide +kernel
theorem dX7_layRows_162 : decode cX7_layRows 162 = .ok (.iload 8, 2) := by decide +kernel
