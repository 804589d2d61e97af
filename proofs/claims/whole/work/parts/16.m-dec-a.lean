theorem d_GM_init_0 : decode b_GM_init 0 = .ok (.aload_n 0, 1) := by decide +kernel
theorem d_GM_init_1 : decode b_GM_init 1 = .ok (.invokespecial 1, 3) := by decide +kernel
theorem d_GM_init_4 : decode b_GM_init 4 = .ok (.aload_n 0, 1) := by decide +kernel
theorem d_GM_init_5 : decode b_GM_init 5 = .ok (.sipush 180, 3) := by decide +kernel
theorem d_GM_init_8 : decode b_GM_init 8 = .ok (.newarray .int, 2) := by decide +kernel
theorem d_GM_init_10 : decode b_GM_init 10 = .ok (.putfield 7, 3) := by decide +kernel
theorem d_GM_init_13 : decode b_GM_init 13 = .ok (.aload_n 0, 1) := by decide +kernel
theorem d_GM_init_14 : decode b_GM_init 14 = .ok (.iconst 3, 1) := by decide +kernel
theorem d_GM_init_15 : decode b_GM_init 15 = .ok (.newarray .int, 2) := by decide +kernel
theorem d_GM_init_17 : decode b_GM_init 17 = .ok (.putfield 13, 3) := by decide +kernel
theorem d_GM_init_20 : decode b_GM_init 20 = .ok (.aload_n 0, 1) := by decide +kernel
theorem d_GM_init_21 : decode b_GM_init 21 = .ok (.iconst 3, 1) := by decide +kernel
theorem d_GM_init_22 : decode b_GM_init 22 = .ok (.newarray .boolean, 2) := by decide +kernel
theorem d_GM_init_24 : decode b_GM_init 24 = .ok (.putfield 16, 3) := by decide +kernel
theorem d_GM_init_27 : decode b_GM_init 27 = .ok (.aload_n 0, 1) := by decide +kernel
theorem d_GM_init_28 : decode b_GM_init 28 = .ok (.bipush 8, 2) := by decide +kernel
theorem d_GM_init_30 : decode b_GM_init 30 = .ok (.newarray .int, 2) := by decide +kernel
theorem d_GM_init_32 : decode b_GM_init 32 = .ok (.putfield 20, 3) := by decide +kernel
theorem d_GM_init_35 : decode b_GM_init 35 = .ok (.aload_n 0, 1) := by decide +kernel
theorem d_GM_init_36 : decode b_GM_init 36 = .ok (.sipush 180, 3) := by decide +kernel
theorem d_GM_init_39 : decode b_GM_init 39 = .ok (.newarray .int, 2) := by decide +kernel
theorem d_GM_init_41 : decode b_GM_init 41 = .ok (.putfield 23, 3) := by decide +kernel
theorem d_GM_init_44 : decode b_GM_init 44 = .ok (.aload_n 0, 1) := by decide +kernel
theorem d_GM_init_45 : decode b_GM_init 45 = .ok (.sipush 180, 3) := by decide +kernel
theorem d_GM_init_48 : decode b_GM_init 48 = .ok (.newarray .int, 2) := by decide +kernel
theorem d_GM_init_50 : decode b_GM_init 50 = .ok (.putfield 26, 3) := by decide +kernel
theorem d_GM_init_53 : decode b_GM_init 53 = .ok (.aload_n 0, 1) := by decide +kernel
theorem d_GM_init_54 : decode b_GM_init 54 = .ok (.sipush 180, 3) := by decide +kernel
theorem d_GM_init_57 : decode b_GM_init 57 = .ok (.newarray .int, 2) := by decide +kernel
theorem d_GM_init_59 : decode b_GM_init 59 = .ok (.putfield 29, 3) := by decide +kernel
theorem d_GM_init_62 : decode b_GM_init 62 = .ok (.aload_n 0, 1) := by decide +kernel
theorem d_GM_init_63 : decode b_GM_init 63 = .ok (.sipush 180, 3) := by decide +kernel
theorem d_GM_init_66 : decode b_GM_init 66 = .ok (.newarray .int, 2) := by decide +kernel
theorem d_GM_init_68 : decode b_GM_init 68 = .ok (.putfield 32, 3) := by decide +kernel
theorem d_GM_init_71 : decode b_GM_init 71 = .ok (.aload_n 0, 1) := by decide +kernel
theorem d_GM_init_72 : decode b_GM_init 72 = .ok (.sipush 180, 3) := by decide +kernel
theorem d_GM_init_75 : decode b_GM_init 75 = .ok (.newarray .int, 2) := by decide +kernel
theorem d_GM_init_77 : decode b_GM_init 77 = .ok (.putfield 35, 3) := by decide +kernel
theorem d_GM_init_80 : decode b_GM_init 80 = .ok (.aload_n 0, 1) := by decide +kernel
theorem d_GM_init_81 : decode b_GM_init 81 = .ok (.bipush 26, 2) := by decide +kernel
theorem d_GM_init_83 : decode b_GM_init 83 = .ok (.newarray .int, 2) := by decide +kernel
theorem d_GM_init_85 : decode b_GM_init 85 = .ok (.putfield 38, 3) := by decide +kernel
theorem d_GM_init_88 : decode b_GM_init 88 = .ok (.aload_n 0, 1) := by decide +kernel
theorem d_GM_init_89 : decode b_GM_init 89 = .ok (.bipush 26, 2) := by decide +kernel
theorem d_GM_init_91 : decode b_GM_init 91 = .ok (.newarray .int, 2) := by decide +kernel
theorem d_GM_init_93 : decode b_GM_init 93 = .ok (.putfield 41, 3) := by decide +kernel
theorem d_GM_init_96 : decode b_GM_init 96 = .ok (.aload_n 0, 1) := by decide +kernel
theorem d_GM_init_97 : decode b_GM_init 97 = .ok (.bipush 8, 2) := by decide +kernel
theorem d_GM_init_99 : decode b_GM_init 99 = .ok (.newarray .int, 2) := by decide +kernel
theorem d_GM_init_101 : decode b_GM_init 101 = .ok (.putfield 44, 3) := by decide +kernel
theorem d_GM_init_104 : decode b_GM_init 104 = .ok (.aload_n 0, 1) := by decide +kernel
theorem d_GM_init_105 : decode b_GM_init 105 = .ok (.bipush 24, 2) := by decide +kernel
theorem d_GM_init_107 : decode b_GM_init 107 = .ok (.newarray .long, 2) := by decide +kernel
theorem d_GM_init_109 : decode b_GM_init 109 = .ok (.putfield 47, 3) := by decide +kernel
theorem d_GM_init_112 : decode b_GM_init 112 = .ok (.aload_n 0, 1) := by decide +kernel
theorem d_GM_init_113 : decode b_GM_init 113 = .ok (.bipush 26, 2) := by decide +kernel
theorem d_GM_init_115 : decode b_GM_init 115 = .ok (.newarray .int, 2) := by decide +kernel
theorem d_GM_init_117 : decode b_GM_init 117 = .ok (.putfield 51, 3) := by decide +kernel
theorem d_GM_init_120 : decode b_GM_init 120 = .ok (.aload_n 0, 1) := by decide +kernel
theorem d_GM_init_121 : decode b_GM_init 121 = .ok (.bipush 8, 2) := by decide +kernel
theorem d_GM_init_123 : decode b_GM_init 123 = .ok (.newarray .int, 2) := by decide +kernel
theorem d_GM_init_125 : decode b_GM_init 125 = .ok (.putfield 54, 3) := by decide +kernel
theorem d_GM_init_128 : decode b_GM_init 128 = .ok (.aload_n 0, 1) := by decide +kernel
theorem d_GM_init_129 : decode b_GM_init 129 = .ok (.bipush 8, 2) := by decide +kernel
theorem d_GM_init_131 : decode b_GM_init 131 = .ok (.newarray .int, 2) := by decide +kernel
theorem d_GM_init_133 : decode b_GM_init 133 = .ok (.putfield 57, 3) := by decide +kernel
theorem d_GM_init_136 : decode b_GM_init 136 = .ok (.aload_n 0, 1) := by decide +kernel
theorem d_GM_init_137 : decode b_GM_init 137 = .ok (.bipush 8, 2) := by decide +kernel
theorem d_GM_init_139 : decode b_GM_init 139 = .ok (.newarray .int, 2) := by decide +kernel
theorem d_GM_init_141 : decode b_GM_init 141 = .ok (.putfield 60, 3) := by decide +kernel
theorem d_GM_init_144 : decode b_GM_init 144 = .ok (.aload_n 0, 1) := by decide +kernel
theorem d_GM_init_145 : decode b_GM_init 145 = .ok (.bipush 60, 2) := by decide +kernel
theorem d_GM_init_147 : decode b_GM_init 147 = .ok (.newarray .int, 2) := by decide +kernel
theorem d_GM_init_149 : decode b_GM_init 149 = .ok (.putfield 63, 3) := by decide +kernel
theorem d_GM_init_152 : decode b_GM_init 152 = .ok (.iconst 0, 1) := by decide +kernel
theorem d_GM_init_153 : decode b_GM_init 153 = .ok (.istore_n 1, 1) := by decide +kernel
theorem d_GM_init_154 : decode b_GM_init 154 = .ok (.iload_n 1, 1) := by decide +kernel
theorem d_GM_init_155 : decode b_GM_init 155 = .ok (.iconst 3, 1) := by decide +kernel
theorem d_GM_init_156 : decode b_GM_init 156 = .ok (.if_icmp .ge 16, 3) := by decide +kernel
theorem d_GM_init_159 : decode b_GM_init 159 = .ok (.aload_n 0, 1) := by decide +kernel
theorem d_GM_init_160 : decode b_GM_init 160 = .ok (.getfield 16, 3) := by decide +kernel
theorem d_GM_init_163 : decode b_GM_init 163 = .ok (.iload_n 1, 1) := by decide +kernel
theorem d_GM_init_164 : decode b_GM_init 164 = .ok (.iconst 1, 1) := by decide +kernel
theorem d_GM_init_165 : decode b_GM_init 165 = .ok (.bastore, 1) := by decide +kernel
theorem d_GM_init_166 : decode b_GM_init 166 = .ok (.iinc 1 1, 3) := by decide +kernel
theorem d_GM_init_169 : decode b_GM_init 169 = .ok (.goto (-15), 3) := by decide +kernel
theorem d_GM_init_172 : decode b_GM_init 172 = .ok (.return_, 1) := by decide +kernel
theorem d_GM_in_0 : decode b_GM_in 0 = .ok (.iload_n 0, 1) := by decide +kernel
theorem d_GM_in_1 : decode b_GM_in 1 = .ok (.iload_n 1, 1) := by decide +kernel
theorem d_GM_in_2 : decode b_GM_in 2 = .ok (.if_icmp .lt 12, 3) := by decide +kernel
theorem d_GM_in_5 : decode b_GM_in 5 = .ok (.iload_n 0, 1) := by decide +kernel
theorem d_GM_in_6 : decode b_GM_in 6 = .ok (.iload_n 2, 1) := by decide +kernel
theorem d_GM_in_7 : decode b_GM_in 7 = .ok (.if_icmp .gt 7, 3) := by decide +kernel
theorem d_GM_in_10 : decode b_GM_in 10 = .ok (.iconst 1, 1) := by decide +kernel
theorem d_GM_in_11 : decode b_GM_in 11 = .ok (.goto 4, 3) := by decide +kernel
theorem d_GM_in_14 : decode b_GM_in 14 = .ok (.iconst 0, 1) := by decide +kernel
theorem d_GM_in_15 : decode b_GM_in 15 = .ok (.ireturn, 1) := by decide +kernel
theorem d_GM_unlink_0 : decode b_GM_unlink 0 = .ok (.aload_n 0, 1) := by decide +kernel
theorem d_GM_unlink_1 : decode b_GM_unlink 1 = .ok (.iconst 0, 1) := by decide +kernel
theorem d_GM_unlink_2 : decode b_GM_unlink 2 = .ok (.putfield 66, 3) := by decide +kernel
theorem d_GM_unlink_5 : decode b_GM_unlink 5 = .ok (.aload_n 0, 1) := by decide +kernel
theorem d_GM_unlink_6 : decode b_GM_unlink 6 = .ok (.iconst 0, 1) := by decide +kernel
theorem d_GM_unlink_7 : decode b_GM_unlink 7 = .ok (.putfield 70, 3) := by decide +kernel
theorem d_GM_unlink_10 : decode b_GM_unlink 10 = .ok (.return_, 1) := by decide +kernel
theorem d_GM_sign_0 : decode b_GM_sign 0 = .ok (.iload_n 1, 1) := by decide +kernel
theorem d_GM_sign_1 : decode b_GM_sign 1 = .ok (.iconst 0, 1) := by decide +kernel
theorem d_GM_sign_2 : decode b_GM_sign 2 = .ok (.iconst 2, 1) := by decide +kernel
theorem d_GM_sign_3 : decode b_GM_sign 3 = .ok (.invokestatic 73, 3) := by decide +kernel
theorem d_GM_sign_6 : decode b_GM_sign 6 = .ok (.ifCond .eq 25, 3) := by decide +kernel
theorem d_GM_sign_9 : decode b_GM_sign 9 = .ok (.iload_n 2, 1) := by decide +kernel
theorem d_GM_sign_10 : decode b_GM_sign 10 = .ok (.bipush 33, 2) := by decide +kernel
theorem d_GM_sign_12 : decode b_GM_sign 12 = .ok (.bipush 126, 2) := by decide +kernel
theorem d_GM_sign_14 : decode b_GM_sign 14 = .ok (.invokestatic 73, 3) := by decide +kernel
theorem d_GM_sign_17 : decode b_GM_sign 17 = .ok (.ifCond .eq 14, 3) := by decide +kernel
theorem d_GM_sign_20 : decode b_GM_sign 20 = .ok (.aload_n 0, 1) := by decide +kernel
theorem d_GM_sign_21 : decode b_GM_sign 21 = .ok (.getfield 13, 3) := by decide +kernel
theorem d_GM_sign_24 : decode b_GM_sign 24 = .ok (.iload_n 1, 1) := by decide +kernel
theorem d_GM_sign_25 : decode b_GM_sign 25 = .ok (.iaload, 1) := by decide +kernel
theorem d_GM_sign_26 : decode b_GM_sign 26 = .ok (.bipush 60, 2) := by decide +kernel
theorem d_GM_sign_28 : decode b_GM_sign 28 = .ok (.if_icmp .ne 5, 3) := by decide +kernel
theorem d_GM_sign_31 : decode b_GM_sign 31 = .ok (.iconst (-1), 1) := by decide +kernel
theorem d_GM_sign_32 : decode b_GM_sign 32 = .ok (.ireturn, 1) := by decide +kernel
theorem d_GM_sign_33 : decode b_GM_sign 33 = .ok (.aload_n 0, 1) := by decide +kernel
theorem d_GM_sign_34 : decode b_GM_sign 34 = .ok (.getfield 7, 3) := by decide +kernel
theorem d_GM_sign_37 : decode b_GM_sign 37 = .ok (.bipush 60, 2) := by decide +kernel
theorem d_GM_sign_39 : decode b_GM_sign 39 = .ok (.iload_n 1, 1) := by decide +kernel
theorem d_GM_sign_40 : decode b_GM_sign 40 = .ok (.imul, 1) := by decide +kernel
theorem d_GM_sign_41 : decode b_GM_sign 41 = .ok (.aload_n 0, 1) := by decide +kernel
theorem d_GM_sign_42 : decode b_GM_sign 42 = .ok (.getfield 13, 3) := by decide +kernel
theorem d_GM_sign_45 : decode b_GM_sign 45 = .ok (.iload_n 1, 1) := by decide +kernel
theorem d_GM_sign_46 : decode b_GM_sign 46 = .ok (.iaload, 1) := by decide +kernel
theorem d_GM_sign_47 : decode b_GM_sign 47 = .ok (.iadd, 1) := by decide +kernel
theorem d_GM_sign_48 : decode b_GM_sign 48 = .ok (.iload_n 2, 1) := by decide +kernel
theorem d_GM_sign_49 : decode b_GM_sign 49 = .ok (.iastore, 1) := by decide +kernel
theorem d_GM_sign_50 : decode b_GM_sign 50 = .ok (.aload_n 0, 1) := by decide +kernel
theorem d_GM_sign_51 : decode b_GM_sign 51 = .ok (.getfield 13, 3) := by decide +kernel
theorem d_GM_sign_54 : decode b_GM_sign 54 = .ok (.iload_n 1, 1) := by decide +kernel
theorem d_GM_sign_55 : decode b_GM_sign 55 = .ok (.dup2, 1) := by decide +kernel
theorem d_GM_sign_56 : decode b_GM_sign 56 = .ok (.iaload, 1) := by decide +kernel
theorem d_GM_sign_57 : decode b_GM_sign 57 = .ok (.iconst 1, 1) := by decide +kernel
theorem d_GM_sign_58 : decode b_GM_sign 58 = .ok (.iadd, 1) := by decide +kernel
theorem d_GM_sign_59 : decode b_GM_sign 59 = .ok (.iastore, 1) := by decide +kernel
theorem d_GM_sign_60 : decode b_GM_sign 60 = .ok (.aload_n 0, 1) := by decide +kernel
theorem d_GM_sign_61 : decode b_GM_sign 61 = .ok (.getfield 16, 3) := by decide +kernel
theorem d_GM_sign_64 : decode b_GM_sign 64 = .ok (.iload_n 1, 1) := by decide +kernel
theorem d_GM_sign_65 : decode b_GM_sign 65 = .ok (.iconst 0, 1) := by decide +kernel
theorem d_GM_sign_66 : decode b_GM_sign 66 = .ok (.bastore, 1) := by decide +kernel
theorem d_GM_sign_67 : decode b_GM_sign 67 = .ok (.aload_n 0, 1) := by decide +kernel
theorem d_GM_sign_68 : decode b_GM_sign 68 = .ok (.invokevirtual 77, 3) := by decide +kernel
theorem d_GM_sign_71 : decode b_GM_sign 71 = .ok (.aload_n 0, 1) := by decide +kernel
theorem d_GM_sign_72 : decode b_GM_sign 72 = .ok (.getfield 13, 3) := by decide +kernel
theorem d_GM_sign_75 : decode b_GM_sign 75 = .ok (.iload_n 1, 1) := by decide +kernel
theorem d_GM_sign_76 : decode b_GM_sign 76 = .ok (.iaload, 1) := by decide +kernel
theorem d_GM_sign_77 : decode b_GM_sign 77 = .ok (.ireturn, 1) := by decide +kernel
theorem d_GM_clear_0 : decode b_GM_clear 0 = .ok (.iload_n 1, 1) := by decide +kernel
theorem d_GM_clear_1 : decode b_GM_clear 1 = .ok (.iconst 0, 1) := by decide +kernel
theorem d_GM_clear_2 : decode b_GM_clear 2 = .ok (.iconst 2, 1) := by decide +kernel
theorem d_GM_clear_3 : decode b_GM_clear 3 = .ok (.invokestatic 73, 3) := by decide +kernel
theorem d_GM_clear_6 : decode b_GM_clear 6 = .ok (.ifCond .ne 5, 3) := by decide +kernel
theorem d_GM_clear_9 : decode b_GM_clear 9 = .ok (.iconst (-1), 1) := by decide +kernel
theorem d_GM_clear_10 : decode b_GM_clear 10 = .ok (.ireturn, 1) := by decide +kernel
theorem d_GM_clear_11 : decode b_GM_clear 11 = .ok (.aload_n 0, 1) := by decide +kernel
theorem d_GM_clear_12 : decode b_GM_clear 12 = .ok (.getfield 13, 3) := by decide +kernel
theorem d_GM_clear_15 : decode b_GM_clear 15 = .ok (.iload_n 1, 1) := by decide +kernel
theorem d_GM_clear_16 : decode b_GM_clear 16 = .ok (.iconst 0, 1) := by decide +kernel
theorem d_GM_clear_17 : decode b_GM_clear 17 = .ok (.iastore, 1) := by decide +kernel
theorem d_GM_clear_18 : decode b_GM_clear 18 = .ok (.aload_n 0, 1) := by decide +kernel
theorem d_GM_clear_19 : decode b_GM_clear 19 = .ok (.getfield 16, 3) := by decide +kernel
theorem d_GM_clear_22 : decode b_GM_clear 22 = .ok (.iload_n 1, 1) := by decide +kernel
theorem d_GM_clear_23 : decode b_GM_clear 23 = .ok (.iconst 1, 1) := by decide +kernel
theorem d_GM_clear_24 : decode b_GM_clear 24 = .ok (.bastore, 1) := by decide +kernel
theorem d_GM_clear_25 : decode b_GM_clear 25 = .ok (.aload_n 0, 1) := by decide +kernel
theorem d_GM_clear_26 : decode b_GM_clear 26 = .ok (.invokevirtual 77, 3) := by decide +kernel
theorem d_GM_clear_29 : decode b_GM_clear 29 = .ok (.iconst 0, 1) := by decide +kernel
theorem d_GM_clear_30 : decode b_GM_clear 30 = .ok (.ireturn, 1) := by decide +kernel
theorem d_GM_isVariable_0 : decode b_GM_isVariable 0 = .ok (.iload_n 0, 1) := by decide +kernel
theorem d_GM_isVariable_1 : decode b_GM_isVariable 1 = .ok (.bipush 97, 2) := by decide +kernel
theorem d_GM_isVariable_3 : decode b_GM_isVariable 3 = .ok (.bipush 104, 2) := by decide +kernel
theorem d_GM_isVariable_5 : decode b_GM_isVariable 5 = .ok (.invokestatic 73, 3) := by decide +kernel
theorem d_GM_isVariable_8 : decode b_GM_isVariable 8 = .ok (.ireturn, 1) := by decide +kernel
theorem d_GM_isLetter_0 : decode b_GM_isLetter 0 = .ok (.iload_n 0, 1) := by decide +kernel
theorem d_GM_isLetter_1 : decode b_GM_isLetter 1 = .ok (.bipush 65, 2) := by decide +kernel
theorem d_GM_isLetter_3 : decode b_GM_isLetter 3 = .ok (.bipush 90, 2) := by decide +kernel
theorem d_GM_isLetter_5 : decode b_GM_isLetter 5 = .ok (.invokestatic 73, 3) := by decide +kernel
theorem d_GM_isLetter_8 : decode b_GM_isLetter 8 = .ok (.ireturn, 1) := by decide +kernel
theorem d_GM_isOperator_0 : decode b_GM_isOperator 0 = .ok (.iload_n 0, 1) := by decide +kernel
theorem d_GM_isOperator_1 : decode b_GM_isOperator 1 = .ok (.bipush 43, 2) := by decide +kernel
theorem d_GM_isOperator_3 : decode b_GM_isOperator 3 = .ok (.if_icmp .eq 39, 3) := by decide +kernel
theorem d_GM_isOperator_6 : decode b_GM_isOperator 6 = .ok (.iload_n 0, 1) := by decide +kernel
theorem d_GM_isOperator_7 : decode b_GM_isOperator 7 = .ok (.bipush 45, 2) := by decide +kernel
theorem d_GM_isOperator_9 : decode b_GM_isOperator 9 = .ok (.if_icmp .eq 33, 3) := by decide +kernel
theorem d_GM_isOperator_12 : decode b_GM_isOperator 12 = .ok (.iload_n 0, 1) := by decide +kernel
theorem d_GM_isOperator_13 : decode b_GM_isOperator 13 = .ok (.bipush 38, 2) := by decide +kernel
theorem d_GM_isOperator_15 : decode b_GM_isOperator 15 = .ok (.if_icmp .eq 27, 3) := by decide +kernel
theorem d_GM_isOperator_18 : decode b_GM_isOperator 18 = .ok (.iload_n 0, 1) := by decide +kernel
theorem d_GM_isOperator_19 : decode b_GM_isOperator 19 = .ok (.bipush 124, 2) := by decide +kernel
theorem d_GM_isOperator_21 : decode b_GM_isOperator 21 = .ok (.if_icmp .eq 21, 3) := by decide +kernel
theorem d_GM_isOperator_24 : decode b_GM_isOperator 24 = .ok (.iload_n 0, 1) := by decide +kernel
theorem d_GM_isOperator_25 : decode b_GM_isOperator 25 = .ok (.bipush 94, 2) := by decide +kernel
theorem d_GM_isOperator_27 : decode b_GM_isOperator 27 = .ok (.if_icmp .eq 15, 3) := by decide +kernel
theorem d_GM_isOperator_30 : decode b_GM_isOperator 30 = .ok (.iload_n 0, 1) := by decide +kernel
theorem d_GM_isOperator_31 : decode b_GM_isOperator 31 = .ok (.bipush 60, 2) := by decide +kernel
theorem d_GM_isOperator_33 : decode b_GM_isOperator 33 = .ok (.if_icmp .eq 9, 3) := by decide +kernel
theorem d_GM_isOperator_36 : decode b_GM_isOperator 36 = .ok (.iload_n 0, 1) := by decide +kernel
theorem d_GM_isOperator_37 : decode b_GM_isOperator 37 = .ok (.bipush 61, 2) := by decide +kernel
theorem d_GM_isOperator_39 : decode b_GM_isOperator 39 = .ok (.if_icmp .ne 7, 3) := by decide +kernel
theorem d_GM_isOperator_42 : decode b_GM_isOperator 42 = .ok (.iconst 1, 1) := by decide +kernel
theorem d_GM_isOperator_43 : decode b_GM_isOperator 43 = .ok (.goto 4, 3) := by decide +kernel
theorem d_GM_isOperator_46 : decode b_GM_isOperator 46 = .ok (.iconst 0, 1) := by decide +kernel
theorem d_GM_isOperator_47 : decode b_GM_isOperator 47 = .ok (.ireturn, 1) := by decide +kernel
theorem d_GM_push_0 : decode b_GM_push 0 = .ok (.aload_n 0, 1) := by decide +kernel
theorem d_GM_push_1 : decode b_GM_push 1 = .ok (.getfield 80, 3) := by decide +kernel
theorem d_GM_push_4 : decode b_GM_push 4 = .ok (.bipush 6, 2) := by decide +kernel
theorem d_GM_push_6 : decode b_GM_push 6 = .ok (.if_icmp .ne 5, 3) := by decide +kernel
theorem d_GM_push_9 : decode b_GM_push 9 = .ok (.iconst 0, 1) := by decide +kernel
theorem d_GM_push_10 : decode b_GM_push 10 = .ok (.ireturn, 1) := by decide +kernel
theorem d_GM_push_11 : decode b_GM_push 11 = .ok (.aload_n 0, 1) := by decide +kernel
theorem d_GM_push_12 : decode b_GM_push 12 = .ok (.getfield 20, 3) := by decide +kernel
theorem d_GM_push_15 : decode b_GM_push 15 = .ok (.aload_n 0, 1) := by decide +kernel
theorem d_GM_push_16 : decode b_GM_push 16 = .ok (.getfield 80, 3) := by decide +kernel
theorem d_GM_push_19 : decode b_GM_push 19 = .ok (.iload_n 1, 1) := by decide +kernel
theorem d_GM_push_20 : decode b_GM_push 20 = .ok (.iastore, 1) := by decide +kernel
theorem d_GM_push_21 : decode b_GM_push 21 = .ok (.aload_n 0, 1) := by decide +kernel
theorem d_GM_push_22 : decode b_GM_push 22 = .ok (.dup, 1) := by decide +kernel
theorem d_GM_push_23 : decode b_GM_push 23 = .ok (.getfield 80, 3) := by decide +kernel
theorem d_GM_push_26 : decode b_GM_push 26 = .ok (.iconst 1, 1) := by decide +kernel
theorem d_GM_push_27 : decode b_GM_push 27 = .ok (.iadd, 1) := by decide +kernel
theorem d_GM_push_28 : decode b_GM_push 28 = .ok (.putfield 80, 3) := by decide +kernel
theorem d_GM_push_31 : decode b_GM_push 31 = .ok (.aload_n 0, 1) := by decide +kernel
theorem d_GM_push_32 : decode b_GM_push 32 = .ok (.iload_n 2, 1) := by decide +kernel
theorem d_GM_push_33 : decode b_GM_push 33 = .ok (.putfield 84, 3) := by decide +kernel
theorem d_GM_push_36 : decode b_GM_push 36 = .ok (.iconst 1, 1) := by decide +kernel
theorem d_GM_push_37 : decode b_GM_push 37 = .ok (.ireturn, 1) := by decide +kernel
theorem d_GM_operandEnds_0 : decode b_GM_operandEnds 0 = .ok (.aload_n 0, 1) := by decide +kernel
theorem d_GM_operandEnds_1 : decode b_GM_operandEnds 1 = .ok (.getfield 80, 3) := by decide +kernel
theorem d_GM_operandEnds_4 : decode b_GM_operandEnds 4 = .ok (.ifCond .le 31, 3) := by decide +kernel
theorem d_GM_operandEnds_7 : decode b_GM_operandEnds 7 = .ok (.aload_n 0, 1) := by decide +kernel
theorem d_GM_operandEnds_8 : decode b_GM_operandEnds 8 = .ok (.getfield 20, 3) := by decide +kernel
theorem d_GM_operandEnds_11 : decode b_GM_operandEnds 11 = .ok (.aload_n 0, 1) := by decide +kernel
theorem d_GM_operandEnds_12 : decode b_GM_operandEnds 12 = .ok (.getfield 80, 3) := by decide +kernel
theorem d_GM_operandEnds_15 : decode b_GM_operandEnds 15 = .ok (.iconst 1, 1) := by decide +kernel
theorem d_GM_operandEnds_16 : decode b_GM_operandEnds 16 = .ok (.isub, 1) := by decide +kernel
theorem d_GM_operandEnds_17 : decode b_GM_operandEnds 17 = .ok (.iaload, 1) := by decide +kernel
theorem d_GM_operandEnds_18 : decode b_GM_operandEnds 18 = .ok (.iconst 2, 1) := by decide +kernel
theorem d_GM_operandEnds_19 : decode b_GM_operandEnds 19 = .ok (.if_icmp .ne 16, 3) := by decide +kernel
theorem d_GM_operandEnds_22 : decode b_GM_operandEnds 22 = .ok (.aload_n 0, 1) := by decide +kernel
theorem d_GM_operandEnds_23 : decode b_GM_operandEnds 23 = .ok (.dup, 1) := by decide +kernel
theorem d_GM_operandEnds_24 : decode b_GM_operandEnds 24 = .ok (.getfield 80, 3) := by decide +kernel
theorem d_GM_operandEnds_27 : decode b_GM_operandEnds 27 = .ok (.iconst 1, 1) := by decide +kernel
theorem d_GM_operandEnds_28 : decode b_GM_operandEnds 28 = .ok (.isub, 1) := by decide +kernel
theorem d_GM_operandEnds_29 : decode b_GM_operandEnds 29 = .ok (.putfield 80, 3) := by decide +kernel
theorem d_GM_operandEnds_32 : decode b_GM_operandEnds 32 = .ok (.goto (-32), 3) := by decide +kernel
theorem d_GM_operandEnds_35 : decode b_GM_operandEnds 35 = .ok (.aload_n 0, 1) := by decide +kernel
theorem d_GM_operandEnds_36 : decode b_GM_operandEnds 36 = .ok (.iconst 5, 1) := by decide +kernel
theorem d_GM_operandEnds_37 : decode b_GM_operandEnds 37 = .ok (.putfield 84, 3) := by decide +kernel
theorem d_GM_operandEnds_40 : decode b_GM_operandEnds 40 = .ok (.return_, 1) := by decide +kernel
theorem d_GM_atStatement_0 : decode b_GM_atStatement 0 = .ok (.aload_n 0, 1) := by decide +kernel
theorem d_GM_atStatement_1 : decode b_GM_atStatement 1 = .ok (.getfield 87, 3) := by decide +kernel
theorem d_GM_atStatement_4 : decode b_GM_atStatement 4 = .ok (.istore_n 2, 1) := by decide +kernel
theorem d_GM_atStatement_5 : decode b_GM_atStatement 5 = .ok (.aload_n 0, 1) := by decide +kernel
theorem d_GM_atStatement_6 : decode b_GM_atStatement 6 = .ok (.iconst 0, 1) := by decide +kernel
theorem d_GM_atStatement_7 : decode b_GM_atStatement 7 = .ok (.putfield 87, 3) := by decide +kernel
theorem d_GM_atStatement_10 : decode b_GM_atStatement 10 = .ok (.iload_n 1, 1) := by decide +kernel
theorem d_GM_atStatement_11 : decode b_GM_atStatement 11 = .ok (.bipush 58, 2) := by decide +kernel
theorem d_GM_atStatement_13 : decode b_GM_atStatement 13 = .ok (.if_icmp .ne 19, 3) := by decide +kernel
theorem d_GM_atStatement_16 : decode b_GM_atStatement 16 = .ok (.iload_n 2, 1) := by decide +kernel
theorem d_GM_atStatement_17 : decode b_GM_atStatement 17 = .ok (.ifCond .eq 15, 3) := by decide +kernel
theorem d_GM_atStatement_20 : decode b_GM_atStatement 20 = .ok (.aload_n 0, 1) := by decide +kernel
theorem d_GM_atStatement_21 : decode b_GM_atStatement 21 = .ok (.iconst 5, 1) := by decide +kernel
theorem d_GM_atStatement_22 : decode b_GM_atStatement 22 = .ok (.putfield 90, 3) := by decide +kernel
theorem d_GM_atStatement_25 : decode b_GM_atStatement 25 = .ok (.aload_n 0, 1) := by decide +kernel
theorem d_GM_atStatement_26 : decode b_GM_atStatement 26 = .ok (.iconst 1, 1) := by decide +kernel
theorem d_GM_atStatement_27 : decode b_GM_atStatement 27 = .ok (.putfield 84, 3) := by decide +kernel
theorem d_GM_atStatement_30 : decode b_GM_atStatement 30 = .ok (.iconst 1, 1) := by decide +kernel
theorem d_GM_atStatement_31 : decode b_GM_atStatement 31 = .ok (.ireturn, 1) := by decide +kernel
theorem d_GM_atStatement_32 : decode b_GM_atStatement 32 = .ok (.iload_n 1, 1) := by decide +kernel
theorem d_GM_atStatement_33 : decode b_GM_atStatement 33 = .ok (.bipush 125, 2) := by decide +kernel
theorem d_GM_atStatement_35 : decode b_GM_atStatement 35 = .ok (.if_icmp .ne 53, 3) := by decide +kernel
theorem d_GM_atStatement_38 : decode b_GM_atStatement 38 = .ok (.aload_n 0, 1) := by decide +kernel
theorem d_GM_atStatement_39 : decode b_GM_atStatement 39 = .ok (.dup, 1) := by decide +kernel
theorem d_GM_atStatement_40 : decode b_GM_atStatement 40 = .ok (.getfield 80, 3) := by decide +kernel
theorem d_GM_atStatement_43 : decode b_GM_atStatement 43 = .ok (.iconst 1, 1) := by decide +kernel
theorem d_GM_atStatement_44 : decode b_GM_atStatement 44 = .ok (.isub, 1) := by decide +kernel
theorem d_GM_atStatement_45 : decode b_GM_atStatement 45 = .ok (.putfield 80, 3) := by decide +kernel
theorem d_GM_atStatement_48 : decode b_GM_atStatement 48 = .ok (.aload_n 0, 1) := by decide +kernel
theorem d_GM_atStatement_49 : decode b_GM_atStatement 49 = .ok (.aload_n 0, 1) := by decide +kernel
theorem d_GM_atStatement_50 : decode b_GM_atStatement 50 = .ok (.getfield 20, 3) := by decide +kernel
theorem d_GM_atStatement_53 : decode b_GM_atStatement 53 = .ok (.aload_n 0, 1) := by decide +kernel
theorem d_GM_atStatement_54 : decode b_GM_atStatement 54 = .ok (.getfield 80, 3) := by decide +kernel
theorem d_GM_atStatement_57 : decode b_GM_atStatement 57 = .ok (.iaload, 1) := by decide +kernel
theorem d_GM_atStatement_58 : decode b_GM_atStatement 58 = .ok (.iconst 4, 1) := by decide +kernel
theorem d_GM_atStatement_59 : decode b_GM_atStatement 59 = .ok (.if_icmp .ne 7, 3) := by decide +kernel
theorem d_GM_atStatement_62 : decode b_GM_atStatement 62 = .ok (.iconst 1, 1) := by decide +kernel
theorem d_GM_atStatement_63 : decode b_GM_atStatement 63 = .ok (.goto 4, 3) := by decide +kernel
theorem d_GM_atStatement_66 : decode b_GM_atStatement 66 = .ok (.iconst 0, 1) := by decide +kernel
theorem d_GM_atStatement_67 : decode b_GM_atStatement 67 = .ok (.putfield 87, 3) := by decide +kernel
theorem d_GM_atStatement_70 : decode b_GM_atStatement 70 = .ok (.aload_n 0, 1) := by decide +kernel
theorem d_GM_atStatement_71 : decode b_GM_atStatement 71 = .ok (.aload_n 0, 1) := by decide +kernel
theorem d_GM_atStatement_72 : decode b_GM_atStatement 72 = .ok (.getfield 80, 3) := by decide +kernel
theorem d_GM_atStatement_75 : decode b_GM_atStatement 75 = .ok (.ifCond .ne 7, 3) := by decide +kernel
theorem d_GM_atStatement_78 : decode b_GM_atStatement 78 = .ok (.iconst 0, 1) := by decide +kernel
theorem d_GM_atStatement_79 : decode b_GM_atStatement 79 = .ok (.goto 4, 3) := by decide +kernel
theorem d_GM_atStatement_82 : decode b_GM_atStatement 82 = .ok (.iconst 2, 1) := by decide +kernel
theorem d_GM_atStatement_83 : decode b_GM_atStatement 83 = .ok (.putfield 84, 3) := by decide +kernel
theorem d_GM_atStatement_86 : decode b_GM_atStatement 86 = .ok (.iconst 1, 1) := by decide +kernel
theorem d_GM_atStatement_87 : decode b_GM_atStatement 87 = .ok (.ireturn, 1) := by decide +kernel
theorem d_GM_atStatement_88 : decode b_GM_atStatement 88 = .ok (.iload_n 1, 1) := by decide +kernel
theorem d_GM_atStatement_89 : decode b_GM_atStatement 89 = .ok (.invokestatic 93, 3) := by decide +kernel
theorem d_GM_atStatement_92 : decode b_GM_atStatement 92 = .ok (.ifCond .eq 12, 3) := by decide +kernel
theorem d_GM_atStatement_95 : decode b_GM_atStatement 95 = .ok (.aload_n 0, 1) := by decide +kernel
theorem d_GM_atStatement_96 : decode b_GM_atStatement 96 = .ok (.bipush 6, 2) := by decide +kernel
theorem d_GM_atStatement_98 : decode b_GM_atStatement 98 = .ok (.putfield 84, 3) := by decide +kernel
theorem d_GM_atStatement_101 : decode b_GM_atStatement 101 = .ok (.goto 77, 3) := by decide +kernel
theorem d_GM_atStatement_104 : decode b_GM_atStatement 104 = .ok (.iload_n 1, 1) := by decide +kernel
theorem d_GM_atStatement_105 : decode b_GM_atStatement 105 = .ok (.invokestatic 97, 3) := by decide +kernel
theorem d_GM_atStatement_108 : decode b_GM_atStatement 108 = .ok (.ifCond .eq 16, 3) := by decide +kernel
theorem d_GM_atStatement_111 : decode b_GM_atStatement 111 = .ok (.aload_n 0, 1) := by decide +kernel
theorem d_GM_atStatement_112 : decode b_GM_atStatement 112 = .ok (.iconst 0, 1) := by decide +kernel
theorem d_GM_atStatement_113 : decode b_GM_atStatement 113 = .ok (.putfield 90, 3) := by decide +kernel
theorem d_GM_atStatement_116 : decode b_GM_atStatement 116 = .ok (.aload_n 0, 1) := by decide +kernel
theorem d_GM_atStatement_117 : decode b_GM_atStatement 117 = .ok (.iconst 3, 1) := by decide +kernel
theorem d_GM_atStatement_118 : decode b_GM_atStatement 118 = .ok (.putfield 84, 3) := by decide +kernel
theorem d_GM_atStatement_121 : decode b_GM_atStatement 121 = .ok (.goto 57, 3) := by decide +kernel
theorem d_GM_atStatement_124 : decode b_GM_atStatement 124 = .ok (.iload_n 1, 1) := by decide +kernel
theorem d_GM_atStatement_125 : decode b_GM_atStatement 125 = .ok (.bipush 33, 2) := by decide +kernel
theorem d_GM_atStatement_127 : decode b_GM_atStatement 127 = .ok (.if_icmp .eq 15, 3) := by decide +kernel
theorem d_GM_atStatement_130 : decode b_GM_atStatement 130 = .ok (.iload_n 1, 1) := by decide +kernel
theorem d_GM_atStatement_131 : decode b_GM_atStatement 131 = .ok (.bipush 63, 2) := by decide +kernel
theorem d_GM_atStatement_133 : decode b_GM_atStatement 133 = .ok (.if_icmp .eq 9, 3) := by decide +kernel
theorem d_GM_atStatement_136 : decode b_GM_atStatement 136 = .ok (.iload_n 1, 1) := by decide +kernel
theorem d_GM_atStatement_137 : decode b_GM_atStatement 137 = .ok (.bipush 64, 2) := by decide +kernel
theorem d_GM_atStatement_139 : decode b_GM_atStatement 139 = .ok (.if_icmp .ne 37, 3) := by decide +kernel
theorem d_GM_atStatement_142 : decode b_GM_atStatement 142 = .ok (.aload_n 0, 1) := by decide +kernel
theorem d_GM_atStatement_143 : decode b_GM_atStatement 143 = .ok (.iload_n 1, 1) := by decide +kernel
theorem d_GM_atStatement_144 : decode b_GM_atStatement 144 = .ok (.bipush 33, 2) := by decide +kernel
theorem d_GM_atStatement_146 : decode b_GM_atStatement 146 = .ok (.if_icmp .ne 7, 3) := by decide +kernel
theorem d_GM_atStatement_149 : decode b_GM_atStatement 149 = .ok (.iconst 0, 1) := by decide +kernel
theorem d_GM_atStatement_150 : decode b_GM_atStatement 150 = .ok (.goto 15, 3) := by decide +kernel
theorem d_GM_atStatement_153 : decode b_GM_atStatement 153 = .ok (.iload_n 1, 1) := by decide +kernel
theorem d_GM_atStatement_154 : decode b_GM_atStatement 154 = .ok (.bipush 63, 2) := by decide +kernel
theorem d_GM_atStatement_156 : decode b_GM_atStatement 156 = .ok (.if_icmp .ne 7, 3) := by decide +kernel
theorem d_GM_atStatement_159 : decode b_GM_atStatement 159 = .ok (.iconst 4, 1) := by decide +kernel
theorem d_GM_atStatement_160 : decode b_GM_atStatement 160 = .ok (.goto 5, 3) := by decide +kernel
theorem d_GM_atStatement_163 : decode b_GM_atStatement 163 = .ok (.bipush 6, 2) := by decide +kernel
theorem d_GM_atStatement_165 : decode b_GM_atStatement 165 = .ok (.putfield 90, 3) := by decide +kernel
theorem d_GM_atStatement_168 : decode b_GM_atStatement 168 = .ok (.aload_n 0, 1) := by decide +kernel
theorem d_GM_atStatement_169 : decode b_GM_atStatement 169 = .ok (.iconst 4, 1) := by decide +kernel
theorem d_GM_atStatement_170 : decode b_GM_atStatement 170 = .ok (.putfield 84, 3) := by decide +kernel
theorem d_GM_atStatement_173 : decode b_GM_atStatement 173 = .ok (.goto 5, 3) := by decide +kernel
theorem d_GM_atStatement_176 : decode b_GM_atStatement 176 = .ok (.iconst 0, 1) := by decide +kernel
theorem d_GM_atStatement_177 : decode b_GM_atStatement 177 = .ok (.ireturn, 1) := by decide +kernel
theorem d_GM_atStatement_178 : decode b_GM_atStatement 178 = .ok (.iconst 1, 1) := by decide +kernel
theorem d_GM_atStatement_179 : decode b_GM_atStatement 179 = .ok (.ireturn, 1) := by decide +kernel
theorem d_GM_atOperand_0 : decode b_GM_atOperand 0 = .ok (.iload_n 1, 1) := by decide +kernel
theorem d_GM_atOperand_1 : decode b_GM_atOperand 1 = .ok (.bipush 40, 2) := by decide +kernel
theorem d_GM_atOperand_3 : decode b_GM_atOperand 3 = .ok (.if_icmp .ne 10, 3) := by decide +kernel
theorem d_GM_atOperand_6 : decode b_GM_atOperand 6 = .ok (.aload_n 0, 1) := by decide +kernel
theorem d_GM_atOperand_7 : decode b_GM_atOperand 7 = .ok (.iconst 1, 1) := by decide +kernel
theorem d_GM_atOperand_8 : decode b_GM_atOperand 8 = .ok (.iconst 4, 1) := by decide +kernel
theorem d_GM_atOperand_9 : decode b_GM_atOperand 9 = .ok (.invokevirtual 100, 3) := by decide +kernel
theorem d_GM_atOperand_12 : decode b_GM_atOperand 12 = .ok (.ireturn, 1) := by decide +kernel
theorem d_GM_atOperand_13 : decode b_GM_atOperand 13 = .ok (.iload_n 1, 1) := by decide +kernel
theorem d_GM_atOperand_14 : decode b_GM_atOperand 14 = .ok (.bipush 126, 2) := by decide +kernel
theorem d_GM_atOperand_16 : decode b_GM_atOperand 16 = .ok (.if_icmp .eq 9, 3) := by decide +kernel
theorem d_GM_atOperand_19 : decode b_GM_atOperand 19 = .ok (.iload_n 1, 1) := by decide +kernel
theorem d_GM_atOperand_20 : decode b_GM_atOperand 20 = .ok (.bipush 45, 2) := by decide +kernel
theorem d_GM_atOperand_22 : decode b_GM_atOperand 22 = .ok (.if_icmp .ne 10, 3) := by decide +kernel
theorem d_GM_atOperand_25 : decode b_GM_atOperand 25 = .ok (.aload_n 0, 1) := by decide +kernel
theorem d_GM_atOperand_26 : decode b_GM_atOperand 26 = .ok (.iconst 2, 1) := by decide +kernel
theorem d_GM_atOperand_27 : decode b_GM_atOperand 27 = .ok (.iconst 4, 1) := by decide +kernel
theorem d_GM_atOperand_28 : decode b_GM_atOperand 28 = .ok (.invokevirtual 100, 3) := by decide +kernel
theorem d_GM_atOperand_31 : decode b_GM_atOperand 31 = .ok (.ireturn, 1) := by decide +kernel
theorem d_GM_atOperand_32 : decode b_GM_atOperand 32 = .ok (.iload_n 1, 1) := by decide +kernel
theorem d_GM_atOperand_33 : decode b_GM_atOperand 33 = .ok (.bipush 48, 2) := by decide +kernel
theorem d_GM_atOperand_35 : decode b_GM_atOperand 35 = .ok (.bipush 57, 2) := by decide +kernel
theorem d_GM_atOperand_37 : decode b_GM_atOperand 37 = .ok (.invokestatic 73, 3) := by decide +kernel
theorem d_GM_atOperand_40 : decode b_GM_atOperand 40 = .ok (.istore_n 2, 1) := by decide +kernel
theorem d_GM_atOperand_41 : decode b_GM_atOperand 41 = .ok (.iload_n 2, 1) := by decide +kernel
theorem d_GM_atOperand_42 : decode b_GM_atOperand 42 = .ok (.ifCond .ne 12, 3) := by decide +kernel
theorem d_GM_atOperand_45 : decode b_GM_atOperand 45 = .ok (.iload_n 1, 1) := by decide +kernel
theorem d_GM_atOperand_46 : decode b_GM_atOperand 46 = .ok (.invokestatic 97, 3) := by decide +kernel
theorem d_GM_atOperand_49 : decode b_GM_atOperand 49 = .ok (.ifCond .ne 5, 3) := by decide +kernel
theorem d_GM_atOperand_52 : decode b_GM_atOperand 52 = .ok (.iconst 0, 1) := by decide +kernel
theorem d_GM_atOperand_53 : decode b_GM_atOperand 53 = .ok (.ireturn, 1) := by decide +kernel
theorem d_GM_atOperand_54 : decode b_GM_atOperand 54 = .ok (.aload_n 0, 1) := by decide +kernel
theorem d_GM_atOperand_55 : decode b_GM_atOperand 55 = .ok (.iload_n 2, 1) := by decide +kernel
theorem d_GM_atOperand_56 : decode b_GM_atOperand 56 = .ok (.ifCond .eq 7, 3) := by decide +kernel
theorem d_GM_atOperand_59 : decode b_GM_atOperand 59 = .ok (.iconst 1, 1) := by decide +kernel
theorem d_GM_atOperand_60 : decode b_GM_atOperand 60 = .ok (.goto 5, 3) := by decide +kernel
theorem d_GM_atOperand_63 : decode b_GM_atOperand 63 = .ok (.bipush 9, 2) := by decide +kernel
theorem d_GM_atOperand_65 : decode b_GM_atOperand 65 = .ok (.putfield 104, 3) := by decide +kernel
theorem d_GM_atOperand_68 : decode b_GM_atOperand 68 = .ok (.aload_n 0, 1) := by decide +kernel
theorem d_GM_atOperand_69 : decode b_GM_atOperand 69 = .ok (.invokevirtual 107, 3) := by decide +kernel
theorem d_GM_atOperand_72 : decode b_GM_atOperand 72 = .ok (.iconst 1, 1) := by decide +kernel
theorem d_GM_atOperand_73 : decode b_GM_atOperand 73 = .ok (.ireturn, 1) := by decide +kernel
theorem d_GM_afterOperand_0 : decode b_GM_afterOperand 0 = .ok (.iload_n 1, 1) := by decide +kernel
theorem d_GM_afterOperand_1 : decode b_GM_afterOperand 1 = .ok (.bipush 48, 2) := by decide +kernel
theorem d_GM_afterOperand_3 : decode b_GM_afterOperand 3 = .ok (.bipush 57, 2) := by decide +kernel
theorem d_GM_afterOperand_5 : decode b_GM_afterOperand 5 = .ok (.invokestatic 73, 3) := by decide +kernel
theorem d_GM_afterOperand_8 : decode b_GM_afterOperand 8 = .ok (.ifCond .eq 27, 3) := by decide +kernel
theorem d_GM_afterOperand_11 : decode b_GM_afterOperand 11 = .ok (.aload_n 0, 1) := by decide +kernel
theorem d_GM_afterOperand_12 : decode b_GM_afterOperand 12 = .ok (.dup, 1) := by decide +kernel
theorem d_GM_afterOperand_13 : decode b_GM_afterOperand 13 = .ok (.getfield 104, 3) := by decide +kernel
theorem d_GM_afterOperand_16 : decode b_GM_afterOperand 16 = .ok (.iconst 1, 1) := by decide +kernel
theorem d_GM_afterOperand_17 : decode b_GM_afterOperand 17 = .ok (.iadd, 1) := by decide +kernel
theorem d_GM_afterOperand_18 : decode b_GM_afterOperand 18 = .ok (.putfield 104, 3) := by decide +kernel
theorem d_GM_afterOperand_21 : decode b_GM_afterOperand 21 = .ok (.aload_n 0, 1) := by decide +kernel
theorem d_GM_afterOperand_22 : decode b_GM_afterOperand 22 = .ok (.getfield 104, 3) := by decide +kernel
theorem d_GM_afterOperand_25 : decode b_GM_afterOperand 25 = .ok (.iconst 4, 1) := by decide +kernel
theorem d_GM_afterOperand_26 : decode b_GM_afterOperand 26 = .ok (.if_icmp .gt 7, 3) := by decide +kernel
theorem d_GM_afterOperand_29 : decode b_GM_afterOperand 29 = .ok (.iconst 1, 1) := by decide +kernel
theorem d_GM_afterOperand_30 : decode b_GM_afterOperand 30 = .ok (.goto 4, 3) := by decide +kernel
theorem d_GM_afterOperand_33 : decode b_GM_afterOperand 33 = .ok (.iconst 0, 1) := by decide +kernel
theorem d_GM_afterOperand_34 : decode b_GM_afterOperand 34 = .ok (.ireturn, 1) := by decide +kernel
theorem d_GM_afterOperand_35 : decode b_GM_afterOperand 35 = .ok (.aload_n 0, 1) := by decide +kernel
theorem d_GM_afterOperand_36 : decode b_GM_afterOperand 36 = .ok (.getfield 20, 3) := by decide +kernel
theorem d_GM_afterOperand_39 : decode b_GM_afterOperand 39 = .ok (.aload_n 0, 1) := by decide +kernel
theorem d_GM_afterOperand_40 : decode b_GM_afterOperand 40 = .ok (.getfield 80, 3) := by decide +kernel
theorem d_GM_afterOperand_43 : decode b_GM_afterOperand 43 = .ok (.iconst 1, 1) := by decide +kernel
theorem d_GM_afterOperand_44 : decode b_GM_afterOperand 44 = .ok (.isub, 1) := by decide +kernel
theorem d_GM_afterOperand_45 : decode b_GM_afterOperand 45 = .ok (.iaload, 1) := by decide +kernel
theorem d_GM_afterOperand_46 : decode b_GM_afterOperand 46 = .ok (.iconst 1, 1) := by decide +kernel
theorem d_GM_afterOperand_47 : decode b_GM_afterOperand 47 = .ok (.if_icmp .ne 7, 3) := by decide +kernel
theorem d_GM_afterOperand_50 : decode b_GM_afterOperand 50 = .ok (.iconst 1, 1) := by decide +kernel
theorem d_GM_afterOperand_51 : decode b_GM_afterOperand 51 = .ok (.goto 4, 3) := by decide +kernel
theorem d_GM_afterOperand_54 : decode b_GM_afterOperand 54 = .ok (.iconst 0, 1) := by decide +kernel
theorem d_GM_afterOperand_55 : decode b_GM_afterOperand 55 = .ok (.istore_n 2, 1) := by decide +kernel
theorem d_GM_afterOperand_56 : decode b_GM_afterOperand 56 = .ok (.iload_n 1, 1) := by decide +kernel
theorem d_GM_afterOperand_57 : decode b_GM_afterOperand 57 = .ok (.invokestatic 110, 3) := by decide +kernel
theorem d_GM_afterOperand_60 : decode b_GM_afterOperand 60 = .ok (.ifCond .eq 11, 3) := by decide +kernel
theorem d_GM_afterOperand_63 : decode b_GM_afterOperand 63 = .ok (.aload_n 0, 1) := by decide +kernel
theorem d_GM_afterOperand_64 : decode b_GM_afterOperand 64 = .ok (.iconst 4, 1) := by decide +kernel
theorem d_GM_afterOperand_65 : decode b_GM_afterOperand 65 = .ok (.putfield 84, 3) := by decide +kernel
theorem d_GM_afterOperand_68 : decode b_GM_afterOperand 68 = .ok (.goto 96, 3) := by decide +kernel
theorem d_GM_afterOperand_71 : decode b_GM_afterOperand 71 = .ok (.iload_n 1, 1) := by decide +kernel
theorem d_GM_afterOperand_72 : decode b_GM_afterOperand 72 = .ok (.bipush 41, 2) := by decide +kernel
theorem d_GM_afterOperand_74 : decode b_GM_afterOperand 74 = .ok (.if_icmp .ne 30, 3) := by decide +kernel
theorem d_GM_afterOperand_77 : decode b_GM_afterOperand 77 = .ok (.iload_n 2, 1) := by decide +kernel
theorem d_GM_afterOperand_78 : decode b_GM_afterOperand 78 = .ok (.ifCond .eq 26, 3) := by decide +kernel
theorem d_GM_afterOperand_81 : decode b_GM_afterOperand 81 = .ok (.aload_n 0, 1) := by decide +kernel
theorem d_GM_afterOperand_82 : decode b_GM_afterOperand 82 = .ok (.dup, 1) := by decide +kernel
theorem d_GM_afterOperand_83 : decode b_GM_afterOperand 83 = .ok (.getfield 80, 3) := by decide +kernel
theorem d_GM_afterOperand_86 : decode b_GM_afterOperand 86 = .ok (.iconst 1, 1) := by decide +kernel
theorem d_GM_afterOperand_87 : decode b_GM_afterOperand 87 = .ok (.isub, 1) := by decide +kernel
theorem d_GM_afterOperand_88 : decode b_GM_afterOperand 88 = .ok (.putfield 80, 3) := by decide +kernel
theorem d_GM_afterOperand_91 : decode b_GM_afterOperand 91 = .ok (.aload_n 0, 1) := by decide +kernel
theorem d_GM_afterOperand_92 : decode b_GM_afterOperand 92 = .ok (.bipush 9, 2) := by decide +kernel
theorem d_GM_afterOperand_94 : decode b_GM_afterOperand 94 = .ok (.putfield 104, 3) := by decide +kernel
theorem d_GM_afterOperand_97 : decode b_GM_afterOperand 97 = .ok (.aload_n 0, 1) := by decide +kernel
theorem d_GM_afterOperand_98 : decode b_GM_afterOperand 98 = .ok (.invokevirtual 107, 3) := by decide +kernel
theorem d_GM_afterOperand_101 : decode b_GM_afterOperand 101 = .ok (.goto 63, 3) := by decide +kernel
theorem d_GM_afterOperand_104 : decode b_GM_afterOperand 104 = .ok (.iload_n 1, 1) := by decide +kernel
theorem d_GM_afterOperand_105 : decode b_GM_afterOperand 105 = .ok (.bipush 59, 2) := by decide +kernel
theorem d_GM_afterOperand_107 : decode b_GM_afterOperand 107 = .ok (.if_icmp .ne 22, 3) := by decide +kernel
theorem d_GM_afterOperand_110 : decode b_GM_afterOperand 110 = .ok (.iload_n 2, 1) := by decide +kernel
theorem d_GM_afterOperand_111 : decode b_GM_afterOperand 111 = .ok (.ifCond .ne 18, 3) := by decide +kernel
theorem d_GM_afterOperand_114 : decode b_GM_afterOperand 114 = .ok (.aload_n 0, 1) := by decide +kernel
theorem d_GM_afterOperand_115 : decode b_GM_afterOperand 115 = .ok (.getfield 90, 3) := by decide +kernel
theorem d_GM_afterOperand_118 : decode b_GM_afterOperand 118 = .ok (.ifCond .ne 11, 3) := by decide +kernel
theorem d_GM_afterOperand_121 : decode b_GM_afterOperand 121 = .ok (.aload_n 0, 1) := by decide +kernel
theorem d_GM_afterOperand_122 : decode b_GM_afterOperand 122 = .ok (.iconst 2, 1) := by decide +kernel
theorem d_GM_afterOperand_123 : decode b_GM_afterOperand 123 = .ok (.putfield 84, 3) := by decide +kernel
theorem d_GM_afterOperand_126 : decode b_GM_afterOperand 126 = .ok (.goto 38, 3) := by decide +kernel
theorem d_GM_afterOperand_129 : decode b_GM_afterOperand 129 = .ok (.iload_n 1, 1) := by decide +kernel
theorem d_GM_afterOperand_130 : decode b_GM_afterOperand 130 = .ok (.bipush 123, 2) := by decide +kernel
theorem d_GM_afterOperand_132 : decode b_GM_afterOperand 132 = .ok (.if_icmp .ne 30, 3) := by decide +kernel
theorem d_GM_afterOperand_135 : decode b_GM_afterOperand 135 = .ok (.iload_n 2, 1) := by decide +kernel
theorem d_GM_afterOperand_136 : decode b_GM_afterOperand 136 = .ok (.ifCond .ne 26, 3) := by decide +kernel
theorem d_GM_afterOperand_139 : decode b_GM_afterOperand 139 = .ok (.aload_n 0, 1) := by decide +kernel
theorem d_GM_afterOperand_140 : decode b_GM_afterOperand 140 = .ok (.getfield 90, 3) := by decide +kernel
theorem d_GM_afterOperand_143 : decode b_GM_afterOperand 143 = .ok (.ifCond .le 19, 3) := by decide +kernel
theorem d_GM_afterOperand_146 : decode b_GM_afterOperand 146 = .ok (.aload_n 0, 1) := by decide +kernel
theorem d_GM_afterOperand_147 : decode b_GM_afterOperand 147 = .ok (.aload_n 0, 1) := by decide +kernel
theorem d_GM_afterOperand_148 : decode b_GM_afterOperand 148 = .ok (.getfield 90, 3) := by decide +kernel
theorem d_GM_afterOperand_151 : decode b_GM_afterOperand 151 = .ok (.iconst 2, 1) := by decide +kernel
theorem d_GM_afterOperand_152 : decode b_GM_afterOperand 152 = .ok (.invokevirtual 100, 3) := by decide +kernel
theorem d_GM_afterOperand_155 : decode b_GM_afterOperand 155 = .ok (.ifCond .eq 7, 3) := by decide +kernel
theorem d_GM_afterOperand_158 : decode b_GM_afterOperand 158 = .ok (.iconst 1, 1) := by decide +kernel
theorem d_GM_afterOperand_159 : decode b_GM_afterOperand 159 = .ok (.goto 4, 3) := by decide +kernel
theorem d_GM_afterOperand_162 : decode b_GM_afterOperand 162 = .ok (.iconst 0, 1) := by decide +kernel
theorem d_GM_afterOperand_163 : decode b_GM_afterOperand 163 = .ok (.ireturn, 1) := by decide +kernel
theorem d_GM_afterOperand_164 : decode b_GM_afterOperand 164 = .ok (.iconst 1, 1) := by decide +kernel
theorem d_GM_afterOperand_165 : decode b_GM_afterOperand 165 = .ok (.ireturn, 1) := by decide +kernel
theorem d_GM_stands_0 : decode b_GM_stands 0 = .ok (.aload_n 0, 1) := by decide +kernel
theorem d_GM_stands_1 : decode b_GM_stands 1 = .ok (.getfield 84, 3) := by decide +kernel
theorem d_GM_stands_4 : decode b_GM_stands 4 = .ok (.ifCond .ne 18, 3) := by decide +kernel
theorem d_GM_stands_7 : decode b_GM_stands 7 = .ok (.aload_n 0, 1) := by decide +kernel
theorem d_GM_stands_8 : decode b_GM_stands 8 = .ok (.iconst 3, 1) := by decide +kernel
theorem d_GM_stands_9 : decode b_GM_stands 9 = .ok (.putfield 90, 3) := by decide +kernel
theorem d_GM_stands_12 : decode b_GM_stands 12 = .ok (.aload_n 0, 1) := by decide +kernel
theorem d_GM_stands_13 : decode b_GM_stands 13 = .ok (.iconst 1, 1) := by decide +kernel
theorem d_GM_stands_14 : decode b_GM_stands 14 = .ok (.putfield 84, 3) := by decide +kernel
theorem d_GM_stands_17 : decode b_GM_stands 17 = .ok (.iload_n 1, 1) := by decide +kernel
theorem d_GM_stands_18 : decode b_GM_stands 18 = .ok (.invokestatic 93, 3) := by decide +kernel
theorem d_GM_stands_21 : decode b_GM_stands 21 = .ok (.ireturn, 1) := by decide +kernel
theorem d_GM_stands_22 : decode b_GM_stands 22 = .ok (.aload_n 0, 1) := by decide +kernel
theorem d_GM_stands_23 : decode b_GM_stands 23 = .ok (.getfield 84, 3) := by decide +kernel
theorem d_GM_stands_26 : decode b_GM_stands 26 = .ok (.iconst 1, 1) := by decide +kernel
theorem d_GM_stands_27 : decode b_GM_stands 27 = .ok (.if_icmp .ne 27, 3) := by decide +kernel
theorem d_GM_stands_30 : decode b_GM_stands 30 = .ok (.iload_n 1, 1) := by decide +kernel
theorem d_GM_stands_31 : decode b_GM_stands 31 = .ok (.bipush 123, 2) := by decide +kernel
theorem d_GM_stands_33 : decode b_GM_stands 33 = .ok (.if_icmp .ne 19, 3) := by decide +kernel
theorem d_GM_stands_36 : decode b_GM_stands 36 = .ok (.aload_n 0, 1) := by decide +kernel
theorem d_GM_stands_37 : decode b_GM_stands 37 = .ok (.aload_n 0, 1) := by decide +kernel
theorem d_GM_stands_38 : decode b_GM_stands 38 = .ok (.getfield 90, 3) := by decide +kernel
theorem d_GM_stands_41 : decode b_GM_stands 41 = .ok (.iconst 2, 1) := by decide +kernel
theorem d_GM_stands_42 : decode b_GM_stands 42 = .ok (.invokevirtual 100, 3) := by decide +kernel
theorem d_GM_stands_45 : decode b_GM_stands 45 = .ok (.ifCond .eq 7, 3) := by decide +kernel
theorem d_GM_stands_48 : decode b_GM_stands 48 = .ok (.iconst 1, 1) := by decide +kernel
theorem d_GM_stands_49 : decode b_GM_stands 49 = .ok (.goto 4, 3) := by decide +kernel
theorem d_GM_stands_52 : decode b_GM_stands 52 = .ok (.iconst 0, 1) := by decide +kernel
theorem d_GM_stands_53 : decode b_GM_stands 53 = .ok (.ireturn, 1) := by decide +kernel
theorem d_GM_stands_54 : decode b_GM_stands 54 = .ok (.aload_n 0, 1) := by decide +kernel
theorem d_GM_stands_55 : decode b_GM_stands 55 = .ok (.getfield 84, 3) := by decide +kernel
theorem d_GM_stands_58 : decode b_GM_stands 58 = .ok (.iconst 2, 1) := by decide +kernel
theorem d_GM_stands_59 : decode b_GM_stands 59 = .ok (.if_icmp .ne 9, 3) := by decide +kernel
theorem d_GM_stands_62 : decode b_GM_stands 62 = .ok (.aload_n 0, 1) := by decide +kernel
theorem d_GM_stands_63 : decode b_GM_stands 63 = .ok (.iload_n 1, 1) := by decide +kernel
theorem d_GM_stands_64 : decode b_GM_stands 64 = .ok (.invokevirtual 113, 3) := by decide +kernel
theorem d_GM_stands_67 : decode b_GM_stands 67 = .ok (.ireturn, 1) := by decide +kernel
theorem d_GM_stands_68 : decode b_GM_stands 68 = .ok (.aload_n 0, 1) := by decide +kernel
theorem d_GM_stands_69 : decode b_GM_stands 69 = .ok (.getfield 84, 3) := by decide +kernel
theorem d_GM_stands_72 : decode b_GM_stands 72 = .ok (.iconst 4, 1) := by decide +kernel
theorem d_GM_stands_73 : decode b_GM_stands 73 = .ok (.if_icmp .ne 9, 3) := by decide +kernel
theorem d_GM_stands_76 : decode b_GM_stands 76 = .ok (.aload_n 0, 1) := by decide +kernel
theorem d_GM_stands_77 : decode b_GM_stands 77 = .ok (.iload_n 1, 1) := by decide +kernel
theorem d_GM_stands_78 : decode b_GM_stands 78 = .ok (.invokevirtual 116, 3) := by decide +kernel
theorem d_GM_stands_81 : decode b_GM_stands 81 = .ok (.ireturn, 1) := by decide +kernel
theorem d_GM_stands_82 : decode b_GM_stands 82 = .ok (.aload_n 0, 1) := by decide +kernel
theorem d_GM_stands_83 : decode b_GM_stands 83 = .ok (.getfield 84, 3) := by decide +kernel
theorem d_GM_stands_86 : decode b_GM_stands 86 = .ok (.iconst 5, 1) := by decide +kernel
theorem d_GM_stands_87 : decode b_GM_stands 87 = .ok (.if_icmp .ne 9, 3) := by decide +kernel
theorem d_GM_stands_90 : decode b_GM_stands 90 = .ok (.aload_n 0, 1) := by decide +kernel
theorem d_GM_stands_91 : decode b_GM_stands 91 = .ok (.iload_n 1, 1) := by decide +kernel
theorem d_GM_stands_92 : decode b_GM_stands 92 = .ok (.invokevirtual 119, 3) := by decide +kernel
theorem d_GM_stands_95 : decode b_GM_stands 95 = .ok (.ireturn, 1) := by decide +kernel
theorem d_GM_stands_96 : decode b_GM_stands 96 = .ok (.iload_n 1, 1) := by decide +kernel
theorem d_GM_stands_97 : decode b_GM_stands 97 = .ok (.aload_n 0, 1) := by decide +kernel
theorem d_GM_stands_98 : decode b_GM_stands 98 = .ok (.getfield 84, 3) := by decide +kernel
theorem d_GM_stands_101 : decode b_GM_stands 101 = .ok (.iconst 3, 1) := by decide +kernel
theorem d_GM_stands_102 : decode b_GM_stands 102 = .ok (.if_icmp .ne 8, 3) := by decide +kernel
theorem d_GM_stands_105 : decode b_GM_stands 105 = .ok (.bipush 61, 2) := by decide +kernel
theorem d_GM_stands_107 : decode b_GM_stands 107 = .ok (.goto 5, 3) := by decide +kernel
theorem d_GM_stands_110 : decode b_GM_stands 110 = .ok (.bipush 59, 2) := by decide +kernel
theorem d_GM_stands_112 : decode b_GM_stands 112 = .ok (.if_icmp .ne 7, 3) := by decide +kernel
theorem d_GM_stands_115 : decode b_GM_stands 115 = .ok (.iconst 1, 1) := by decide +kernel
theorem d_GM_stands_116 : decode b_GM_stands 116 = .ok (.goto 4, 3) := by decide +kernel
theorem d_GM_stands_119 : decode b_GM_stands 119 = .ok (.iconst 0, 1) := by decide +kernel
theorem d_GM_stands_120 : decode b_GM_stands 120 = .ok (.istore_n 2, 1) := by decide +kernel
theorem d_GM_stands_121 : decode b_GM_stands 121 = .ok (.aload_n 0, 1) := by decide +kernel
theorem d_GM_stands_122 : decode b_GM_stands 122 = .ok (.aload_n 0, 1) := by decide +kernel
theorem d_GM_stands_123 : decode b_GM_stands 123 = .ok (.getfield 84, 3) := by decide +kernel
theorem d_GM_stands_126 : decode b_GM_stands 126 = .ok (.iconst 3, 1) := by decide +kernel
theorem d_GM_stands_127 : decode b_GM_stands 127 = .ok (.if_icmp .ne 7, 3) := by decide +kernel
theorem d_GM_stands_130 : decode b_GM_stands 130 = .ok (.iconst 4, 1) := by decide +kernel
theorem d_GM_stands_131 : decode b_GM_stands 131 = .ok (.goto 4, 3) := by decide +kernel
theorem d_GM_stands_134 : decode b_GM_stands 134 = .ok (.iconst 2, 1) := by decide +kernel
theorem d_GM_stands_135 : decode b_GM_stands 135 = .ok (.putfield 84, 3) := by decide +kernel
theorem d_GM_stands_138 : decode b_GM_stands 138 = .ok (.iload_n 2, 1) := by decide +kernel
theorem d_GM_stands_139 : decode b_GM_stands 139 = .ok (.ireturn, 1) := by decide +kernel
theorem d_GM_fault_0 : decode b_GM_fault 0 = .ok (.iload_n 1, 1) := by decide +kernel
theorem d_GM_fault_1 : decode b_GM_fault 1 = .ok (.iconst 0, 1) := by decide +kernel
theorem d_GM_fault_2 : decode b_GM_fault 2 = .ok (.iconst 2, 1) := by decide +kernel
theorem d_GM_fault_3 : decode b_GM_fault 3 = .ok (.invokestatic 73, 3) := by decide +kernel
theorem d_GM_fault_6 : decode b_GM_fault 6 = .ok (.ifCond .ne 5, 3) := by decide +kernel
theorem d_GM_fault_9 : decode b_GM_fault 9 = .ok (.iconst (-1), 1) := by decide +kernel
theorem d_GM_fault_10 : decode b_GM_fault 10 = .ok (.ireturn, 1) := by decide +kernel
theorem d_GM_fault_11 : decode b_GM_fault 11 = .ok (.aload_n 0, 1) := by decide +kernel
theorem d_GM_fault_12 : decode b_GM_fault 12 = .ok (.iconst 0, 1) := by decide +kernel
theorem d_GM_fault_13 : decode b_GM_fault 13 = .ok (.putfield 80, 3) := by decide +kernel
theorem d_GM_fault_16 : decode b_GM_fault 16 = .ok (.aload_n 0, 1) := by decide +kernel
theorem d_GM_fault_17 : decode b_GM_fault 17 = .ok (.iconst 0, 1) := by decide +kernel
theorem d_GM_fault_18 : decode b_GM_fault 18 = .ok (.putfield 84, 3) := by decide +kernel
theorem d_GM_fault_21 : decode b_GM_fault 21 = .ok (.aload_n 0, 1) := by decide +kernel
theorem d_GM_fault_22 : decode b_GM_fault 22 = .ok (.iconst 0, 1) := by decide +kernel
theorem d_GM_fault_23 : decode b_GM_fault 23 = .ok (.putfield 87, 3) := by decide +kernel
theorem d_GM_fault_26 : decode b_GM_fault 26 = .ok (.iconst 0, 1) := by decide +kernel
theorem d_GM_fault_27 : decode b_GM_fault 27 = .ok (.istore_n 2, 1) := by decide +kernel
theorem d_GM_fault_28 : decode b_GM_fault 28 = .ok (.iload_n 2, 1) := by decide +kernel
theorem d_GM_fault_29 : decode b_GM_fault 29 = .ok (.aload_n 0, 1) := by decide +kernel
theorem d_GM_fault_30 : decode b_GM_fault 30 = .ok (.getfield 13, 3) := by decide +kernel
theorem d_GM_fault_33 : decode b_GM_fault 33 = .ok (.iload_n 1, 1) := by decide +kernel
theorem d_GM_fault_34 : decode b_GM_fault 34 = .ok (.iaload, 1) := by decide +kernel
theorem d_GM_fault_35 : decode b_GM_fault 35 = .ok (.if_icmp .ge 29, 3) := by decide +kernel
theorem d_GM_fault_38 : decode b_GM_fault 38 = .ok (.aload_n 0, 1) := by decide +kernel
theorem d_GM_fault_39 : decode b_GM_fault 39 = .ok (.aload_n 0, 1) := by decide +kernel
theorem d_GM_fault_40 : decode b_GM_fault 40 = .ok (.getfield 7, 3) := by decide +kernel
theorem d_GM_fault_43 : decode b_GM_fault 43 = .ok (.bipush 60, 2) := by decide +kernel
theorem d_GM_fault_45 : decode b_GM_fault 45 = .ok (.iload_n 1, 1) := by decide +kernel
theorem d_GM_fault_46 : decode b_GM_fault 46 = .ok (.imul, 1) := by decide +kernel
theorem d_GM_fault_47 : decode b_GM_fault 47 = .ok (.iload_n 2, 1) := by decide +kernel
theorem d_GM_fault_48 : decode b_GM_fault 48 = .ok (.iadd, 1) := by decide +kernel
theorem d_GM_fault_49 : decode b_GM_fault 49 = .ok (.iaload, 1) := by decide +kernel
theorem d_GM_fault_50 : decode b_GM_fault 50 = .ok (.invokevirtual 122, 3) := by decide +kernel
theorem d_GM_fault_53 : decode b_GM_fault 53 = .ok (.ifCond .ne 5, 3) := by decide +kernel
theorem d_GM_fault_56 : decode b_GM_fault 56 = .ok (.iload_n 2, 1) := by decide +kernel
theorem d_GM_fault_57 : decode b_GM_fault 57 = .ok (.ireturn, 1) := by decide +kernel
theorem d_GM_fault_58 : decode b_GM_fault 58 = .ok (.iinc 2 1, 3) := by decide +kernel
theorem d_GM_fault_61 : decode b_GM_fault 61 = .ok (.goto (-33), 3) := by decide +kernel
theorem d_GM_fault_64 : decode b_GM_fault 64 = .ok (.aload_n 0, 1) := by decide +kernel
theorem d_GM_fault_65 : decode b_GM_fault 65 = .ok (.getfield 84, 3) := by decide +kernel
theorem d_GM_fault_68 : decode b_GM_fault 68 = .ok (.ifCond .ne 8, 3) := by decide +kernel
theorem d_GM_fault_71 : decode b_GM_fault 71 = .ok (.bipush (-2), 2) := by decide +kernel
theorem d_GM_fault_73 : decode b_GM_fault 73 = .ok (.goto 9, 3) := by decide +kernel
theorem d_GM_fault_76 : decode b_GM_fault 76 = .ok (.aload_n 0, 1) := by decide +kernel
theorem d_GM_fault_77 : decode b_GM_fault 77 = .ok (.getfield 13, 3) := by decide +kernel
theorem d_GM_fault_80 : decode b_GM_fault 80 = .ok (.iload_n 1, 1) := by decide +kernel
theorem d_GM_fault_81 : decode b_GM_fault 81 = .ok (.iaload, 1) := by decide +kernel
theorem d_GM_fault_82 : decode b_GM_fault 82 = .ok (.ireturn, 1) := by decide +kernel
theorem d_GM_map_0 : decode b_GM_map 0 = .ok (.bipush 60, 2) := by decide +kernel
theorem d_GM_map_2 : decode b_GM_map 2 = .ok (.iload_n 1, 1) := by decide +kernel
theorem d_GM_map_3 : decode b_GM_map 3 = .ok (.imul, 1) := by decide +kernel
theorem d_GM_map_4 : decode b_GM_map 4 = .ok (.istore_n 2, 1) := by decide +kernel
theorem d_GM_map_5 : decode b_GM_map 5 = .ok (.iconst 0, 1) := by decide +kernel
theorem d_GM_map_6 : decode b_GM_map 6 = .ok (.istore_n 3, 1) := by decide +kernel
theorem d_GM_map_7 : decode b_GM_map 7 = .ok (.iconst 0, 1) := by decide +kernel
theorem d_GM_map_8 : decode b_GM_map 8 = .ok (.istore 4, 2) := by decide +kernel
theorem d_GM_map_10 : decode b_GM_map 10 = .ok (.iconst 0, 1) := by decide +kernel
theorem d_GM_map_11 : decode b_GM_map 11 = .ok (.istore 5, 2) := by decide +kernel
theorem d_GM_map_13 : decode b_GM_map 13 = .ok (.iconst 0, 1) := by decide +kernel
theorem d_GM_map_14 : decode b_GM_map 14 = .ok (.istore 6, 2) := by decide +kernel
theorem d_GM_map_16 : decode b_GM_map 16 = .ok (.iconst 0, 1) := by decide +kernel
theorem d_GM_map_17 : decode b_GM_map 17 = .ok (.istore 7, 2) := by decide +kernel
theorem d_GM_map_19 : decode b_GM_map 19 = .ok (.iconst 0, 1) := by decide +kernel
theorem d_GM_map_20 : decode b_GM_map 20 = .ok (.istore 8, 2) := by decide +kernel
theorem d_GM_map_22 : decode b_GM_map 22 = .ok (.iload_n 2, 1) := by decide +kernel
theorem d_GM_map_23 : decode b_GM_map 23 = .ok (.istore 9, 2) := by decide +kernel
theorem d_GM_map_25 : decode b_GM_map 25 = .ok (.iload 9, 2) := by decide +kernel
theorem d_GM_map_27 : decode b_GM_map 27 = .ok (.iload_n 2, 1) := by decide +kernel
theorem d_GM_map_28 : decode b_GM_map 28 = .ok (.aload_n 0, 1) := by decide +kernel
theorem d_GM_map_29 : decode b_GM_map 29 = .ok (.getfield 13, 3) := by decide +kernel
theorem d_GM_map_32 : decode b_GM_map 32 = .ok (.iload_n 1, 1) := by decide +kernel
theorem d_GM_map_33 : decode b_GM_map 33 = .ok (.iaload, 1) := by decide +kernel
theorem d_GM_map_34 : decode b_GM_map 34 = .ok (.iadd, 1) := by decide +kernel
theorem d_GM_map_35 : decode b_GM_map 35 = .ok (.if_icmp .ge 285, 3) := by decide +kernel
theorem d_GM_map_38 : decode b_GM_map 38 = .ok (.aload_n 0, 1) := by decide +kernel
theorem d_GM_map_39 : decode b_GM_map 39 = .ok (.getfield 7, 3) := by decide +kernel
theorem d_GM_map_42 : decode b_GM_map 42 = .ok (.iload 9, 2) := by decide +kernel
theorem d_GM_map_44 : decode b_GM_map 44 = .ok (.iaload, 1) := by decide +kernel
theorem d_GM_map_45 : decode b_GM_map 45 = .ok (.istore 10, 2) := by decide +kernel
theorem d_GM_map_47 : decode b_GM_map 47 = .ok (.aload_n 0, 1) := by decide +kernel
theorem d_GM_map_48 : decode b_GM_map 48 = .ok (.getfield 35, 3) := by decide +kernel
theorem d_GM_map_51 : decode b_GM_map 51 = .ok (.iload 9, 2) := by decide +kernel
theorem d_GM_map_53 : decode b_GM_map 53 = .ok (.iload 6, 2) := by decide +kernel
theorem d_GM_map_55 : decode b_GM_map 55 = .ok (.iastore, 1) := by decide +kernel
theorem d_GM_map_56 : decode b_GM_map 56 = .ok (.iload_n 3, 1) := by decide +kernel
theorem d_GM_map_57 : decode b_GM_map 57 = .ok (.ifCond .ne 36, 3) := by decide +kernel
theorem d_GM_map_60 : decode b_GM_map 60 = .ok (.iload 10, 2) := by decide +kernel
theorem d_GM_map_62 : decode b_GM_map 62 = .ok (.invokestatic 93, 3) := by decide +kernel
theorem d_GM_map_65 : decode b_GM_map 65 = .ok (.ifCond .eq 28, 3) := by decide +kernel
theorem d_GM_map_68 : decode b_GM_map 68 = .ok (.iinc 4 1, 3) := by decide +kernel
theorem d_GM_map_71 : decode b_GM_map 71 = .ok (.iload 10, 2) := by decide +kernel
theorem d_GM_map_73 : decode b_GM_map 73 = .ok (.istore 6, 2) := by decide +kernel
theorem d_GM_map_75 : decode b_GM_map 75 = .ok (.iconst 0, 1) := by decide +kernel
theorem d_GM_map_76 : decode b_GM_map 76 = .ok (.istore 5, 2) := by decide +kernel
theorem d_GM_map_78 : decode b_GM_map 78 = .ok (.iload 9, 2) := by decide +kernel
theorem d_GM_map_80 : decode b_GM_map 80 = .ok (.istore 7, 2) := by decide +kernel
theorem d_GM_map_82 : decode b_GM_map 82 = .ok (.aload_n 0, 1) := by decide +kernel
theorem d_GM_map_83 : decode b_GM_map 83 = .ok (.getfield 29, 3) := by decide +kernel
theorem d_GM_map_86 : decode b_GM_map 86 = .ok (.iload 9, 2) := by decide +kernel
theorem d_GM_map_88 : decode b_GM_map 88 = .ok (.iconst 3, 1) := by decide +kernel
theorem d_GM_map_89 : decode b_GM_map 89 = .ok (.iastore, 1) := by decide +kernel
theorem d_GM_map_90 : decode b_GM_map 90 = .ok (.goto 78, 3) := by decide +kernel
theorem d_GM_map_93 : decode b_GM_map 93 = .ok (.iload 8, 2) := by decide +kernel
theorem d_GM_map_95 : decode b_GM_map 95 = .ok (.ifCond .eq 73, 3) := by decide +kernel
theorem d_GM_map_98 : decode b_GM_map 98 = .ok (.iload 10, 2) := by decide +kernel
theorem d_GM_map_100 : decode b_GM_map 100 = .ok (.bipush 125, 2) := by decide +kernel
theorem d_GM_map_102 : decode b_GM_map 102 = .ok (.if_icmp .eq 66, 3) := by decide +kernel
theorem d_GM_map_105 : decode b_GM_map 105 = .ok (.iload 10, 2) := by decide +kernel
theorem d_GM_map_107 : decode b_GM_map 107 = .ok (.bipush 58, 2) := by decide +kernel
theorem d_GM_map_109 : decode b_GM_map 109 = .ok (.if_icmp .eq 59, 3) := by decide +kernel
theorem d_GM_map_112 : decode b_GM_map 112 = .ok (.iinc 5 1, 3) := by decide +kernel
theorem d_GM_map_115 : decode b_GM_map 115 = .ok (.aload_n 0, 1) := by decide +kernel
theorem d_GM_map_116 : decode b_GM_map 116 = .ok (.getfield 32, 3) := by decide +kernel
theorem d_GM_map_119 : decode b_GM_map 119 = .ok (.iload 9, 2) := by decide +kernel
theorem d_GM_map_121 : decode b_GM_map 121 = .ok (.iload 5, 2) := by decide +kernel
theorem d_GM_map_123 : decode b_GM_map 123 = .ok (.iastore, 1) := by decide +kernel
theorem d_GM_map_124 : decode b_GM_map 124 = .ok (.aload_n 0, 1) := by decide +kernel
theorem d_GM_map_125 : decode b_GM_map 125 = .ok (.getfield 35, 3) := by decide +kernel
theorem d_GM_map_128 : decode b_GM_map 128 = .ok (.iload 9, 2) := by decide +kernel
theorem d_GM_map_130 : decode b_GM_map 130 = .ok (.iload 6, 2) := by decide +kernel
theorem d_GM_map_132 : decode b_GM_map 132 = .ok (.iastore, 1) := by decide +kernel
theorem d_GM_map_133 : decode b_GM_map 133 = .ok (.iload 9, 2) := by decide +kernel
theorem d_GM_map_135 : decode b_GM_map 135 = .ok (.istore 7, 2) := by decide +kernel
theorem d_GM_map_137 : decode b_GM_map 137 = .ok (.aload_n 0, 1) := by decide +kernel
theorem d_GM_map_138 : decode b_GM_map 138 = .ok (.getfield 29, 3) := by decide +kernel
theorem d_GM_map_141 : decode b_GM_map 141 = .ok (.iload 9, 2) := by decide +kernel
theorem d_GM_map_143 : decode b_GM_map 143 = .ok (.iload 10, 2) := by decide +kernel
theorem d_GM_map_145 : decode b_GM_map 145 = .ok (.bipush 63, 2) := by decide +kernel
theorem d_GM_map_147 : decode b_GM_map 147 = .ok (.if_icmp .ne 7, 3) := by decide +kernel
theorem d_GM_map_150 : decode b_GM_map 150 = .ok (.iconst 4, 1) := by decide +kernel
theorem d_GM_map_151 : decode b_GM_map 151 = .ok (.goto 16, 3) := by decide +kernel
theorem d_GM_map_154 : decode b_GM_map 154 = .ok (.iload 10, 2) := by decide +kernel
theorem d_GM_map_156 : decode b_GM_map 156 = .ok (.bipush 64, 2) := by decide +kernel
theorem d_GM_map_158 : decode b_GM_map 158 = .ok (.if_icmp .ne 8, 3) := by decide +kernel
theorem d_GM_map_161 : decode b_GM_map 161 = .ok (.bipush 6, 2) := by decide +kernel
theorem d_GM_map_163 : decode b_GM_map 163 = .ok (.goto 4, 3) := by decide +kernel
theorem d_GM_map_166 : decode b_GM_map 166 = .ok (.iconst 0, 1) := by decide +kernel
theorem d_GM_map_167 : decode b_GM_map 167 = .ok (.iastore, 1) := by decide +kernel
theorem d_GM_map_168 : decode b_GM_map 168 = .ok (.iload 10, 2) := by decide +kernel
theorem d_GM_map_170 : decode b_GM_map 170 = .ok (.bipush 58, 2) := by decide +kernel
theorem d_GM_map_172 : decode b_GM_map 172 = .ok (.if_icmp .ne 19, 3) := by decide +kernel
theorem d_GM_map_175 : decode b_GM_map 175 = .ok (.aload_n 0, 1) := by decide +kernel
theorem d_GM_map_176 : decode b_GM_map 176 = .ok (.getfield 26, 3) := by decide +kernel
theorem d_GM_map_179 : decode b_GM_map 179 = .ok (.aload_n 0, 1) := by decide +kernel
theorem d_GM_map_180 : decode b_GM_map 180 = .ok (.getfield 23, 3) := by decide +kernel
theorem d_GM_map_183 : decode b_GM_map 183 = .ok (.iload 9, 2) := by decide +kernel
theorem d_GM_map_185 : decode b_GM_map 185 = .ok (.iconst 1, 1) := by decide +kernel
theorem d_GM_map_186 : decode b_GM_map 186 = .ok (.isub, 1) := by decide +kernel
theorem d_GM_map_187 : decode b_GM_map 187 = .ok (.iaload, 1) := by decide +kernel
theorem d_GM_map_188 : decode b_GM_map 188 = .ok (.iaload, 1) := by decide +kernel
theorem d_GM_map_189 : decode b_GM_map 189 = .ok (.istore 7, 2) := by decide +kernel
theorem d_GM_map_191 : decode b_GM_map 191 = .ok (.iload 10, 2) := by decide +kernel
theorem d_GM_map_193 : decode b_GM_map 193 = .ok (.bipush 123, 2) := by decide +kernel
theorem d_GM_map_195 : decode b_GM_map 195 = .ok (.if_icmp .ne 55, 3) := by decide +kernel
theorem d_GM_map_198 : decode b_GM_map 198 = .ok (.aload_n 0, 1) := by decide +kernel
theorem d_GM_map_199 : decode b_GM_map 199 = .ok (.getfield 26, 3) := by decide +kernel
theorem d_GM_map_202 : decode b_GM_map 202 = .ok (.iload 9, 2) := by decide +kernel
theorem d_GM_map_204 : decode b_GM_map 204 = .ok (.iload 7, 2) := by decide +kernel
theorem d_GM_map_206 : decode b_GM_map 206 = .ok (.iastore, 1) := by decide +kernel
theorem d_GM_map_207 : decode b_GM_map 207 = .ok (.aload_n 0, 1) := by decide +kernel
theorem d_GM_map_208 : decode b_GM_map 208 = .ok (.getfield 29, 3) := by decide +kernel
theorem d_GM_map_211 : decode b_GM_map 211 = .ok (.iload 9, 2) := by decide +kernel
theorem d_GM_map_213 : decode b_GM_map 213 = .ok (.aload_n 0, 1) := by decide +kernel
theorem d_GM_map_214 : decode b_GM_map 214 = .ok (.getfield 7, 3) := by decide +kernel
theorem d_GM_map_217 : decode b_GM_map 217 = .ok (.iload 9, 2) := by decide +kernel
theorem d_GM_map_219 : decode b_GM_map 219 = .ok (.iconst 1, 1) := by decide +kernel
theorem d_GM_map_220 : decode b_GM_map 220 = .ok (.isub, 1) := by decide +kernel
theorem d_GM_map_221 : decode b_GM_map 221 = .ok (.iaload, 1) := by decide +kernel
theorem d_GM_map_222 : decode b_GM_map 222 = .ok (.bipush 58, 2) := by decide +kernel
theorem d_GM_map_224 : decode b_GM_map 224 = .ok (.if_icmp .ne 7, 3) := by decide +kernel
theorem d_GM_map_227 : decode b_GM_map 227 = .ok (.iconst 5, 1) := by decide +kernel
theorem d_GM_map_228 : decode b_GM_map 228 = .ok (.goto 10, 3) := by decide +kernel
theorem d_GM_map_231 : decode b_GM_map 231 = .ok (.aload_n 0, 1) := by decide +kernel
theorem d_GM_map_232 : decode b_GM_map 232 = .ok (.getfield 29, 3) := by decide +kernel
theorem d_GM_map_235 : decode b_GM_map 235 = .ok (.iload 7, 2) := by decide +kernel
theorem d_GM_map_237 : decode b_GM_map 237 = .ok (.iaload, 1) := by decide +kernel
theorem d_GM_map_238 : decode b_GM_map 238 = .ok (.iastore, 1) := by decide +kernel
theorem d_GM_map_239 : decode b_GM_map 239 = .ok (.aload_n 0, 1) := by decide +kernel
theorem d_GM_map_240 : decode b_GM_map 240 = .ok (.getfield 20, 3) := by decide +kernel
theorem d_GM_map_243 : decode b_GM_map 243 = .ok (.iload_n 3, 1) := by decide +kernel
theorem d_GM_map_244 : decode b_GM_map 244 = .ok (.iload 9, 2) := by decide +kernel
theorem d_GM_map_246 : decode b_GM_map 246 = .ok (.iastore, 1) := by decide +kernel
theorem d_GM_map_247 : decode b_GM_map 247 = .ok (.iinc 3 1, 3) := by decide +kernel
theorem d_GM_map_250 : decode b_GM_map 250 = .ok (.iload 10, 2) := by decide +kernel
theorem d_GM_map_252 : decode b_GM_map 252 = .ok (.bipush 125, 2) := by decide +kernel
theorem d_GM_map_254 : decode b_GM_map 254 = .ok (.if_icmp .ne 32, 3) := by decide +kernel
theorem d_GM_map_257 : decode b_GM_map 257 = .ok (.iinc 3 (-1), 3) := by decide +kernel
theorem d_GM_map_260 : decode b_GM_map 260 = .ok (.aload_n 0, 1) := by decide +kernel
theorem d_GM_map_261 : decode b_GM_map 261 = .ok (.getfield 23, 3) := by decide +kernel
theorem d_GM_map_264 : decode b_GM_map 264 = .ok (.iload 9, 2) := by decide +kernel
theorem d_GM_map_266 : decode b_GM_map 266 = .ok (.aload_n 0, 1) := by decide +kernel
theorem d_GM_map_267 : decode b_GM_map 267 = .ok (.getfield 20, 3) := by decide +kernel
theorem d_GM_map_270 : decode b_GM_map 270 = .ok (.iload_n 3, 1) := by decide +kernel
theorem d_GM_map_271 : decode b_GM_map 271 = .ok (.iaload, 1) := by decide +kernel
theorem d_GM_map_272 : decode b_GM_map 272 = .ok (.iastore, 1) := by decide +kernel
theorem d_GM_map_273 : decode b_GM_map 273 = .ok (.aload_n 0, 1) := by decide +kernel
theorem d_GM_map_274 : decode b_GM_map 274 = .ok (.getfield 23, 3) := by decide +kernel
theorem d_GM_map_277 : decode b_GM_map 277 = .ok (.aload_n 0, 1) := by decide +kernel
theorem d_GM_map_278 : decode b_GM_map 278 = .ok (.getfield 20, 3) := by decide +kernel
theorem d_GM_map_281 : decode b_GM_map 281 = .ok (.iload_n 3, 1) := by decide +kernel
theorem d_GM_map_282 : decode b_GM_map 282 = .ok (.iaload, 1) := by decide +kernel
theorem d_GM_map_283 : decode b_GM_map 283 = .ok (.iload 9, 2) := by decide +kernel
theorem d_GM_map_285 : decode b_GM_map 285 = .ok (.iastore, 1) := by decide +kernel
theorem d_GM_map_286 : decode b_GM_map 286 = .ok (.iload 10, 2) := by decide +kernel
theorem d_GM_map_288 : decode b_GM_map 288 = .ok (.bipush 59, 2) := by decide +kernel
theorem d_GM_map_290 : decode b_GM_map 290 = .ok (.if_icmp .eq 17, 3) := by decide +kernel
theorem d_GM_map_293 : decode b_GM_map 293 = .ok (.iload 10, 2) := by decide +kernel
theorem d_GM_map_295 : decode b_GM_map 295 = .ok (.bipush 123, 2) := by decide +kernel
theorem d_GM_map_297 : decode b_GM_map 297 = .ok (.if_icmp .eq 10, 3) := by decide +kernel
theorem d_GM_map_300 : decode b_GM_map 300 = .ok (.iload 10, 2) := by decide +kernel
theorem d_GM_map_302 : decode b_GM_map 302 = .ok (.bipush 125, 2) := by decide +kernel
theorem d_GM_map_304 : decode b_GM_map 304 = .ok (.if_icmp .ne 7, 3) := by decide +kernel
theorem d_GM_map_307 : decode b_GM_map 307 = .ok (.iconst 1, 1) := by decide +kernel
theorem d_GM_map_308 : decode b_GM_map 308 = .ok (.goto 4, 3) := by decide +kernel
theorem d_GM_map_311 : decode b_GM_map 311 = .ok (.iconst 0, 1) := by decide +kernel
theorem d_GM_map_312 : decode b_GM_map 312 = .ok (.istore 8, 2) := by decide +kernel
theorem d_GM_map_314 : decode b_GM_map 314 = .ok (.iinc 9 1, 3) := by decide +kernel
theorem d_GM_map_317 : decode b_GM_map 317 = .ok (.goto (-292), 3) := by decide +kernel
theorem d_GM_map_320 : decode b_GM_map 320 = .ok (.iload 4, 2) := by decide +kernel
theorem d_GM_map_322 : decode b_GM_map 322 = .ok (.ireturn, 1) := by decide +kernel
theorem d_GM_twice_0 : decode b_GM_twice 0 = .ok (.iconst 0, 1) := by decide +kernel
theorem d_GM_twice_1 : decode b_GM_twice 1 = .ok (.istore_n 2, 1) := by decide +kernel
theorem d_GM_twice_2 : decode b_GM_twice 2 = .ok (.iconst 0, 1) := by decide +kernel
theorem d_GM_twice_3 : decode b_GM_twice 3 = .ok (.istore_n 3, 1) := by decide +kernel
theorem d_GM_twice_4 : decode b_GM_twice 4 = .ok (.bipush 60, 2) := by decide +kernel
theorem d_GM_twice_6 : decode b_GM_twice 6 = .ok (.iload_n 1, 1) := by decide +kernel
theorem d_GM_twice_7 : decode b_GM_twice 7 = .ok (.imul, 1) := by decide +kernel
theorem d_GM_twice_8 : decode b_GM_twice 8 = .ok (.istore 4, 2) := by decide +kernel
theorem d_GM_twice_10 : decode b_GM_twice 10 = .ok (.iload 4, 2) := by decide +kernel
theorem d_GM_twice_12 : decode b_GM_twice 12 = .ok (.bipush 60, 2) := by decide +kernel
theorem d_GM_twice_14 : decode b_GM_twice 14 = .ok (.iload_n 1, 1) := by decide +kernel
theorem d_GM_twice_15 : decode b_GM_twice 15 = .ok (.imul, 1) := by decide +kernel
theorem d_GM_twice_16 : decode b_GM_twice 16 = .ok (.aload_n 0, 1) := by decide +kernel
theorem d_GM_twice_17 : decode b_GM_twice 17 = .ok (.getfield 13, 3) := by decide +kernel
theorem d_GM_twice_20 : decode b_GM_twice 20 = .ok (.iload_n 1, 1) := by decide +kernel
theorem d_GM_twice_21 : decode b_GM_twice 21 = .ok (.iaload, 1) := by decide +kernel
theorem d_GM_twice_22 : decode b_GM_twice 22 = .ok (.iadd, 1) := by decide +kernel
theorem d_GM_twice_23 : decode b_GM_twice 23 = .ok (.if_icmp .ge 75, 3) := by decide +kernel
theorem d_GM_twice_26 : decode b_GM_twice 26 = .ok (.aload_n 0, 1) := by decide +kernel
theorem d_GM_twice_27 : decode b_GM_twice 27 = .ok (.getfield 7, 3) := by decide +kernel
theorem d_GM_twice_30 : decode b_GM_twice 30 = .ok (.iload 4, 2) := by decide +kernel
theorem d_GM_twice_32 : decode b_GM_twice 32 = .ok (.iaload, 1) := by decide +kernel
theorem d_GM_twice_33 : decode b_GM_twice 33 = .ok (.istore 5, 2) := by decide +kernel
theorem d_GM_twice_35 : decode b_GM_twice 35 = .ok (.iload_n 3, 1) := by decide +kernel
theorem d_GM_twice_36 : decode b_GM_twice 36 = .ok (.ifCond .ne 36, 3) := by decide +kernel
theorem d_GM_twice_39 : decode b_GM_twice 39 = .ok (.iload 5, 2) := by decide +kernel
theorem d_GM_twice_41 : decode b_GM_twice 41 = .ok (.invokestatic 93, 3) := by decide +kernel
theorem d_GM_twice_44 : decode b_GM_twice 44 = .ok (.ifCond .eq 28, 3) := by decide +kernel
theorem d_GM_twice_47 : decode b_GM_twice 47 = .ok (.iload_n 2, 1) := by decide +kernel
theorem d_GM_twice_48 : decode b_GM_twice 48 = .ok (.iload 5, 2) := by decide +kernel
theorem d_GM_twice_50 : decode b_GM_twice 50 = .ok (.bipush 65, 2) := by decide +kernel
theorem d_GM_twice_52 : decode b_GM_twice 52 = .ok (.isub, 1) := by decide +kernel
theorem d_GM_twice_53 : decode b_GM_twice 53 = .ok (.ishr, 1) := by decide +kernel
theorem d_GM_twice_54 : decode b_GM_twice 54 = .ok (.iconst 1, 1) := by decide +kernel
theorem d_GM_twice_55 : decode b_GM_twice 55 = .ok (.iand, 1) := by decide +kernel
theorem d_GM_twice_56 : decode b_GM_twice 56 = .ok (.iconst 1, 1) := by decide +kernel
theorem d_GM_twice_57 : decode b_GM_twice 57 = .ok (.if_icmp .ne 5, 3) := by decide +kernel
theorem d_GM_twice_60 : decode b_GM_twice 60 = .ok (.iconst 1, 1) := by decide +kernel
theorem d_GM_twice_61 : decode b_GM_twice 61 = .ok (.ireturn, 1) := by decide +kernel
theorem d_GM_twice_62 : decode b_GM_twice 62 = .ok (.iload_n 2, 1) := by decide +kernel
theorem d_GM_twice_63 : decode b_GM_twice 63 = .ok (.iconst 1, 1) := by decide +kernel
theorem d_GM_twice_64 : decode b_GM_twice 64 = .ok (.iload 5, 2) := by decide +kernel
theorem d_GM_twice_66 : decode b_GM_twice 66 = .ok (.bipush 65, 2) := by decide +kernel
theorem d_GM_twice_68 : decode b_GM_twice 68 = .ok (.isub, 1) := by decide +kernel
theorem d_GM_twice_69 : decode b_GM_twice 69 = .ok (.ishl, 1) := by decide +kernel
theorem d_GM_twice_70 : decode b_GM_twice 70 = .ok (.ior, 1) := by decide +kernel
theorem d_GM_twice_71 : decode b_GM_twice 71 = .ok (.istore_n 2, 1) := by decide +kernel
theorem d_GM_twice_72 : decode b_GM_twice 72 = .ok (.iload 5, 2) := by decide +kernel
theorem d_GM_twice_74 : decode b_GM_twice 74 = .ok (.bipush 123, 2) := by decide +kernel
theorem d_GM_twice_76 : decode b_GM_twice 76 = .ok (.if_icmp .ne 6, 3) := by decide +kernel
theorem d_GM_twice_79 : decode b_GM_twice 79 = .ok (.iinc 3 1, 3) := by decide +kernel
theorem d_GM_twice_82 : decode b_GM_twice 82 = .ok (.iload 5, 2) := by decide +kernel
theorem d_GM_twice_84 : decode b_GM_twice 84 = .ok (.bipush 125, 2) := by decide +kernel
theorem d_GM_twice_86 : decode b_GM_twice 86 = .ok (.if_icmp .ne 6, 3) := by decide +kernel
theorem d_GM_twice_89 : decode b_GM_twice 89 = .ok (.iinc 3 (-1), 3) := by decide +kernel
theorem d_GM_twice_92 : decode b_GM_twice 92 = .ok (.iinc 4 1, 3) := by decide +kernel
theorem d_GM_twice_95 : decode b_GM_twice 95 = .ok (.goto (-85), 3) := by decide +kernel
theorem d_GM_twice_98 : decode b_GM_twice 98 = .ok (.iconst 0, 1) := by decide +kernel
theorem d_GM_twice_99 : decode b_GM_twice 99 = .ok (.ireturn, 1) := by decide +kernel
theorem d_GM_compile_0 : decode b_GM_compile 0 = .ok (.iload_n 1, 1) := by decide +kernel
theorem d_GM_compile_1 : decode b_GM_compile 1 = .ok (.iconst 0, 1) := by decide +kernel
theorem d_GM_compile_2 : decode b_GM_compile 2 = .ok (.iconst 2, 1) := by decide +kernel
theorem d_GM_compile_3 : decode b_GM_compile 3 = .ok (.invokestatic 73, 3) := by decide +kernel
theorem d_GM_compile_6 : decode b_GM_compile 6 = .ok (.ifCond .ne 5, 3) := by decide +kernel
theorem d_GM_compile_9 : decode b_GM_compile 9 = .ok (.iconst (-1), 1) := by decide +kernel
theorem d_GM_compile_10 : decode b_GM_compile 10 = .ok (.ireturn, 1) := by decide +kernel
theorem d_GM_compile_11 : decode b_GM_compile 11 = .ok (.aload_n 0, 1) := by decide +kernel
theorem d_GM_compile_12 : decode b_GM_compile 12 = .ok (.invokevirtual 77, 3) := by decide +kernel
theorem d_GM_compile_15 : decode b_GM_compile 15 = .ok (.aload_n 0, 1) := by decide +kernel
theorem d_GM_compile_16 : decode b_GM_compile 16 = .ok (.getfield 16, 3) := by decide +kernel
theorem d_GM_compile_19 : decode b_GM_compile 19 = .ok (.iload_n 1, 1) := by decide +kernel
theorem d_GM_compile_20 : decode b_GM_compile 20 = .ok (.iconst 0, 1) := by decide +kernel
theorem d_GM_compile_21 : decode b_GM_compile 21 = .ok (.bastore, 1) := by decide +kernel
theorem d_GM_compile_22 : decode b_GM_compile 22 = .ok (.aload_n 0, 1) := by decide +kernel
theorem d_GM_compile_23 : decode b_GM_compile 23 = .ok (.iload_n 1, 1) := by decide +kernel
theorem d_GM_compile_24 : decode b_GM_compile 24 = .ok (.invokevirtual 125, 3) := by decide +kernel
theorem d_GM_compile_27 : decode b_GM_compile 27 = .ok (.bipush (-2), 2) := by decide +kernel
theorem d_GM_compile_29 : decode b_GM_compile 29 = .ok (.if_icmp .eq 6, 3) := by decide +kernel
theorem d_GM_compile_32 : decode b_GM_compile 32 = .ok (.bipush (-2), 2) := by decide +kernel
theorem d_GM_compile_34 : decode b_GM_compile 34 = .ok (.ireturn, 1) := by decide +kernel
theorem d_GM_compile_35 : decode b_GM_compile 35 = .ok (.aload_n 0, 1) := by decide +kernel
theorem d_GM_compile_36 : decode b_GM_compile 36 = .ok (.iload_n 1, 1) := by decide +kernel
theorem d_GM_compile_37 : decode b_GM_compile 37 = .ok (.invokevirtual 129, 3) := by decide +kernel
theorem d_GM_compile_40 : decode b_GM_compile 40 = .ok (.ifCond .eq 6, 3) := by decide +kernel
theorem d_GM_compile_43 : decode b_GM_compile 43 = .ok (.bipush (-3), 2) := by decide +kernel
theorem d_GM_compile_45 : decode b_GM_compile 45 = .ok (.ireturn, 1) := by decide +kernel
theorem d_GM_compile_46 : decode b_GM_compile 46 = .ok (.aload_n 0, 1) := by decide +kernel
theorem d_GM_compile_47 : decode b_GM_compile 47 = .ok (.getfield 16, 3) := by decide +kernel
theorem d_GM_compile_50 : decode b_GM_compile 50 = .ok (.iload_n 1, 1) := by decide +kernel
theorem d_GM_compile_51 : decode b_GM_compile 51 = .ok (.iconst 1, 1) := by decide +kernel
theorem d_GM_compile_52 : decode b_GM_compile 52 = .ok (.bastore, 1) := by decide +kernel
theorem d_GM_compile_53 : decode b_GM_compile 53 = .ok (.aload_n 0, 1) := by decide +kernel
theorem d_GM_compile_54 : decode b_GM_compile 54 = .ok (.iload_n 1, 1) := by decide +kernel
theorem d_GM_compile_55 : decode b_GM_compile 55 = .ok (.invokevirtual 132, 3) := by decide +kernel
theorem d_GM_compile_58 : decode b_GM_compile 58 = .ok (.ireturn, 1) := by decide +kernel
