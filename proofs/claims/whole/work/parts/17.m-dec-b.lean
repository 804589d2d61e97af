theorem d_GM_gather_0 : decode b_GM_gather 0 = .ok (.iconst 0, 1) := by decide +kernel
theorem d_GM_gather_1 : decode b_GM_gather 1 = .ok (.istore_n 1, 1) := by decide +kernel
theorem d_GM_gather_2 : decode b_GM_gather 2 = .ok (.iload_n 1, 1) := by decide +kernel
theorem d_GM_gather_3 : decode b_GM_gather 3 = .ok (.bipush 26, 2) := by decide +kernel
theorem d_GM_gather_5 : decode b_GM_gather 5 = .ok (.if_icmp .ge 23, 3) := by decide +kernel
theorem d_GM_gather_8 : decode b_GM_gather 8 = .ok (.aload_n 0, 1) := by decide +kernel
theorem d_GM_gather_9 : decode b_GM_gather 9 = .ok (.getfield 38, 3) := by decide +kernel
theorem d_GM_gather_12 : decode b_GM_gather 12 = .ok (.iload_n 1, 1) := by decide +kernel
theorem d_GM_gather_13 : decode b_GM_gather 13 = .ok (.iconst (-1), 1) := by decide +kernel
theorem d_GM_gather_14 : decode b_GM_gather 14 = .ok (.iastore, 1) := by decide +kernel
theorem d_GM_gather_15 : decode b_GM_gather 15 = .ok (.aload_n 0, 1) := by decide +kernel
theorem d_GM_gather_16 : decode b_GM_gather 16 = .ok (.getfield 41, 3) := by decide +kernel
theorem d_GM_gather_19 : decode b_GM_gather 19 = .ok (.iload_n 1, 1) := by decide +kernel
theorem d_GM_gather_20 : decode b_GM_gather 20 = .ok (.iconst 0, 1) := by decide +kernel
theorem d_GM_gather_21 : decode b_GM_gather 21 = .ok (.iastore, 1) := by decide +kernel
theorem d_GM_gather_22 : decode b_GM_gather 22 = .ok (.iinc 1 1, 3) := by decide +kernel
theorem d_GM_gather_25 : decode b_GM_gather 25 = .ok (.goto (-23), 3) := by decide +kernel
theorem d_GM_gather_28 : decode b_GM_gather 28 = .ok (.iconst 0, 1) := by decide +kernel
theorem d_GM_gather_29 : decode b_GM_gather 29 = .ok (.istore_n 1, 1) := by decide +kernel
theorem d_GM_gather_30 : decode b_GM_gather 30 = .ok (.iload_n 1, 1) := by decide +kernel
theorem d_GM_gather_31 : decode b_GM_gather 31 = .ok (.iconst 3, 1) := by decide +kernel
theorem d_GM_gather_32 : decode b_GM_gather 32 = .ok (.if_icmp .ge 147, 3) := by decide +kernel
theorem d_GM_gather_35 : decode b_GM_gather 35 = .ok (.aload_n 0, 1) := by decide +kernel
theorem d_GM_gather_36 : decode b_GM_gather 36 = .ok (.iload_n 1, 1) := by decide +kernel
theorem d_GM_gather_37 : decode b_GM_gather 37 = .ok (.invokevirtual 132, 3) := by decide +kernel
theorem d_GM_gather_40 : decode b_GM_gather 40 = .ok (.istore_n 2, 1) := by decide +kernel
theorem d_GM_gather_41 : decode b_GM_gather 41 = .ok (.iconst 0, 1) := by decide +kernel
theorem d_GM_gather_42 : decode b_GM_gather 42 = .ok (.istore_n 3, 1) := by decide +kernel
theorem d_GM_gather_43 : decode b_GM_gather 43 = .ok (.iconst 0, 1) := by decide +kernel
theorem d_GM_gather_44 : decode b_GM_gather 44 = .ok (.istore 4, 2) := by decide +kernel
theorem d_GM_gather_46 : decode b_GM_gather 46 = .ok (.bipush 60, 2) := by decide +kernel
theorem d_GM_gather_48 : decode b_GM_gather 48 = .ok (.iload_n 1, 1) := by decide +kernel
theorem d_GM_gather_49 : decode b_GM_gather 49 = .ok (.imul, 1) := by decide +kernel
theorem d_GM_gather_50 : decode b_GM_gather 50 = .ok (.istore 5, 2) := by decide +kernel
theorem d_GM_gather_52 : decode b_GM_gather 52 = .ok (.iload 5, 2) := by decide +kernel
theorem d_GM_gather_54 : decode b_GM_gather 54 = .ok (.bipush 60, 2) := by decide +kernel
theorem d_GM_gather_56 : decode b_GM_gather 56 = .ok (.iload_n 1, 1) := by decide +kernel
theorem d_GM_gather_57 : decode b_GM_gather 57 = .ok (.imul, 1) := by decide +kernel
theorem d_GM_gather_58 : decode b_GM_gather 58 = .ok (.aload_n 0, 1) := by decide +kernel
theorem d_GM_gather_59 : decode b_GM_gather 59 = .ok (.getfield 13, 3) := by decide +kernel
theorem d_GM_gather_62 : decode b_GM_gather 62 = .ok (.iload_n 1, 1) := by decide +kernel
theorem d_GM_gather_63 : decode b_GM_gather 63 = .ok (.iaload, 1) := by decide +kernel
theorem d_GM_gather_64 : decode b_GM_gather 64 = .ok (.iadd, 1) := by decide +kernel
theorem d_GM_gather_65 : decode b_GM_gather 65 = .ok (.if_icmp .ge 108, 3) := by decide +kernel
theorem d_GM_gather_68 : decode b_GM_gather 68 = .ok (.aload_n 0, 1) := by decide +kernel
theorem d_GM_gather_69 : decode b_GM_gather 69 = .ok (.getfield 7, 3) := by decide +kernel
theorem d_GM_gather_72 : decode b_GM_gather 72 = .ok (.iload 5, 2) := by decide +kernel
theorem d_GM_gather_74 : decode b_GM_gather 74 = .ok (.iaload, 1) := by decide +kernel
theorem d_GM_gather_75 : decode b_GM_gather 75 = .ok (.istore 6, 2) := by decide +kernel
theorem d_GM_gather_77 : decode b_GM_gather 77 = .ok (.iload_n 3, 1) := by decide +kernel
theorem d_GM_gather_78 : decode b_GM_gather 78 = .ok (.ifCond .ne 44, 3) := by decide +kernel
theorem d_GM_gather_81 : decode b_GM_gather 81 = .ok (.iload 6, 2) := by decide +kernel
theorem d_GM_gather_83 : decode b_GM_gather 83 = .ok (.invokestatic 93, 3) := by decide +kernel
theorem d_GM_gather_86 : decode b_GM_gather 86 = .ok (.ifCond .eq 36, 3) := by decide +kernel
theorem d_GM_gather_89 : decode b_GM_gather 89 = .ok (.iload 6, 2) := by decide +kernel
theorem d_GM_gather_91 : decode b_GM_gather 91 = .ok (.bipush 65, 2) := by decide +kernel
theorem d_GM_gather_93 : decode b_GM_gather 93 = .ok (.isub, 1) := by decide +kernel
theorem d_GM_gather_94 : decode b_GM_gather 94 = .ok (.istore 4, 2) := by decide +kernel
theorem d_GM_gather_96 : decode b_GM_gather 96 = .ok (.aload_n 0, 1) := by decide +kernel
theorem d_GM_gather_97 : decode b_GM_gather 97 = .ok (.getfield 38, 3) := by decide +kernel
theorem d_GM_gather_100 : decode b_GM_gather 100 = .ok (.iload 4, 2) := by decide +kernel
theorem d_GM_gather_102 : decode b_GM_gather 102 = .ok (.iaload, 1) := by decide +kernel
theorem d_GM_gather_103 : decode b_GM_gather 103 = .ok (.ifCond .lt 5, 3) := by decide +kernel
theorem d_GM_gather_106 : decode b_GM_gather 106 = .ok (.iconst 0, 1) := by decide +kernel
theorem d_GM_gather_107 : decode b_GM_gather 107 = .ok (.ireturn, 1) := by decide +kernel
theorem d_GM_gather_108 : decode b_GM_gather 108 = .ok (.aload_n 0, 1) := by decide +kernel
theorem d_GM_gather_109 : decode b_GM_gather 109 = .ok (.getfield 38, 3) := by decide +kernel
theorem d_GM_gather_112 : decode b_GM_gather 112 = .ok (.iload 4, 2) := by decide +kernel
theorem d_GM_gather_114 : decode b_GM_gather 114 = .ok (.iload 5, 2) := by decide +kernel
theorem d_GM_gather_116 : decode b_GM_gather 116 = .ok (.iconst 1, 1) := by decide +kernel
theorem d_GM_gather_117 : decode b_GM_gather 117 = .ok (.iadd, 1) := by decide +kernel
theorem d_GM_gather_118 : decode b_GM_gather 118 = .ok (.iastore, 1) := by decide +kernel
theorem d_GM_gather_119 : decode b_GM_gather 119 = .ok (.goto 28, 3) := by decide +kernel
theorem d_GM_gather_122 : decode b_GM_gather 122 = .ok (.iload 6, 2) := by decide +kernel
theorem d_GM_gather_124 : decode b_GM_gather 124 = .ok (.invokestatic 93, 3) := by decide +kernel
theorem d_GM_gather_127 : decode b_GM_gather 127 = .ok (.ifCond .eq 20, 3) := by decide +kernel
theorem d_GM_gather_130 : decode b_GM_gather 130 = .ok (.aload_n 0, 1) := by decide +kernel
theorem d_GM_gather_131 : decode b_GM_gather 131 = .ok (.getfield 41, 3) := by decide +kernel
theorem d_GM_gather_134 : decode b_GM_gather 134 = .ok (.iload 4, 2) := by decide +kernel
theorem d_GM_gather_136 : decode b_GM_gather 136 = .ok (.dup2, 1) := by decide +kernel
theorem d_GM_gather_137 : decode b_GM_gather 137 = .ok (.iaload, 1) := by decide +kernel
theorem d_GM_gather_138 : decode b_GM_gather 138 = .ok (.iconst 1, 1) := by decide +kernel
theorem d_GM_gather_139 : decode b_GM_gather 139 = .ok (.iload 6, 2) := by decide +kernel
theorem d_GM_gather_141 : decode b_GM_gather 141 = .ok (.bipush 65, 2) := by decide +kernel
theorem d_GM_gather_143 : decode b_GM_gather 143 = .ok (.isub, 1) := by decide +kernel
theorem d_GM_gather_144 : decode b_GM_gather 144 = .ok (.ishl, 1) := by decide +kernel
theorem d_GM_gather_145 : decode b_GM_gather 145 = .ok (.ior, 1) := by decide +kernel
theorem d_GM_gather_146 : decode b_GM_gather 146 = .ok (.iastore, 1) := by decide +kernel
theorem d_GM_gather_147 : decode b_GM_gather 147 = .ok (.iload 6, 2) := by decide +kernel
theorem d_GM_gather_149 : decode b_GM_gather 149 = .ok (.bipush 123, 2) := by decide +kernel
theorem d_GM_gather_151 : decode b_GM_gather 151 = .ok (.if_icmp .ne 6, 3) := by decide +kernel
theorem d_GM_gather_154 : decode b_GM_gather 154 = .ok (.iinc 3 1, 3) := by decide +kernel
theorem d_GM_gather_157 : decode b_GM_gather 157 = .ok (.iload 6, 2) := by decide +kernel
theorem d_GM_gather_159 : decode b_GM_gather 159 = .ok (.bipush 125, 2) := by decide +kernel
theorem d_GM_gather_161 : decode b_GM_gather 161 = .ok (.if_icmp .ne 6, 3) := by decide +kernel
theorem d_GM_gather_164 : decode b_GM_gather 164 = .ok (.iinc 3 (-1), 3) := by decide +kernel
theorem d_GM_gather_167 : decode b_GM_gather 167 = .ok (.iinc 5 1, 3) := by decide +kernel
theorem d_GM_gather_170 : decode b_GM_gather 170 = .ok (.goto (-118), 3) := by decide +kernel
theorem d_GM_gather_173 : decode b_GM_gather 173 = .ok (.iinc 1 1, 3) := by decide +kernel
theorem d_GM_gather_176 : decode b_GM_gather 176 = .ok (.goto (-146), 3) := by decide +kernel
theorem d_GM_gather_179 : decode b_GM_gather 179 = .ok (.iconst 1, 1) := by decide +kernel
theorem d_GM_gather_180 : decode b_GM_gather 180 = .ok (.ireturn, 1) := by decide +kernel
theorem d_GM_link_0 : decode b_GM_link 0 = .ok (.aload_n 0, 1) := by decide +kernel
theorem d_GM_link_1 : decode b_GM_link 1 = .ok (.getfield 16, 3) := by decide +kernel
theorem d_GM_link_4 : decode b_GM_link 4 = .ok (.iconst 0, 1) := by decide +kernel
theorem d_GM_link_5 : decode b_GM_link 5 = .ok (.baload, 1) := by decide +kernel
theorem d_GM_link_6 : decode b_GM_link 6 = .ok (.ifCond .eq 21, 3) := by decide +kernel
theorem d_GM_link_9 : decode b_GM_link 9 = .ok (.aload_n 0, 1) := by decide +kernel
theorem d_GM_link_10 : decode b_GM_link 10 = .ok (.getfield 16, 3) := by decide +kernel
theorem d_GM_link_13 : decode b_GM_link 13 = .ok (.iconst 1, 1) := by decide +kernel
theorem d_GM_link_14 : decode b_GM_link 14 = .ok (.baload, 1) := by decide +kernel
theorem d_GM_link_15 : decode b_GM_link 15 = .ok (.ifCond .eq 12, 3) := by decide +kernel
theorem d_GM_link_18 : decode b_GM_link 18 = .ok (.aload_n 0, 1) := by decide +kernel
theorem d_GM_link_19 : decode b_GM_link 19 = .ok (.getfield 16, 3) := by decide +kernel
theorem d_GM_link_22 : decode b_GM_link 22 = .ok (.iconst 2, 1) := by decide +kernel
theorem d_GM_link_23 : decode b_GM_link 23 = .ok (.baload, 1) := by decide +kernel
theorem d_GM_link_24 : decode b_GM_link 24 = .ok (.ifCond .ne 5, 3) := by decide +kernel
theorem d_GM_link_27 : decode b_GM_link 27 = .ok (.iconst (-1), 1) := by decide +kernel
theorem d_GM_link_28 : decode b_GM_link 28 = .ok (.ireturn, 1) := by decide +kernel
theorem d_GM_link_29 : decode b_GM_link 29 = .ok (.aload_n 0, 1) := by decide +kernel
theorem d_GM_link_30 : decode b_GM_link 30 = .ok (.invokevirtual 77, 3) := by decide +kernel
theorem d_GM_link_33 : decode b_GM_link 33 = .ok (.aload_n 0, 1) := by decide +kernel
theorem d_GM_link_34 : decode b_GM_link 34 = .ok (.invokevirtual 135, 3) := by decide +kernel
theorem d_GM_link_37 : decode b_GM_link 37 = .ok (.ifCond .ne 6, 3) := by decide +kernel
theorem d_GM_link_40 : decode b_GM_link 40 = .ok (.bipush (-3), 2) := by decide +kernel
theorem d_GM_link_42 : decode b_GM_link 42 = .ok (.ireturn, 1) := by decide +kernel
theorem d_GM_link_43 : decode b_GM_link 43 = .ok (.iconst 0, 1) := by decide +kernel
theorem d_GM_link_44 : decode b_GM_link 44 = .ok (.istore_n 1, 1) := by decide +kernel
theorem d_GM_link_45 : decode b_GM_link 45 = .ok (.iconst 0, 1) := by decide +kernel
theorem d_GM_link_46 : decode b_GM_link 46 = .ok (.istore_n 2, 1) := by decide +kernel
theorem d_GM_link_47 : decode b_GM_link 47 = .ok (.iconst 0, 1) := by decide +kernel
theorem d_GM_link_48 : decode b_GM_link 48 = .ok (.istore_n 3, 1) := by decide +kernel
theorem d_GM_link_49 : decode b_GM_link 49 = .ok (.iconst 0, 1) := by decide +kernel
theorem d_GM_link_50 : decode b_GM_link 50 = .ok (.istore 4, 2) := by decide +kernel
theorem d_GM_link_52 : decode b_GM_link 52 = .ok (.iload 4, 2) := by decide +kernel
theorem d_GM_link_54 : decode b_GM_link 54 = .ok (.bipush 26, 2) := by decide +kernel
theorem d_GM_link_56 : decode b_GM_link 56 = .ok (.if_icmp .ge 39, 3) := by decide +kernel
theorem d_GM_link_59 : decode b_GM_link 59 = .ok (.aload_n 0, 1) := by decide +kernel
theorem d_GM_link_60 : decode b_GM_link 60 = .ok (.getfield 38, 3) := by decide +kernel
theorem d_GM_link_63 : decode b_GM_link 63 = .ok (.iload 4, 2) := by decide +kernel
theorem d_GM_link_65 : decode b_GM_link 65 = .ok (.iaload, 1) := by decide +kernel
theorem d_GM_link_66 : decode b_GM_link 66 = .ok (.ifCond .lt 13, 3) := by decide +kernel
theorem d_GM_link_69 : decode b_GM_link 69 = .ok (.iload_n 1, 1) := by decide +kernel
theorem d_GM_link_70 : decode b_GM_link 70 = .ok (.iconst 1, 1) := by decide +kernel
theorem d_GM_link_71 : decode b_GM_link 71 = .ok (.iload 4, 2) := by decide +kernel
theorem d_GM_link_73 : decode b_GM_link 73 = .ok (.ishl, 1) := by decide +kernel
theorem d_GM_link_74 : decode b_GM_link 74 = .ok (.ior, 1) := by decide +kernel
theorem d_GM_link_75 : decode b_GM_link 75 = .ok (.istore_n 1, 1) := by decide +kernel
theorem d_GM_link_76 : decode b_GM_link 76 = .ok (.iinc 3 1, 3) := by decide +kernel
theorem d_GM_link_79 : decode b_GM_link 79 = .ok (.iload_n 2, 1) := by decide +kernel
theorem d_GM_link_80 : decode b_GM_link 80 = .ok (.aload_n 0, 1) := by decide +kernel
theorem d_GM_link_81 : decode b_GM_link 81 = .ok (.getfield 41, 3) := by decide +kernel
theorem d_GM_link_84 : decode b_GM_link 84 = .ok (.iload 4, 2) := by decide +kernel
theorem d_GM_link_86 : decode b_GM_link 86 = .ok (.iaload, 1) := by decide +kernel
theorem d_GM_link_87 : decode b_GM_link 87 = .ok (.ior, 1) := by decide +kernel
theorem d_GM_link_88 : decode b_GM_link 88 = .ok (.istore_n 2, 1) := by decide +kernel
theorem d_GM_link_89 : decode b_GM_link 89 = .ok (.iinc 4 1, 3) := by decide +kernel
theorem d_GM_link_92 : decode b_GM_link 92 = .ok (.goto (-40), 3) := by decide +kernel
theorem d_GM_link_95 : decode b_GM_link 95 = .ok (.aload_n 0, 1) := by decide +kernel
theorem d_GM_link_96 : decode b_GM_link 96 = .ok (.getfield 38, 3) := by decide +kernel
theorem d_GM_link_99 : decode b_GM_link 99 = .ok (.bipush 12, 2) := by decide +kernel
theorem d_GM_link_101 : decode b_GM_link 101 = .ok (.iaload, 1) := by decide +kernel
theorem d_GM_link_102 : decode b_GM_link 102 = .ok (.ifCond .lt 11, 3) := by decide +kernel
theorem d_GM_link_105 : decode b_GM_link 105 = .ok (.iload_n 2, 1) := by decide +kernel
theorem d_GM_link_106 : decode b_GM_link 106 = .ok (.iload_n 1, 1) := by decide +kernel
theorem d_GM_link_107 : decode b_GM_link 107 = .ok (.iconst (-1), 1) := by decide +kernel
theorem d_GM_link_108 : decode b_GM_link 108 = .ok (.ixor, 1) := by decide +kernel
theorem d_GM_link_109 : decode b_GM_link 109 = .ok (.iand, 1) := by decide +kernel
theorem d_GM_link_110 : decode b_GM_link 110 = .ok (.ifCond .eq 6, 3) := by decide +kernel
theorem d_GM_link_113 : decode b_GM_link 113 = .ok (.bipush (-4), 2) := by decide +kernel
theorem d_GM_link_115 : decode b_GM_link 115 = .ok (.ireturn, 1) := by decide +kernel
theorem d_GM_link_116 : decode b_GM_link 116 = .ok (.iconst 0, 1) := by decide +kernel
theorem d_GM_link_117 : decode b_GM_link 117 = .ok (.istore 4, 2) := by decide +kernel
theorem d_GM_link_119 : decode b_GM_link 119 = .ok (.iload 4, 2) := by decide +kernel
theorem d_GM_link_121 : decode b_GM_link 121 = .ok (.bipush 26, 2) := by decide +kernel
theorem d_GM_link_123 : decode b_GM_link 123 = .ok (.if_icmp .ge 74, 3) := by decide +kernel
theorem d_GM_link_126 : decode b_GM_link 126 = .ok (.iconst 0, 1) := by decide +kernel
theorem d_GM_link_127 : decode b_GM_link 127 = .ok (.istore 5, 2) := by decide +kernel
theorem d_GM_link_129 : decode b_GM_link 129 = .ok (.iload 5, 2) := by decide +kernel
theorem d_GM_link_131 : decode b_GM_link 131 = .ok (.bipush 26, 2) := by decide +kernel
theorem d_GM_link_133 : decode b_GM_link 133 = .ok (.if_icmp .ge 58, 3) := by decide +kernel
theorem d_GM_link_136 : decode b_GM_link 136 = .ok (.iconst 0, 1) := by decide +kernel
theorem d_GM_link_137 : decode b_GM_link 137 = .ok (.istore 6, 2) := by decide +kernel
theorem d_GM_link_139 : decode b_GM_link 139 = .ok (.iload 6, 2) := by decide +kernel
theorem d_GM_link_141 : decode b_GM_link 141 = .ok (.bipush 26, 2) := by decide +kernel
theorem d_GM_link_143 : decode b_GM_link 143 = .ok (.if_icmp .ge 42, 3) := by decide +kernel
theorem d_GM_link_146 : decode b_GM_link 146 = .ok (.aload_n 0, 1) := by decide +kernel
theorem d_GM_link_147 : decode b_GM_link 147 = .ok (.getfield 41, 3) := by decide +kernel
theorem d_GM_link_150 : decode b_GM_link 150 = .ok (.iload 5, 2) := by decide +kernel
theorem d_GM_link_152 : decode b_GM_link 152 = .ok (.iaload, 1) := by decide +kernel
theorem d_GM_link_153 : decode b_GM_link 153 = .ok (.iload 6, 2) := by decide +kernel
theorem d_GM_link_155 : decode b_GM_link 155 = .ok (.ishr, 1) := by decide +kernel
theorem d_GM_link_156 : decode b_GM_link 156 = .ok (.iconst 1, 1) := by decide +kernel
theorem d_GM_link_157 : decode b_GM_link 157 = .ok (.iand, 1) := by decide +kernel
theorem d_GM_link_158 : decode b_GM_link 158 = .ok (.iconst 1, 1) := by decide +kernel
theorem d_GM_link_159 : decode b_GM_link 159 = .ok (.if_icmp .ne 20, 3) := by decide +kernel
theorem d_GM_link_162 : decode b_GM_link 162 = .ok (.aload_n 0, 1) := by decide +kernel
theorem d_GM_link_163 : decode b_GM_link 163 = .ok (.getfield 41, 3) := by decide +kernel
theorem d_GM_link_166 : decode b_GM_link 166 = .ok (.iload 5, 2) := by decide +kernel
theorem d_GM_link_168 : decode b_GM_link 168 = .ok (.dup2, 1) := by decide +kernel
theorem d_GM_link_169 : decode b_GM_link 169 = .ok (.iaload, 1) := by decide +kernel
theorem d_GM_link_170 : decode b_GM_link 170 = .ok (.aload_n 0, 1) := by decide +kernel
theorem d_GM_link_171 : decode b_GM_link 171 = .ok (.getfield 41, 3) := by decide +kernel
theorem d_GM_link_174 : decode b_GM_link 174 = .ok (.iload 6, 2) := by decide +kernel
theorem d_GM_link_176 : decode b_GM_link 176 = .ok (.iaload, 1) := by decide +kernel
theorem d_GM_link_177 : decode b_GM_link 177 = .ok (.ior, 1) := by decide +kernel
theorem d_GM_link_178 : decode b_GM_link 178 = .ok (.iastore, 1) := by decide +kernel
theorem d_GM_link_179 : decode b_GM_link 179 = .ok (.iinc 6 1, 3) := by decide +kernel
theorem d_GM_link_182 : decode b_GM_link 182 = .ok (.goto (-43), 3) := by decide +kernel
theorem d_GM_link_185 : decode b_GM_link 185 = .ok (.iinc 5 1, 3) := by decide +kernel
theorem d_GM_link_188 : decode b_GM_link 188 = .ok (.goto (-59), 3) := by decide +kernel
theorem d_GM_link_191 : decode b_GM_link 191 = .ok (.iinc 4 1, 3) := by decide +kernel
theorem d_GM_link_194 : decode b_GM_link 194 = .ok (.goto (-75), 3) := by decide +kernel
theorem d_GM_link_197 : decode b_GM_link 197 = .ok (.iconst 0, 1) := by decide +kernel
theorem d_GM_link_198 : decode b_GM_link 198 = .ok (.istore 4, 2) := by decide +kernel
theorem d_GM_link_200 : decode b_GM_link 200 = .ok (.iload 4, 2) := by decide +kernel
theorem d_GM_link_202 : decode b_GM_link 202 = .ok (.bipush 26, 2) := by decide +kernel
theorem d_GM_link_204 : decode b_GM_link 204 = .ok (.if_icmp .ge 28, 3) := by decide +kernel
theorem d_GM_link_207 : decode b_GM_link 207 = .ok (.aload_n 0, 1) := by decide +kernel
theorem d_GM_link_208 : decode b_GM_link 208 = .ok (.getfield 41, 3) := by decide +kernel
theorem d_GM_link_211 : decode b_GM_link 211 = .ok (.iload 4, 2) := by decide +kernel
theorem d_GM_link_213 : decode b_GM_link 213 = .ok (.iaload, 1) := by decide +kernel
theorem d_GM_link_214 : decode b_GM_link 214 = .ok (.iload 4, 2) := by decide +kernel
theorem d_GM_link_216 : decode b_GM_link 216 = .ok (.ishr, 1) := by decide +kernel
theorem d_GM_link_217 : decode b_GM_link 217 = .ok (.iconst 1, 1) := by decide +kernel
theorem d_GM_link_218 : decode b_GM_link 218 = .ok (.iand, 1) := by decide +kernel
theorem d_GM_link_219 : decode b_GM_link 219 = .ok (.iconst 1, 1) := by decide +kernel
theorem d_GM_link_220 : decode b_GM_link 220 = .ok (.if_icmp .ne 6, 3) := by decide +kernel
theorem d_GM_link_223 : decode b_GM_link 223 = .ok (.bipush (-5), 2) := by decide +kernel
theorem d_GM_link_225 : decode b_GM_link 225 = .ok (.ireturn, 1) := by decide +kernel
theorem d_GM_link_226 : decode b_GM_link 226 = .ok (.iinc 4 1, 3) := by decide +kernel
theorem d_GM_link_229 : decode b_GM_link 229 = .ok (.goto (-29), 3) := by decide +kernel
theorem d_GM_link_232 : decode b_GM_link 232 = .ok (.aload_n 0, 1) := by decide +kernel
theorem d_GM_link_233 : decode b_GM_link 233 = .ok (.iconst 1, 1) := by decide +kernel
theorem d_GM_link_234 : decode b_GM_link 234 = .ok (.putfield 66, 3) := by decide +kernel
theorem d_GM_link_237 : decode b_GM_link 237 = .ok (.iload_n 3, 1) := by decide +kernel
theorem d_GM_link_238 : decode b_GM_link 238 = .ok (.ireturn, 1) := by decide +kernel
theorem d_GM_apply_0 : decode b_GM_apply 0 = .ok (.iload_n 0, 1) := by decide +kernel
theorem d_GM_apply_1 : decode b_GM_apply 1 = .ok (.bipush 43, 2) := by decide +kernel
theorem d_GM_apply_3 : decode b_GM_apply 3 = .ok (.if_icmp .ne 7, 3) := by decide +kernel
theorem d_GM_apply_6 : decode b_GM_apply 6 = .ok (.iload_n 1, 1) := by decide +kernel
theorem d_GM_apply_7 : decode b_GM_apply 7 = .ok (.iload_n 2, 1) := by decide +kernel
theorem d_GM_apply_8 : decode b_GM_apply 8 = .ok (.iadd, 1) := by decide +kernel
theorem d_GM_apply_9 : decode b_GM_apply 9 = .ok (.ireturn, 1) := by decide +kernel
theorem d_GM_apply_10 : decode b_GM_apply 10 = .ok (.iload_n 0, 1) := by decide +kernel
theorem d_GM_apply_11 : decode b_GM_apply 11 = .ok (.bipush 45, 2) := by decide +kernel
theorem d_GM_apply_13 : decode b_GM_apply 13 = .ok (.if_icmp .ne 7, 3) := by decide +kernel
theorem d_GM_apply_16 : decode b_GM_apply 16 = .ok (.iload_n 1, 1) := by decide +kernel
theorem d_GM_apply_17 : decode b_GM_apply 17 = .ok (.iload_n 2, 1) := by decide +kernel
theorem d_GM_apply_18 : decode b_GM_apply 18 = .ok (.isub, 1) := by decide +kernel
theorem d_GM_apply_19 : decode b_GM_apply 19 = .ok (.ireturn, 1) := by decide +kernel
theorem d_GM_apply_20 : decode b_GM_apply 20 = .ok (.iload_n 0, 1) := by decide +kernel
theorem d_GM_apply_21 : decode b_GM_apply 21 = .ok (.bipush 38, 2) := by decide +kernel
theorem d_GM_apply_23 : decode b_GM_apply 23 = .ok (.if_icmp .ne 7, 3) := by decide +kernel
theorem d_GM_apply_26 : decode b_GM_apply 26 = .ok (.iload_n 1, 1) := by decide +kernel
theorem d_GM_apply_27 : decode b_GM_apply 27 = .ok (.iload_n 2, 1) := by decide +kernel
theorem d_GM_apply_28 : decode b_GM_apply 28 = .ok (.iand, 1) := by decide +kernel
theorem d_GM_apply_29 : decode b_GM_apply 29 = .ok (.ireturn, 1) := by decide +kernel
theorem d_GM_apply_30 : decode b_GM_apply 30 = .ok (.iload_n 0, 1) := by decide +kernel
theorem d_GM_apply_31 : decode b_GM_apply 31 = .ok (.bipush 124, 2) := by decide +kernel
theorem d_GM_apply_33 : decode b_GM_apply 33 = .ok (.if_icmp .ne 7, 3) := by decide +kernel
theorem d_GM_apply_36 : decode b_GM_apply 36 = .ok (.iload_n 1, 1) := by decide +kernel
theorem d_GM_apply_37 : decode b_GM_apply 37 = .ok (.iload_n 2, 1) := by decide +kernel
theorem d_GM_apply_38 : decode b_GM_apply 38 = .ok (.ior, 1) := by decide +kernel
theorem d_GM_apply_39 : decode b_GM_apply 39 = .ok (.ireturn, 1) := by decide +kernel
theorem d_GM_apply_40 : decode b_GM_apply 40 = .ok (.iload_n 0, 1) := by decide +kernel
theorem d_GM_apply_41 : decode b_GM_apply 41 = .ok (.bipush 94, 2) := by decide +kernel
theorem d_GM_apply_43 : decode b_GM_apply 43 = .ok (.if_icmp .ne 7, 3) := by decide +kernel
theorem d_GM_apply_46 : decode b_GM_apply 46 = .ok (.iload_n 1, 1) := by decide +kernel
theorem d_GM_apply_47 : decode b_GM_apply 47 = .ok (.iload_n 2, 1) := by decide +kernel
theorem d_GM_apply_48 : decode b_GM_apply 48 = .ok (.ixor, 1) := by decide +kernel
theorem d_GM_apply_49 : decode b_GM_apply 49 = .ok (.ireturn, 1) := by decide +kernel
theorem d_GM_apply_50 : decode b_GM_apply 50 = .ok (.iload_n 0, 1) := by decide +kernel
theorem d_GM_apply_51 : decode b_GM_apply 51 = .ok (.bipush 60, 2) := by decide +kernel
theorem d_GM_apply_53 : decode b_GM_apply 53 = .ok (.if_icmp .ne 14, 3) := by decide +kernel
theorem d_GM_apply_56 : decode b_GM_apply 56 = .ok (.iload_n 1, 1) := by decide +kernel
theorem d_GM_apply_57 : decode b_GM_apply 57 = .ok (.iload_n 2, 1) := by decide +kernel
theorem d_GM_apply_58 : decode b_GM_apply 58 = .ok (.if_icmp .ge 7, 3) := by decide +kernel
theorem d_GM_apply_61 : decode b_GM_apply 61 = .ok (.iconst 1, 1) := by decide +kernel
theorem d_GM_apply_62 : decode b_GM_apply 62 = .ok (.goto 4, 3) := by decide +kernel
theorem d_GM_apply_65 : decode b_GM_apply 65 = .ok (.iconst 0, 1) := by decide +kernel
theorem d_GM_apply_66 : decode b_GM_apply 66 = .ok (.ireturn, 1) := by decide +kernel
theorem d_GM_apply_67 : decode b_GM_apply 67 = .ok (.iload_n 0, 1) := by decide +kernel
theorem d_GM_apply_68 : decode b_GM_apply 68 = .ok (.bipush 61, 2) := by decide +kernel
theorem d_GM_apply_70 : decode b_GM_apply 70 = .ok (.if_icmp .ne 16, 3) := by decide +kernel
theorem d_GM_apply_73 : decode b_GM_apply 73 = .ok (.iload_n 1, 1) := by decide +kernel
theorem d_GM_apply_74 : decode b_GM_apply 74 = .ok (.iload_n 2, 1) := by decide +kernel
theorem d_GM_apply_75 : decode b_GM_apply 75 = .ok (.if_icmp .ne 7, 3) := by decide +kernel
theorem d_GM_apply_78 : decode b_GM_apply 78 = .ok (.iconst 1, 1) := by decide +kernel
theorem d_GM_apply_79 : decode b_GM_apply 79 = .ok (.goto 8, 3) := by decide +kernel
theorem d_GM_apply_82 : decode b_GM_apply 82 = .ok (.iconst 0, 1) := by decide +kernel
theorem d_GM_apply_83 : decode b_GM_apply 83 = .ok (.goto 4, 3) := by decide +kernel
theorem d_GM_apply_86 : decode b_GM_apply 86 = .ok (.iload_n 2, 1) := by decide +kernel
theorem d_GM_apply_87 : decode b_GM_apply 87 = .ok (.ireturn, 1) := by decide +kernel
theorem d_GM_operand_0 : decode b_GM_operand 0 = .ok (.iload_n 2, 1) := by decide +kernel
theorem d_GM_operand_1 : decode b_GM_operand 1 = .ok (.istore_n 3, 1) := by decide +kernel
theorem d_GM_operand_2 : decode b_GM_operand 2 = .ok (.aload_n 0, 1) := by decide +kernel
theorem d_GM_operand_3 : decode b_GM_operand 3 = .ok (.getfield 139, 3) := by decide +kernel
theorem d_GM_operand_6 : decode b_GM_operand 6 = .ok (.aload_n 0, 1) := by decide +kernel
theorem d_GM_operand_7 : decode b_GM_operand 7 = .ok (.getfield 60, 3) := by decide +kernel
theorem d_GM_operand_10 : decode b_GM_operand 10 = .ok (.iload_n 1, 1) := by decide +kernel
theorem d_GM_operand_11 : decode b_GM_operand 11 = .ok (.iaload, 1) := by decide +kernel
theorem d_GM_operand_12 : decode b_GM_operand 12 = .ok (.if_icmp .le 39, 3) := by decide +kernel
theorem d_GM_operand_15 : decode b_GM_operand 15 = .ok (.aload_n 0, 1) := by decide +kernel
theorem d_GM_operand_16 : decode b_GM_operand 16 = .ok (.dup, 1) := by decide +kernel
theorem d_GM_operand_17 : decode b_GM_operand 17 = .ok (.getfield 139, 3) := by decide +kernel
theorem d_GM_operand_20 : decode b_GM_operand 20 = .ok (.iconst 1, 1) := by decide +kernel
theorem d_GM_operand_21 : decode b_GM_operand 21 = .ok (.isub, 1) := by decide +kernel
theorem d_GM_operand_22 : decode b_GM_operand 22 = .ok (.putfield 139, 3) := by decide +kernel
theorem d_GM_operand_25 : decode b_GM_operand 25 = .ok (.aload_n 0, 1) := by decide +kernel
theorem d_GM_operand_26 : decode b_GM_operand 26 = .ok (.getfield 63, 3) := by decide +kernel
theorem d_GM_operand_29 : decode b_GM_operand 29 = .ok (.aload_n 0, 1) := by decide +kernel
theorem d_GM_operand_30 : decode b_GM_operand 30 = .ok (.getfield 139, 3) := by decide +kernel
theorem d_GM_operand_33 : decode b_GM_operand 33 = .ok (.iaload, 1) := by decide +kernel
theorem d_GM_operand_34 : decode b_GM_operand 34 = .ok (.bipush 126, 2) := by decide +kernel
theorem d_GM_operand_36 : decode b_GM_operand 36 = .ok (.if_icmp .ne 9, 3) := by decide +kernel
theorem d_GM_operand_39 : decode b_GM_operand 39 = .ok (.iload_n 3, 1) := by decide +kernel
theorem d_GM_operand_40 : decode b_GM_operand 40 = .ok (.iconst (-1), 1) := by decide +kernel
theorem d_GM_operand_41 : decode b_GM_operand 41 = .ok (.ixor, 1) := by decide +kernel
theorem d_GM_operand_42 : decode b_GM_operand 42 = .ok (.goto 5, 3) := by decide +kernel
theorem d_GM_operand_45 : decode b_GM_operand 45 = .ok (.iload_n 3, 1) := by decide +kernel
theorem d_GM_operand_46 : decode b_GM_operand 46 = .ok (.ineg, 1) := by decide +kernel
theorem d_GM_operand_47 : decode b_GM_operand 47 = .ok (.istore_n 3, 1) := by decide +kernel
theorem d_GM_operand_48 : decode b_GM_operand 48 = .ok (.goto (-46), 3) := by decide +kernel
theorem d_GM_operand_51 : decode b_GM_operand 51 = .ok (.aload_n 0, 1) := by decide +kernel
theorem d_GM_operand_52 : decode b_GM_operand 52 = .ok (.getfield 54, 3) := by decide +kernel
theorem d_GM_operand_55 : decode b_GM_operand 55 = .ok (.iload_n 1, 1) := by decide +kernel
theorem d_GM_operand_56 : decode b_GM_operand 56 = .ok (.aload_n 0, 1) := by decide +kernel
theorem d_GM_operand_57 : decode b_GM_operand 57 = .ok (.getfield 57, 3) := by decide +kernel
theorem d_GM_operand_60 : decode b_GM_operand 60 = .ok (.iload_n 1, 1) := by decide +kernel
theorem d_GM_operand_61 : decode b_GM_operand 61 = .ok (.iaload, 1) := by decide +kernel
theorem d_GM_operand_62 : decode b_GM_operand 62 = .ok (.aload_n 0, 1) := by decide +kernel
theorem d_GM_operand_63 : decode b_GM_operand 63 = .ok (.getfield 54, 3) := by decide +kernel
theorem d_GM_operand_66 : decode b_GM_operand 66 = .ok (.iload_n 1, 1) := by decide +kernel
theorem d_GM_operand_67 : decode b_GM_operand 67 = .ok (.iaload, 1) := by decide +kernel
theorem d_GM_operand_68 : decode b_GM_operand 68 = .ok (.iload_n 3, 1) := by decide +kernel
theorem d_GM_operand_69 : decode b_GM_operand 69 = .ok (.invokestatic 142, 3) := by decide +kernel
theorem d_GM_operand_72 : decode b_GM_operand 72 = .ok (.iastore, 1) := by decide +kernel
theorem d_GM_operand_73 : decode b_GM_operand 73 = .ok (.return_, 1) := by decide +kernel
theorem d_GM_work_0 : decode b_GM_work 0 = .ok (.iconst 0, 1) := by decide +kernel
theorem d_GM_work_1 : decode b_GM_work 1 = .ok (.istore_n 2, 1) := by decide +kernel
theorem d_GM_work_2 : decode b_GM_work 2 = .ok (.iconst 1, 1) := by decide +kernel
theorem d_GM_work_3 : decode b_GM_work 3 = .ok (.istore_n 3, 1) := by decide +kernel
theorem d_GM_work_4 : decode b_GM_work 4 = .ok (.aload_n 0, 1) := by decide +kernel
theorem d_GM_work_5 : decode b_GM_work 5 = .ok (.iconst 0, 1) := by decide +kernel
theorem d_GM_work_6 : decode b_GM_work 6 = .ok (.putfield 139, 3) := by decide +kernel
theorem d_GM_work_9 : decode b_GM_work 9 = .ok (.aload_n 0, 1) := by decide +kernel
theorem d_GM_work_10 : decode b_GM_work 10 = .ok (.getfield 60, 3) := by decide +kernel
theorem d_GM_work_13 : decode b_GM_work 13 = .ok (.iconst 0, 1) := by decide +kernel
theorem d_GM_work_14 : decode b_GM_work 14 = .ok (.iconst 0, 1) := by decide +kernel
theorem d_GM_work_15 : decode b_GM_work 15 = .ok (.iastore, 1) := by decide +kernel
theorem d_GM_work_16 : decode b_GM_work 16 = .ok (.aload_n 0, 1) := by decide +kernel
theorem d_GM_work_17 : decode b_GM_work 17 = .ok (.getfield 57, 3) := by decide +kernel
theorem d_GM_work_20 : decode b_GM_work 20 = .ok (.iconst 0, 1) := by decide +kernel
theorem d_GM_work_21 : decode b_GM_work 21 = .ok (.iconst 0, 1) := by decide +kernel
theorem d_GM_work_22 : decode b_GM_work 22 = .ok (.iastore, 1) := by decide +kernel
theorem d_GM_work_23 : decode b_GM_work 23 = .ok (.iload_n 1, 1) := by decide +kernel
theorem d_GM_work_24 : decode b_GM_work 24 = .ok (.istore 4, 2) := by decide +kernel
theorem d_GM_work_26 : decode b_GM_work 26 = .ok (.iload_n 2, 1) := by decide +kernel
theorem d_GM_work_27 : decode b_GM_work 27 = .ok (.ifCond .gt 31, 3) := by decide +kernel
theorem d_GM_work_30 : decode b_GM_work 30 = .ok (.iload_n 3, 1) := by decide +kernel
theorem d_GM_work_31 : decode b_GM_work 31 = .ok (.ifCond .ne 27, 3) := by decide +kernel
theorem d_GM_work_34 : decode b_GM_work 34 = .ok (.aload_n 0, 1) := by decide +kernel
theorem d_GM_work_35 : decode b_GM_work 35 = .ok (.getfield 7, 3) := by decide +kernel
theorem d_GM_work_38 : decode b_GM_work 38 = .ok (.iload 4, 2) := by decide +kernel
theorem d_GM_work_40 : decode b_GM_work 40 = .ok (.iaload, 1) := by decide +kernel
theorem d_GM_work_41 : decode b_GM_work 41 = .ok (.bipush 59, 2) := by decide +kernel
theorem d_GM_work_43 : decode b_GM_work 43 = .ok (.if_icmp .eq 224, 3) := by decide +kernel
theorem d_GM_work_46 : decode b_GM_work 46 = .ok (.aload_n 0, 1) := by decide +kernel
theorem d_GM_work_47 : decode b_GM_work 47 = .ok (.getfield 7, 3) := by decide +kernel
theorem d_GM_work_50 : decode b_GM_work 50 = .ok (.iload 4, 2) := by decide +kernel
theorem d_GM_work_52 : decode b_GM_work 52 = .ok (.iaload, 1) := by decide +kernel
theorem d_GM_work_53 : decode b_GM_work 53 = .ok (.bipush 123, 2) := by decide +kernel
theorem d_GM_work_55 : decode b_GM_work 55 = .ok (.if_icmp .eq 212, 3) := by decide +kernel
theorem d_GM_work_58 : decode b_GM_work 58 = .ok (.aload_n 0, 1) := by decide +kernel
theorem d_GM_work_59 : decode b_GM_work 59 = .ok (.getfield 7, 3) := by decide +kernel
theorem d_GM_work_62 : decode b_GM_work 62 = .ok (.iload 4, 2) := by decide +kernel
theorem d_GM_work_64 : decode b_GM_work 64 = .ok (.iaload, 1) := by decide +kernel
theorem d_GM_work_65 : decode b_GM_work 65 = .ok (.istore 5, 2) := by decide +kernel
theorem d_GM_work_67 : decode b_GM_work 67 = .ok (.iinc 4 1, 3) := by decide +kernel
theorem d_GM_work_70 : decode b_GM_work 70 = .ok (.iload 5, 2) := by decide +kernel
theorem d_GM_work_72 : decode b_GM_work 72 = .ok (.bipush 48, 2) := by decide +kernel
theorem d_GM_work_74 : decode b_GM_work 74 = .ok (.bipush 57, 2) := by decide +kernel
theorem d_GM_work_76 : decode b_GM_work 76 = .ok (.invokestatic 73, 3) := by decide +kernel
theorem d_GM_work_79 : decode b_GM_work 79 = .ok (.ifCond .eq 63, 3) := by decide +kernel
theorem d_GM_work_82 : decode b_GM_work 82 = .ok (.iload 5, 2) := by decide +kernel
theorem d_GM_work_84 : decode b_GM_work 84 = .ok (.bipush 48, 2) := by decide +kernel
theorem d_GM_work_86 : decode b_GM_work 86 = .ok (.isub, 1) := by decide +kernel
theorem d_GM_work_87 : decode b_GM_work 87 = .ok (.istore 6, 2) := by decide +kernel
theorem d_GM_work_89 : decode b_GM_work 89 = .ok (.aload_n 0, 1) := by decide +kernel
theorem d_GM_work_90 : decode b_GM_work 90 = .ok (.getfield 7, 3) := by decide +kernel
theorem d_GM_work_93 : decode b_GM_work 93 = .ok (.iload 4, 2) := by decide +kernel
theorem d_GM_work_95 : decode b_GM_work 95 = .ok (.iaload, 1) := by decide +kernel
theorem d_GM_work_96 : decode b_GM_work 96 = .ok (.bipush 48, 2) := by decide +kernel
theorem d_GM_work_98 : decode b_GM_work 98 = .ok (.bipush 57, 2) := by decide +kernel
theorem d_GM_work_100 : decode b_GM_work 100 = .ok (.invokestatic 73, 3) := by decide +kernel
theorem d_GM_work_103 : decode b_GM_work 103 = .ok (.ifCond .eq 27, 3) := by decide +kernel
theorem d_GM_work_106 : decode b_GM_work 106 = .ok (.bipush 10, 2) := by decide +kernel
theorem d_GM_work_108 : decode b_GM_work 108 = .ok (.iload 6, 2) := by decide +kernel
theorem d_GM_work_110 : decode b_GM_work 110 = .ok (.imul, 1) := by decide +kernel
theorem d_GM_work_111 : decode b_GM_work 111 = .ok (.aload_n 0, 1) := by decide +kernel
theorem d_GM_work_112 : decode b_GM_work 112 = .ok (.getfield 7, 3) := by decide +kernel
theorem d_GM_work_115 : decode b_GM_work 115 = .ok (.iload 4, 2) := by decide +kernel
theorem d_GM_work_117 : decode b_GM_work 117 = .ok (.iaload, 1) := by decide +kernel
theorem d_GM_work_118 : decode b_GM_work 118 = .ok (.iadd, 1) := by decide +kernel
theorem d_GM_work_119 : decode b_GM_work 119 = .ok (.bipush 48, 2) := by decide +kernel
theorem d_GM_work_121 : decode b_GM_work 121 = .ok (.isub, 1) := by decide +kernel
theorem d_GM_work_122 : decode b_GM_work 122 = .ok (.istore 6, 2) := by decide +kernel
theorem d_GM_work_124 : decode b_GM_work 124 = .ok (.iinc 4 1, 3) := by decide +kernel
theorem d_GM_work_127 : decode b_GM_work 127 = .ok (.goto (-38), 3) := by decide +kernel
theorem d_GM_work_130 : decode b_GM_work 130 = .ok (.aload_n 0, 1) := by decide +kernel
theorem d_GM_work_131 : decode b_GM_work 131 = .ok (.iload_n 2, 1) := by decide +kernel
theorem d_GM_work_132 : decode b_GM_work 132 = .ok (.iload 6, 2) := by decide +kernel
theorem d_GM_work_134 : decode b_GM_work 134 = .ok (.invokevirtual 146, 3) := by decide +kernel
theorem d_GM_work_137 : decode b_GM_work 137 = .ok (.iconst 0, 1) := by decide +kernel
theorem d_GM_work_138 : decode b_GM_work 138 = .ok (.istore_n 3, 1) := by decide +kernel
theorem d_GM_work_139 : decode b_GM_work 139 = .ok (.goto 125, 3) := by decide +kernel
theorem d_GM_work_142 : decode b_GM_work 142 = .ok (.iload 5, 2) := by decide +kernel
theorem d_GM_work_144 : decode b_GM_work 144 = .ok (.invokestatic 97, 3) := by decide +kernel
theorem d_GM_work_147 : decode b_GM_work 147 = .ok (.ifCond .eq 23, 3) := by decide +kernel
theorem d_GM_work_150 : decode b_GM_work 150 = .ok (.aload_n 0, 1) := by decide +kernel
theorem d_GM_work_151 : decode b_GM_work 151 = .ok (.iload_n 2, 1) := by decide +kernel
theorem d_GM_work_152 : decode b_GM_work 152 = .ok (.aload_n 0, 1) := by decide +kernel
theorem d_GM_work_153 : decode b_GM_work 153 = .ok (.getfield 44, 3) := by decide +kernel
theorem d_GM_work_156 : decode b_GM_work 156 = .ok (.iload 5, 2) := by decide +kernel
theorem d_GM_work_158 : decode b_GM_work 158 = .ok (.bipush 97, 2) := by decide +kernel
theorem d_GM_work_160 : decode b_GM_work 160 = .ok (.isub, 1) := by decide +kernel
theorem d_GM_work_161 : decode b_GM_work 161 = .ok (.iaload, 1) := by decide +kernel
theorem d_GM_work_162 : decode b_GM_work 162 = .ok (.invokevirtual 146, 3) := by decide +kernel
theorem d_GM_work_165 : decode b_GM_work 165 = .ok (.iconst 0, 1) := by decide +kernel
theorem d_GM_work_166 : decode b_GM_work 166 = .ok (.istore_n 3, 1) := by decide +kernel
theorem d_GM_work_167 : decode b_GM_work 167 = .ok (.goto 97, 3) := by decide +kernel
theorem d_GM_work_170 : decode b_GM_work 170 = .ok (.iload 5, 2) := by decide +kernel
theorem d_GM_work_172 : decode b_GM_work 172 = .ok (.bipush 40, 2) := by decide +kernel
theorem d_GM_work_174 : decode b_GM_work 174 = .ok (.if_icmp .ne 26, 3) := by decide +kernel
theorem d_GM_work_177 : decode b_GM_work 177 = .ok (.iinc 2 1, 3) := by decide +kernel
theorem d_GM_work_180 : decode b_GM_work 180 = .ok (.aload_n 0, 1) := by decide +kernel
theorem d_GM_work_181 : decode b_GM_work 181 = .ok (.getfield 60, 3) := by decide +kernel
theorem d_GM_work_184 : decode b_GM_work 184 = .ok (.iload_n 2, 1) := by decide +kernel
theorem d_GM_work_185 : decode b_GM_work 185 = .ok (.aload_n 0, 1) := by decide +kernel
theorem d_GM_work_186 : decode b_GM_work 186 = .ok (.getfield 139, 3) := by decide +kernel
theorem d_GM_work_189 : decode b_GM_work 189 = .ok (.iastore, 1) := by decide +kernel
theorem d_GM_work_190 : decode b_GM_work 190 = .ok (.aload_n 0, 1) := by decide +kernel
theorem d_GM_work_191 : decode b_GM_work 191 = .ok (.getfield 57, 3) := by decide +kernel
theorem d_GM_work_194 : decode b_GM_work 194 = .ok (.iload_n 2, 1) := by decide +kernel
theorem d_GM_work_195 : decode b_GM_work 195 = .ok (.iconst 0, 1) := by decide +kernel
theorem d_GM_work_196 : decode b_GM_work 196 = .ok (.iastore, 1) := by decide +kernel
theorem d_GM_work_197 : decode b_GM_work 197 = .ok (.goto 67, 3) := by decide +kernel
theorem d_GM_work_200 : decode b_GM_work 200 = .ok (.iload 5, 2) := by decide +kernel
theorem d_GM_work_202 : decode b_GM_work 202 = .ok (.bipush 41, 2) := by decide +kernel
theorem d_GM_work_204 : decode b_GM_work 204 = .ok (.if_icmp .ne 22, 3) := by decide +kernel
theorem d_GM_work_207 : decode b_GM_work 207 = .ok (.iinc 2 (-1), 3) := by decide +kernel
theorem d_GM_work_210 : decode b_GM_work 210 = .ok (.aload_n 0, 1) := by decide +kernel
theorem d_GM_work_211 : decode b_GM_work 211 = .ok (.iload_n 2, 1) := by decide +kernel
theorem d_GM_work_212 : decode b_GM_work 212 = .ok (.aload_n 0, 1) := by decide +kernel
theorem d_GM_work_213 : decode b_GM_work 213 = .ok (.getfield 54, 3) := by decide +kernel
theorem d_GM_work_216 : decode b_GM_work 216 = .ok (.iload_n 2, 1) := by decide +kernel
theorem d_GM_work_217 : decode b_GM_work 217 = .ok (.iconst 1, 1) := by decide +kernel
theorem d_GM_work_218 : decode b_GM_work 218 = .ok (.iadd, 1) := by decide +kernel
theorem d_GM_work_219 : decode b_GM_work 219 = .ok (.iaload, 1) := by decide +kernel
theorem d_GM_work_220 : decode b_GM_work 220 = .ok (.invokevirtual 146, 3) := by decide +kernel
theorem d_GM_work_223 : decode b_GM_work 223 = .ok (.goto 41, 3) := by decide +kernel
theorem d_GM_work_226 : decode b_GM_work 226 = .ok (.iload_n 3, 1) := by decide +kernel
theorem d_GM_work_227 : decode b_GM_work 227 = .ok (.ifCond .eq 27, 3) := by decide +kernel
theorem d_GM_work_230 : decode b_GM_work 230 = .ok (.aload_n 0, 1) := by decide +kernel
theorem d_GM_work_231 : decode b_GM_work 231 = .ok (.getfield 63, 3) := by decide +kernel
theorem d_GM_work_234 : decode b_GM_work 234 = .ok (.aload_n 0, 1) := by decide +kernel
theorem d_GM_work_235 : decode b_GM_work 235 = .ok (.getfield 139, 3) := by decide +kernel
theorem d_GM_work_238 : decode b_GM_work 238 = .ok (.iload 5, 2) := by decide +kernel
theorem d_GM_work_240 : decode b_GM_work 240 = .ok (.iastore, 1) := by decide +kernel
theorem d_GM_work_241 : decode b_GM_work 241 = .ok (.aload_n 0, 1) := by decide +kernel
theorem d_GM_work_242 : decode b_GM_work 242 = .ok (.dup, 1) := by decide +kernel
theorem d_GM_work_243 : decode b_GM_work 243 = .ok (.getfield 139, 3) := by decide +kernel
theorem d_GM_work_246 : decode b_GM_work 246 = .ok (.iconst 1, 1) := by decide +kernel
theorem d_GM_work_247 : decode b_GM_work 247 = .ok (.iadd, 1) := by decide +kernel
theorem d_GM_work_248 : decode b_GM_work 248 = .ok (.putfield 139, 3) := by decide +kernel
theorem d_GM_work_251 : decode b_GM_work 251 = .ok (.goto 13, 3) := by decide +kernel
theorem d_GM_work_254 : decode b_GM_work 254 = .ok (.aload_n 0, 1) := by decide +kernel
theorem d_GM_work_255 : decode b_GM_work 255 = .ok (.getfield 57, 3) := by decide +kernel
theorem d_GM_work_258 : decode b_GM_work 258 = .ok (.iload_n 2, 1) := by decide +kernel
theorem d_GM_work_259 : decode b_GM_work 259 = .ok (.iload 5, 2) := by decide +kernel
theorem d_GM_work_261 : decode b_GM_work 261 = .ok (.iastore, 1) := by decide +kernel
theorem d_GM_work_262 : decode b_GM_work 262 = .ok (.iconst 1, 1) := by decide +kernel
theorem d_GM_work_263 : decode b_GM_work 263 = .ok (.istore_n 3, 1) := by decide +kernel
theorem d_GM_work_264 : decode b_GM_work 264 = .ok (.goto (-238), 3) := by decide +kernel
theorem d_GM_work_267 : decode b_GM_work 267 = .ok (.aload_n 0, 1) := by decide +kernel
theorem d_GM_work_268 : decode b_GM_work 268 = .ok (.iload 4, 2) := by decide +kernel
theorem d_GM_work_270 : decode b_GM_work 270 = .ok (.putfield 150, 3) := by decide +kernel
theorem d_GM_work_273 : decode b_GM_work 273 = .ok (.aload_n 0, 1) := by decide +kernel
theorem d_GM_work_274 : decode b_GM_work 274 = .ok (.getfield 54, 3) := by decide +kernel
theorem d_GM_work_277 : decode b_GM_work 277 = .ok (.iconst 0, 1) := by decide +kernel
theorem d_GM_work_278 : decode b_GM_work 278 = .ok (.iaload, 1) := by decide +kernel
theorem d_GM_work_279 : decode b_GM_work 279 = .ok (.ireturn, 1) := by decide +kernel
theorem d_GM_settle_0 : decode b_GM_settle 0 = .ok (.aload_n 0, 1) := by decide +kernel
theorem d_GM_settle_1 : decode b_GM_settle 1 = .ok (.getfield 70, 3) := by decide +kernel
theorem d_GM_settle_4 : decode b_GM_settle 4 = .ok (.ifCond .eq 155, 3) := by decide +kernel
theorem d_GM_settle_7 : decode b_GM_settle 7 = .ok (.aload_n 0, 1) := by decide +kernel
theorem d_GM_settle_8 : decode b_GM_settle 8 = .ok (.getfield 7, 3) := by decide +kernel
theorem d_GM_settle_11 : decode b_GM_settle 11 = .ok (.aload_n 0, 1) := by decide +kernel
theorem d_GM_settle_12 : decode b_GM_settle 12 = .ok (.getfield 153, 3) := by decide +kernel
theorem d_GM_settle_15 : decode b_GM_settle 15 = .ok (.iaload, 1) := by decide +kernel
theorem d_GM_settle_16 : decode b_GM_settle 16 = .ok (.bipush 125, 2) := by decide +kernel
theorem d_GM_settle_18 : decode b_GM_settle 18 = .ok (.if_icmp .ne 141, 3) := by decide +kernel
theorem d_GM_settle_21 : decode b_GM_settle 21 = .ok (.aload_n 0, 1) := by decide +kernel
theorem d_GM_settle_22 : decode b_GM_settle 22 = .ok (.getfield 23, 3) := by decide +kernel
theorem d_GM_settle_25 : decode b_GM_settle 25 = .ok (.aload_n 0, 1) := by decide +kernel
theorem d_GM_settle_26 : decode b_GM_settle 26 = .ok (.getfield 153, 3) := by decide +kernel
theorem d_GM_settle_29 : decode b_GM_settle 29 = .ok (.iaload, 1) := by decide +kernel
theorem d_GM_settle_30 : decode b_GM_settle 30 = .ok (.istore_n 1, 1) := by decide +kernel
theorem d_GM_settle_31 : decode b_GM_settle 31 = .ok (.aload_n 0, 1) := by decide +kernel
theorem d_GM_settle_32 : decode b_GM_settle 32 = .ok (.getfield 29, 3) := by decide +kernel
theorem d_GM_settle_35 : decode b_GM_settle 35 = .ok (.iload_n 1, 1) := by decide +kernel
theorem d_GM_settle_36 : decode b_GM_settle 36 = .ok (.iaload, 1) := by decide +kernel
theorem d_GM_settle_37 : decode b_GM_settle 37 = .ok (.istore_n 2, 1) := by decide +kernel
theorem d_GM_settle_38 : decode b_GM_settle 38 = .ok (.iload_n 2, 1) := by decide +kernel
theorem d_GM_settle_39 : decode b_GM_settle 39 = .ok (.bipush 6, 2) := by decide +kernel
theorem d_GM_settle_41 : decode b_GM_settle 41 = .ok (.if_icmp .ne 16, 3) := by decide +kernel
theorem d_GM_settle_44 : decode b_GM_settle 44 = .ok (.aload_n 0, 1) := by decide +kernel
theorem d_GM_settle_45 : decode b_GM_settle 45 = .ok (.aload_n 0, 1) := by decide +kernel
theorem d_GM_settle_46 : decode b_GM_settle 46 = .ok (.getfield 26, 3) := by decide +kernel
theorem d_GM_settle_49 : decode b_GM_settle 49 = .ok (.iload_n 1, 1) := by decide +kernel
theorem d_GM_settle_50 : decode b_GM_settle 50 = .ok (.iaload, 1) := by decide +kernel
theorem d_GM_settle_51 : decode b_GM_settle 51 = .ok (.putfield 153, 3) := by decide +kernel
theorem d_GM_settle_54 : decode b_GM_settle 54 = .ok (.goto 102, 3) := by decide +kernel
theorem d_GM_settle_57 : decode b_GM_settle 57 = .ok (.iload_n 2, 1) := by decide +kernel
theorem d_GM_settle_58 : decode b_GM_settle 58 = .ok (.iconst 4, 1) := by decide +kernel
theorem d_GM_settle_59 : decode b_GM_settle 59 = .ok (.if_icmp .eq 8, 3) := by decide +kernel
theorem d_GM_settle_62 : decode b_GM_settle 62 = .ok (.iload_n 2, 1) := by decide +kernel
theorem d_GM_settle_63 : decode b_GM_settle 63 = .ok (.iconst 5, 1) := by decide +kernel
theorem d_GM_settle_64 : decode b_GM_settle 64 = .ok (.if_icmp .ne 52, 3) := by decide +kernel
theorem d_GM_settle_67 : decode b_GM_settle 67 = .ok (.aload_n 0, 1) := by decide +kernel
theorem d_GM_settle_68 : decode b_GM_settle 68 = .ok (.dup, 1) := by decide +kernel
theorem d_GM_settle_69 : decode b_GM_settle 69 = .ok (.getfield 153, 3) := by decide +kernel
theorem d_GM_settle_72 : decode b_GM_settle 72 = .ok (.iconst 1, 1) := by decide +kernel
theorem d_GM_settle_73 : decode b_GM_settle 73 = .ok (.iadd, 1) := by decide +kernel
theorem d_GM_settle_74 : decode b_GM_settle 74 = .ok (.putfield 153, 3) := by decide +kernel
theorem d_GM_settle_77 : decode b_GM_settle 77 = .ok (.iload_n 2, 1) := by decide +kernel
theorem d_GM_settle_78 : decode b_GM_settle 78 = .ok (.iconst 4, 1) := by decide +kernel
theorem d_GM_settle_79 : decode b_GM_settle 79 = .ok (.if_icmp .ne 77, 3) := by decide +kernel
theorem d_GM_settle_82 : decode b_GM_settle 82 = .ok (.aload_n 0, 1) := by decide +kernel
theorem d_GM_settle_83 : decode b_GM_settle 83 = .ok (.getfield 7, 3) := by decide +kernel
theorem d_GM_settle_86 : decode b_GM_settle 86 = .ok (.aload_n 0, 1) := by decide +kernel
theorem d_GM_settle_87 : decode b_GM_settle 87 = .ok (.getfield 153, 3) := by decide +kernel
theorem d_GM_settle_90 : decode b_GM_settle 90 = .ok (.iaload, 1) := by decide +kernel
theorem d_GM_settle_91 : decode b_GM_settle 91 = .ok (.bipush 58, 2) := by decide +kernel
theorem d_GM_settle_93 : decode b_GM_settle 93 = .ok (.if_icmp .ne 63, 3) := by decide +kernel
theorem d_GM_settle_96 : decode b_GM_settle 96 = .ok (.aload_n 0, 1) := by decide +kernel
theorem d_GM_settle_97 : decode b_GM_settle 97 = .ok (.aload_n 0, 1) := by decide +kernel
theorem d_GM_settle_98 : decode b_GM_settle 98 = .ok (.getfield 23, 3) := by decide +kernel
theorem d_GM_settle_101 : decode b_GM_settle 101 = .ok (.aload_n 0, 1) := by decide +kernel
theorem d_GM_settle_102 : decode b_GM_settle 102 = .ok (.getfield 153, 3) := by decide +kernel
theorem d_GM_settle_105 : decode b_GM_settle 105 = .ok (.iconst 1, 1) := by decide +kernel
theorem d_GM_settle_106 : decode b_GM_settle 106 = .ok (.iadd, 1) := by decide +kernel
theorem d_GM_settle_107 : decode b_GM_settle 107 = .ok (.iaload, 1) := by decide +kernel
theorem d_GM_settle_108 : decode b_GM_settle 108 = .ok (.iconst 1, 1) := by decide +kernel
theorem d_GM_settle_109 : decode b_GM_settle 109 = .ok (.iadd, 1) := by decide +kernel
theorem d_GM_settle_110 : decode b_GM_settle 110 = .ok (.putfield 153, 3) := by decide +kernel
theorem d_GM_settle_113 : decode b_GM_settle 113 = .ok (.goto 43, 3) := by decide +kernel
theorem d_GM_settle_116 : decode b_GM_settle 116 = .ok (.aload_n 0, 1) := by decide +kernel
theorem d_GM_settle_117 : decode b_GM_settle 117 = .ok (.dup, 1) := by decide +kernel
theorem d_GM_settle_118 : decode b_GM_settle 118 = .ok (.getfield 156, 3) := by decide +kernel
theorem d_GM_settle_121 : decode b_GM_settle 121 = .ok (.iconst 1, 1) := by decide +kernel
theorem d_GM_settle_122 : decode b_GM_settle 122 = .ok (.isub, 1) := by decide +kernel
theorem d_GM_settle_123 : decode b_GM_settle 123 = .ok (.putfield 156, 3) := by decide +kernel
theorem d_GM_settle_126 : decode b_GM_settle 126 = .ok (.aload_n 0, 1) := by decide +kernel
theorem d_GM_settle_127 : decode b_GM_settle 127 = .ok (.getfield 156, 3) := by decide +kernel
theorem d_GM_settle_130 : decode b_GM_settle 130 = .ok (.ifCond .ne 11, 3) := by decide +kernel
theorem d_GM_settle_133 : decode b_GM_settle 133 = .ok (.aload_n 0, 1) := by decide +kernel
theorem d_GM_settle_134 : decode b_GM_settle 134 = .ok (.iconst 0, 1) := by decide +kernel
theorem d_GM_settle_135 : decode b_GM_settle 135 = .ok (.putfield 70, 3) := by decide +kernel
theorem d_GM_settle_138 : decode b_GM_settle 138 = .ok (.goto 18, 3) := by decide +kernel
theorem d_GM_settle_141 : decode b_GM_settle 141 = .ok (.aload_n 0, 1) := by decide +kernel
theorem d_GM_settle_142 : decode b_GM_settle 142 = .ok (.aload_n 0, 1) := by decide +kernel
theorem d_GM_settle_143 : decode b_GM_settle 143 = .ok (.getfield 51, 3) := by decide +kernel
theorem d_GM_settle_146 : decode b_GM_settle 146 = .ok (.aload_n 0, 1) := by decide +kernel
theorem d_GM_settle_147 : decode b_GM_settle 147 = .ok (.getfield 156, 3) := by decide +kernel
theorem d_GM_settle_150 : decode b_GM_settle 150 = .ok (.iconst 1, 1) := by decide +kernel
theorem d_GM_settle_151 : decode b_GM_settle 151 = .ok (.isub, 1) := by decide +kernel
theorem d_GM_settle_152 : decode b_GM_settle 152 = .ok (.iaload, 1) := by decide +kernel
theorem d_GM_settle_153 : decode b_GM_settle 153 = .ok (.putfield 153, 3) := by decide +kernel
theorem d_GM_settle_156 : decode b_GM_settle 156 = .ok (.goto (-156), 3) := by decide +kernel
theorem d_GM_settle_159 : decode b_GM_settle 159 = .ok (.return_, 1) := by decide +kernel
theorem d_GM_start_0 : decode b_GM_start 0 = .ok (.aload_n 0, 1) := by decide +kernel
theorem d_GM_start_1 : decode b_GM_start 1 = .ok (.getfield 66, 3) := by decide +kernel
theorem d_GM_start_4 : decode b_GM_start 4 = .ok (.ifCond .eq 10, 3) := by decide +kernel
theorem d_GM_start_7 : decode b_GM_start 7 = .ok (.aload_n 0, 1) := by decide +kernel
theorem d_GM_start_8 : decode b_GM_start 8 = .ok (.getfield 70, 3) := by decide +kernel
theorem d_GM_start_11 : decode b_GM_start 11 = .ok (.ifCond .eq 5, 3) := by decide +kernel
theorem d_GM_start_14 : decode b_GM_start 14 = .ok (.iconst (-1), 1) := by decide +kernel
theorem d_GM_start_15 : decode b_GM_start 15 = .ok (.ireturn, 1) := by decide +kernel
theorem d_GM_start_16 : decode b_GM_start 16 = .ok (.aload_n 0, 1) := by decide +kernel
theorem d_GM_start_17 : decode b_GM_start 17 = .ok (.iconst 0, 1) := by decide +kernel
theorem d_GM_start_18 : decode b_GM_start 18 = .ok (.putfield 159, 3) := by decide +kernel
theorem d_GM_start_21 : decode b_GM_start 21 = .ok (.aload_n 0, 1) := by decide +kernel
theorem d_GM_start_22 : decode b_GM_start 22 = .ok (.iconst 1, 1) := by decide +kernel
theorem d_GM_start_23 : decode b_GM_start 23 = .ok (.putfield 70, 3) := by decide +kernel
theorem d_GM_start_26 : decode b_GM_start 26 = .ok (.aload_n 0, 1) := by decide +kernel
theorem d_GM_start_27 : decode b_GM_start 27 = .ok (.iconst 1, 1) := by decide +kernel
theorem d_GM_start_28 : decode b_GM_start 28 = .ok (.putfield 156, 3) := by decide +kernel
theorem d_GM_start_31 : decode b_GM_start 31 = .ok (.aload_n 0, 1) := by decide +kernel
theorem d_GM_start_32 : decode b_GM_start 32 = .ok (.aload_n 0, 1) := by decide +kernel
theorem d_GM_start_33 : decode b_GM_start 33 = .ok (.getfield 38, 3) := by decide +kernel
theorem d_GM_start_36 : decode b_GM_start 36 = .ok (.bipush 12, 2) := by decide +kernel
theorem d_GM_start_38 : decode b_GM_start 38 = .ok (.iaload, 1) := by decide +kernel
theorem d_GM_start_39 : decode b_GM_start 39 = .ok (.iconst 1, 1) := by decide +kernel
theorem d_GM_start_40 : decode b_GM_start 40 = .ok (.iadd, 1) := by decide +kernel
theorem d_GM_start_41 : decode b_GM_start 41 = .ok (.putfield 153, 3) := by decide +kernel
theorem d_GM_start_44 : decode b_GM_start 44 = .ok (.aload_n 0, 1) := by decide +kernel
theorem d_GM_start_45 : decode b_GM_start 45 = .ok (.invokevirtual 162, 3) := by decide +kernel
theorem d_GM_start_48 : decode b_GM_start 48 = .ok (.aload_n 0, 1) := by decide +kernel
theorem d_GM_start_49 : decode b_GM_start 49 = .ok (.getfield 70, 3) := by decide +kernel
theorem d_GM_start_52 : decode b_GM_start 52 = .ok (.ifCond .eq 7, 3) := by decide +kernel
theorem d_GM_start_55 : decode b_GM_start 55 = .ok (.iconst 1, 1) := by decide +kernel
theorem d_GM_start_56 : decode b_GM_start 56 = .ok (.goto 4, 3) := by decide +kernel
theorem d_GM_start_59 : decode b_GM_start 59 = .ok (.iconst 0, 1) := by decide +kernel
theorem d_GM_start_60 : decode b_GM_start 60 = .ok (.ireturn, 1) := by decide +kernel
theorem d_GM_branch_0 : decode b_GM_branch 0 = .ok (.aload_n 0, 1) := by decide +kernel
theorem d_GM_branch_1 : decode b_GM_branch 1 = .ok (.iload_n 1, 1) := by decide +kernel
theorem d_GM_branch_2 : decode b_GM_branch 2 = .ok (.iconst 1, 1) := by decide +kernel
theorem d_GM_branch_3 : decode b_GM_branch 3 = .ok (.iadd, 1) := by decide +kernel
theorem d_GM_branch_4 : decode b_GM_branch 4 = .ok (.invokevirtual 165, 3) := by decide +kernel
theorem d_GM_branch_7 : decode b_GM_branch 7 = .ok (.istore_n 2, 1) := by decide +kernel
theorem d_GM_branch_8 : decode b_GM_branch 8 = .ok (.aload_n 0, 1) := by decide +kernel
theorem d_GM_branch_9 : decode b_GM_branch 9 = .ok (.getfield 150, 3) := by decide +kernel
theorem d_GM_branch_12 : decode b_GM_branch 12 = .ok (.istore_n 3, 1) := by decide +kernel
theorem d_GM_branch_13 : decode b_GM_branch 13 = .ok (.aload_n 0, 1) := by decide +kernel
theorem d_GM_branch_14 : decode b_GM_branch 14 = .ok (.getfield 7, 3) := by decide +kernel
theorem d_GM_branch_17 : decode b_GM_branch 17 = .ok (.iload_n 1, 1) := by decide +kernel
theorem d_GM_branch_18 : decode b_GM_branch 18 = .ok (.iaload, 1) := by decide +kernel
theorem d_GM_branch_19 : decode b_GM_branch 19 = .ok (.bipush 64, 2) := by decide +kernel
theorem d_GM_branch_21 : decode b_GM_branch 21 = .ok (.if_icmp .ne 7, 3) := by decide +kernel
theorem d_GM_branch_24 : decode b_GM_branch 24 = .ok (.iconst 1, 1) := by decide +kernel
theorem d_GM_branch_25 : decode b_GM_branch 25 = .ok (.goto 4, 3) := by decide +kernel
theorem d_GM_branch_28 : decode b_GM_branch 28 = .ok (.iconst 0, 1) := by decide +kernel
theorem d_GM_branch_29 : decode b_GM_branch 29 = .ok (.istore 4, 2) := by decide +kernel
theorem d_GM_branch_31 : decode b_GM_branch 31 = .ok (.iload_n 2, 1) := by decide +kernel
theorem d_GM_branch_32 : decode b_GM_branch 32 = .ok (.ifCond .eq 13, 3) := by decide +kernel
theorem d_GM_branch_35 : decode b_GM_branch 35 = .ok (.aload_n 0, 1) := by decide +kernel
theorem d_GM_branch_36 : decode b_GM_branch 36 = .ok (.iload_n 3, 1) := by decide +kernel
theorem d_GM_branch_37 : decode b_GM_branch 37 = .ok (.iconst 1, 1) := by decide +kernel
theorem d_GM_branch_38 : decode b_GM_branch 38 = .ok (.iadd, 1) := by decide +kernel
theorem d_GM_branch_39 : decode b_GM_branch 39 = .ok (.putfield 153, 3) := by decide +kernel
theorem d_GM_branch_42 : decode b_GM_branch 42 = .ok (.goto 44, 3) := by decide +kernel
theorem d_GM_branch_45 : decode b_GM_branch 45 = .ok (.aload_n 0, 1) := by decide +kernel
theorem d_GM_branch_46 : decode b_GM_branch 46 = .ok (.aload_n 0, 1) := by decide +kernel
theorem d_GM_branch_47 : decode b_GM_branch 47 = .ok (.getfield 23, 3) := by decide +kernel
theorem d_GM_branch_50 : decode b_GM_branch 50 = .ok (.iload_n 3, 1) := by decide +kernel
theorem d_GM_branch_51 : decode b_GM_branch 51 = .ok (.iaload, 1) := by decide +kernel
theorem d_GM_branch_52 : decode b_GM_branch 52 = .ok (.iconst 1, 1) := by decide +kernel
theorem d_GM_branch_53 : decode b_GM_branch 53 = .ok (.iadd, 1) := by decide +kernel
theorem d_GM_branch_54 : decode b_GM_branch 54 = .ok (.putfield 153, 3) := by decide +kernel
theorem d_GM_branch_57 : decode b_GM_branch 57 = .ok (.iload 4, 2) := by decide +kernel
theorem d_GM_branch_59 : decode b_GM_branch 59 = .ok (.ifCond .ne 27, 3) := by decide +kernel
theorem d_GM_branch_62 : decode b_GM_branch 62 = .ok (.aload_n 0, 1) := by decide +kernel
theorem d_GM_branch_63 : decode b_GM_branch 63 = .ok (.getfield 7, 3) := by decide +kernel
theorem d_GM_branch_66 : decode b_GM_branch 66 = .ok (.aload_n 0, 1) := by decide +kernel
theorem d_GM_branch_67 : decode b_GM_branch 67 = .ok (.getfield 153, 3) := by decide +kernel
theorem d_GM_branch_70 : decode b_GM_branch 70 = .ok (.iaload, 1) := by decide +kernel
theorem d_GM_branch_71 : decode b_GM_branch 71 = .ok (.bipush 58, 2) := by decide +kernel
theorem d_GM_branch_73 : decode b_GM_branch 73 = .ok (.if_icmp .ne 13, 3) := by decide +kernel
theorem d_GM_branch_76 : decode b_GM_branch 76 = .ok (.aload_n 0, 1) := by decide +kernel
theorem d_GM_branch_77 : decode b_GM_branch 77 = .ok (.dup, 1) := by decide +kernel
theorem d_GM_branch_78 : decode b_GM_branch 78 = .ok (.getfield 153, 3) := by decide +kernel
theorem d_GM_branch_81 : decode b_GM_branch 81 = .ok (.iconst 2, 1) := by decide +kernel
theorem d_GM_branch_82 : decode b_GM_branch 82 = .ok (.iadd, 1) := by decide +kernel
theorem d_GM_branch_83 : decode b_GM_branch 83 = .ok (.putfield 153, 3) := by decide +kernel
theorem d_GM_branch_86 : decode b_GM_branch 86 = .ok (.return_, 1) := by decide +kernel
theorem d_GM_step_0 : decode b_GM_step 0 = .ok (.aload_n 0, 1) := by decide +kernel
theorem d_GM_step_1 : decode b_GM_step 1 = .ok (.getfield 7, 3) := by decide +kernel
theorem d_GM_step_4 : decode b_GM_step 4 = .ok (.aload_n 0, 1) := by decide +kernel
theorem d_GM_step_5 : decode b_GM_step 5 = .ok (.getfield 153, 3) := by decide +kernel
theorem d_GM_step_8 : decode b_GM_step 8 = .ok (.iaload, 1) := by decide +kernel
theorem d_GM_step_9 : decode b_GM_step 9 = .ok (.istore_n 1, 1) := by decide +kernel
theorem d_GM_step_10 : decode b_GM_step 10 = .ok (.iload_n 1, 1) := by decide +kernel
theorem d_GM_step_11 : decode b_GM_step 11 = .ok (.invokestatic 93, 3) := by decide +kernel
theorem d_GM_step_14 : decode b_GM_step 14 = .ok (.ifCond .eq 48, 3) := by decide +kernel
theorem d_GM_step_17 : decode b_GM_step 17 = .ok (.aload_n 0, 1) := by decide +kernel
theorem d_GM_step_18 : decode b_GM_step 18 = .ok (.getfield 51, 3) := by decide +kernel
theorem d_GM_step_21 : decode b_GM_step 21 = .ok (.aload_n 0, 1) := by decide +kernel
theorem d_GM_step_22 : decode b_GM_step 22 = .ok (.getfield 156, 3) := by decide +kernel
theorem d_GM_step_25 : decode b_GM_step 25 = .ok (.iconst 1, 1) := by decide +kernel
theorem d_GM_step_26 : decode b_GM_step 26 = .ok (.isub, 1) := by decide +kernel
theorem d_GM_step_27 : decode b_GM_step 27 = .ok (.aload_n 0, 1) := by decide +kernel
theorem d_GM_step_28 : decode b_GM_step 28 = .ok (.getfield 153, 3) := by decide +kernel
theorem d_GM_step_31 : decode b_GM_step 31 = .ok (.iconst 2, 1) := by decide +kernel
theorem d_GM_step_32 : decode b_GM_step 32 = .ok (.iadd, 1) := by decide +kernel
theorem d_GM_step_33 : decode b_GM_step 33 = .ok (.iastore, 1) := by decide +kernel
theorem d_GM_step_34 : decode b_GM_step 34 = .ok (.aload_n 0, 1) := by decide +kernel
theorem d_GM_step_35 : decode b_GM_step 35 = .ok (.dup, 1) := by decide +kernel
theorem d_GM_step_36 : decode b_GM_step 36 = .ok (.getfield 156, 3) := by decide +kernel
theorem d_GM_step_39 : decode b_GM_step 39 = .ok (.iconst 1, 1) := by decide +kernel
theorem d_GM_step_40 : decode b_GM_step 40 = .ok (.iadd, 1) := by decide +kernel
theorem d_GM_step_41 : decode b_GM_step 41 = .ok (.putfield 156, 3) := by decide +kernel
theorem d_GM_step_44 : decode b_GM_step 44 = .ok (.aload_n 0, 1) := by decide +kernel
theorem d_GM_step_45 : decode b_GM_step 45 = .ok (.aload_n 0, 1) := by decide +kernel
theorem d_GM_step_46 : decode b_GM_step 46 = .ok (.getfield 38, 3) := by decide +kernel
theorem d_GM_step_49 : decode b_GM_step 49 = .ok (.iload_n 1, 1) := by decide +kernel
theorem d_GM_step_50 : decode b_GM_step 50 = .ok (.bipush 65, 2) := by decide +kernel
theorem d_GM_step_52 : decode b_GM_step 52 = .ok (.isub, 1) := by decide +kernel
theorem d_GM_step_53 : decode b_GM_step 53 = .ok (.iaload, 1) := by decide +kernel
theorem d_GM_step_54 : decode b_GM_step 54 = .ok (.iconst 1, 1) := by decide +kernel
theorem d_GM_step_55 : decode b_GM_step 55 = .ok (.iadd, 1) := by decide +kernel
theorem d_GM_step_56 : decode b_GM_step 56 = .ok (.putfield 153, 3) := by decide +kernel
theorem d_GM_step_59 : decode b_GM_step 59 = .ok (.goto 115, 3) := by decide +kernel
theorem d_GM_step_62 : decode b_GM_step 62 = .ok (.iload_n 1, 1) := by decide +kernel
theorem d_GM_step_63 : decode b_GM_step 63 = .ok (.bipush 63, 2) := by decide +kernel
theorem d_GM_step_65 : decode b_GM_step 65 = .ok (.if_icmp .eq 9, 3) := by decide +kernel
theorem d_GM_step_68 : decode b_GM_step 68 = .ok (.iload_n 1, 1) := by decide +kernel
theorem d_GM_step_69 : decode b_GM_step 69 = .ok (.bipush 64, 2) := by decide +kernel
theorem d_GM_step_71 : decode b_GM_step 71 = .ok (.if_icmp .ne 14, 3) := by decide +kernel
theorem d_GM_step_74 : decode b_GM_step 74 = .ok (.aload_n 0, 1) := by decide +kernel
theorem d_GM_step_75 : decode b_GM_step 75 = .ok (.aload_n 0, 1) := by decide +kernel
theorem d_GM_step_76 : decode b_GM_step 76 = .ok (.getfield 153, 3) := by decide +kernel
theorem d_GM_step_79 : decode b_GM_step 79 = .ok (.invokevirtual 168, 3) := by decide +kernel
theorem d_GM_step_82 : decode b_GM_step 82 = .ok (.goto 92, 3) := by decide +kernel
theorem d_GM_step_85 : decode b_GM_step 85 = .ok (.iload_n 1, 1) := by decide +kernel
theorem d_GM_step_86 : decode b_GM_step 86 = .ok (.bipush 33, 2) := by decide +kernel
theorem d_GM_step_88 : decode b_GM_step 88 = .ok (.if_icmp .ne 57, 3) := by decide +kernel
theorem d_GM_step_91 : decode b_GM_step 91 = .ok (.aload_n 0, 1) := by decide +kernel
theorem d_GM_step_92 : decode b_GM_step 92 = .ok (.aload_n 0, 1) := by decide +kernel
theorem d_GM_step_93 : decode b_GM_step 93 = .ok (.getfield 153, 3) := by decide +kernel
theorem d_GM_step_96 : decode b_GM_step 96 = .ok (.iconst 1, 1) := by decide +kernel
theorem d_GM_step_97 : decode b_GM_step 97 = .ok (.iadd, 1) := by decide +kernel
theorem d_GM_step_98 : decode b_GM_step 98 = .ok (.invokevirtual 165, 3) := by decide +kernel
theorem d_GM_step_101 : decode b_GM_step 101 = .ok (.istore_n 2, 1) := by decide +kernel
theorem d_GM_step_102 : decode b_GM_step 102 = .ok (.aload_n 0, 1) := by decide +kernel
theorem d_GM_step_103 : decode b_GM_step 103 = .ok (.getfield 159, 3) := by decide +kernel
theorem d_GM_step_106 : decode b_GM_step 106 = .ok (.bipush 24, 2) := by decide +kernel
theorem d_GM_step_108 : decode b_GM_step 108 = .ok (.if_icmp .ge 14, 3) := by decide +kernel
theorem d_GM_step_111 : decode b_GM_step 111 = .ok (.aload_n 0, 1) := by decide +kernel
theorem d_GM_step_112 : decode b_GM_step 112 = .ok (.getfield 47, 3) := by decide +kernel
theorem d_GM_step_115 : decode b_GM_step 115 = .ok (.aload_n 0, 1) := by decide +kernel
theorem d_GM_step_116 : decode b_GM_step 116 = .ok (.getfield 159, 3) := by decide +kernel
theorem d_GM_step_119 : decode b_GM_step 119 = .ok (.iload_n 2, 1) := by decide +kernel
theorem d_GM_step_120 : decode b_GM_step 120 = .ok (.i2l, 1) := by decide +kernel
theorem d_GM_step_121 : decode b_GM_step 121 = .ok (.lastore, 1) := by decide +kernel
theorem d_GM_step_122 : decode b_GM_step 122 = .ok (.aload_n 0, 1) := by decide +kernel
theorem d_GM_step_123 : decode b_GM_step 123 = .ok (.dup, 1) := by decide +kernel
theorem d_GM_step_124 : decode b_GM_step 124 = .ok (.getfield 159, 3) := by decide +kernel
theorem d_GM_step_127 : decode b_GM_step 127 = .ok (.iconst 1, 1) := by decide +kernel
theorem d_GM_step_128 : decode b_GM_step 128 = .ok (.iadd, 1) := by decide +kernel
theorem d_GM_step_129 : decode b_GM_step 129 = .ok (.putfield 159, 3) := by decide +kernel
theorem d_GM_step_132 : decode b_GM_step 132 = .ok (.aload_n 0, 1) := by decide +kernel
theorem d_GM_step_133 : decode b_GM_step 133 = .ok (.aload_n 0, 1) := by decide +kernel
theorem d_GM_step_134 : decode b_GM_step 134 = .ok (.getfield 150, 3) := by decide +kernel
theorem d_GM_step_137 : decode b_GM_step 137 = .ok (.iconst 1, 1) := by decide +kernel
theorem d_GM_step_138 : decode b_GM_step 138 = .ok (.iadd, 1) := by decide +kernel
theorem d_GM_step_139 : decode b_GM_step 139 = .ok (.putfield 153, 3) := by decide +kernel
theorem d_GM_step_142 : decode b_GM_step 142 = .ok (.goto 32, 3) := by decide +kernel
theorem d_GM_step_145 : decode b_GM_step 145 = .ok (.aload_n 0, 1) := by decide +kernel
theorem d_GM_step_146 : decode b_GM_step 146 = .ok (.getfield 44, 3) := by decide +kernel
theorem d_GM_step_149 : decode b_GM_step 149 = .ok (.iload_n 1, 1) := by decide +kernel
theorem d_GM_step_150 : decode b_GM_step 150 = .ok (.bipush 97, 2) := by decide +kernel
theorem d_GM_step_152 : decode b_GM_step 152 = .ok (.isub, 1) := by decide +kernel
theorem d_GM_step_153 : decode b_GM_step 153 = .ok (.aload_n 0, 1) := by decide +kernel
theorem d_GM_step_154 : decode b_GM_step 154 = .ok (.aload_n 0, 1) := by decide +kernel
theorem d_GM_step_155 : decode b_GM_step 155 = .ok (.getfield 153, 3) := by decide +kernel
theorem d_GM_step_158 : decode b_GM_step 158 = .ok (.iconst 2, 1) := by decide +kernel
theorem d_GM_step_159 : decode b_GM_step 159 = .ok (.iadd, 1) := by decide +kernel
theorem d_GM_step_160 : decode b_GM_step 160 = .ok (.invokevirtual 165, 3) := by decide +kernel
theorem d_GM_step_163 : decode b_GM_step 163 = .ok (.iastore, 1) := by decide +kernel
theorem d_GM_step_164 : decode b_GM_step 164 = .ok (.aload_n 0, 1) := by decide +kernel
theorem d_GM_step_165 : decode b_GM_step 165 = .ok (.aload_n 0, 1) := by decide +kernel
theorem d_GM_step_166 : decode b_GM_step 166 = .ok (.getfield 150, 3) := by decide +kernel
theorem d_GM_step_169 : decode b_GM_step 169 = .ok (.iconst 1, 1) := by decide +kernel
theorem d_GM_step_170 : decode b_GM_step 170 = .ok (.iadd, 1) := by decide +kernel
theorem d_GM_step_171 : decode b_GM_step 171 = .ok (.putfield 153, 3) := by decide +kernel
theorem d_GM_step_174 : decode b_GM_step 174 = .ok (.aload_n 0, 1) := by decide +kernel
theorem d_GM_step_175 : decode b_GM_step 175 = .ok (.invokevirtual 162, 3) := by decide +kernel
theorem d_GM_step_178 : decode b_GM_step 178 = .ok (.return_, 1) := by decide +kernel
theorem d_GM_run_0 : decode b_GM_run 0 = .ok (.iload_n 1, 1) := by decide +kernel
theorem d_GM_run_1 : decode b_GM_run 1 = .ok (.iconst 1, 1) := by decide +kernel
theorem d_GM_run_2 : decode b_GM_run 2 = .ok (.iconst 4, 1) := by decide +kernel
theorem d_GM_run_3 : decode b_GM_run 3 = .ok (.invokestatic 73, 3) := by decide +kernel
theorem d_GM_run_6 : decode b_GM_run 6 = .ok (.ifCond .eq 10, 3) := by decide +kernel
theorem d_GM_run_9 : decode b_GM_run 9 = .ok (.aload_n 0, 1) := by decide +kernel
theorem d_GM_run_10 : decode b_GM_run 10 = .ok (.getfield 70, 3) := by decide +kernel
theorem d_GM_run_13 : decode b_GM_run 13 = .ok (.ifCond .ne 5, 3) := by decide +kernel
theorem d_GM_run_16 : decode b_GM_run 16 = .ok (.iconst (-1), 1) := by decide +kernel
theorem d_GM_run_17 : decode b_GM_run 17 = .ok (.ireturn, 1) := by decide +kernel
theorem d_GM_run_18 : decode b_GM_run 18 = .ok (.iconst 0, 1) := by decide +kernel
theorem d_GM_run_19 : decode b_GM_run 19 = .ok (.istore_n 2, 1) := by decide +kernel
theorem d_GM_run_20 : decode b_GM_run 20 = .ok (.iload_n 2, 1) := by decide +kernel
theorem d_GM_run_21 : decode b_GM_run 21 = .ok (.iload_n 1, 1) := by decide +kernel
theorem d_GM_run_22 : decode b_GM_run 22 = .ok (.if_icmp .ge 20, 3) := by decide +kernel
theorem d_GM_run_25 : decode b_GM_run 25 = .ok (.aload_n 0, 1) := by decide +kernel
theorem d_GM_run_26 : decode b_GM_run 26 = .ok (.getfield 70, 3) := by decide +kernel
theorem d_GM_run_29 : decode b_GM_run 29 = .ok (.ifCond .eq 13, 3) := by decide +kernel
theorem d_GM_run_32 : decode b_GM_run 32 = .ok (.aload_n 0, 1) := by decide +kernel
theorem d_GM_run_33 : decode b_GM_run 33 = .ok (.invokevirtual 172, 3) := by decide +kernel
theorem d_GM_run_36 : decode b_GM_run 36 = .ok (.iinc 2 1, 3) := by decide +kernel
theorem d_GM_run_39 : decode b_GM_run 39 = .ok (.goto (-19), 3) := by decide +kernel
theorem d_GM_run_42 : decode b_GM_run 42 = .ok (.aload_n 0, 1) := by decide +kernel
theorem d_GM_run_43 : decode b_GM_run 43 = .ok (.getfield 70, 3) := by decide +kernel
theorem d_GM_run_46 : decode b_GM_run 46 = .ok (.ifCond .eq 7, 3) := by decide +kernel
theorem d_GM_run_49 : decode b_GM_run 49 = .ok (.iconst 1, 1) := by decide +kernel
theorem d_GM_run_50 : decode b_GM_run 50 = .ok (.goto 4, 3) := by decide +kernel
theorem d_GM_run_53 : decode b_GM_run 53 = .ok (.iconst 0, 1) := by decide +kernel
theorem d_GM_run_54 : decode b_GM_run 54 = .ok (.ireturn, 1) := by decide +kernel
theorem d_GM_stop_0 : decode b_GM_stop 0 = .ok (.aload_n 0, 1) := by decide +kernel
theorem d_GM_stop_1 : decode b_GM_stop 1 = .ok (.getfield 70, 3) := by decide +kernel
theorem d_GM_stop_4 : decode b_GM_stop 4 = .ok (.ifCond .ne 5, 3) := by decide +kernel
theorem d_GM_stop_7 : decode b_GM_stop 7 = .ok (.iconst (-1), 1) := by decide +kernel
theorem d_GM_stop_8 : decode b_GM_stop 8 = .ok (.ireturn, 1) := by decide +kernel
theorem d_GM_stop_9 : decode b_GM_stop 9 = .ok (.aload_n 0, 1) := by decide +kernel
theorem d_GM_stop_10 : decode b_GM_stop 10 = .ok (.iconst 0, 1) := by decide +kernel
theorem d_GM_stop_11 : decode b_GM_stop 11 = .ok (.putfield 70, 3) := by decide +kernel
theorem d_GM_stop_14 : decode b_GM_stop 14 = .ok (.iconst 0, 1) := by decide +kernel
theorem d_GM_stop_15 : decode b_GM_stop 15 = .ok (.ireturn, 1) := by decide +kernel
theorem d_GM_set_0 : decode b_GM_set 0 = .ok (.iload_n 1, 1) := by decide +kernel
theorem d_GM_set_1 : decode b_GM_set 1 = .ok (.iconst 0, 1) := by decide +kernel
theorem d_GM_set_2 : decode b_GM_set 2 = .ok (.bipush 7, 2) := by decide +kernel
theorem d_GM_set_4 : decode b_GM_set 4 = .ok (.invokestatic 73, 3) := by decide +kernel
theorem d_GM_set_7 : decode b_GM_set 7 = .ok (.ifCond .ne 5, 3) := by decide +kernel
theorem d_GM_set_10 : decode b_GM_set 10 = .ok (.iconst (-1), 1) := by decide +kernel
theorem d_GM_set_11 : decode b_GM_set 11 = .ok (.ireturn, 1) := by decide +kernel
theorem d_GM_set_12 : decode b_GM_set 12 = .ok (.aload_n 0, 1) := by decide +kernel
theorem d_GM_set_13 : decode b_GM_set 13 = .ok (.getfield 44, 3) := by decide +kernel
theorem d_GM_set_16 : decode b_GM_set 16 = .ok (.iload_n 1, 1) := by decide +kernel
theorem d_GM_set_17 : decode b_GM_set 17 = .ok (.iload_n 2, 1) := by decide +kernel
theorem d_GM_set_18 : decode b_GM_set 18 = .ok (.iastore, 1) := by decide +kernel
theorem d_GM_set_19 : decode b_GM_set 19 = .ok (.iconst 0, 1) := by decide +kernel
theorem d_GM_set_20 : decode b_GM_set 20 = .ok (.ireturn, 1) := by decide +kernel
theorem d_GM_get_0 : decode b_GM_get 0 = .ok (.iload_n 1, 1) := by decide +kernel
theorem d_GM_get_1 : decode b_GM_get 1 = .ok (.iconst 0, 1) := by decide +kernel
theorem d_GM_get_2 : decode b_GM_get 2 = .ok (.bipush 7, 2) := by decide +kernel
theorem d_GM_get_4 : decode b_GM_get 4 = .ok (.invokestatic 73, 3) := by decide +kernel
theorem d_GM_get_7 : decode b_GM_get 7 = .ok (.ifCond .eq 13, 3) := by decide +kernel
theorem d_GM_get_10 : decode b_GM_get 10 = .ok (.aload_n 0, 1) := by decide +kernel
theorem d_GM_get_11 : decode b_GM_get 11 = .ok (.getfield 44, 3) := by decide +kernel
theorem d_GM_get_14 : decode b_GM_get 14 = .ok (.iload_n 1, 1) := by decide +kernel
theorem d_GM_get_15 : decode b_GM_get 15 = .ok (.iaload, 1) := by decide +kernel
theorem d_GM_get_16 : decode b_GM_get 16 = .ok (.i2l, 1) := by decide +kernel
theorem d_GM_get_17 : decode b_GM_get 17 = .ok (.goto 6, 3) := by decide +kernel
theorem d_GM_get_20 : decode b_GM_get 20 = .ok (.ldc2_w 175, 3) := by decide +kernel
theorem d_GM_get_23 : decode b_GM_get 23 = .ok (.lreturn, 1) := by decide +kernel
theorem d_GM_output_0 : decode b_GM_output 0 = .ok (.iload_n 1, 1) := by decide +kernel
theorem d_GM_output_1 : decode b_GM_output 1 = .ok (.iconst 0, 1) := by decide +kernel
theorem d_GM_output_2 : decode b_GM_output 2 = .ok (.bipush 23, 2) := by decide +kernel
theorem d_GM_output_4 : decode b_GM_output 4 = .ok (.invokestatic 73, 3) := by decide +kernel
theorem d_GM_output_7 : decode b_GM_output 7 = .ok (.ifCond .eq 20, 3) := by decide +kernel
theorem d_GM_output_10 : decode b_GM_output 10 = .ok (.iload_n 1, 1) := by decide +kernel
theorem d_GM_output_11 : decode b_GM_output 11 = .ok (.aload_n 0, 1) := by decide +kernel
theorem d_GM_output_12 : decode b_GM_output 12 = .ok (.getfield 159, 3) := by decide +kernel
theorem d_GM_output_15 : decode b_GM_output 15 = .ok (.if_icmp .ge 12, 3) := by decide +kernel
theorem d_GM_output_18 : decode b_GM_output 18 = .ok (.aload_n 0, 1) := by decide +kernel
theorem d_GM_output_19 : decode b_GM_output 19 = .ok (.getfield 47, 3) := by decide +kernel
theorem d_GM_output_22 : decode b_GM_output 22 = .ok (.iload_n 1, 1) := by decide +kernel
theorem d_GM_output_23 : decode b_GM_output 23 = .ok (.laload, 1) := by decide +kernel
theorem d_GM_output_24 : decode b_GM_output 24 = .ok (.goto 6, 3) := by decide +kernel
theorem d_GM_output_27 : decode b_GM_output 27 = .ok (.ldc2_w 175, 3) := by decide +kernel
theorem d_GM_output_30 : decode b_GM_output 30 = .ok (.lreturn, 1) := by decide +kernel
theorem d_GM_at_0 : decode b_GM_at 0 = .ok (.iload_n 1, 1) := by decide +kernel
theorem d_GM_at_1 : decode b_GM_at 1 = .ok (.iconst 3, 1) := by decide +kernel
theorem d_GM_at_2 : decode b_GM_at 2 = .ok (.if_icmp .ne 8, 3) := by decide +kernel
theorem d_GM_at_5 : decode b_GM_at 5 = .ok (.aload_n 0, 1) := by decide +kernel
theorem d_GM_at_6 : decode b_GM_at 6 = .ok (.getfield 159, 3) := by decide +kernel
theorem d_GM_at_9 : decode b_GM_at 9 = .ok (.ireturn, 1) := by decide +kernel
theorem d_GM_at_10 : decode b_GM_at 10 = .ok (.iload_n 1, 1) := by decide +kernel
theorem d_GM_at_11 : decode b_GM_at 11 = .ok (.iconst 0, 1) := by decide +kernel
theorem d_GM_at_12 : decode b_GM_at 12 = .ok (.iconst 2, 1) := by decide +kernel
theorem d_GM_at_13 : decode b_GM_at 13 = .ok (.invokestatic 73, 3) := by decide +kernel
theorem d_GM_at_16 : decode b_GM_at 16 = .ok (.ifCond .ne 5, 3) := by decide +kernel
theorem d_GM_at_19 : decode b_GM_at 19 = .ok (.iconst (-1), 1) := by decide +kernel
theorem d_GM_at_20 : decode b_GM_at 20 = .ok (.ireturn, 1) := by decide +kernel
theorem d_GM_at_21 : decode b_GM_at 21 = .ok (.aload_n 0, 1) := by decide +kernel
theorem d_GM_at_22 : decode b_GM_at 22 = .ok (.getfield 70, 3) := by decide +kernel
theorem d_GM_at_25 : decode b_GM_at 25 = .ok (.ifCond .ne 5, 3) := by decide +kernel
theorem d_GM_at_28 : decode b_GM_at 28 = .ok (.iconst 0, 1) := by decide +kernel
theorem d_GM_at_29 : decode b_GM_at 29 = .ok (.ireturn, 1) := by decide +kernel
theorem d_GM_at_30 : decode b_GM_at 30 = .ok (.iload_n 1, 1) := by decide +kernel
theorem d_GM_at_31 : decode b_GM_at 31 = .ok (.ifCond .ne 15, 3) := by decide +kernel
theorem d_GM_at_34 : decode b_GM_at 34 = .ok (.aload_n 0, 1) := by decide +kernel
theorem d_GM_at_35 : decode b_GM_at 35 = .ok (.getfield 35, 3) := by decide +kernel
theorem d_GM_at_38 : decode b_GM_at 38 = .ok (.aload_n 0, 1) := by decide +kernel
theorem d_GM_at_39 : decode b_GM_at 39 = .ok (.getfield 153, 3) := by decide +kernel
theorem d_GM_at_42 : decode b_GM_at 42 = .ok (.iaload, 1) := by decide +kernel
theorem d_GM_at_43 : decode b_GM_at 43 = .ok (.goto 24, 3) := by decide +kernel
theorem d_GM_at_46 : decode b_GM_at 46 = .ok (.iload_n 1, 1) := by decide +kernel
theorem d_GM_at_47 : decode b_GM_at 47 = .ok (.iconst 1, 1) := by decide +kernel
theorem d_GM_at_48 : decode b_GM_at 48 = .ok (.if_icmp .ne 15, 3) := by decide +kernel
theorem d_GM_at_51 : decode b_GM_at 51 = .ok (.aload_n 0, 1) := by decide +kernel
theorem d_GM_at_52 : decode b_GM_at 52 = .ok (.getfield 32, 3) := by decide +kernel
theorem d_GM_at_55 : decode b_GM_at 55 = .ok (.aload_n 0, 1) := by decide +kernel
theorem d_GM_at_56 : decode b_GM_at 56 = .ok (.getfield 153, 3) := by decide +kernel
theorem d_GM_at_59 : decode b_GM_at 59 = .ok (.iaload, 1) := by decide +kernel
theorem d_GM_at_60 : decode b_GM_at 60 = .ok (.goto 7, 3) := by decide +kernel
theorem d_GM_at_63 : decode b_GM_at 63 = .ok (.aload_n 0, 1) := by decide +kernel
theorem d_GM_at_64 : decode b_GM_at 64 = .ok (.getfield 156, 3) := by decide +kernel
theorem d_GM_at_67 : decode b_GM_at 67 = .ok (.ireturn, 1) := by decide +kernel
theorem d_GM_operate_0 : decode b_GM_operate 0 = .ok (.iload_n 1, 1) := by decide +kernel
theorem d_GM_operate_1 : decode b_GM_operate 1 = .ok (.iconst 0, 1) := by decide +kernel
theorem d_GM_operate_2 : decode b_GM_operate 2 = .ok (.iconst 5, 1) := by decide +kernel
theorem d_GM_operate_3 : decode b_GM_operate 3 = .ok (.invokestatic 73, 3) := by decide +kernel
theorem d_GM_operate_6 : decode b_GM_operate 6 = .ok (.ifCond .ne 7, 3) := by decide +kernel
theorem d_GM_operate_9 : decode b_GM_operate 9 = .ok (.ldc2_w 175, 3) := by decide +kernel
theorem d_GM_operate_12 : decode b_GM_operate 12 = .ok (.lreturn, 1) := by decide +kernel
theorem d_GM_operate_13 : decode b_GM_operate 13 = .ok (.iload_n 1, 1) := by decide +kernel
theorem d_GM_operate_14 : decode b_GM_operate 14 = .ok (.ifCond .ne 8, 3) := by decide +kernel
theorem d_GM_operate_17 : decode b_GM_operate 17 = .ok (.bipush 43, 2) := by decide +kernel
theorem d_GM_operate_19 : decode b_GM_operate 19 = .ok (.goto 45, 3) := by decide +kernel
theorem d_GM_operate_22 : decode b_GM_operate 22 = .ok (.iload_n 1, 1) := by decide +kernel
theorem d_GM_operate_23 : decode b_GM_operate 23 = .ok (.iconst 1, 1) := by decide +kernel
theorem d_GM_operate_24 : decode b_GM_operate 24 = .ok (.if_icmp .ne 8, 3) := by decide +kernel
theorem d_GM_operate_27 : decode b_GM_operate 27 = .ok (.bipush 45, 2) := by decide +kernel
theorem d_GM_operate_29 : decode b_GM_operate 29 = .ok (.goto 35, 3) := by decide +kernel
theorem d_GM_operate_32 : decode b_GM_operate 32 = .ok (.iload_n 1, 1) := by decide +kernel
theorem d_GM_operate_33 : decode b_GM_operate 33 = .ok (.iconst 2, 1) := by decide +kernel
theorem d_GM_operate_34 : decode b_GM_operate 34 = .ok (.if_icmp .ne 8, 3) := by decide +kernel
theorem d_GM_operate_37 : decode b_GM_operate 37 = .ok (.bipush 38, 2) := by decide +kernel
theorem d_GM_operate_39 : decode b_GM_operate 39 = .ok (.goto 25, 3) := by decide +kernel
theorem d_GM_operate_42 : decode b_GM_operate 42 = .ok (.iload_n 1, 1) := by decide +kernel
theorem d_GM_operate_43 : decode b_GM_operate 43 = .ok (.iconst 3, 1) := by decide +kernel
theorem d_GM_operate_44 : decode b_GM_operate 44 = .ok (.if_icmp .ne 8, 3) := by decide +kernel
theorem d_GM_operate_47 : decode b_GM_operate 47 = .ok (.bipush 124, 2) := by decide +kernel
theorem d_GM_operate_49 : decode b_GM_operate 49 = .ok (.goto 15, 3) := by decide +kernel
theorem d_GM_operate_52 : decode b_GM_operate 52 = .ok (.iload_n 1, 1) := by decide +kernel
theorem d_GM_operate_53 : decode b_GM_operate 53 = .ok (.iconst 4, 1) := by decide +kernel
theorem d_GM_operate_54 : decode b_GM_operate 54 = .ok (.if_icmp .ne 8, 3) := by decide +kernel
theorem d_GM_operate_57 : decode b_GM_operate 57 = .ok (.bipush 94, 2) := by decide +kernel
theorem d_GM_operate_59 : decode b_GM_operate 59 = .ok (.goto 5, 3) := by decide +kernel
theorem d_GM_operate_62 : decode b_GM_operate 62 = .ok (.bipush 60, 2) := by decide +kernel
theorem d_GM_operate_64 : decode b_GM_operate 64 = .ok (.istore 4, 2) := by decide +kernel
theorem d_GM_operate_66 : decode b_GM_operate 66 = .ok (.iload 4, 2) := by decide +kernel
theorem d_GM_operate_68 : decode b_GM_operate 68 = .ok (.iload_n 2, 1) := by decide +kernel
theorem d_GM_operate_69 : decode b_GM_operate 69 = .ok (.iload_n 3, 1) := by decide +kernel
theorem d_GM_operate_70 : decode b_GM_operate 70 = .ok (.invokestatic 142, 3) := by decide +kernel
theorem d_GM_operate_73 : decode b_GM_operate 73 = .ok (.i2l, 1) := by decide +kernel
theorem d_GM_operate_74 : decode b_GM_operate 74 = .ok (.lreturn, 1) := by decide +kernel
theorem d_GM_state_0 : decode b_GM_state 0 = .ok (.iload_n 1, 1) := by decide +kernel
theorem d_GM_state_1 : decode b_GM_state 1 = .ok (.iconst 0, 1) := by decide +kernel
theorem d_GM_state_2 : decode b_GM_state 2 = .ok (.iconst 2, 1) := by decide +kernel
theorem d_GM_state_3 : decode b_GM_state 3 = .ok (.invokestatic 73, 3) := by decide +kernel
theorem d_GM_state_6 : decode b_GM_state 6 = .ok (.ifCond .eq 12, 3) := by decide +kernel
theorem d_GM_state_9 : decode b_GM_state 9 = .ok (.iload_n 2, 1) := by decide +kernel
theorem d_GM_state_10 : decode b_GM_state 10 = .ok (.iconst 0, 1) := by decide +kernel
theorem d_GM_state_11 : decode b_GM_state 11 = .ok (.iconst 2, 1) := by decide +kernel
theorem d_GM_state_12 : decode b_GM_state 12 = .ok (.invokestatic 73, 3) := by decide +kernel
theorem d_GM_state_15 : decode b_GM_state 15 = .ok (.ifCond .ne 5, 3) := by decide +kernel
theorem d_GM_state_18 : decode b_GM_state 18 = .ok (.iconst (-1), 1) := by decide +kernel
theorem d_GM_state_19 : decode b_GM_state 19 = .ok (.ireturn, 1) := by decide +kernel
theorem d_GM_state_20 : decode b_GM_state 20 = .ok (.iload_n 2, 1) := by decide +kernel
theorem d_GM_state_21 : decode b_GM_state 21 = .ok (.ifCond .ne 12, 3) := by decide +kernel
theorem d_GM_state_24 : decode b_GM_state 24 = .ok (.aload_n 0, 1) := by decide +kernel
theorem d_GM_state_25 : decode b_GM_state 25 = .ok (.getfield 13, 3) := by decide +kernel
theorem d_GM_state_28 : decode b_GM_state 28 = .ok (.iload_n 1, 1) := by decide +kernel
theorem d_GM_state_29 : decode b_GM_state 29 = .ok (.iaload, 1) := by decide +kernel
theorem d_GM_state_30 : decode b_GM_state 30 = .ok (.goto 37, 3) := by decide +kernel
theorem d_GM_state_33 : decode b_GM_state 33 = .ok (.iload_n 2, 1) := by decide +kernel
theorem d_GM_state_34 : decode b_GM_state 34 = .ok (.iconst 1, 1) := by decide +kernel
theorem d_GM_state_35 : decode b_GM_state 35 = .ok (.if_icmp .ne 20, 3) := by decide +kernel
theorem d_GM_state_38 : decode b_GM_state 38 = .ok (.aload_n 0, 1) := by decide +kernel
theorem d_GM_state_39 : decode b_GM_state 39 = .ok (.getfield 16, 3) := by decide +kernel
theorem d_GM_state_42 : decode b_GM_state 42 = .ok (.iload_n 1, 1) := by decide +kernel
theorem d_GM_state_43 : decode b_GM_state 43 = .ok (.baload, 1) := by decide +kernel
theorem d_GM_state_44 : decode b_GM_state 44 = .ok (.ifCond .eq 7, 3) := by decide +kernel
theorem d_GM_state_47 : decode b_GM_state 47 = .ok (.iconst 1, 1) := by decide +kernel
theorem d_GM_state_48 : decode b_GM_state 48 = .ok (.goto 19, 3) := by decide +kernel
theorem d_GM_state_51 : decode b_GM_state 51 = .ok (.iconst 0, 1) := by decide +kernel
theorem d_GM_state_52 : decode b_GM_state 52 = .ok (.goto 15, 3) := by decide +kernel
theorem d_GM_state_55 : decode b_GM_state 55 = .ok (.aload_n 0, 1) := by decide +kernel
theorem d_GM_state_56 : decode b_GM_state 56 = .ok (.getfield 66, 3) := by decide +kernel
theorem d_GM_state_59 : decode b_GM_state 59 = .ok (.ifCond .eq 7, 3) := by decide +kernel
theorem d_GM_state_62 : decode b_GM_state 62 = .ok (.iconst 1, 1) := by decide +kernel
theorem d_GM_state_63 : decode b_GM_state 63 = .ok (.goto 4, 3) := by decide +kernel
theorem d_GM_state_66 : decode b_GM_state 66 = .ok (.iconst 0, 1) := by decide +kernel
theorem d_GM_state_67 : decode b_GM_state 67 = .ok (.ireturn, 1) := by decide +kernel
