theorem dX12_init_173 : decode cX12_init 173 = .ok (.newarray .long, 2) := by decide +kernel
theorem dX12_init_175 : decode cX12_init 175 = .ok (.putfield 77, 3) := by decide +kernel
theorem dX12_init_178 : decode cX12_init 178 = .ok (.aload_n 0, 1) := by decide +kernel
theorem dX12_init_179 : decode cX12_init 179 = .ok (.iconst 3, 1) := by decide +kernel
theorem dX12_init_180 : decode cX12_init 180 = .ok (.newarray .int, 2) := by decide +kernel
theorem dX12_init_182 : decode cX12_init 182 = .ok (.putfield 81, 3) := by decide +kernel
theorem dX12_init_185 : decode cX12_init 185 = .ok (.aload_n 0, 1) := by decide +kernel
theorem dX12_init_186 : decode cX12_init 186 = .ok (.bipush 12, 2) := by decide +kernel
theorem dX12_init_188 : decode cX12_init 188 = .ok (.newarray .int, 2) := by decide +kernel
theorem dX12_init_190 : decode cX12_init 190 = .ok (.putfield 84, 3) := by decide +kernel
theorem dX12_init_193 : decode cX12_init 193 = .ok (.return_, 1) := by decide +kernel
theorem dX12_thrown_0 : decode cX12_thrown 0 = .ok (.aload_n 0, 1) := by decide +kernel
theorem dX12_thrown_1 : decode cX12_thrown 1 = .ok (.getfield 87, 3) := by decide +kernel
theorem dX12_thrown_4 : decode cX12_thrown 4 = .ok (.ireturn, 1) := by decide +kernel
theorem dX12_feed_0 : decode cX12_feed 0 = .ok (.aload_n 0, 1) := by decide +kernel
theorem dX12_feed_1 : decode cX12_feed 1 = .ok (.iconst 0, 1) := by decide +kernel
theorem dX12_feed_2 : decode cX12_feed 2 = .ok (.putfield 87, 3) := by decide +kernel
theorem dX12_feed_5 : decode cX12_feed 5 = .ok (.aload_n 0, 1) := by decide +kernel
theorem dX12_feed_6 : decode cX12_feed 6 = .ok (.getfield 90, 3) := by decide +kernel
theorem dX12_feed_9 : decode cX12_feed 9 = .ok (.sipush 580, 3) := by decide +kernel
theorem dX12_feed_12 : decode cX12_feed 12 = .ok (.if_icmp .le 5, 3) := by decide +kernel
theorem dX12_feed_15 : decode cX12_feed 15 = .ok (.iconst (-1), 1) := by decide +kernel
theorem dX12_feed_16 : decode cX12_feed 16 = .ok (.ireturn, 1) := by decide +kernel
theorem dX12_feed_17 : decode cX12_feed 17 = .ok (.iconst 0, 1) := by decide +kernel
theorem dX12_feed_18 : decode cX12_feed 18 = .ok (.istore 6, 2) := by decide +kernel
theorem dX12_feed_20 : decode cX12_feed 20 = .ok (.iload 6, 2) := by decide +kernel
theorem dX12_feed_22 : decode cX12_feed 22 = .ok (.bipush 20, 2) := by decide +kernel
theorem dX12_feed_24 : decode cX12_feed 24 = .ok (.if_icmp .ge 86, 3) := by decide +kernel
theorem dX12_feed_27 : decode cX12_feed 27 = .ok (.iload 6, 2) := by decide +kernel
theorem dX12_feed_29 : decode cX12_feed 29 = .ok (.iconst 4, 1) := by decide +kernel
theorem dX12_feed_30 : decode cX12_feed 30 = .ok (.if_icmp .ge 7, 3) := by decide +kernel
theorem dX12_feed_33 : decode cX12_feed 33 = .ok (.iload_n 1, 1) := by decide +kernel
theorem dX12_feed_34 : decode cX12_feed 34 = .ok (.goto 39, 3) := by decide +kernel
theorem dX12_feed_37 : decode cX12_feed 37 = .ok (.iload 6, 2) := by decide +kernel
theorem dX12_feed_39 : decode cX12_feed 39 = .ok (.bipush 8, 2) := by decide +kernel
theorem dX12_feed_41 : decode cX12_feed 41 = .ok (.if_icmp .ge 7, 3) := by decide +kernel
theorem dX12_feed_44 : decode cX12_feed 44 = .ok (.iload_n 2, 1) := by decide +kernel
theorem dX12_feed_45 : decode cX12_feed 45 = .ok (.goto 28, 3) := by decide +kernel
theorem dX12_feed_48 : decode cX12_feed 48 = .ok (.iload 6, 2) := by decide +kernel
theorem dX12_feed_50 : decode cX12_feed 50 = .ok (.bipush 12, 2) := by decide +kernel
theorem dX12_feed_52 : decode cX12_feed 52 = .ok (.if_icmp .ge 7, 3) := by decide +kernel
theorem dX12_feed_55 : decode cX12_feed 55 = .ok (.iload_n 3, 1) := by decide +kernel
theorem dX12_feed_56 : decode cX12_feed 56 = .ok (.goto 17, 3) := by decide +kernel
theorem dX12_feed_59 : decode cX12_feed 59 = .ok (.iload 6, 2) := by decide +kernel
theorem dX12_feed_61 : decode cX12_feed 61 = .ok (.bipush 16, 2) := by decide +kernel
theorem dX12_feed_63 : decode cX12_feed 63 = .ok (.if_icmp .ge 8, 3) := by decide +kernel
theorem dX12_feed_66 : decode cX12_feed 66 = .ok (.iload 4, 2) := by decide +kernel
theorem dX12_feed_68 : decode cX12_feed 68 = .ok (.goto 5, 3) := by decide +kernel
theorem dX12_feed_71 : decode cX12_feed 71 = .ok (.iload 5, 2) := by decide +kernel
theorem dX12_feed_73 : decode cX12_feed 73 = .ok (.istore 7, 2) := by decide +kernel
theorem dX12_feed_75 : decode cX12_feed 75 = .ok (.aload_n 0, 1) := by decide +kernel
theorem dX12_feed_76 : decode cX12_feed 76 = .ok (.getfield 9, 3) := by decide +kernel
theorem dX12_feed_79 : decode cX12_feed 79 = .ok (.aload_n 0, 1) := by decide +kernel
theorem dX12_feed_80 : decode cX12_feed 80 = .ok (.getfield 90, 3) := by decide +kernel
theorem dX12_feed_83 : decode cX12_feed 83 = .ok (.iload 6, 2) := by decide +kernel
theorem dX12_feed_85 : decode cX12_feed 85 = .ok (.iadd, 1) := by decide +kernel
theorem dX12_feed_86 : decode cX12_feed 86 = .ok (.iload 7, 2) := by decide +kernel
theorem dX12_feed_88 : decode cX12_feed 88 = .ok (.bipush 24, 2) := by decide +kernel
theorem dX12_feed_90 : decode cX12_feed 90 = .ok (.bipush 8, 2) := by decide +kernel
theorem dX12_feed_92 : decode cX12_feed 92 = .ok (.iload 6, 2) := by decide +kernel
theorem dX12_feed_94 : decode cX12_feed 94 = .ok (.iconst 4, 1) := by decide +kernel
theorem dX12_feed_95 : decode cX12_feed 95 = .ok (.irem, 1) := by decide +kernel
theorem dX12_feed_96 : decode cX12_feed 96 = .ok (.imul, 1) := by decide +kernel
theorem dX12_feed_97 : decode cX12_feed 97 = .ok (.isub, 1) := by decide +kernel
theorem dX12_feed_98 : decode cX12_feed 98 = .ok (.ishr, 1) := by decide +kernel
theorem dX12_feed_99 : decode cX12_feed 99 = .ok (.sipush 255, 3) := by decide +kernel
theorem dX12_feed_102 : decode cX12_feed 102 = .ok (.iand, 1) := by decide +kernel
theorem dX12_feed_103 : decode cX12_feed 103 = .ok (.iastore, 1) := by decide +kernel
theorem dX12_feed_104 : decode cX12_feed 104 = .ok (.iinc 6 1, 3) := by decide +kernel
theorem dX12_feed_107 : decode cX12_feed 107 = .ok (.goto (-87), 3) := by decide +kernel
theorem dX12_feed_110 : decode cX12_feed 110 = .ok (.aload_n 0, 1) := by decide +kernel
theorem dX12_feed_111 : decode cX12_feed 111 = .ok (.dup, 1) := by decide +kernel
theorem dX12_feed_112 : decode cX12_feed 112 = .ok (.getfield 90, 3) := by decide +kernel
theorem dX12_feed_115 : decode cX12_feed 115 = .ok (.bipush 20, 2) := by decide +kernel
theorem dX12_feed_117 : decode cX12_feed 117 = .ok (.iadd, 1) := by decide +kernel
theorem dX12_feed_118 : decode cX12_feed 118 = .ok (.putfield 90, 3) := by decide +kernel
theorem dX12_feed_121 : decode cX12_feed 121 = .ok (.aload_n 0, 1) := by decide +kernel
theorem dX12_feed_122 : decode cX12_feed 122 = .ok (.getfield 90, 3) := by decide +kernel
theorem dX12_feed_125 : decode cX12_feed 125 = .ok (.ireturn, 1) := by decide +kernel
theorem dX12_here_0 : decode cX12_here 0 = .ok (.aload_n 0, 1) := by decide +kernel
theorem dX12_here_1 : decode cX12_here 1 = .ok (.getfield 93, 3) := by decide +kernel
theorem dX12_here_4 : decode cX12_here 4 = .ok (.aload_n 0, 1) := by decide +kernel
theorem dX12_here_5 : decode cX12_here 5 = .ok (.getfield 96, 3) := by decide +kernel
theorem dX12_here_8 : decode cX12_here 8 = .ok (.if_icmp .ge 15, 3) := by decide +kernel
theorem dX12_here_11 : decode cX12_here 11 = .ok (.aload_n 0, 1) := by decide +kernel
theorem dX12_here_12 : decode cX12_here 12 = .ok (.getfield 9, 3) := by decide +kernel
theorem dX12_here_15 : decode cX12_here 15 = .ok (.aload_n 0, 1) := by decide +kernel
theorem dX12_here_16 : decode cX12_here 16 = .ok (.getfield 93, 3) := by decide +kernel
theorem dX12_here_19 : decode cX12_here 19 = .ok (.iaload, 1) := by decide +kernel
theorem dX12_here_20 : decode cX12_here 20 = .ok (.goto 4, 3) := by decide +kernel
theorem dX12_here_23 : decode cX12_here 23 = .ok (.iconst (-1), 1) := by decide +kernel
theorem dX12_here_24 : decode cX12_here 24 = .ok (.ireturn, 1) := by decide +kernel
theorem dX12_isSmall_0 : decode cX12_isSmall 0 = .ok (.iload_n 0, 1) := by decide +kernel
theorem dX12_isSmall_1 : decode cX12_isSmall 1 = .ok (.bipush 97, 2) := by decide +kernel
theorem dX12_isSmall_3 : decode cX12_isSmall 3 = .ok (.if_icmp .lt 13, 3) := by decide +kernel
theorem dX12_isSmall_6 : decode cX12_isSmall 6 = .ok (.iload_n 0, 1) := by decide +kernel
theorem dX12_isSmall_7 : decode cX12_isSmall 7 = .ok (.bipush 122, 2) := by decide +kernel
theorem dX12_isSmall_9 : decode cX12_isSmall 9 = .ok (.if_icmp .gt 7, 3) := by decide +kernel
theorem dX12_isSmall_12 : decode cX12_isSmall 12 = .ok (.iconst 1, 1) := by decide +kernel
theorem dX12_isSmall_13 : decode cX12_isSmall 13 = .ok (.goto 4, 3) := by decide +kernel
theorem dX12_isSmall_16 : decode cX12_isSmall 16 = .ok (.iconst 0, 1) := by decide +kernel
theorem dX12_isSmall_17 : decode cX12_isSmall 17 = .ok (.ireturn, 1) := by decide +kernel
theorem dX12_isDigit_0 : decode cX12_isDigit 0 = .ok (.iload_n 0, 1) := by decide +kernel
theorem dX12_isDigit_1 : decode cX12_isDigit 1 = .ok (.bipush 48, 2) := by decide +kernel
theorem dX12_isDigit_3 : decode cX12_isDigit 3 = .ok (.if_icmp .lt 13, 3) := by decide +kernel
theorem dX12_isDigit_6 : decode cX12_isDigit 6 = .ok (.iload_n 0, 1) := by decide +kernel
theorem dX12_isDigit_7 : decode cX12_isDigit 7 = .ok (.bipush 57, 2) := by decide +kernel
theorem dX12_isDigit_9 : decode cX12_isDigit 9 = .ok (.if_icmp .gt 7, 3) := by decide +kernel
theorem dX12_isDigit_12 : decode cX12_isDigit 12 = .ok (.iconst 1, 1) := by decide +kernel
theorem dX12_isDigit_13 : decode cX12_isDigit 13 = .ok (.goto 4, 3) := by decide +kernel
theorem dX12_isDigit_16 : decode cX12_isDigit 16 = .ok (.iconst 0, 1) := by decide +kernel
theorem dX12_isDigit_17 : decode cX12_isDigit 17 = .ok (.ireturn, 1) := by decide +kernel
theorem dX12_next_0 : decode cX12_next 0 = .ok (.aload_n 0, 1) := by decide +kernel
theorem dX12_next_1 : decode cX12_next 1 = .ok (.invokevirtual 99, 3) := by decide +kernel
theorem dX12_next_4 : decode cX12_next 4 = .ok (.bipush 10, 2) := by decide +kernel
theorem dX12_next_6 : decode cX12_next 6 = .ok (.if_icmp .eq 12, 3) := by decide +kernel
theorem dX12_next_9 : decode cX12_next 9 = .ok (.aload_n 0, 1) := by decide +kernel
theorem dX12_next_10 : decode cX12_next 10 = .ok (.invokevirtual 99, 3) := by decide +kernel
theorem dX12_next_13 : decode cX12_next 13 = .ok (.bipush 32, 2) := by decide +kernel
theorem dX12_next_15 : decode cX12_next 15 = .ok (.if_icmp .ne 16, 3) := by decide +kernel
theorem dX12_next_18 : decode cX12_next 18 = .ok (.aload_n 0, 1) := by decide +kernel
theorem dX12_next_19 : decode cX12_next 19 = .ok (.dup, 1) := by decide +kernel
theorem dX12_next_20 : decode cX12_next 20 = .ok (.getfield 93, 3) := by decide +kernel
theorem dX12_next_23 : decode cX12_next 23 = .ok (.iconst 1, 1) := by decide +kernel
theorem dX12_next_24 : decode cX12_next 24 = .ok (.iadd, 1) := by decide +kernel
theorem dX12_next_25 : decode cX12_next 25 = .ok (.putfield 93, 3) := by decide +kernel
theorem dX12_next_28 : decode cX12_next 28 = .ok (.goto (-28), 3) := by decide +kernel
theorem dX12_next_31 : decode cX12_next 31 = .ok (.aload_n 0, 1) := by decide +kernel
theorem dX12_next_32 : decode cX12_next 32 = .ok (.aload_n 0, 1) := by decide +kernel
theorem dX12_next_33 : decode cX12_next 33 = .ok (.getfield 93, 3) := by decide +kernel
theorem dX12_next_36 : decode cX12_next 36 = .ok (.putfield 103, 3) := by decide +kernel
theorem dX12_next_39 : decode cX12_next 39 = .ok (.aload_n 0, 1) := by decide +kernel
theorem dX12_next_40 : decode cX12_next 40 = .ok (.invokevirtual 99, 3) := by decide +kernel
theorem dX12_next_43 : decode cX12_next 43 = .ok (.istore_n 1, 1) := by decide +kernel
theorem dX12_next_44 : decode cX12_next 44 = .ok (.iload_n 1, 1) := by decide +kernel
theorem dX12_next_45 : decode cX12_next 45 = .ok (.iconst (-1), 1) := by decide +kernel
theorem dX12_next_46 : decode cX12_next 46 = .ok (.if_icmp .ne 11, 3) := by decide +kernel
theorem dX12_next_49 : decode cX12_next 49 = .ok (.aload_n 0, 1) := by decide +kernel
theorem dX12_next_50 : decode cX12_next 50 = .ok (.iconst 4, 1) := by decide +kernel
theorem dX12_next_51 : decode cX12_next 51 = .ok (.putfield 106, 3) := by decide +kernel
theorem dX12_next_54 : decode cX12_next 54 = .ok (.goto 172, 3) := by decide +kernel
theorem dX12_next_57 : decode cX12_next 57 = .ok (.iload_n 1, 1) := by decide +kernel
theorem dX12_next_58 : decode cX12_next 58 = .ok (.invokestatic 109, 3) := by decide +kernel
theorem dX12_next_61 : decode cX12_next 61 = .ok (.ifCond .eq 84, 3) := by decide +kernel
theorem dX12_next_64 : decode cX12_next 64 = .ok (.aload_n 0, 1) := by decide +kernel
theorem dX12_next_65 : decode cX12_next 65 = .ok (.invokevirtual 99, 3) := by decide +kernel
theorem dX12_next_68 : decode cX12_next 68 = .ok (.invokestatic 109, 3) := by decide +kernel
theorem dX12_next_71 : decode cX12_next 71 = .ok (.ifCond .eq 16, 3) := by decide +kernel
theorem dX12_next_74 : decode cX12_next 74 = .ok (.aload_n 0, 1) := by decide +kernel
theorem dX12_next_75 : decode cX12_next 75 = .ok (.dup, 1) := by decide +kernel
theorem dX12_next_76 : decode cX12_next 76 = .ok (.getfield 93, 3) := by decide +kernel
theorem dX12_next_79 : decode cX12_next 79 = .ok (.iconst 1, 1) := by decide +kernel
theorem dX12_next_80 : decode cX12_next 80 = .ok (.iadd, 1) := by decide +kernel
theorem dX12_next_81 : decode cX12_next 81 = .ok (.putfield 93, 3) := by decide +kernel
theorem dX12_next_84 : decode cX12_next 84 = .ok (.goto (-20), 3) := by decide +kernel
theorem dX12_next_87 : decode cX12_next 87 = .ok (.aload_n 0, 1) := by decide +kernel
theorem dX12_next_88 : decode cX12_next 88 = .ok (.aload_n 0, 1) := by decide +kernel
theorem dX12_next_89 : decode cX12_next 89 = .ok (.invokevirtual 113, 3) := by decide +kernel
theorem dX12_next_92 : decode cX12_next 92 = .ok (.putfield 116, 3) := by decide +kernel
theorem dX12_next_95 : decode cX12_next 95 = .ok (.aload_n 0, 1) := by decide +kernel
theorem dX12_next_96 : decode cX12_next 96 = .ok (.aload_n 0, 1) := by decide +kernel
theorem dX12_next_97 : decode cX12_next 97 = .ok (.getfield 116, 3) := by decide +kernel
theorem dX12_next_100 : decode cX12_next 100 = .ok (.iconst (-1), 1) := by decide +kernel
theorem dX12_next_101 : decode cX12_next 101 = .ok (.if_icmp .eq 7, 3) := by decide +kernel
theorem dX12_next_104 : decode cX12_next 104 = .ok (.iconst 0, 1) := by decide +kernel
theorem dX12_next_105 : decode cX12_next 105 = .ok (.goto 22, 3) := by decide +kernel
theorem dX12_next_108 : decode cX12_next 108 = .ok (.aload_n 0, 1) := by decide +kernel
theorem dX12_next_109 : decode cX12_next 109 = .ok (.getfield 93, 3) := by decide +kernel
theorem dX12_next_112 : decode cX12_next 112 = .ok (.aload_n 0, 1) := by decide +kernel
theorem dX12_next_113 : decode cX12_next 113 = .ok (.getfield 103, 3) := by decide +kernel
theorem dX12_next_116 : decode cX12_next 116 = .ok (.isub, 1) := by decide +kernel
theorem dX12_next_117 : decode cX12_next 117 = .ok (.bipush 6, 2) := by decide +kernel
theorem dX12_next_119 : decode cX12_next 119 = .ok (.if_icmp .le 7, 3) := by decide +kernel
theorem dX12_next_122 : decode cX12_next 122 = .ok (.iconst 5, 1) := by decide +kernel
theorem dX12_next_123 : decode cX12_next 123 = .ok (.goto 4, 3) := by decide +kernel
theorem dX12_next_126 : decode cX12_next 126 = .ok (.iconst 1, 1) := by decide +kernel
theorem dX12_next_127 : decode cX12_next 127 = .ok (.putfield 106, 3) := by decide +kernel
theorem dX12_next_130 : decode cX12_next 130 = .ok (.aload_n 0, 1) := by decide +kernel
theorem dX12_next_131 : decode cX12_next 131 = .ok (.getfield 106, 3) := by decide +kernel
theorem dX12_next_134 : decode cX12_next 134 = .ok (.iconst 1, 1) := by decide +kernel
theorem dX12_next_135 : decode cX12_next 135 = .ok (.if_icmp .ne 91, 3) := by decide +kernel
theorem dX12_next_138 : decode cX12_next 138 = .ok (.aload_n 0, 1) := by decide +kernel
theorem dX12_next_139 : decode cX12_next 139 = .ok (.invokevirtual 119, 3) := by decide +kernel
theorem dX12_next_142 : decode cX12_next 142 = .ok (.goto 84, 3) := by decide +kernel
theorem dX12_next_145 : decode cX12_next 145 = .ok (.iload_n 1, 1) := by decide +kernel
theorem dX12_next_146 : decode cX12_next 146 = .ok (.invokestatic 122, 3) := by decide +kernel
theorem dX12_next_149 : decode cX12_next 149 = .ok (.ifCond .eq 72, 3) := by decide +kernel
theorem dX12_next_152 : decode cX12_next 152 = .ok (.aload_n 0, 1) := by decide +kernel
theorem dX12_next_153 : decode cX12_next 153 = .ok (.iconst 2, 1) := by decide +kernel
theorem dX12_next_154 : decode cX12_next 154 = .ok (.putfield 106, 3) := by decide +kernel
theorem dX12_next_157 : decode cX12_next 157 = .ok (.aload_n 0, 1) := by decide +kernel
theorem dX12_next_158 : decode cX12_next 158 = .ok (.iconst 0, 1) := by decide +kernel
theorem dX12_next_159 : decode cX12_next 159 = .ok (.putfield 116, 3) := by decide +kernel
theorem dX12_next_162 : decode cX12_next 162 = .ok (.aload_n 0, 1) := by decide +kernel
theorem dX12_next_163 : decode cX12_next 163 = .ok (.invokevirtual 99, 3) := by decide +kernel
theorem dX12_next_166 : decode cX12_next 166 = .ok (.invokestatic 122, 3) := by decide +kernel
theorem dX12_next_169 : decode cX12_next 169 = .ok (.ifCond .eq 57, 3) := by decide +kernel
theorem dX12_next_172 : decode cX12_next 172 = .ok (.aload_n 0, 1) := by decide +kernel
theorem dX12_next_173 : decode cX12_next 173 = .ok (.aload_n 0, 1) := by decide +kernel
theorem dX12_next_174 : decode cX12_next 174 = .ok (.getfield 116, 3) := by decide +kernel
theorem dX12_next_177 : decode cX12_next 177 = .ok (.sipush 999, 3) := by decide +kernel
theorem dX12_next_180 : decode cX12_next 180 = .ok (.if_icmp .le 10, 3) := by decide +kernel
theorem dX12_next_183 : decode cX12_next 183 = .ok (.aload_n 0, 1) := by decide +kernel
theorem dX12_next_184 : decode cX12_next 184 = .ok (.getfield 116, 3) := by decide +kernel
theorem dX12_next_187 : decode cX12_next 187 = .ok (.goto 18, 3) := by decide +kernel
theorem dX12_next_190 : decode cX12_next 190 = .ok (.bipush 10, 2) := by decide +kernel
theorem dX12_next_192 : decode cX12_next 192 = .ok (.aload_n 0, 1) := by decide +kernel
theorem dX12_next_193 : decode cX12_next 193 = .ok (.getfield 116, 3) := by decide +kernel
theorem dX12_next_196 : decode cX12_next 196 = .ok (.imul, 1) := by decide +kernel
theorem dX12_next_197 : decode cX12_next 197 = .ok (.aload_n 0, 1) := by decide +kernel
theorem dX12_next_198 : decode cX12_next 198 = .ok (.invokevirtual 99, 3) := by decide +kernel
theorem dX12_next_201 : decode cX12_next 201 = .ok (.iadd, 1) := by decide +kernel
theorem dX12_next_202 : decode cX12_next 202 = .ok (.bipush 48, 2) := by decide +kernel
theorem dX12_next_204 : decode cX12_next 204 = .ok (.isub, 1) := by decide +kernel
theorem dX12_next_205 : decode cX12_next 205 = .ok (.putfield 116, 3) := by decide +kernel
theorem dX12_next_208 : decode cX12_next 208 = .ok (.aload_n 0, 1) := by decide +kernel
theorem dX12_next_209 : decode cX12_next 209 = .ok (.dup, 1) := by decide +kernel
theorem dX12_next_210 : decode cX12_next 210 = .ok (.getfield 93, 3) := by decide +kernel
theorem dX12_next_213 : decode cX12_next 213 = .ok (.iconst 1, 1) := by decide +kernel
theorem dX12_next_214 : decode cX12_next 214 = .ok (.iadd, 1) := by decide +kernel
theorem dX12_next_215 : decode cX12_next 215 = .ok (.putfield 93, 3) := by decide +kernel
theorem dX12_next_218 : decode cX12_next 218 = .ok (.goto (-56), 3) := by decide +kernel
theorem dX12_next_221 : decode cX12_next 221 = .ok (.aload_n 0, 1) := by decide +kernel
theorem dX12_next_222 : decode cX12_next 222 = .ok (.iload_n 1, 1) := by decide +kernel
theorem dX12_next_223 : decode cX12_next 223 = .ok (.invokevirtual 125, 3) := by decide +kernel
theorem dX12_next_226 : decode cX12_next 226 = .ok (.return_, 1) := by decide +kernel
theorem dX12_sign_0 : decode cX12_sign 0 = .ok (.aload_n 0, 1) := by decide +kernel
theorem dX12_sign_1 : decode cX12_sign 1 = .ok (.dup, 1) := by decide +kernel
theorem dX12_sign_2 : decode cX12_sign 2 = .ok (.getfield 93, 3) := by decide +kernel
theorem dX12_sign_5 : decode cX12_sign 5 = .ok (.iconst 1, 1) := by decide +kernel
theorem dX12_sign_6 : decode cX12_sign 6 = .ok (.iadd, 1) := by decide +kernel
theorem dX12_sign_7 : decode cX12_sign 7 = .ok (.putfield 93, 3) := by decide +kernel
theorem dX12_sign_10 : decode cX12_sign 10 = .ok (.aload_n 0, 1) := by decide +kernel
theorem dX12_sign_11 : decode cX12_sign 11 = .ok (.iload_n 1, 1) := by decide +kernel
theorem dX12_sign_12 : decode cX12_sign 12 = .ok (.bipush 59, 2) := by decide +kernel
theorem dX12_sign_14 : decode cX12_sign 14 = .ok (.if_icmp .eq 57, 3) := by decide +kernel
theorem dX12_sign_17 : decode cX12_sign 17 = .ok (.iload_n 1, 1) := by decide +kernel
theorem dX12_sign_18 : decode cX12_sign 18 = .ok (.bipush 40, 2) := by decide +kernel
theorem dX12_sign_20 : decode cX12_sign 20 = .ok (.if_icmp .eq 51, 3) := by decide +kernel
theorem dX12_sign_23 : decode cX12_sign 23 = .ok (.iload_n 1, 1) := by decide +kernel
theorem dX12_sign_24 : decode cX12_sign 24 = .ok (.bipush 41, 2) := by decide +kernel
theorem dX12_sign_26 : decode cX12_sign 26 = .ok (.if_icmp .eq 45, 3) := by decide +kernel
theorem dX12_sign_29 : decode cX12_sign 29 = .ok (.iload_n 1, 1) := by decide +kernel
theorem dX12_sign_30 : decode cX12_sign 30 = .ok (.bipush 43, 2) := by decide +kernel
theorem dX12_sign_32 : decode cX12_sign 32 = .ok (.if_icmp .eq 39, 3) := by decide +kernel
theorem dX12_sign_35 : decode cX12_sign 35 = .ok (.iload_n 1, 1) := by decide +kernel
theorem dX12_sign_36 : decode cX12_sign 36 = .ok (.bipush 45, 2) := by decide +kernel
theorem dX12_sign_38 : decode cX12_sign 38 = .ok (.if_icmp .eq 33, 3) := by decide +kernel
theorem dX12_sign_41 : decode cX12_sign 41 = .ok (.iload_n 1, 1) := by decide +kernel
theorem dX12_sign_42 : decode cX12_sign 42 = .ok (.bipush 42, 2) := by decide +kernel
theorem dX12_sign_44 : decode cX12_sign 44 = .ok (.if_icmp .eq 27, 3) := by decide +kernel
theorem dX12_sign_47 : decode cX12_sign 47 = .ok (.iload_n 1, 1) := by decide +kernel
theorem dX12_sign_48 : decode cX12_sign 48 = .ok (.bipush 47, 2) := by decide +kernel
theorem dX12_sign_50 : decode cX12_sign 50 = .ok (.if_icmp .eq 21, 3) := by decide +kernel
theorem dX12_sign_53 : decode cX12_sign 53 = .ok (.iload_n 1, 1) := by decide +kernel
theorem dX12_sign_54 : decode cX12_sign 54 = .ok (.bipush 60, 2) := by decide +kernel
theorem dX12_sign_56 : decode cX12_sign 56 = .ok (.if_icmp .eq 15, 3) := by decide +kernel
theorem dX12_sign_59 : decode cX12_sign 59 = .ok (.iload_n 1, 1) := by decide +kernel
theorem dX12_sign_60 : decode cX12_sign 60 = .ok (.bipush 61, 2) := by decide +kernel
theorem dX12_sign_62 : decode cX12_sign 62 = .ok (.if_icmp .eq 9, 3) := by decide +kernel
theorem dX12_sign_65 : decode cX12_sign 65 = .ok (.iload_n 1, 1) := by decide +kernel
theorem dX12_sign_66 : decode cX12_sign 66 = .ok (.bipush 62, 2) := by decide +kernel
theorem dX12_sign_68 : decode cX12_sign 68 = .ok (.if_icmp .ne 7, 3) := by decide +kernel
theorem dX12_sign_71 : decode cX12_sign 71 = .ok (.iconst 3, 1) := by decide +kernel
theorem dX12_sign_72 : decode cX12_sign 72 = .ok (.goto 4, 3) := by decide +kernel
theorem dX12_sign_75 : decode cX12_sign 75 = .ok (.iconst 5, 1) := by decide +kernel
theorem dX12_sign_76 : decode cX12_sign 76 = .ok (.putfield 106, 3) := by decide +kernel
theorem dX12_sign_79 : decode cX12_sign 79 = .ok (.aload_n 0, 1) := by decide +kernel
theorem dX12_sign_80 : decode cX12_sign 80 = .ok (.iload_n 1, 1) := by decide +kernel
theorem dX12_sign_81 : decode cX12_sign 81 = .ok (.putfield 116, 3) := by decide +kernel
theorem dX12_sign_84 : decode cX12_sign 84 = .ok (.iload_n 1, 1) := by decide +kernel
theorem dX12_sign_85 : decode cX12_sign 85 = .ok (.bipush 60, 2) := by decide +kernel
theorem dX12_sign_87 : decode cX12_sign 87 = .ok (.if_icmp .ne 19, 3) := by decide +kernel
theorem dX12_sign_90 : decode cX12_sign 90 = .ok (.aload_n 0, 1) := by decide +kernel
theorem dX12_sign_91 : decode cX12_sign 91 = .ok (.invokevirtual 99, 3) := by decide +kernel
theorem dX12_sign_94 : decode cX12_sign 94 = .ok (.bipush 61, 2) := by decide +kernel
theorem dX12_sign_96 : decode cX12_sign 96 = .ok (.if_icmp .ne 10, 3) := by decide +kernel
theorem dX12_sign_99 : decode cX12_sign 99 = .ok (.aload_n 0, 1) := by decide +kernel
theorem dX12_sign_100 : decode cX12_sign 100 = .ok (.sipush 256, 3) := by decide +kernel
theorem dX12_sign_103 : decode cX12_sign 103 = .ok (.putfield 116, 3) := by decide +kernel
theorem dX12_sign_106 : decode cX12_sign 106 = .ok (.iload_n 1, 1) := by decide +kernel
theorem dX12_sign_107 : decode cX12_sign 107 = .ok (.bipush 60, 2) := by decide +kernel
theorem dX12_sign_109 : decode cX12_sign 109 = .ok (.if_icmp .ne 19, 3) := by decide +kernel
theorem dX12_sign_112 : decode cX12_sign 112 = .ok (.aload_n 0, 1) := by decide +kernel
theorem dX12_sign_113 : decode cX12_sign 113 = .ok (.invokevirtual 99, 3) := by decide +kernel
theorem dX12_sign_116 : decode cX12_sign 116 = .ok (.bipush 62, 2) := by decide +kernel
theorem dX12_sign_118 : decode cX12_sign 118 = .ok (.if_icmp .ne 10, 3) := by decide +kernel
theorem dX12_sign_121 : decode cX12_sign 121 = .ok (.aload_n 0, 1) := by decide +kernel
theorem dX12_sign_122 : decode cX12_sign 122 = .ok (.sipush 257, 3) := by decide +kernel
theorem dX12_sign_125 : decode cX12_sign 125 = .ok (.putfield 116, 3) := by decide +kernel
theorem dX12_sign_128 : decode cX12_sign 128 = .ok (.iload_n 1, 1) := by decide +kernel
theorem dX12_sign_129 : decode cX12_sign 129 = .ok (.bipush 62, 2) := by decide +kernel
theorem dX12_sign_131 : decode cX12_sign 131 = .ok (.if_icmp .ne 19, 3) := by decide +kernel
theorem dX12_sign_134 : decode cX12_sign 134 = .ok (.aload_n 0, 1) := by decide +kernel
theorem dX12_sign_135 : decode cX12_sign 135 = .ok (.invokevirtual 99, 3) := by decide +kernel
theorem dX12_sign_138 : decode cX12_sign 138 = .ok (.bipush 61, 2) := by decide +kernel
theorem dX12_sign_140 : decode cX12_sign 140 = .ok (.if_icmp .ne 10, 3) := by decide +kernel
theorem dX12_sign_143 : decode cX12_sign 143 = .ok (.aload_n 0, 1) := by decide +kernel
theorem dX12_sign_144 : decode cX12_sign 144 = .ok (.sipush 258, 3) := by decide +kernel
theorem dX12_sign_147 : decode cX12_sign 147 = .ok (.putfield 116, 3) := by decide +kernel
theorem dX12_sign_150 : decode cX12_sign 150 = .ok (.aload_n 0, 1) := by decide +kernel
theorem dX12_sign_151 : decode cX12_sign 151 = .ok (.getfield 116, 3) := by decide +kernel
theorem dX12_sign_154 : decode cX12_sign 154 = .ok (.sipush 256, 3) := by decide +kernel
theorem dX12_sign_157 : decode cX12_sign 157 = .ok (.if_icmp .lt 13, 3) := by decide +kernel
theorem dX12_sign_160 : decode cX12_sign 160 = .ok (.aload_n 0, 1) := by decide +kernel
theorem dX12_sign_161 : decode cX12_sign 161 = .ok (.dup, 1) := by decide +kernel
theorem dX12_sign_162 : decode cX12_sign 162 = .ok (.getfield 93, 3) := by decide +kernel
theorem dX12_sign_165 : decode cX12_sign 165 = .ok (.iconst 1, 1) := by decide +kernel
theorem dX12_sign_166 : decode cX12_sign 166 = .ok (.iadd, 1) := by decide +kernel
theorem dX12_sign_167 : decode cX12_sign 167 = .ok (.putfield 93, 3) := by decide +kernel
theorem dX12_sign_170 : decode cX12_sign 170 = .ok (.return_, 1) := by decide +kernel
theorem dX12_word_0 : decode cX12_word 0 = .ok (.iconst 0, 1) := by decide +kernel
theorem dX12_word_1 : decode cX12_word 1 = .ok (.istore_n 1, 1) := by decide +kernel
theorem dX12_word_2 : decode cX12_word 2 = .ok (.iconst 0, 1) := by decide +kernel
theorem dX12_word_3 : decode cX12_word 3 = .ok (.istore_n 2, 1) := by decide +kernel
theorem dX12_word_4 : decode cX12_word 4 = .ok (.iload_n 2, 1) := by decide +kernel
theorem dX12_word_5 : decode cX12_word 5 = .ok (.ldc 129, 2) := by decide +kernel
theorem dX12_word_7 : decode cX12_word 7 = .ok (.invokevirtual 131, 3) := by decide +kernel
theorem dX12_word_10 : decode cX12_word 10 = .ok (.if_icmp .ge 113, 3) := by decide +kernel
theorem dX12_word_13 : decode cX12_word 13 = .ok (.iconst 0, 1) := by decide +kernel
theorem dX12_word_14 : decode cX12_word 14 = .ok (.istore_n 3, 1) := by decide +kernel
theorem dX12_word_15 : decode cX12_word 15 = .ok (.ldc 129, 2) := by decide +kernel
theorem dX12_word_17 : decode cX12_word 17 = .ok (.iload_n 2, 1) := by decide +kernel
theorem dX12_word_18 : decode cX12_word 18 = .ok (.iload_n 3, 1) := by decide +kernel
theorem dX12_word_19 : decode cX12_word 19 = .ok (.iadd, 1) := by decide +kernel
theorem dX12_word_20 : decode cX12_word 20 = .ok (.invokevirtual 136, 3) := by decide +kernel
theorem dX12_word_23 : decode cX12_word 23 = .ok (.bipush 32, 2) := by decide +kernel
theorem dX12_word_25 : decode cX12_word 25 = .ok (.if_icmp .eq 44, 3) := by decide +kernel
theorem dX12_word_28 : decode cX12_word 28 = .ok (.aload_n 0, 1) := by decide +kernel
theorem dX12_word_29 : decode cX12_word 29 = .ok (.getfield 103, 3) := by decide +kernel
theorem dX12_word_32 : decode cX12_word 32 = .ok (.iload_n 3, 1) := by decide +kernel
theorem dX12_word_33 : decode cX12_word 33 = .ok (.iadd, 1) := by decide +kernel
theorem dX12_word_34 : decode cX12_word 34 = .ok (.aload_n 0, 1) := by decide +kernel
theorem dX12_word_35 : decode cX12_word 35 = .ok (.getfield 93, 3) := by decide +kernel
theorem dX12_word_38 : decode cX12_word 38 = .ok (.if_icmp .ge 31, 3) := by decide +kernel
theorem dX12_word_41 : decode cX12_word 41 = .ok (.aload_n 0, 1) := by decide +kernel
theorem dX12_word_42 : decode cX12_word 42 = .ok (.getfield 9, 3) := by decide +kernel
theorem dX12_word_45 : decode cX12_word 45 = .ok (.aload_n 0, 1) := by decide +kernel
theorem dX12_word_46 : decode cX12_word 46 = .ok (.getfield 103, 3) := by decide +kernel
theorem dX12_word_49 : decode cX12_word 49 = .ok (.iload_n 3, 1) := by decide +kernel
theorem dX12_word_50 : decode cX12_word 50 = .ok (.iadd, 1) := by decide +kernel
theorem dX12_word_51 : decode cX12_word 51 = .ok (.iaload, 1) := by decide +kernel
theorem dX12_word_52 : decode cX12_word 52 = .ok (.ldc 129, 2) := by decide +kernel
theorem dX12_word_54 : decode cX12_word 54 = .ok (.iload_n 2, 1) := by decide +kernel
theorem dX12_word_55 : decode cX12_word 55 = .ok (.iload_n 3, 1) := by decide +kernel
theorem dX12_word_56 : decode cX12_word 56 = .ok (.iadd, 1) := by decide +kernel
theorem dX12_word_57 : decode cX12_word 57 = .ok (.invokevirtual 136, 3) := by decide +kernel
theorem dX12_word_60 : decode cX12_word 60 = .ok (.if_icmp .ne 9, 3) := by decide +kernel
theorem dX12_word_63 : decode cX12_word 63 = .ok (.iinc 3 1, 3) := by decide +kernel
theorem dX12_word_66 : decode cX12_word 66 = .ok (.goto (-51), 3) := by decide +kernel
theorem dX12_word_69 : decode cX12_word 69 = .ok (.ldc 129, 2) := by decide +kernel
theorem dX12_word_71 : decode cX12_word 71 = .ok (.iload_n 2, 1) := by decide +kernel
theorem dX12_word_72 : decode cX12_word 72 = .ok (.iload_n 3, 1) := by decide +kernel
theorem dX12_word_73 : decode cX12_word 73 = .ok (.iadd, 1) := by decide +kernel
theorem dX12_word_74 : decode cX12_word 74 = .ok (.invokevirtual 136, 3) := by decide +kernel
theorem dX12_word_77 : decode cX12_word 77 = .ok (.bipush 32, 2) := by decide +kernel
theorem dX12_word_79 : decode cX12_word 79 = .ok (.if_icmp .ne 18, 3) := by decide +kernel
theorem dX12_word_82 : decode cX12_word 82 = .ok (.aload_n 0, 1) := by decide +kernel
theorem dX12_word_83 : decode cX12_word 83 = .ok (.getfield 103, 3) := by decide +kernel
theorem dX12_word_86 : decode cX12_word 86 = .ok (.iload_n 3, 1) := by decide +kernel
theorem dX12_word_87 : decode cX12_word 87 = .ok (.iadd, 1) := by decide +kernel
theorem dX12_word_88 : decode cX12_word 88 = .ok (.aload_n 0, 1) := by decide +kernel
theorem dX12_word_89 : decode cX12_word 89 = .ok (.getfield 93, 3) := by decide +kernel
theorem dX12_word_92 : decode cX12_word 92 = .ok (.if_icmp .ne 5, 3) := by decide +kernel
theorem dX12_word_95 : decode cX12_word 95 = .ok (.iload_n 1, 1) := by decide +kernel
theorem dX12_word_96 : decode cX12_word 96 = .ok (.ireturn, 1) := by decide +kernel
theorem dX12_word_97 : decode cX12_word 97 = .ok (.ldc 129, 2) := by decide +kernel
theorem dX12_word_99 : decode cX12_word 99 = .ok (.iload_n 2, 1) := by decide +kernel
theorem dX12_word_100 : decode cX12_word 100 = .ok (.invokevirtual 136, 3) := by decide +kernel
theorem dX12_word_103 : decode cX12_word 103 = .ok (.bipush 32, 2) := by decide +kernel
theorem dX12_word_105 : decode cX12_word 105 = .ok (.if_icmp .eq 9, 3) := by decide +kernel
theorem dX12_word_108 : decode cX12_word 108 = .ok (.iinc 2 1, 3) := by decide +kernel
theorem dX12_word_111 : decode cX12_word 111 = .ok (.goto (-14), 3) := by decide +kernel
theorem dX12_word_114 : decode cX12_word 114 = .ok (.iinc 2 1, 3) := by decide +kernel
theorem dX12_word_117 : decode cX12_word 117 = .ok (.iinc 1 1, 3) := by decide +kernel
theorem dX12_word_120 : decode cX12_word 120 = .ok (.goto (-116), 3) := by decide +kernel
theorem dX12_word_123 : decode cX12_word 123 = .ok (.iconst (-1), 1) := by decide +kernel
theorem dX12_word_124 : decode cX12_word 124 = .ok (.ireturn, 1) := by decide +kernel
theorem dX12_name_0 : decode cX12_name 0 = .ok (.aload_n 0, 1) := by decide +kernel
theorem dX12_name_1 : decode cX12_name 1 = .ok (.iconst 0, 1) := by decide +kernel
theorem dX12_name_2 : decode cX12_name 2 = .ok (.putfield 116, 3) := by decide +kernel
theorem dX12_name_5 : decode cX12_name 5 = .ok (.iconst 0, 1) := by decide +kernel
theorem dX12_name_6 : decode cX12_name 6 = .ok (.istore_n 1, 1) := by decide +kernel
theorem dX12_name_7 : decode cX12_name 7 = .ok (.iload_n 1, 1) := by decide +kernel
theorem dX12_name_8 : decode cX12_name 8 = .ok (.bipush 6, 2) := by decide +kernel
theorem dX12_name_10 : decode cX12_name 10 = .ok (.if_icmp .ge 53, 3) := by decide +kernel
theorem dX12_name_13 : decode cX12_name 13 = .ok (.aload_n 0, 1) := by decide +kernel
theorem dX12_name_14 : decode cX12_name 14 = .ok (.aload_n 0, 1) := by decide +kernel
theorem dX12_name_15 : decode cX12_name 15 = .ok (.getfield 116, 3) := by decide +kernel
theorem dX12_name_18 : decode cX12_name 18 = .ok (.iconst 5, 1) := by decide +kernel
theorem dX12_name_19 : decode cX12_name 19 = .ok (.ishl, 1) := by decide +kernel
theorem dX12_name_20 : decode cX12_name 20 = .ok (.aload_n 0, 1) := by decide +kernel
theorem dX12_name_21 : decode cX12_name 21 = .ok (.getfield 103, 3) := by decide +kernel
theorem dX12_name_24 : decode cX12_name 24 = .ok (.iload_n 1, 1) := by decide +kernel
theorem dX12_name_25 : decode cX12_name 25 = .ok (.iadd, 1) := by decide +kernel
theorem dX12_name_26 : decode cX12_name 26 = .ok (.aload_n 0, 1) := by decide +kernel
theorem dX12_name_27 : decode cX12_name 27 = .ok (.getfield 93, 3) := by decide +kernel
theorem dX12_name_30 : decode cX12_name 30 = .ok (.if_icmp .ge 22, 3) := by decide +kernel
theorem dX12_name_33 : decode cX12_name 33 = .ok (.aload_n 0, 1) := by decide +kernel
theorem dX12_name_34 : decode cX12_name 34 = .ok (.getfield 9, 3) := by decide +kernel
theorem dX12_name_37 : decode cX12_name 37 = .ok (.aload_n 0, 1) := by decide +kernel
theorem dX12_name_38 : decode cX12_name 38 = .ok (.getfield 103, 3) := by decide +kernel
theorem dX12_name_41 : decode cX12_name 41 = .ok (.iload_n 1, 1) := by decide +kernel
theorem dX12_name_42 : decode cX12_name 42 = .ok (.iadd, 1) := by decide +kernel
theorem dX12_name_43 : decode cX12_name 43 = .ok (.iaload, 1) := by decide +kernel
theorem dX12_name_44 : decode cX12_name 44 = .ok (.bipush 97, 2) := by decide +kernel
theorem dX12_name_46 : decode cX12_name 46 = .ok (.isub, 1) := by decide +kernel
theorem dX12_name_47 : decode cX12_name 47 = .ok (.iconst 1, 1) := by decide +kernel
theorem dX12_name_48 : decode cX12_name 48 = .ok (.iadd, 1) := by decide +kernel
theorem dX12_name_49 : decode cX12_name 49 = .ok (.goto 4, 3) := by decide +kernel
theorem dX12_name_52 : decode cX12_name 52 = .ok (.iconst 0, 1) := by decide +kernel
theorem dX12_name_53 : decode cX12_name 53 = .ok (.ior, 1) := by decide +kernel
theorem dX12_name_54 : decode cX12_name 54 = .ok (.putfield 116, 3) := by decide +kernel
theorem dX12_name_57 : decode cX12_name 57 = .ok (.iinc 1 1, 3) := by decide +kernel
theorem dX12_name_60 : decode cX12_name 60 = .ok (.goto (-53), 3) := by decide +kernel
theorem dX12_name_63 : decode cX12_name 63 = .ok (.return_, 1) := by decide +kernel
theorem dX12_wrong_0 : decode cX12_wrong 0 = .ok (.aload_n 0, 1) := by decide +kernel
theorem dX12_wrong_1 : decode cX12_wrong 1 = .ok (.getfield 140, 3) := by decide +kernel
theorem dX12_wrong_4 : decode cX12_wrong 4 = .ok (.ifCond .eq 4, 3) := by decide +kernel
theorem dX12_wrong_7 : decode cX12_wrong 7 = .ok (.return_, 1) := by decide +kernel
theorem dX12_wrong_8 : decode cX12_wrong 8 = .ok (.aload_n 0, 1) := by decide +kernel
theorem dX12_wrong_9 : decode cX12_wrong 9 = .ok (.iload_n 1, 1) := by decide +kernel
theorem dX12_wrong_10 : decode cX12_wrong 10 = .ok (.putfield 140, 3) := by decide +kernel
theorem dX12_wrong_13 : decode cX12_wrong 13 = .ok (.aload_n 0, 1) := by decide +kernel
theorem dX12_wrong_14 : decode cX12_wrong 14 = .ok (.aload_n 0, 1) := by decide +kernel
theorem dX12_wrong_15 : decode cX12_wrong 15 = .ok (.getfield 103, 3) := by decide +kernel
theorem dX12_wrong_18 : decode cX12_wrong 18 = .ok (.putfield 143, 3) := by decide +kernel
theorem dX12_wrong_21 : decode cX12_wrong 21 = .ok (.return_, 1) := by decide +kernel
theorem dX12_isWord_0 : decode cX12_isWord 0 = .ok (.aload_n 0, 1) := by decide +kernel
theorem dX12_isWord_1 : decode cX12_isWord 1 = .ok (.getfield 140, 3) := by decide +kernel
theorem dX12_isWord_4 : decode cX12_isWord 4 = .ok (.ifCond .ne 22, 3) := by decide +kernel
theorem dX12_isWord_7 : decode cX12_isWord 7 = .ok (.aload_n 0, 1) := by decide +kernel
theorem dX12_isWord_8 : decode cX12_isWord 8 = .ok (.getfield 106, 3) := by decide +kernel
theorem dX12_isWord_11 : decode cX12_isWord 11 = .ok (.ifCond .ne 15, 3) := by decide +kernel
theorem dX12_isWord_14 : decode cX12_isWord 14 = .ok (.aload_n 0, 1) := by decide +kernel
theorem dX12_isWord_15 : decode cX12_isWord 15 = .ok (.getfield 116, 3) := by decide +kernel
theorem dX12_isWord_18 : decode cX12_isWord 18 = .ok (.iload_n 1, 1) := by decide +kernel
theorem dX12_isWord_19 : decode cX12_isWord 19 = .ok (.if_icmp .ne 7, 3) := by decide +kernel
theorem dX12_isWord_22 : decode cX12_isWord 22 = .ok (.iconst 1, 1) := by decide +kernel
theorem dX12_isWord_23 : decode cX12_isWord 23 = .ok (.goto 4, 3) := by decide +kernel
theorem dX12_isWord_26 : decode cX12_isWord 26 = .ok (.iconst 0, 1) := by decide +kernel
theorem dX12_isWord_27 : decode cX12_isWord 27 = .ok (.ireturn, 1) := by decide +kernel
theorem dX12_isSign_0 : decode cX12_isSign 0 = .ok (.aload_n 0, 1) := by decide +kernel
theorem dX12_isSign_1 : decode cX12_isSign 1 = .ok (.getfield 140, 3) := by decide +kernel
theorem dX12_isSign_4 : decode cX12_isSign 4 = .ok (.ifCond .ne 23, 3) := by decide +kernel
theorem dX12_isSign_7 : decode cX12_isSign 7 = .ok (.aload_n 0, 1) := by decide +kernel
theorem dX12_isSign_8 : decode cX12_isSign 8 = .ok (.getfield 106, 3) := by decide +kernel
theorem dX12_isSign_11 : decode cX12_isSign 11 = .ok (.iconst 3, 1) := by decide +kernel
theorem dX12_isSign_12 : decode cX12_isSign 12 = .ok (.if_icmp .ne 15, 3) := by decide +kernel
theorem dX12_isSign_15 : decode cX12_isSign 15 = .ok (.aload_n 0, 1) := by decide +kernel
theorem dX12_isSign_16 : decode cX12_isSign 16 = .ok (.getfield 116, 3) := by decide +kernel
theorem dX12_isSign_19 : decode cX12_isSign 19 = .ok (.iload_n 1, 1) := by decide +kernel
theorem dX12_isSign_20 : decode cX12_isSign 20 = .ok (.if_icmp .ne 7, 3) := by decide +kernel
theorem dX12_isSign_23 : decode cX12_isSign 23 = .ok (.iconst 1, 1) := by decide +kernel
theorem dX12_isSign_24 : decode cX12_isSign 24 = .ok (.goto 4, 3) := by decide +kernel
theorem dX12_isSign_27 : decode cX12_isSign 27 = .ok (.iconst 0, 1) := by decide +kernel
theorem dX12_isSign_28 : decode cX12_isSign 28 = .ok (.ireturn, 1) := by decide +kernel
theorem dX12_numeral_0 : decode cX12_numeral 0 = .ok (.aload_n 0, 1) := by decide +kernel
theorem dX12_numeral_1 : decode cX12_numeral 1 = .ok (.getfield 140, 3) := by decide +kernel
theorem dX12_numeral_4 : decode cX12_numeral 4 = .ok (.ifCond .eq 5, 3) := by decide +kernel
theorem dX12_numeral_7 : decode cX12_numeral 7 = .ok (.iload_n 1, 1) := by decide +kernel
theorem dX12_numeral_8 : decode cX12_numeral 8 = .ok (.ireturn, 1) := by decide +kernel
theorem dX12_numeral_9 : decode cX12_numeral 9 = .ok (.aload_n 0, 1) := by decide +kernel
theorem dX12_numeral_10 : decode cX12_numeral 10 = .ok (.getfield 106, 3) := by decide +kernel
theorem dX12_numeral_13 : decode cX12_numeral 13 = .ok (.iconst 2, 1) := by decide +kernel
theorem dX12_numeral_14 : decode cX12_numeral 14 = .ok (.if_icmp .eq 11, 3) := by decide +kernel
theorem dX12_numeral_17 : decode cX12_numeral 17 = .ok (.aload_n 0, 1) := by decide +kernel
theorem dX12_numeral_18 : decode cX12_numeral 18 = .ok (.iconst 1, 1) := by decide +kernel
theorem dX12_numeral_19 : decode cX12_numeral 19 = .ok (.invokevirtual 146, 3) := by decide +kernel
theorem dX12_numeral_22 : decode cX12_numeral 22 = .ok (.goto 24, 3) := by decide +kernel
theorem dX12_numeral_25 : decode cX12_numeral 25 = .ok (.aload_n 0, 1) := by decide +kernel
theorem dX12_numeral_26 : decode cX12_numeral 26 = .ok (.getfield 116, 3) := by decide +kernel
theorem dX12_numeral_29 : decode cX12_numeral 29 = .ok (.iload_n 1, 1) := by decide +kernel
theorem dX12_numeral_30 : decode cX12_numeral 30 = .ok (.if_icmp .lt 11, 3) := by decide +kernel
theorem dX12_numeral_33 : decode cX12_numeral 33 = .ok (.aload_n 0, 1) := by decide +kernel
theorem dX12_numeral_34 : decode cX12_numeral 34 = .ok (.getfield 116, 3) := by decide +kernel
theorem dX12_numeral_37 : decode cX12_numeral 37 = .ok (.iload_n 2, 1) := by decide +kernel
theorem dX12_numeral_38 : decode cX12_numeral 38 = .ok (.if_icmp .le 8, 3) := by decide +kernel
theorem dX12_numeral_41 : decode cX12_numeral 41 = .ok (.aload_n 0, 1) := by decide +kernel
theorem dX12_numeral_42 : decode cX12_numeral 42 = .ok (.iconst 2, 1) := by decide +kernel
theorem dX12_numeral_43 : decode cX12_numeral 43 = .ok (.invokevirtual 146, 3) := by decide +kernel
theorem dX12_numeral_46 : decode cX12_numeral 46 = .ok (.aload_n 0, 1) := by decide +kernel
theorem dX12_numeral_47 : decode cX12_numeral 47 = .ok (.getfield 140, 3) := by decide +kernel
theorem dX12_numeral_50 : decode cX12_numeral 50 = .ok (.ifCond .eq 5, 3) := by decide +kernel
theorem dX12_numeral_53 : decode cX12_numeral 53 = .ok (.iload_n 1, 1) := by decide +kernel
theorem dX12_numeral_54 : decode cX12_numeral 54 = .ok (.ireturn, 1) := by decide +kernel
theorem dX12_numeral_55 : decode cX12_numeral 55 = .ok (.aload_n 0, 1) := by decide +kernel
theorem dX12_numeral_56 : decode cX12_numeral 56 = .ok (.getfield 116, 3) := by decide +kernel
theorem dX12_numeral_59 : decode cX12_numeral 59 = .ok (.istore_n 3, 1) := by decide +kernel
theorem dX12_numeral_60 : decode cX12_numeral 60 = .ok (.aload_n 0, 1) := by decide +kernel
theorem dX12_numeral_61 : decode cX12_numeral 61 = .ok (.invokevirtual 149, 3) := by decide +kernel
theorem dX12_numeral_64 : decode cX12_numeral 64 = .ok (.iload_n 3, 1) := by decide +kernel
theorem dX12_numeral_65 : decode cX12_numeral 65 = .ok (.ireturn, 1) := by decide +kernel
theorem dX12_found_0 : decode cX12_found 0 = .ok (.iconst 0, 1) := by decide +kernel
theorem dX12_found_1 : decode cX12_found 1 = .ok (.istore 4, 2) := by decide +kernel
theorem dX12_found_3 : decode cX12_found 3 = .ok (.iload 4, 2) := by decide +kernel
theorem dX12_found_5 : decode cX12_found 5 = .ok (.iload_n 2, 1) := by decide +kernel
theorem dX12_found_6 : decode cX12_found 6 = .ok (.if_icmp .ge 22, 3) := by decide +kernel
theorem dX12_found_9 : decode cX12_found 9 = .ok (.aload_n 0, 1) := by decide +kernel
theorem dX12_found_10 : decode cX12_found 10 = .ok (.iload_n 1, 1) := by decide +kernel
theorem dX12_found_11 : decode cX12_found 11 = .ok (.iload 4, 2) := by decide +kernel
theorem dX12_found_13 : decode cX12_found 13 = .ok (.iadd, 1) := by decide +kernel
theorem dX12_found_14 : decode cX12_found 14 = .ok (.iaload, 1) := by decide +kernel
theorem dX12_found_15 : decode cX12_found 15 = .ok (.iload_n 3, 1) := by decide +kernel
theorem dX12_found_16 : decode cX12_found 16 = .ok (.if_icmp .ne 6, 3) := by decide +kernel
theorem dX12_found_19 : decode cX12_found 19 = .ok (.iload 4, 2) := by decide +kernel
theorem dX12_found_21 : decode cX12_found 21 = .ok (.ireturn, 1) := by decide +kernel
theorem dX12_found_22 : decode cX12_found 22 = .ok (.iinc 4 1, 3) := by decide +kernel
theorem dX12_found_25 : decode cX12_found 25 = .ok (.goto (-22), 3) := by decide +kernel
theorem dX12_found_28 : decode cX12_found 28 = .ok (.iconst (-1), 1) := by decide +kernel
theorem dX12_found_29 : decode cX12_found 29 = .ok (.ireturn, 1) := by decide +kernel
theorem dX12_fresh_0 : decode cX12_fresh 0 = .ok (.aload_n 0, 1) := by decide +kernel
theorem dX12_fresh_1 : decode cX12_fresh 1 = .ok (.getfield 106, 3) := by decide +kernel
theorem dX12_fresh_4 : decode cX12_fresh 4 = .ok (.iconst 1, 1) := by decide +kernel
theorem dX12_fresh_5 : decode cX12_fresh 5 = .ok (.if_icmp .eq 11, 3) := by decide +kernel
theorem dX12_fresh_8 : decode cX12_fresh 8 = .ok (.aload_n 0, 1) := by decide +kernel
theorem dX12_fresh_9 : decode cX12_fresh 9 = .ok (.iconst 1, 1) := by decide +kernel
theorem dX12_fresh_10 : decode cX12_fresh 10 = .ok (.invokevirtual 146, 3) := by decide +kernel
theorem dX12_fresh_13 : decode cX12_fresh 13 = .ok (.goto 22, 3) := by decide +kernel
theorem dX12_fresh_16 : decode cX12_fresh 16 = .ok (.aload_n 1, 1) := by decide +kernel
theorem dX12_fresh_17 : decode cX12_fresh 17 = .ok (.iload_n 2, 1) := by decide +kernel
theorem dX12_fresh_18 : decode cX12_fresh 18 = .ok (.iload_n 3, 1) := by decide +kernel
theorem dX12_fresh_19 : decode cX12_fresh 19 = .ok (.aload_n 0, 1) := by decide +kernel
theorem dX12_fresh_20 : decode cX12_fresh 20 = .ok (.getfield 116, 3) := by decide +kernel
theorem dX12_fresh_23 : decode cX12_fresh 23 = .ok (.invokestatic 152, 3) := by decide +kernel
theorem dX12_fresh_26 : decode cX12_fresh 26 = .ok (.iconst (-1), 1) := by decide +kernel
theorem dX12_fresh_27 : decode cX12_fresh 27 = .ok (.if_icmp .eq 8, 3) := by decide +kernel
theorem dX12_fresh_30 : decode cX12_fresh 30 = .ok (.aload_n 0, 1) := by decide +kernel
theorem dX12_fresh_31 : decode cX12_fresh 31 = .ok (.iconst 3, 1) := by decide +kernel
theorem dX12_fresh_32 : decode cX12_fresh 32 = .ok (.invokevirtual 146, 3) := by decide +kernel
theorem dX12_fresh_35 : decode cX12_fresh 35 = .ok (.aload_n 0, 1) := by decide +kernel
theorem dX12_fresh_36 : decode cX12_fresh 36 = .ok (.getfield 140, 3) := by decide +kernel
theorem dX12_fresh_39 : decode cX12_fresh 39 = .ok (.ifCond .eq 5, 3) := by decide +kernel
theorem dX12_fresh_42 : decode cX12_fresh 42 = .ok (.iconst 0, 1) := by decide +kernel
theorem dX12_fresh_43 : decode cX12_fresh 43 = .ok (.ireturn, 1) := by decide +kernel
theorem dX12_fresh_44 : decode cX12_fresh 44 = .ok (.aload_n 0, 1) := by decide +kernel
theorem dX12_fresh_45 : decode cX12_fresh 45 = .ok (.getfield 116, 3) := by decide +kernel
theorem dX12_fresh_48 : decode cX12_fresh 48 = .ok (.istore 4, 2) := by decide +kernel
theorem dX12_fresh_50 : decode cX12_fresh 50 = .ok (.aload_n 0, 1) := by decide +kernel
theorem dX12_fresh_51 : decode cX12_fresh 51 = .ok (.invokevirtual 149, 3) := by decide +kernel
theorem dX12_fresh_54 : decode cX12_fresh 54 = .ok (.iload 4, 2) := by decide +kernel
theorem dX12_fresh_56 : decode cX12_fresh 56 = .ok (.ireturn, 1) := by decide +kernel
theorem dX12_line_0 : decode cX12_line 0 = .ok (.aload_n 0, 1) := by decide +kernel
theorem dX12_line_1 : decode cX12_line 1 = .ok (.getfield 106, 3) := by decide +kernel
theorem dX12_line_4 : decode cX12_line 4 = .ok (.ifCond .ne 11, 3) := by decide +kernel
theorem dX12_line_7 : decode cX12_line 7 = .ok (.aload_n 0, 1) := by decide +kernel
theorem dX12_line_8 : decode cX12_line 8 = .ok (.getfield 116, 3) := by decide +kernel
theorem dX12_line_11 : decode cX12_line 11 = .ok (.iconst 3, 1) := by decide +kernel
theorem dX12_line_12 : decode cX12_line 12 = .ok (.if_icmp .le 9, 3) := by decide +kernel
theorem dX12_line_15 : decode cX12_line 15 = .ok (.aload_n 0, 1) := by decide +kernel
theorem dX12_line_16 : decode cX12_line 16 = .ok (.iconst 1, 1) := by decide +kernel
theorem dX12_line_17 : decode cX12_line 17 = .ok (.invokevirtual 146, 3) := by decide +kernel
theorem dX12_line_20 : decode cX12_line 20 = .ok (.return_, 1) := by decide +kernel
theorem dX12_line_21 : decode cX12_line 21 = .ok (.aload_n 0, 1) := by decide +kernel
theorem dX12_line_22 : decode cX12_line 22 = .ok (.getfield 116, 3) := by decide +kernel
theorem dX12_line_25 : decode cX12_line 25 = .ok (.istore_n 1, 1) := by decide +kernel
theorem dX12_line_26 : decode cX12_line 26 = .ok (.iload_n 1, 1) := by decide +kernel
theorem dX12_line_27 : decode cX12_line 27 = .ok (.ifCond .ne 11, 3) := by decide +kernel
theorem dX12_line_30 : decode cX12_line 30 = .ok (.aload_n 0, 1) := by decide +kernel
theorem dX12_line_31 : decode cX12_line 31 = .ok (.getfield 156, 3) := by decide +kernel
theorem dX12_line_34 : decode cX12_line 34 = .ok (.iconst 5, 1) := by decide +kernel
theorem dX12_line_35 : decode cX12_line 35 = .ok (.if_icmp .eq 17, 3) := by decide +kernel
theorem dX12_line_38 : decode cX12_line 38 = .ok (.iload_n 1, 1) := by decide +kernel
theorem dX12_line_39 : decode cX12_line 39 = .ok (.iconst 1, 1) := by decide +kernel
theorem dX12_line_40 : decode cX12_line 40 = .ok (.if_icmp .ne 20, 3) := by decide +kernel
theorem dX12_line_43 : decode cX12_line 43 = .ok (.aload_n 0, 1) := by decide +kernel
theorem dX12_line_44 : decode cX12_line 44 = .ok (.getfield 159, 3) := by decide +kernel
theorem dX12_line_47 : decode cX12_line 47 = .ok (.bipush 12, 2) := by decide +kernel
theorem dX12_line_49 : decode cX12_line 49 = .ok (.if_icmp .ne 11, 3) := by decide +kernel
theorem dX12_line_52 : decode cX12_line 52 = .ok (.aload_n 0, 1) := by decide +kernel
theorem dX12_line_53 : decode cX12_line 53 = .ok (.iconst 2, 1) := by decide +kernel
theorem dX12_line_54 : decode cX12_line 54 = .ok (.invokevirtual 146, 3) := by decide +kernel
theorem dX12_line_57 : decode cX12_line 57 = .ok (.goto 25, 3) := by decide +kernel
theorem dX12_line_60 : decode cX12_line 60 = .ok (.iload_n 1, 1) := by decide +kernel
theorem dX12_line_61 : decode cX12_line 61 = .ok (.iconst 2, 1) := by decide +kernel
theorem dX12_line_62 : decode cX12_line 62 = .ok (.if_icmp .lt 20, 3) := by decide +kernel
theorem dX12_line_65 : decode cX12_line 65 = .ok (.aload_n 0, 1) := by decide +kernel
theorem dX12_line_66 : decode cX12_line 66 = .ok (.getfield 162, 3) := by decide +kernel
theorem dX12_line_69 : decode cX12_line 69 = .ok (.iload_n 1, 1) := by decide +kernel
theorem dX12_line_70 : decode cX12_line 70 = .ok (.ishr, 1) := by decide +kernel
theorem dX12_line_71 : decode cX12_line 71 = .ok (.iconst 1, 1) := by decide +kernel
theorem dX12_line_72 : decode cX12_line 72 = .ok (.iand, 1) := by decide +kernel
theorem dX12_line_73 : decode cX12_line 73 = .ok (.iconst 1, 1) := by decide +kernel
theorem dX12_line_74 : decode cX12_line 74 = .ok (.if_icmp .ne 8, 3) := by decide +kernel
theorem dX12_line_77 : decode cX12_line 77 = .ok (.aload_n 0, 1) := by decide +kernel
theorem dX12_line_78 : decode cX12_line 78 = .ok (.iconst 3, 1) := by decide +kernel
theorem dX12_line_79 : decode cX12_line 79 = .ok (.invokevirtual 146, 3) := by decide +kernel
theorem dX12_line_82 : decode cX12_line 82 = .ok (.aload_n 0, 1) := by decide +kernel
theorem dX12_line_83 : decode cX12_line 83 = .ok (.getfield 140, 3) := by decide +kernel
theorem dX12_line_86 : decode cX12_line 86 = .ok (.ifCond .eq 4, 3) := by decide +kernel
theorem dX12_line_89 : decode cX12_line 89 = .ok (.return_, 1) := by decide +kernel
theorem dX12_line_90 : decode cX12_line 90 = .ok (.aload_n 0, 1) := by decide +kernel
theorem dX12_line_91 : decode cX12_line 91 = .ok (.dup, 1) := by decide +kernel
theorem dX12_line_92 : decode cX12_line 92 = .ok (.getfield 162, 3) := by decide +kernel
theorem dX12_line_95 : decode cX12_line 95 = .ok (.iconst 1, 1) := by decide +kernel
theorem dX12_line_96 : decode cX12_line 96 = .ok (.iload_n 1, 1) := by decide +kernel
theorem dX12_line_97 : decode cX12_line 97 = .ok (.ishl, 1) := by decide +kernel
theorem dX12_line_98 : decode cX12_line 98 = .ok (.ior, 1) := by decide +kernel
theorem dX12_line_99 : decode cX12_line 99 = .ok (.putfield 162, 3) := by decide +kernel
theorem dX12_line_102 : decode cX12_line 102 = .ok (.aload_n 0, 1) := by decide +kernel
theorem dX12_line_103 : decode cX12_line 103 = .ok (.invokevirtual 149, 3) := by decide +kernel
theorem dX12_line_106 : decode cX12_line 106 = .ok (.iload_n 1, 1) := by decide +kernel
theorem dX12_line_107 : decode cX12_line 107 = .ok (.tableswitch 59 0 2 #[25, 38, 52], 25) := by decide +kernel
theorem dX12_line_132 : decode cX12_line 132 = .ok (.aload_n 0, 1) := by decide +kernel
theorem dX12_line_133 : decode cX12_line 133 = .ok (.iconst 5, 1) := by decide +kernel
theorem dX12_line_134 : decode cX12_line 134 = .ok (.aload_n 0, 1) := by decide +kernel
theorem dX12_line_135 : decode cX12_line 135 = .ok (.getfield 156, 3) := by decide +kernel
theorem dX12_line_138 : decode cX12_line 138 = .ok (.iadd, 1) := by decide +kernel
theorem dX12_line_139 : decode cX12_line 139 = .ok (.invokevirtual 165, 3) := by decide +kernel
theorem dX12_line_142 : decode cX12_line 142 = .ok (.goto 46, 3) := by decide +kernel
theorem dX12_line_145 : decode cX12_line 145 = .ok (.aload_n 0, 1) := by decide +kernel
theorem dX12_line_146 : decode cX12_line 146 = .ok (.bipush 12, 2) := by decide +kernel
theorem dX12_line_148 : decode cX12_line 148 = .ok (.aload_n 0, 1) := by decide +kernel
theorem dX12_line_149 : decode cX12_line 149 = .ok (.getfield 159, 3) := by decide +kernel
theorem dX12_line_152 : decode cX12_line 152 = .ok (.iadd, 1) := by decide +kernel
theorem dX12_line_153 : decode cX12_line 153 = .ok (.invokevirtual 168, 3) := by decide +kernel
theorem dX12_line_156 : decode cX12_line 156 = .ok (.goto 32, 3) := by decide +kernel
theorem dX12_line_159 : decode cX12_line 159 = .ok (.aload_n 0, 1) := by decide +kernel
theorem dX12_line_160 : decode cX12_line 160 = .ok (.invokevirtual 171, 3) := by decide +kernel
theorem dX12_line_163 : decode cX12_line 163 = .ok (.goto 25, 3) := by decide +kernel
theorem dX12_line_166 : decode cX12_line 166 = .ok (.aload_n 0, 1) := by decide +kernel
theorem dX12_line_167 : decode cX12_line 167 = .ok (.aload_n 0, 1) := by decide +kernel
theorem dX12_line_168 : decode cX12_line 168 = .ok (.iconst 0, 1) := by decide +kernel
theorem dX12_line_169 : decode cX12_line 169 = .ok (.bipush 9, 2) := by decide +kernel
theorem dX12_line_171 : decode cX12_line 171 = .ok (.invokevirtual 174, 3) := by decide +kernel
theorem dX12_line_174 : decode cX12_line 174 = .ok (.putfield 178, 3) := by decide +kernel
theorem dX12_line_177 : decode cX12_line 177 = .ok (.aload_n 0, 1) := by decide +kernel
theorem dX12_line_178 : decode cX12_line 178 = .ok (.aload_n 0, 1) := by decide +kernel
theorem dX12_line_179 : decode cX12_line 179 = .ok (.iconst 0, 1) := by decide +kernel
theorem dX12_line_180 : decode cX12_line 180 = .ok (.bipush 9, 2) := by decide +kernel
theorem dX12_line_182 : decode cX12_line 182 = .ok (.invokevirtual 174, 3) := by decide +kernel
theorem dX12_line_185 : decode cX12_line 185 = .ok (.putfield 181, 3) := by decide +kernel
theorem dX12_line_188 : decode cX12_line 188 = .ok (.aload_n 0, 1) := by decide +kernel
theorem dX12_line_189 : decode cX12_line 189 = .ok (.getfield 140, 3) := by decide +kernel
theorem dX12_line_192 : decode cX12_line 192 = .ok (.ifCond .eq 4, 3) := by decide +kernel
theorem dX12_line_195 : decode cX12_line 195 = .ok (.return_, 1) := by decide +kernel
theorem dX12_line_196 : decode cX12_line 196 = .ok (.aload_n 0, 1) := by decide +kernel
theorem dX12_line_197 : decode cX12_line 197 = .ok (.bipush 59, 2) := by decide +kernel
theorem dX12_line_199 : decode cX12_line 199 = .ok (.invokevirtual 184, 3) := by decide +kernel
theorem dX12_line_202 : decode cX12_line 202 = .ok (.ifCond .ne 11, 3) := by decide +kernel
theorem dX12_line_205 : decode cX12_line 205 = .ok (.aload_n 0, 1) := by decide +kernel
theorem dX12_line_206 : decode cX12_line 206 = .ok (.iconst 1, 1) := by decide +kernel
theorem dX12_line_207 : decode cX12_line 207 = .ok (.invokevirtual 146, 3) := by decide +kernel
theorem dX12_line_210 : decode cX12_line 210 = .ok (.goto 7, 3) := by decide +kernel
theorem dX12_line_213 : decode cX12_line 213 = .ok (.aload_n 0, 1) := by decide +kernel
theorem dX12_line_214 : decode cX12_line 214 = .ok (.invokevirtual 149, 3) := by decide +kernel
theorem dX12_line_217 : decode cX12_line 217 = .ok (.aload_n 0, 1) := by decide +kernel
theorem dX12_line_218 : decode cX12_line 218 = .ok (.dup, 1) := by decide +kernel
theorem dX12_line_219 : decode cX12_line 219 = .ok (.getfield 187, 3) := by decide +kernel
theorem dX12_line_222 : decode cX12_line 222 = .ok (.iconst 1, 1) := by decide +kernel
theorem dX12_line_223 : decode cX12_line 223 = .ok (.iadd, 1) := by decide +kernel
theorem dX12_line_224 : decode cX12_line 224 = .ok (.putfield 187, 3) := by decide +kernel
theorem dX12_line_227 : decode cX12_line 227 = .ok (.return_, 1) := by decide +kernel
theorem dX12_kindLine_0 : decode cX12_kindLine 0 = .ok (.aload_n 0, 1) := by decide +kernel
theorem dX12_kindLine_1 : decode cX12_kindLine 1 = .ok (.getfield 15, 3) := by decide +kernel
theorem dX12_kindLine_4 : decode cX12_kindLine 4 = .ok (.iload_n 1, 1) := by decide +kernel
theorem dX12_kindLine_5 : decode cX12_kindLine 5 = .ok (.aload_n 0, 1) := by decide +kernel
theorem dX12_kindLine_6 : decode cX12_kindLine 6 = .ok (.aload_n 0, 1) := by decide +kernel
theorem dX12_kindLine_7 : decode cX12_kindLine 7 = .ok (.getfield 15, 3) := by decide +kernel
theorem dX12_kindLine_10 : decode cX12_kindLine 10 = .ok (.iconst 5, 1) := by decide +kernel
theorem dX12_kindLine_11 : decode cX12_kindLine 11 = .ok (.aload_n 0, 1) := by decide +kernel
theorem dX12_kindLine_12 : decode cX12_kindLine 12 = .ok (.getfield 156, 3) := by decide +kernel
theorem dX12_kindLine_15 : decode cX12_kindLine 15 = .ok (.invokevirtual 190, 3) := by decide +kernel
theorem dX12_kindLine_18 : decode cX12_kindLine 18 = .ok (.iastore, 1) := by decide +kernel
theorem dX12_kindLine_19 : decode cX12_kindLine 19 = .ok (.aload_n 0, 1) := by decide +kernel
theorem dX12_kindLine_20 : decode cX12_kindLine 20 = .ok (.getfield 18, 3) := by decide +kernel
theorem dX12_kindLine_23 : decode cX12_kindLine 23 = .ok (.iload_n 1, 1) := by decide +kernel
theorem dX12_kindLine_24 : decode cX12_kindLine 24 = .ok (.aload_n 0, 1) := by decide +kernel
theorem dX12_kindLine_25 : decode cX12_kindLine 25 = .ok (.iconst 1, 1) := by decide +kernel
theorem dX12_kindLine_26 : decode cX12_kindLine 26 = .ok (.bipush 99, 2) := by decide +kernel
theorem dX12_kindLine_28 : decode cX12_kindLine 28 = .ok (.invokevirtual 174, 3) := by decide +kernel
theorem dX12_kindLine_31 : decode cX12_kindLine 31 = .ok (.iastore, 1) := by decide +kernel
theorem dX12_kindLine_32 : decode cX12_kindLine 32 = .ok (.iconst 0, 1) := by decide +kernel
theorem dX12_kindLine_33 : decode cX12_kindLine 33 = .ok (.istore_n 2, 1) := by decide +kernel
theorem dX12_kindLine_34 : decode cX12_kindLine 34 = .ok (.iload_n 2, 1) := by decide +kernel
theorem dX12_kindLine_35 : decode cX12_kindLine 35 = .ok (.bipush 10, 2) := by decide +kernel
theorem dX12_kindLine_37 : decode cX12_kindLine 37 = .ok (.if_icmp .ge 27, 3) := by decide +kernel
theorem dX12_kindLine_40 : decode cX12_kindLine 40 = .ok (.aload_n 0, 1) := by decide +kernel
theorem dX12_kindLine_41 : decode cX12_kindLine 41 = .ok (.getfield 21, 3) := by decide +kernel
theorem dX12_kindLine_44 : decode cX12_kindLine 44 = .ok (.bipush 10, 2) := by decide +kernel
theorem dX12_kindLine_46 : decode cX12_kindLine 46 = .ok (.iload_n 1, 1) := by decide +kernel
theorem dX12_kindLine_47 : decode cX12_kindLine 47 = .ok (.imul, 1) := by decide +kernel
theorem dX12_kindLine_48 : decode cX12_kindLine 48 = .ok (.iload_n 2, 1) := by decide +kernel
theorem dX12_kindLine_49 : decode cX12_kindLine 49 = .ok (.iadd, 1) := by decide +kernel
theorem dX12_kindLine_50 : decode cX12_kindLine 50 = .ok (.aload_n 0, 1) := by decide +kernel
theorem dX12_kindLine_51 : decode cX12_kindLine 51 = .ok (.iconst 0, 1) := by decide +kernel
theorem dX12_kindLine_52 : decode cX12_kindLine 52 = .ok (.bipush 9, 2) := by decide +kernel
theorem dX12_kindLine_54 : decode cX12_kindLine 54 = .ok (.invokevirtual 174, 3) := by decide +kernel
theorem dX12_kindLine_57 : decode cX12_kindLine 57 = .ok (.iastore, 1) := by decide +kernel
theorem dX12_kindLine_58 : decode cX12_kindLine 58 = .ok (.iinc 2 1, 3) := by decide +kernel
theorem dX12_kindLine_61 : decode cX12_kindLine 61 = .ok (.goto (-27), 3) := by decide +kernel
theorem dX12_kindLine_64 : decode cX12_kindLine 64 = .ok (.aload_n 0, 1) := by decide +kernel
theorem dX12_kindLine_65 : decode cX12_kindLine 65 = .ok (.dup, 1) := by decide +kernel
theorem dX12_kindLine_66 : decode cX12_kindLine 66 = .ok (.getfield 156, 3) := by decide +kernel
theorem dX12_kindLine_69 : decode cX12_kindLine 69 = .ok (.iconst 1, 1) := by decide +kernel
theorem dX12_kindLine_70 : decode cX12_kindLine 70 = .ok (.iadd, 1) := by decide +kernel
theorem dX12_kindLine_71 : decode cX12_kindLine 71 = .ok (.putfield 156, 3) := by decide +kernel
theorem dX12_kindLine_74 : decode cX12_kindLine 74 = .ok (.return_, 1) := by decide +kernel
theorem dX12_placeLine_0 : decode cX12_placeLine 0 = .ok (.aload_n 0, 1) := by decide +kernel
theorem dX12_placeLine_1 : decode cX12_placeLine 1 = .ok (.getfield 24, 3) := by decide +kernel
theorem dX12_placeLine_4 : decode cX12_placeLine 4 = .ok (.iload_n 1, 1) := by decide +kernel
theorem dX12_placeLine_5 : decode cX12_placeLine 5 = .ok (.aload_n 0, 1) := by decide +kernel
theorem dX12_placeLine_6 : decode cX12_placeLine 6 = .ok (.aload_n 0, 1) := by decide +kernel
theorem dX12_placeLine_7 : decode cX12_placeLine 7 = .ok (.getfield 24, 3) := by decide +kernel
theorem dX12_placeLine_10 : decode cX12_placeLine 10 = .ok (.bipush 12, 2) := by decide +kernel
theorem dX12_placeLine_12 : decode cX12_placeLine 12 = .ok (.aload_n 0, 1) := by decide +kernel
theorem dX12_placeLine_13 : decode cX12_placeLine 13 = .ok (.getfield 159, 3) := by decide +kernel
theorem dX12_placeLine_16 : decode cX12_placeLine 16 = .ok (.invokevirtual 190, 3) := by decide +kernel
theorem dX12_placeLine_19 : decode cX12_placeLine 19 = .ok (.iastore, 1) := by decide +kernel
theorem dX12_placeLine_20 : decode cX12_placeLine 20 = .ok (.aload_n 0, 1) := by decide +kernel
theorem dX12_placeLine_21 : decode cX12_placeLine 21 = .ok (.getfield 27, 3) := by decide +kernel
theorem dX12_placeLine_24 : decode cX12_placeLine 24 = .ok (.iload_n 1, 1) := by decide +kernel
theorem dX12_placeLine_25 : decode cX12_placeLine 25 = .ok (.aload_n 0, 1) := by decide +kernel
theorem dX12_placeLine_26 : decode cX12_placeLine 26 = .ok (.iconst 0, 1) := by decide +kernel
theorem dX12_placeLine_27 : decode cX12_placeLine 27 = .ok (.bipush 9, 2) := by decide +kernel
theorem dX12_placeLine_29 : decode cX12_placeLine 29 = .ok (.invokevirtual 174, 3) := by decide +kernel
theorem dX12_placeLine_32 : decode cX12_placeLine 32 = .ok (.iastore, 1) := by decide +kernel
theorem dX12_placeLine_33 : decode cX12_placeLine 33 = .ok (.aload_n 0, 1) := by decide +kernel
theorem dX12_placeLine_34 : decode cX12_placeLine 34 = .ok (.getfield 30, 3) := by decide +kernel
theorem dX12_placeLine_37 : decode cX12_placeLine 37 = .ok (.iload_n 1, 1) := by decide +kernel
theorem dX12_placeLine_38 : decode cX12_placeLine 38 = .ok (.iconst 0, 1) := by decide +kernel
theorem dX12_placeLine_39 : decode cX12_placeLine 39 = .ok (.bastore, 1) := by decide +kernel
theorem dX12_placeLine_40 : decode cX12_placeLine 40 = .ok (.aload_n 0, 1) := by decide +kernel
theorem dX12_placeLine_41 : decode cX12_placeLine 41 = .ok (.getfield 34, 3) := by decide +kernel
theorem dX12_placeLine_44 : decode cX12_placeLine 44 = .ok (.iload_n 1, 1) := by decide +kernel
theorem dX12_placeLine_45 : decode cX12_placeLine 45 = .ok (.iconst 0, 1) := by decide +kernel
theorem dX12_placeLine_46 : decode cX12_placeLine 46 = .ok (.iastore, 1) := by decide +kernel
theorem dX12_placeLine_47 : decode cX12_placeLine 47 = .ok (.aload_n 0, 1) := by decide +kernel
theorem dX12_placeLine_48 : decode cX12_placeLine 48 = .ok (.getfield 37, 3) := by decide +kernel
theorem dX12_placeLine_51 : decode cX12_placeLine 51 = .ok (.iload_n 1, 1) := by decide +kernel
theorem dX12_placeLine_52 : decode cX12_placeLine 52 = .ok (.iconst (-1), 1) := by decide +kernel
theorem dX12_placeLine_53 : decode cX12_placeLine 53 = .ok (.iastore, 1) := by decide +kernel
theorem dX12_placeLine_54 : decode cX12_placeLine 54 = .ok (.aload_n 0, 1) := by decide +kernel
theorem dX12_placeLine_55 : decode cX12_placeLine 55 = .ok (.getfield 40, 3) := by decide +kernel
theorem dX12_placeLine_58 : decode cX12_placeLine 58 = .ok (.iload_n 1, 1) := by decide +kernel
theorem dX12_placeLine_59 : decode cX12_placeLine 59 = .ok (.iconst 0, 1) := by decide +kernel
theorem dX12_placeLine_60 : decode cX12_placeLine 60 = .ok (.iastore, 1) := by decide +kernel
theorem dX12_placeLine_61 : decode cX12_placeLine 61 = .ok (.aload_n 0, 1) := by decide +kernel
theorem dX12_placeLine_62 : decode cX12_placeLine 62 = .ok (.iconst 4, 1) := by decide +kernel
theorem dX12_placeLine_63 : decode cX12_placeLine 63 = .ok (.invokevirtual 194, 3) := by decide +kernel
theorem dX12_placeLine_66 : decode cX12_placeLine 66 = .ok (.ifCond .ne 20, 3) := by decide +kernel
theorem dX12_placeLine_69 : decode cX12_placeLine 69 = .ok (.aload_n 0, 1) := by decide +kernel
theorem dX12_placeLine_70 : decode cX12_placeLine 70 = .ok (.iconst 5, 1) := by decide +kernel
theorem dX12_placeLine_71 : decode cX12_placeLine 71 = .ok (.invokevirtual 194, 3) := by decide +kernel
theorem dX12_placeLine_74 : decode cX12_placeLine 74 = .ok (.ifCond .ne 12, 3) := by decide +kernel
theorem dX12_placeLine_77 : decode cX12_placeLine 77 = .ok (.aload_n 0, 1) := by decide +kernel
theorem dX12_placeLine_78 : decode cX12_placeLine 78 = .ok (.bipush 6, 2) := by decide +kernel
theorem dX12_placeLine_80 : decode cX12_placeLine 80 = .ok (.invokevirtual 194, 3) := by decide +kernel
theorem dX12_placeLine_83 : decode cX12_placeLine 83 = .ok (.ifCond .eq 134, 3) := by decide +kernel
theorem dX12_placeLine_86 : decode cX12_placeLine 86 = .ok (.aload_n 0, 1) := by decide +kernel
theorem dX12_placeLine_87 : decode cX12_placeLine 87 = .ok (.getfield 116, 3) := by decide +kernel
theorem dX12_placeLine_90 : decode cX12_placeLine 90 = .ok (.istore_n 2, 1) := by decide +kernel
theorem dX12_placeLine_91 : decode cX12_placeLine 91 = .ok (.iload_n 2, 1) := by decide +kernel
theorem dX12_placeLine_92 : decode cX12_placeLine 92 = .ok (.iconst 4, 1) := by decide +kernel
theorem dX12_placeLine_93 : decode cX12_placeLine 93 = .ok (.if_icmp .ne 15, 3) := by decide +kernel
theorem dX12_placeLine_96 : decode cX12_placeLine 96 = .ok (.aload_n 0, 1) := by decide +kernel
theorem dX12_placeLine_97 : decode cX12_placeLine 97 = .ok (.getfield 30, 3) := by decide +kernel
theorem dX12_placeLine_100 : decode cX12_placeLine 100 = .ok (.iload_n 1, 1) := by decide +kernel
theorem dX12_placeLine_101 : decode cX12_placeLine 101 = .ok (.baload, 1) := by decide +kernel
theorem dX12_placeLine_102 : decode cX12_placeLine 102 = .ok (.ifCond .eq 38, 3) := by decide +kernel
theorem dX12_placeLine_105 : decode cX12_placeLine 105 = .ok (.goto 30, 3) := by decide +kernel
theorem dX12_placeLine_108 : decode cX12_placeLine 108 = .ok (.iload_n 2, 1) := by decide +kernel
theorem dX12_placeLine_109 : decode cX12_placeLine 109 = .ok (.iconst 5, 1) := by decide +kernel
theorem dX12_placeLine_110 : decode cX12_placeLine 110 = .ok (.if_icmp .ne 15, 3) := by decide +kernel
theorem dX12_placeLine_113 : decode cX12_placeLine 113 = .ok (.aload_n 0, 1) := by decide +kernel
theorem dX12_placeLine_114 : decode cX12_placeLine 114 = .ok (.getfield 34, 3) := by decide +kernel
theorem dX12_placeLine_117 : decode cX12_placeLine 117 = .ok (.iload_n 1, 1) := by decide +kernel
theorem dX12_placeLine_118 : decode cX12_placeLine 118 = .ok (.iaload, 1) := by decide +kernel
theorem dX12_placeLine_119 : decode cX12_placeLine 119 = .ok (.ifCond .eq 21, 3) := by decide +kernel
theorem dX12_placeLine_122 : decode cX12_placeLine 122 = .ok (.goto 13, 3) := by decide +kernel
theorem dX12_placeLine_125 : decode cX12_placeLine 125 = .ok (.aload_n 0, 1) := by decide +kernel
theorem dX12_placeLine_126 : decode cX12_placeLine 126 = .ok (.getfield 37, 3) := by decide +kernel
theorem dX12_placeLine_129 : decode cX12_placeLine 129 = .ok (.iload_n 1, 1) := by decide +kernel
theorem dX12_placeLine_130 : decode cX12_placeLine 130 = .ok (.iaload, 1) := by decide +kernel
theorem dX12_placeLine_131 : decode cX12_placeLine 131 = .ok (.iconst (-1), 1) := by decide +kernel
theorem dX12_placeLine_132 : decode cX12_placeLine 132 = .ok (.if_icmp .eq 8, 3) := by decide +kernel
theorem dX12_placeLine_135 : decode cX12_placeLine 135 = .ok (.aload_n 0, 1) := by decide +kernel
theorem dX12_placeLine_136 : decode cX12_placeLine 136 = .ok (.iconst 3, 1) := by decide +kernel
theorem dX12_placeLine_137 : decode cX12_placeLine 137 = .ok (.invokevirtual 146, 3) := by decide +kernel
theorem dX12_placeLine_140 : decode cX12_placeLine 140 = .ok (.aload_n 0, 1) := by decide +kernel
theorem dX12_placeLine_141 : decode cX12_placeLine 141 = .ok (.getfield 140, 3) := by decide +kernel
theorem dX12_placeLine_144 : decode cX12_placeLine 144 = .ok (.ifCond .eq 4, 3) := by decide +kernel
theorem dX12_placeLine_147 : decode cX12_placeLine 147 = .ok (.return_, 1) := by decide +kernel
theorem dX12_placeLine_148 : decode cX12_placeLine 148 = .ok (.aload_n 0, 1) := by decide +kernel
theorem dX12_placeLine_149 : decode cX12_placeLine 149 = .ok (.invokevirtual 149, 3) := by decide +kernel
theorem dX12_placeLine_152 : decode cX12_placeLine 152 = .ok (.iload_n 2, 1) := by decide +kernel
theorem dX12_placeLine_153 : decode cX12_placeLine 153 = .ok (.iconst 4, 1) := by decide +kernel
theorem dX12_placeLine_154 : decode cX12_placeLine 154 = .ok (.if_icmp .ne 13, 3) := by decide +kernel
theorem dX12_placeLine_157 : decode cX12_placeLine 157 = .ok (.aload_n 0, 1) := by decide +kernel
theorem dX12_placeLine_158 : decode cX12_placeLine 158 = .ok (.getfield 30, 3) := by decide +kernel
theorem dX12_placeLine_161 : decode cX12_placeLine 161 = .ok (.iload_n 1, 1) := by decide +kernel
theorem dX12_placeLine_162 : decode cX12_placeLine 162 = .ok (.iconst 1, 1) := by decide +kernel
theorem dX12_placeLine_163 : decode cX12_placeLine 163 = .ok (.bastore, 1) := by decide +kernel
theorem dX12_placeLine_164 : decode cX12_placeLine 164 = .ok (.goto 50, 3) := by decide +kernel
theorem dX12_placeLine_167 : decode cX12_placeLine 167 = .ok (.iload_n 2, 1) := by decide +kernel
theorem dX12_placeLine_168 : decode cX12_placeLine 168 = .ok (.iconst 5, 1) := by decide +kernel
theorem dX12_placeLine_169 : decode cX12_placeLine 169 = .ok (.if_icmp .ne 19, 3) := by decide +kernel
theorem dX12_placeLine_172 : decode cX12_placeLine 172 = .ok (.aload_n 0, 1) := by decide +kernel
theorem dX12_placeLine_173 : decode cX12_placeLine 173 = .ok (.getfield 34, 3) := by decide +kernel
theorem dX12_placeLine_176 : decode cX12_placeLine 176 = .ok (.iload_n 1, 1) := by decide +kernel
theorem dX12_placeLine_177 : decode cX12_placeLine 177 = .ok (.aload_n 0, 1) := by decide +kernel
theorem dX12_placeLine_178 : decode cX12_placeLine 178 = .ok (.iconst 1, 1) := by decide +kernel
theorem dX12_placeLine_179 : decode cX12_placeLine 179 = .ok (.bipush 8, 2) := by decide +kernel
theorem dX12_placeLine_181 : decode cX12_placeLine 181 = .ok (.invokevirtual 174, 3) := by decide +kernel
theorem dX12_placeLine_184 : decode cX12_placeLine 184 = .ok (.iastore, 1) := by decide +kernel
theorem dX12_placeLine_185 : decode cX12_placeLine 185 = .ok (.goto 29, 3) := by decide +kernel
theorem dX12_placeLine_188 : decode cX12_placeLine 188 = .ok (.aload_n 0, 1) := by decide +kernel
theorem dX12_placeLine_189 : decode cX12_placeLine 189 = .ok (.getfield 37, 3) := by decide +kernel
theorem dX12_placeLine_192 : decode cX12_placeLine 192 = .ok (.iload_n 1, 1) := by decide +kernel
theorem dX12_placeLine_193 : decode cX12_placeLine 193 = .ok (.aload_n 0, 1) := by decide +kernel
theorem dX12_placeLine_194 : decode cX12_placeLine 194 = .ok (.iconst 0, 1) := by decide +kernel
theorem dX12_placeLine_195 : decode cX12_placeLine 195 = .ok (.bipush 8, 2) := by decide +kernel
theorem dX12_placeLine_197 : decode cX12_placeLine 197 = .ok (.invokevirtual 174, 3) := by decide +kernel
theorem dX12_placeLine_200 : decode cX12_placeLine 200 = .ok (.iastore, 1) := by decide +kernel
theorem dX12_placeLine_201 : decode cX12_placeLine 201 = .ok (.aload_n 0, 1) := by decide +kernel
theorem dX12_placeLine_202 : decode cX12_placeLine 202 = .ok (.getfield 40, 3) := by decide +kernel
theorem dX12_placeLine_205 : decode cX12_placeLine 205 = .ok (.iload_n 1, 1) := by decide +kernel
theorem dX12_placeLine_206 : decode cX12_placeLine 206 = .ok (.aload_n 0, 1) := by decide +kernel
theorem dX12_placeLine_207 : decode cX12_placeLine 207 = .ok (.iconst 0, 1) := by decide +kernel
theorem dX12_placeLine_208 : decode cX12_placeLine 208 = .ok (.bipush 9, 2) := by decide +kernel
theorem dX12_placeLine_210 : decode cX12_placeLine 210 = .ok (.invokevirtual 174, 3) := by decide +kernel
theorem dX12_placeLine_213 : decode cX12_placeLine 213 = .ok (.iastore, 1) := by decide +kernel
theorem dX12_placeLine_214 : decode cX12_placeLine 214 = .ok (.goto (-153), 3) := by decide +kernel
theorem dX12_placeLine_217 : decode cX12_placeLine 217 = .ok (.aload_n 0, 1) := by decide +kernel
theorem dX12_placeLine_218 : decode cX12_placeLine 218 = .ok (.dup, 1) := by decide +kernel
theorem dX12_placeLine_219 : decode cX12_placeLine 219 = .ok (.getfield 159, 3) := by decide +kernel
theorem dX12_placeLine_222 : decode cX12_placeLine 222 = .ok (.iconst 1, 1) := by decide +kernel
theorem dX12_placeLine_223 : decode cX12_placeLine 223 = .ok (.iadd, 1) := by decide +kernel
theorem dX12_placeLine_224 : decode cX12_placeLine 224 = .ok (.putfield 159, 3) := by decide +kernel
theorem dX12_placeLine_227 : decode cX12_placeLine 227 = .ok (.return_, 1) := by decide +kernel
theorem dX12_puts_0 : decode cX12_puts 0 = .ok (.aload_n 0, 1) := by decide +kernel
theorem dX12_puts_1 : decode cX12_puts 1 = .ok (.getfield 140, 3) := by decide +kernel
theorem dX12_puts_4 : decode cX12_puts 4 = .ok (.ifCond .eq 4, 3) := by decide +kernel
theorem dX12_puts_7 : decode cX12_puts 7 = .ok (.return_, 1) := by decide +kernel
theorem dX12_puts_8 : decode cX12_puts 8 = .ok (.aload_n 0, 1) := by decide +kernel
theorem dX12_puts_9 : decode cX12_puts 9 = .ok (.getfield 46, 3) := by decide +kernel
theorem dX12_puts_12 : decode cX12_puts 12 = .ok (.bipush 64, 2) := by decide +kernel
theorem dX12_puts_14 : decode cX12_puts 14 = .ok (.aload_n 0, 1) := by decide +kernel
theorem dX12_puts_15 : decode cX12_puts 15 = .ok (.getfield 197, 3) := by decide +kernel
theorem dX12_puts_18 : decode cX12_puts 18 = .ok (.iadd, 1) := by decide +kernel
theorem dX12_puts_19 : decode cX12_puts 19 = .ok (.iload_n 1, 1) := by decide +kernel
theorem dX12_puts_20 : decode cX12_puts 20 = .ok (.iastore, 1) := by decide +kernel
theorem dX12_puts_21 : decode cX12_puts 21 = .ok (.aload_n 0, 1) := by decide +kernel
theorem dX12_puts_22 : decode cX12_puts 22 = .ok (.getfield 49, 3) := by decide +kernel
theorem dX12_puts_25 : decode cX12_puts 25 = .ok (.bipush 64, 2) := by decide +kernel
theorem dX12_puts_27 : decode cX12_puts 27 = .ok (.aload_n 0, 1) := by decide +kernel
theorem dX12_puts_28 : decode cX12_puts 28 = .ok (.getfield 197, 3) := by decide +kernel
theorem dX12_puts_31 : decode cX12_puts 31 = .ok (.iadd, 1) := by decide +kernel
theorem dX12_puts_32 : decode cX12_puts 32 = .ok (.iload_n 2, 1) := by decide +kernel
theorem dX12_puts_33 : decode cX12_puts 33 = .ok (.iastore, 1) := by decide +kernel
theorem dX12_puts_34 : decode cX12_puts 34 = .ok (.aload_n 0, 1) := by decide +kernel
theorem dX12_puts_35 : decode cX12_puts 35 = .ok (.dup, 1) := by decide +kernel
theorem dX12_puts_36 : decode cX12_puts 36 = .ok (.getfield 197, 3) := by decide +kernel
theorem dX12_puts_39 : decode cX12_puts 39 = .ok (.iconst 1, 1) := by decide +kernel
theorem dX12_puts_40 : decode cX12_puts 40 = .ok (.iadd, 1) := by decide +kernel
theorem dX12_puts_41 : decode cX12_puts 41 = .ok (.putfield 197, 3) := by decide +kernel
theorem dX12_puts_44 : decode cX12_puts 44 = .ok (.return_, 1) := by decide +kernel
theorem dX12_knot_0 : decode cX12_knot 0 = .ok (.aload_n 0, 1) := by decide +kernel
theorem dX12_knot_1 : decode cX12_knot 1 = .ok (.getfield 140, 3) := by decide +kernel
theorem dX12_knot_4 : decode cX12_knot 4 = .ok (.ifCond .eq 4, 3) := by decide +kernel
theorem dX12_knot_7 : decode cX12_knot 7 = .ok (.return_, 1) := by decide +kernel
theorem dX12_knot_8 : decode cX12_knot 8 = .ok (.aload_n 0, 1) := by decide +kernel
theorem dX12_knot_9 : decode cX12_knot 9 = .ok (.getfield 200, 3) := by decide +kernel
theorem dX12_knot_12 : decode cX12_knot 12 = .ok (.bipush 64, 2) := by decide +kernel
theorem dX12_knot_14 : decode cX12_knot 14 = .ok (.if_icmp .ne 11, 3) := by decide +kernel
theorem dX12_knot_17 : decode cX12_knot 17 = .ok (.aload_n 0, 1) := by decide +kernel
theorem dX12_knot_18 : decode cX12_knot 18 = .ok (.iconst 2, 1) := by decide +kernel
theorem dX12_knot_19 : decode cX12_knot 19 = .ok (.invokevirtual 146, 3) := by decide +kernel
theorem dX12_knot_22 : decode cX12_knot 22 = .ok (.goto 13, 3) := by decide +kernel
theorem dX12_knot_25 : decode cX12_knot 25 = .ok (.aload_n 0, 1) := by decide +kernel
theorem dX12_knot_26 : decode cX12_knot 26 = .ok (.dup, 1) := by decide +kernel
theorem dX12_knot_27 : decode cX12_knot 27 = .ok (.getfield 200, 3) := by decide +kernel
theorem dX12_knot_30 : decode cX12_knot 30 = .ok (.iconst 1, 1) := by decide +kernel
theorem dX12_knot_31 : decode cX12_knot 31 = .ok (.iadd, 1) := by decide +kernel
theorem dX12_knot_32 : decode cX12_knot 32 = .ok (.putfield 200, 3) := by decide +kernel
theorem dX12_knot_35 : decode cX12_knot 35 = .ok (.return_, 1) := by decide +kernel
theorem dX12_expression_0 : decode cX12_expression 0 = .ok (.aload_n 0, 1) := by decide +kernel
theorem dX12_expression_1 : decode cX12_expression 1 = .ok (.invokevirtual 203, 3) := by decide +kernel
theorem dX12_expression_4 : decode cX12_expression 4 = .ok (.aload_n 0, 1) := by decide +kernel
theorem dX12_expression_5 : decode cX12_expression 5 = .ok (.bipush 7, 2) := by decide +kernel
theorem dX12_expression_7 : decode cX12_expression 7 = .ok (.invokevirtual 194, 3) := by decide +kernel
theorem dX12_expression_10 : decode cX12_expression 10 = .ok (.ifCond .eq 33, 3) := by decide +kernel
theorem dX12_expression_13 : decode cX12_expression 13 = .ok (.aload_n 0, 1) := by decide +kernel
theorem dX12_expression_14 : decode cX12_expression 14 = .ok (.invokevirtual 206, 3) := by decide +kernel
theorem dX12_expression_17 : decode cX12_expression 17 = .ok (.aload_n 0, 1) := by decide +kernel
theorem dX12_expression_18 : decode cX12_expression 18 = .ok (.getfield 140, 3) := by decide +kernel
theorem dX12_expression_21 : decode cX12_expression 21 = .ok (.ifCond .ne 7, 3) := by decide +kernel
theorem dX12_expression_24 : decode cX12_expression 24 = .ok (.aload_n 0, 1) := by decide +kernel
theorem dX12_expression_25 : decode cX12_expression 25 = .ok (.invokevirtual 149, 3) := by decide +kernel
theorem dX12_expression_28 : decode cX12_expression 28 = .ok (.aload_n 0, 1) := by decide +kernel
theorem dX12_expression_29 : decode cX12_expression 29 = .ok (.invokevirtual 203, 3) := by decide +kernel
theorem dX12_expression_32 : decode cX12_expression 32 = .ok (.aload_n 0, 1) := by decide +kernel
theorem dX12_expression_33 : decode cX12_expression 33 = .ok (.iconst 2, 1) := by decide +kernel
theorem dX12_expression_34 : decode cX12_expression 34 = .ok (.sipush 262, 3) := by decide +kernel
theorem dX12_expression_37 : decode cX12_expression 37 = .ok (.invokevirtual 209, 3) := by decide +kernel
theorem dX12_expression_40 : decode cX12_expression 40 = .ok (.goto (-36), 3) := by decide +kernel
theorem dX12_expression_43 : decode cX12_expression 43 = .ok (.return_, 1) := by decide +kernel
theorem dX12_conjunction_0 : decode cX12_conjunction 0 = .ok (.aload_n 0, 1) := by decide +kernel
theorem dX12_conjunction_1 : decode cX12_conjunction 1 = .ok (.invokevirtual 213, 3) := by decide +kernel
theorem dX12_conjunction_4 : decode cX12_conjunction 4 = .ok (.aload_n 0, 1) := by decide +kernel
theorem dX12_conjunction_5 : decode cX12_conjunction 5 = .ok (.bipush 8, 2) := by decide +kernel
theorem dX12_conjunction_7 : decode cX12_conjunction 7 = .ok (.invokevirtual 194, 3) := by decide +kernel
theorem dX12_conjunction_10 : decode cX12_conjunction 10 = .ok (.ifCond .eq 33, 3) := by decide +kernel
theorem dX12_conjunction_13 : decode cX12_conjunction 13 = .ok (.aload_n 0, 1) := by decide +kernel
theorem dX12_conjunction_14 : decode cX12_conjunction 14 = .ok (.invokevirtual 206, 3) := by decide +kernel
theorem dX12_conjunction_17 : decode cX12_conjunction 17 = .ok (.aload_n 0, 1) := by decide +kernel
theorem dX12_conjunction_18 : decode cX12_conjunction 18 = .ok (.getfield 140, 3) := by decide +kernel
theorem dX12_conjunction_21 : decode cX12_conjunction 21 = .ok (.ifCond .ne 7, 3) := by decide +kernel
theorem dX12_conjunction_24 : decode cX12_conjunction 24 = .ok (.aload_n 0, 1) := by decide +kernel
theorem dX12_conjunction_25 : decode cX12_conjunction 25 = .ok (.invokevirtual 149, 3) := by decide +kernel
theorem dX12_conjunction_28 : decode cX12_conjunction 28 = .ok (.aload_n 0, 1) := by decide +kernel
theorem dX12_conjunction_29 : decode cX12_conjunction 29 = .ok (.invokevirtual 213, 3) := by decide +kernel
theorem dX12_conjunction_32 : decode cX12_conjunction 32 = .ok (.aload_n 0, 1) := by decide +kernel
theorem dX12_conjunction_33 : decode cX12_conjunction 33 = .ok (.iconst 2, 1) := by decide +kernel
theorem dX12_conjunction_34 : decode cX12_conjunction 34 = .ok (.sipush 261, 3) := by decide +kernel
theorem dX12_conjunction_37 : decode cX12_conjunction 37 = .ok (.invokevirtual 209, 3) := by decide +kernel
theorem dX12_conjunction_40 : decode cX12_conjunction 40 = .ok (.goto (-36), 3) := by decide +kernel
theorem dX12_conjunction_43 : decode cX12_conjunction 43 = .ok (.return_, 1) := by decide +kernel
theorem dX12_negation_0 : decode cX12_negation 0 = .ok (.aload_n 0, 1) := by decide +kernel
theorem dX12_negation_1 : decode cX12_negation 1 = .ok (.bipush 9, 2) := by decide +kernel
theorem dX12_negation_3 : decode cX12_negation 3 = .ok (.invokevirtual 194, 3) := by decide +kernel
theorem dX12_negation_6 : decode cX12_negation 6 = .ok (.ifCond .eq 31, 3) := by decide +kernel
theorem dX12_negation_9 : decode cX12_negation 9 = .ok (.aload_n 0, 1) := by decide +kernel
theorem dX12_negation_10 : decode cX12_negation 10 = .ok (.invokevirtual 206, 3) := by decide +kernel
theorem dX12_negation_13 : decode cX12_negation 13 = .ok (.aload_n 0, 1) := by decide +kernel
theorem dX12_negation_14 : decode cX12_negation 14 = .ok (.getfield 140, 3) := by decide +kernel
theorem dX12_negation_17 : decode cX12_negation 17 = .ok (.ifCond .ne 7, 3) := by decide +kernel
theorem dX12_negation_20 : decode cX12_negation 20 = .ok (.aload_n 0, 1) := by decide +kernel
theorem dX12_negation_21 : decode cX12_negation 21 = .ok (.invokevirtual 149, 3) := by decide +kernel
theorem dX12_negation_24 : decode cX12_negation 24 = .ok (.aload_n 0, 1) := by decide +kernel
theorem dX12_negation_25 : decode cX12_negation 25 = .ok (.invokevirtual 213, 3) := by decide +kernel
theorem dX12_negation_28 : decode cX12_negation 28 = .ok (.aload_n 0, 1) := by decide +kernel
theorem dX12_negation_29 : decode cX12_negation 29 = .ok (.iconst 2, 1) := by decide +kernel
theorem dX12_negation_30 : decode cX12_negation 30 = .ok (.sipush 260, 3) := by decide +kernel
theorem dX12_negation_33 : decode cX12_negation 33 = .ok (.invokevirtual 209, 3) := by decide +kernel
theorem dX12_negation_36 : decode cX12_negation 36 = .ok (.return_, 1) := by decide +kernel
theorem dX12_negation_37 : decode cX12_negation 37 = .ok (.aload_n 0, 1) := by decide +kernel
theorem dX12_negation_38 : decode cX12_negation 38 = .ok (.invokevirtual 216, 3) := by decide +kernel
theorem dX12_negation_41 : decode cX12_negation 41 = .ok (.aload_n 0, 1) := by decide +kernel
theorem dX12_negation_42 : decode cX12_negation 42 = .ok (.getfield 140, 3) := by decide +kernel
theorem dX12_negation_45 : decode cX12_negation 45 = .ok (.ifCond .ne 48, 3) := by decide +kernel
theorem dX12_negation_48 : decode cX12_negation 48 = .ok (.aload_n 0, 1) := by decide +kernel
theorem dX12_negation_49 : decode cX12_negation 49 = .ok (.getfield 106, 3) := by decide +kernel
theorem dX12_negation_52 : decode cX12_negation 52 = .ok (.iconst 3, 1) := by decide +kernel
theorem dX12_negation_53 : decode cX12_negation 53 = .ok (.if_icmp .ne 40, 3) := by decide +kernel
theorem dX12_negation_56 : decode cX12_negation 56 = .ok (.aload_n 0, 1) := by decide +kernel
theorem dX12_negation_57 : decode cX12_negation 57 = .ok (.getfield 116, 3) := by decide +kernel
theorem dX12_negation_60 : decode cX12_negation 60 = .ok (.bipush 60, 2) := by decide +kernel
theorem dX12_negation_62 : decode cX12_negation 62 = .ok (.if_icmp .eq 32, 3) := by decide +kernel
theorem dX12_negation_65 : decode cX12_negation 65 = .ok (.aload_n 0, 1) := by decide +kernel
theorem dX12_negation_66 : decode cX12_negation 66 = .ok (.getfield 116, 3) := by decide +kernel
theorem dX12_negation_69 : decode cX12_negation 69 = .ok (.bipush 62, 2) := by decide +kernel
theorem dX12_negation_71 : decode cX12_negation 71 = .ok (.if_icmp .eq 23, 3) := by decide +kernel
theorem dX12_negation_74 : decode cX12_negation 74 = .ok (.aload_n 0, 1) := by decide +kernel
theorem dX12_negation_75 : decode cX12_negation 75 = .ok (.getfield 116, 3) := by decide +kernel
theorem dX12_negation_78 : decode cX12_negation 78 = .ok (.bipush 61, 2) := by decide +kernel
theorem dX12_negation_80 : decode cX12_negation 80 = .ok (.if_icmp .eq 14, 3) := by decide +kernel
theorem dX12_negation_83 : decode cX12_negation 83 = .ok (.aload_n 0, 1) := by decide +kernel
theorem dX12_negation_84 : decode cX12_negation 84 = .ok (.getfield 116, 3) := by decide +kernel
theorem dX12_negation_87 : decode cX12_negation 87 = .ok (.sipush 256, 3) := by decide +kernel
theorem dX12_negation_90 : decode cX12_negation 90 = .ok (.if_icmp .ge 4, 3) := by decide +kernel
theorem dX12_negation_93 : decode cX12_negation 93 = .ok (.return_, 1) := by decide +kernel
theorem dX12_negation_94 : decode cX12_negation 94 = .ok (.aload_n 0, 1) := by decide +kernel
theorem dX12_negation_95 : decode cX12_negation 95 = .ok (.getfield 116, 3) := by decide +kernel
theorem dX12_negation_98 : decode cX12_negation 98 = .ok (.istore_n 1, 1) := by decide +kernel
theorem dX12_negation_99 : decode cX12_negation 99 = .ok (.aload_n 0, 1) := by decide +kernel
theorem dX12_negation_100 : decode cX12_negation 100 = .ok (.invokevirtual 206, 3) := by decide +kernel
theorem dX12_negation_103 : decode cX12_negation 103 = .ok (.aload_n 0, 1) := by decide +kernel
theorem dX12_negation_104 : decode cX12_negation 104 = .ok (.getfield 140, 3) := by decide +kernel
theorem dX12_negation_107 : decode cX12_negation 107 = .ok (.ifCond .ne 7, 3) := by decide +kernel
theorem dX12_negation_110 : decode cX12_negation 110 = .ok (.aload_n 0, 1) := by decide +kernel
theorem dX12_negation_111 : decode cX12_negation 111 = .ok (.invokevirtual 149, 3) := by decide +kernel
theorem dX12_negation_114 : decode cX12_negation 114 = .ok (.aload_n 0, 1) := by decide +kernel
theorem dX12_negation_115 : decode cX12_negation 115 = .ok (.invokevirtual 216, 3) := by decide +kernel
theorem dX12_negation_118 : decode cX12_negation 118 = .ok (.aload_n 0, 1) := by decide +kernel
theorem dX12_negation_119 : decode cX12_negation 119 = .ok (.iconst 2, 1) := by decide +kernel
theorem dX12_negation_120 : decode cX12_negation 120 = .ok (.iload_n 1, 1) := by decide +kernel
theorem dX12_negation_121 : decode cX12_negation 121 = .ok (.invokevirtual 209, 3) := by decide +kernel
theorem dX12_negation_124 : decode cX12_negation 124 = .ok (.return_, 1) := by decide +kernel
theorem dX12_sum_0 : decode cX12_sum 0 = .ok (.aload_n 0, 1) := by decide +kernel
theorem dX12_sum_1 : decode cX12_sum 1 = .ok (.invokevirtual 219, 3) := by decide +kernel
theorem dX12_sum_4 : decode cX12_sum 4 = .ok (.aload_n 0, 1) := by decide +kernel
theorem dX12_sum_5 : decode cX12_sum 5 = .ok (.bipush 43, 2) := by decide +kernel
theorem dX12_sum_7 : decode cX12_sum 7 = .ok (.invokevirtual 184, 3) := by decide +kernel
theorem dX12_sum_10 : decode cX12_sum 10 = .ok (.ifCond .ne 12, 3) := by decide +kernel
theorem dX12_sum_13 : decode cX12_sum 13 = .ok (.aload_n 0, 1) := by decide +kernel
theorem dX12_sum_14 : decode cX12_sum 14 = .ok (.bipush 45, 2) := by decide +kernel
theorem dX12_sum_16 : decode cX12_sum 16 = .ok (.invokevirtual 184, 3) := by decide +kernel
theorem dX12_sum_19 : decode cX12_sum 19 = .ok (.ifCond .eq 36, 3) := by decide +kernel
theorem dX12_sum_22 : decode cX12_sum 22 = .ok (.aload_n 0, 1) := by decide +kernel
theorem dX12_sum_23 : decode cX12_sum 23 = .ok (.getfield 116, 3) := by decide +kernel
theorem dX12_sum_26 : decode cX12_sum 26 = .ok (.istore_n 1, 1) := by decide +kernel
theorem dX12_sum_27 : decode cX12_sum 27 = .ok (.aload_n 0, 1) := by decide +kernel
theorem dX12_sum_28 : decode cX12_sum 28 = .ok (.invokevirtual 206, 3) := by decide +kernel
theorem dX12_sum_31 : decode cX12_sum 31 = .ok (.aload_n 0, 1) := by decide +kernel
theorem dX12_sum_32 : decode cX12_sum 32 = .ok (.getfield 140, 3) := by decide +kernel
theorem dX12_sum_35 : decode cX12_sum 35 = .ok (.ifCond .ne 7, 3) := by decide +kernel
theorem dX12_sum_38 : decode cX12_sum 38 = .ok (.aload_n 0, 1) := by decide +kernel
theorem dX12_sum_39 : decode cX12_sum 39 = .ok (.invokevirtual 149, 3) := by decide +kernel
theorem dX12_sum_42 : decode cX12_sum 42 = .ok (.aload_n 0, 1) := by decide +kernel
theorem dX12_sum_43 : decode cX12_sum 43 = .ok (.invokevirtual 219, 3) := by decide +kernel
theorem dX12_sum_46 : decode cX12_sum 46 = .ok (.aload_n 0, 1) := by decide +kernel
theorem dX12_sum_47 : decode cX12_sum 47 = .ok (.iconst 2, 1) := by decide +kernel
theorem dX12_sum_48 : decode cX12_sum 48 = .ok (.iload_n 1, 1) := by decide +kernel
theorem dX12_sum_49 : decode cX12_sum 49 = .ok (.invokevirtual 209, 3) := by decide +kernel
theorem dX12_sum_52 : decode cX12_sum 52 = .ok (.goto (-48), 3) := by decide +kernel
theorem dX12_sum_55 : decode cX12_sum 55 = .ok (.return_, 1) := by decide +kernel
theorem dX12_product_0 : decode cX12_product 0 = .ok (.aload_n 0, 1) := by decide +kernel
theorem dX12_product_1 : decode cX12_product 1 = .ok (.invokevirtual 222, 3) := by decide +kernel
theorem dX12_product_4 : decode cX12_product 4 = .ok (.aload_n 0, 1) := by decide +kernel
theorem dX12_product_5 : decode cX12_product 5 = .ok (.bipush 42, 2) := by decide +kernel
theorem dX12_product_7 : decode cX12_product 7 = .ok (.invokevirtual 184, 3) := by decide +kernel
theorem dX12_product_10 : decode cX12_product 10 = .ok (.ifCond .ne 12, 3) := by decide +kernel
theorem dX12_product_13 : decode cX12_product 13 = .ok (.aload_n 0, 1) := by decide +kernel
theorem dX12_product_14 : decode cX12_product 14 = .ok (.bipush 47, 2) := by decide +kernel
theorem dX12_product_16 : decode cX12_product 16 = .ok (.invokevirtual 184, 3) := by decide +kernel
theorem dX12_product_19 : decode cX12_product 19 = .ok (.ifCond .eq 36, 3) := by decide +kernel
theorem dX12_product_22 : decode cX12_product 22 = .ok (.aload_n 0, 1) := by decide +kernel
theorem dX12_product_23 : decode cX12_product 23 = .ok (.getfield 116, 3) := by decide +kernel
theorem dX12_product_26 : decode cX12_product 26 = .ok (.istore_n 1, 1) := by decide +kernel
theorem dX12_product_27 : decode cX12_product 27 = .ok (.aload_n 0, 1) := by decide +kernel
theorem dX12_product_28 : decode cX12_product 28 = .ok (.invokevirtual 206, 3) := by decide +kernel
theorem dX12_product_31 : decode cX12_product 31 = .ok (.aload_n 0, 1) := by decide +kernel
theorem dX12_product_32 : decode cX12_product 32 = .ok (.getfield 140, 3) := by decide +kernel
theorem dX12_product_35 : decode cX12_product 35 = .ok (.ifCond .ne 7, 3) := by decide +kernel
theorem dX12_product_38 : decode cX12_product 38 = .ok (.aload_n 0, 1) := by decide +kernel
theorem dX12_product_39 : decode cX12_product 39 = .ok (.invokevirtual 149, 3) := by decide +kernel
theorem dX12_product_42 : decode cX12_product 42 = .ok (.aload_n 0, 1) := by decide +kernel
theorem dX12_product_43 : decode cX12_product 43 = .ok (.invokevirtual 222, 3) := by decide +kernel
theorem dX12_product_46 : decode cX12_product 46 = .ok (.aload_n 0, 1) := by decide +kernel
theorem dX12_product_47 : decode cX12_product 47 = .ok (.iconst 2, 1) := by decide +kernel
theorem dX12_product_48 : decode cX12_product 48 = .ok (.iload_n 1, 1) := by decide +kernel
theorem dX12_product_49 : decode cX12_product 49 = .ok (.invokevirtual 209, 3) := by decide +kernel
theorem dX12_product_52 : decode cX12_product 52 = .ok (.goto (-48), 3) := by decide +kernel
theorem dX12_product_55 : decode cX12_product 55 = .ok (.return_, 1) := by decide +kernel
theorem dX12_primary_0 : decode cX12_primary 0 = .ok (.aload_n 0, 1) := by decide +kernel
theorem dX12_primary_1 : decode cX12_primary 1 = .ok (.getfield 140, 3) := by decide +kernel
theorem dX12_primary_4 : decode cX12_primary 4 = .ok (.ifCond .eq 4, 3) := by decide +kernel
theorem dX12_primary_7 : decode cX12_primary 7 = .ok (.return_, 1) := by decide +kernel
theorem dX12_primary_8 : decode cX12_primary 8 = .ok (.aload_n 0, 1) := by decide +kernel
theorem dX12_primary_9 : decode cX12_primary 9 = .ok (.bipush 40, 2) := by decide +kernel
theorem dX12_primary_11 : decode cX12_primary 11 = .ok (.invokevirtual 184, 3) := by decide +kernel
theorem dX12_primary_14 : decode cX12_primary 14 = .ok (.ifCond .eq 87, 3) := by decide +kernel
theorem dX12_primary_17 : decode cX12_primary 17 = .ok (.aload_n 0, 1) := by decide +kernel
theorem dX12_primary_18 : decode cX12_primary 18 = .ok (.getfield 225, 3) := by decide +kernel
theorem dX12_primary_21 : decode cX12_primary 21 = .ok (.bipush 8, 2) := by decide +kernel
theorem dX12_primary_23 : decode cX12_primary 23 = .ok (.if_icmp .ne 8, 3) := by decide +kernel
theorem dX12_primary_26 : decode cX12_primary 26 = .ok (.aload_n 0, 1) := by decide +kernel
theorem dX12_primary_27 : decode cX12_primary 27 = .ok (.iconst 2, 1) := by decide +kernel
theorem dX12_primary_28 : decode cX12_primary 28 = .ok (.invokevirtual 146, 3) := by decide +kernel
theorem dX12_primary_31 : decode cX12_primary 31 = .ok (.aload_n 0, 1) := by decide +kernel
theorem dX12_primary_32 : decode cX12_primary 32 = .ok (.getfield 140, 3) := by decide +kernel
theorem dX12_primary_35 : decode cX12_primary 35 = .ok (.ifCond .eq 4, 3) := by decide +kernel
theorem dX12_primary_38 : decode cX12_primary 38 = .ok (.return_, 1) := by decide +kernel
theorem dX12_primary_39 : decode cX12_primary 39 = .ok (.aload_n 0, 1) := by decide +kernel
theorem dX12_primary_40 : decode cX12_primary 40 = .ok (.dup, 1) := by decide +kernel
theorem dX12_primary_41 : decode cX12_primary 41 = .ok (.getfield 225, 3) := by decide +kernel
theorem dX12_primary_44 : decode cX12_primary 44 = .ok (.iconst 1, 1) := by decide +kernel
theorem dX12_primary_45 : decode cX12_primary 45 = .ok (.iadd, 1) := by decide +kernel
theorem dX12_primary_46 : decode cX12_primary 46 = .ok (.putfield 225, 3) := by decide +kernel
theorem dX12_primary_49 : decode cX12_primary 49 = .ok (.aload_n 0, 1) := by decide +kernel
theorem dX12_primary_50 : decode cX12_primary 50 = .ok (.invokevirtual 149, 3) := by decide +kernel
theorem dX12_primary_53 : decode cX12_primary 53 = .ok (.aload_n 0, 1) := by decide +kernel
theorem dX12_primary_54 : decode cX12_primary 54 = .ok (.invokevirtual 171, 3) := by decide +kernel
theorem dX12_primary_57 : decode cX12_primary 57 = .ok (.aload_n 0, 1) := by decide +kernel
theorem dX12_primary_58 : decode cX12_primary 58 = .ok (.getfield 140, 3) := by decide +kernel
theorem dX12_primary_61 : decode cX12_primary 61 = .ok (.ifCond .ne 17, 3) := by decide +kernel
theorem dX12_primary_64 : decode cX12_primary 64 = .ok (.aload_n 0, 1) := by decide +kernel
theorem dX12_primary_65 : decode cX12_primary 65 = .ok (.bipush 41, 2) := by decide +kernel
theorem dX12_primary_67 : decode cX12_primary 67 = .ok (.invokevirtual 184, 3) := by decide +kernel
theorem dX12_primary_70 : decode cX12_primary 70 = .ok (.ifCond .ne 8, 3) := by decide +kernel
theorem dX12_primary_73 : decode cX12_primary 73 = .ok (.aload_n 0, 1) := by decide +kernel
theorem dX12_primary_74 : decode cX12_primary 74 = .ok (.iconst 1, 1) := by decide +kernel
theorem dX12_primary_75 : decode cX12_primary 75 = .ok (.invokevirtual 146, 3) := by decide +kernel
theorem dX12_primary_78 : decode cX12_primary 78 = .ok (.aload_n 0, 1) := by decide +kernel
theorem dX12_primary_79 : decode cX12_primary 79 = .ok (.getfield 140, 3) := by decide +kernel
theorem dX12_primary_82 : decode cX12_primary 82 = .ok (.ifCond .eq 4, 3) := by decide +kernel
theorem dX12_primary_85 : decode cX12_primary 85 = .ok (.return_, 1) := by decide +kernel
theorem dX12_primary_86 : decode cX12_primary 86 = .ok (.aload_n 0, 1) := by decide +kernel
theorem dX12_primary_87 : decode cX12_primary 87 = .ok (.dup, 1) := by decide +kernel
theorem dX12_primary_88 : decode cX12_primary 88 = .ok (.getfield 225, 3) := by decide +kernel
theorem dX12_primary_91 : decode cX12_primary 91 = .ok (.iconst 1, 1) := by decide +kernel
theorem dX12_primary_92 : decode cX12_primary 92 = .ok (.isub, 1) := by decide +kernel
theorem dX12_primary_93 : decode cX12_primary 93 = .ok (.putfield 225, 3) := by decide +kernel
theorem dX12_primary_96 : decode cX12_primary 96 = .ok (.aload_n 0, 1) := by decide +kernel
theorem dX12_primary_97 : decode cX12_primary 97 = .ok (.invokevirtual 149, 3) := by decide +kernel
theorem dX12_primary_100 : decode cX12_primary 100 = .ok (.return_, 1) := by decide +kernel
theorem dX12_primary_101 : decode cX12_primary 101 = .ok (.aload_n 0, 1) := by decide +kernel
theorem dX12_primary_102 : decode cX12_primary 102 = .ok (.getfield 106, 3) := by decide +kernel
theorem dX12_primary_105 : decode cX12_primary 105 = .ok (.iconst 2, 1) := by decide +kernel
theorem dX12_primary_106 : decode cX12_primary 106 = .ok (.if_icmp .ne 7, 3) := by decide +kernel
theorem dX12_primary_109 : decode cX12_primary 109 = .ok (.iconst 1, 1) := by decide +kernel
theorem dX12_primary_110 : decode cX12_primary 110 = .ok (.goto 4, 3) := by decide +kernel
theorem dX12_primary_113 : decode cX12_primary 113 = .ok (.iconst 0, 1) := by decide +kernel
theorem dX12_primary_114 : decode cX12_primary 114 = .ok (.istore_n 1, 1) := by decide +kernel
theorem dX12_primary_115 : decode cX12_primary 115 = .ok (.iload_n 1, 1) := by decide +kernel
theorem dX12_primary_116 : decode cX12_primary 116 = .ok (.ifCond .eq 21, 3) := by decide +kernel
theorem dX12_primary_119 : decode cX12_primary 119 = .ok (.aload_n 0, 1) := by decide +kernel
theorem dX12_primary_120 : decode cX12_primary 120 = .ok (.getfield 116, 3) := by decide +kernel
theorem dX12_primary_123 : decode cX12_primary 123 = .ok (.sipush 999, 3) := by decide +kernel
theorem dX12_primary_126 : decode cX12_primary 126 = .ok (.if_icmp .le 11, 3) := by decide +kernel
theorem dX12_primary_129 : decode cX12_primary 129 = .ok (.aload_n 0, 1) := by decide +kernel
theorem dX12_primary_130 : decode cX12_primary 130 = .ok (.iconst 2, 1) := by decide +kernel
theorem dX12_primary_131 : decode cX12_primary 131 = .ok (.invokevirtual 146, 3) := by decide +kernel
theorem dX12_primary_134 : decode cX12_primary 134 = .ok (.goto 28, 3) := by decide +kernel
theorem dX12_primary_137 : decode cX12_primary 137 = .ok (.iload_n 1, 1) := by decide +kernel
theorem dX12_primary_138 : decode cX12_primary 138 = .ok (.ifCond .ne 24, 3) := by decide +kernel
theorem dX12_primary_141 : decode cX12_primary 141 = .ok (.aload_n 0, 1) := by decide +kernel
theorem dX12_primary_142 : decode cX12_primary 142 = .ok (.getfield 106, 3) := by decide +kernel
theorem dX12_primary_145 : decode cX12_primary 145 = .ok (.ifCond .ne 12, 3) := by decide +kernel
theorem dX12_primary_148 : decode cX12_primary 148 = .ok (.aload_n 0, 1) := by decide +kernel
theorem dX12_primary_149 : decode cX12_primary 149 = .ok (.getfield 116, 3) := by decide +kernel
theorem dX12_primary_152 : decode cX12_primary 152 = .ok (.bipush 10, 2) := by decide +kernel
theorem dX12_primary_154 : decode cX12_primary 154 = .ok (.if_icmp .ge 8, 3) := by decide +kernel
theorem dX12_primary_157 : decode cX12_primary 157 = .ok (.aload_n 0, 1) := by decide +kernel
theorem dX12_primary_158 : decode cX12_primary 158 = .ok (.iconst 1, 1) := by decide +kernel
theorem dX12_primary_159 : decode cX12_primary 159 = .ok (.invokevirtual 146, 3) := by decide +kernel
theorem dX12_primary_162 : decode cX12_primary 162 = .ok (.aload_n 0, 1) := by decide +kernel
theorem dX12_primary_163 : decode cX12_primary 163 = .ok (.invokevirtual 206, 3) := by decide +kernel
theorem dX12_primary_166 : decode cX12_primary 166 = .ok (.aload_n 0, 1) := by decide +kernel
theorem dX12_primary_167 : decode cX12_primary 167 = .ok (.getfield 140, 3) := by decide +kernel
theorem dX12_primary_170 : decode cX12_primary 170 = .ok (.ifCond .eq 4, 3) := by decide +kernel
theorem dX12_primary_173 : decode cX12_primary 173 = .ok (.return_, 1) := by decide +kernel
theorem dX12_primary_174 : decode cX12_primary 174 = .ok (.aload_n 0, 1) := by decide +kernel
theorem dX12_primary_175 : decode cX12_primary 175 = .ok (.iload_n 1, 1) := by decide +kernel
theorem dX12_primary_176 : decode cX12_primary 176 = .ok (.ifCond .eq 7, 3) := by decide +kernel
theorem dX12_primary_179 : decode cX12_primary 179 = .ok (.iconst 0, 1) := by decide +kernel
theorem dX12_primary_180 : decode cX12_primary 180 = .ok (.goto 4, 3) := by decide +kernel
theorem dX12_primary_183 : decode cX12_primary 183 = .ok (.iconst 1, 1) := by decide +kernel
theorem dX12_primary_184 : decode cX12_primary 184 = .ok (.iload_n 1, 1) := by decide +kernel
theorem dX12_primary_185 : decode cX12_primary 185 = .ok (.ifCond .eq 10, 3) := by decide +kernel
theorem dX12_primary_188 : decode cX12_primary 188 = .ok (.aload_n 0, 1) := by decide +kernel
theorem dX12_primary_189 : decode cX12_primary 189 = .ok (.getfield 116, 3) := by decide +kernel
theorem dX12_primary_192 : decode cX12_primary 192 = .ok (.goto 10, 3) := by decide +kernel
theorem dX12_primary_195 : decode cX12_primary 195 = .ok (.aload_n 0, 1) := by decide +kernel
theorem dX12_primary_196 : decode cX12_primary 196 = .ok (.getfield 116, 3) := by decide +kernel
theorem dX12_primary_199 : decode cX12_primary 199 = .ok (.bipush 10, 2) := by decide +kernel
theorem dX12_primary_201 : decode cX12_primary 201 = .ok (.isub, 1) := by decide +kernel
theorem dX12_primary_202 : decode cX12_primary 202 = .ok (.invokevirtual 209, 3) := by decide +kernel
theorem dX12_primary_205 : decode cX12_primary 205 = .ok (.aload_n 0, 1) := by decide +kernel
theorem dX12_primary_206 : decode cX12_primary 206 = .ok (.invokevirtual 149, 3) := by decide +kernel
theorem dX12_primary_209 : decode cX12_primary 209 = .ok (.return_, 1) := by decide +kernel
theorem dX12_text_0 : decode cX12_text 0 = .ok (.aload_n 0, 1) := by decide +kernel
theorem dX12_text_1 : decode cX12_text 1 = .ok (.iconst 0, 1) := by decide +kernel
theorem dX12_text_2 : decode cX12_text 2 = .ok (.putfield 87, 3) := by decide +kernel
theorem dX12_text_5 : decode cX12_text 5 = .ok (.iload_n 1, 1) := by decide +kernel
theorem dX12_text_6 : decode cX12_text 6 = .ok (.ifCond .lt 11, 3) := by decide +kernel
theorem dX12_text_9 : decode cX12_text 9 = .ok (.iload_n 1, 1) := by decide +kernel
theorem dX12_text_10 : decode cX12_text 10 = .ok (.aload_n 0, 1) := by decide +kernel
theorem dX12_text_11 : decode cX12_text 11 = .ok (.getfield 90, 3) := by decide +kernel
theorem dX12_text_14 : decode cX12_text 14 = .ok (.if_icmp .le 6, 3) := by decide +kernel
theorem dX12_text_17 : decode cX12_text 17 = .ok (.bipush (-2), 2) := by decide +kernel
theorem dX12_text_19 : decode cX12_text 19 = .ok (.ireturn, 1) := by decide +kernel
theorem dX12_text_20 : decode cX12_text 20 = .ok (.aload_n 0, 1) := by decide +kernel
theorem dX12_text_21 : decode cX12_text 21 = .ok (.iload_n 1, 1) := by decide +kernel
theorem dX12_text_22 : decode cX12_text 22 = .ok (.putfield 96, 3) := by decide +kernel
theorem dX12_text_25 : decode cX12_text 25 = .ok (.aload_n 0, 1) := by decide +kernel
theorem dX12_text_26 : decode cX12_text 26 = .ok (.iconst 0, 1) := by decide +kernel
theorem dX12_text_27 : decode cX12_text 27 = .ok (.putfield 90, 3) := by decide +kernel
theorem dX12_text_30 : decode cX12_text 30 = .ok (.aload_n 0, 1) := by decide +kernel
theorem dX12_text_31 : decode cX12_text 31 = .ok (.iconst 0, 1) := by decide +kernel
theorem dX12_text_32 : decode cX12_text 32 = .ok (.putfield 93, 3) := by decide +kernel
theorem dX12_text_35 : decode cX12_text 35 = .ok (.aload_n 0, 1) := by decide +kernel
theorem dX12_text_36 : decode cX12_text 36 = .ok (.iconst 0, 1) := by decide +kernel
theorem dX12_text_37 : decode cX12_text 37 = .ok (.putfield 140, 3) := by decide +kernel
theorem dX12_text_40 : decode cX12_text 40 = .ok (.aload_n 0, 1) := by decide +kernel
theorem dX12_text_41 : decode cX12_text 41 = .ok (.iconst (-1), 1) := by decide +kernel
theorem dX12_text_42 : decode cX12_text 42 = .ok (.putfield 143, 3) := by decide +kernel
theorem dX12_text_45 : decode cX12_text 45 = .ok (.aload_n 0, 1) := by decide +kernel
theorem dX12_text_46 : decode cX12_text 46 = .ok (.iconst 0, 1) := by decide +kernel
theorem dX12_text_47 : decode cX12_text 47 = .ok (.putfield 156, 3) := by decide +kernel
theorem dX12_text_50 : decode cX12_text 50 = .ok (.aload_n 0, 1) := by decide +kernel
theorem dX12_text_51 : decode cX12_text 51 = .ok (.iconst 0, 1) := by decide +kernel
theorem dX12_text_52 : decode cX12_text 52 = .ok (.putfield 159, 3) := by decide +kernel
theorem dX12_text_55 : decode cX12_text 55 = .ok (.aload_n 0, 1) := by decide +kernel
theorem dX12_text_56 : decode cX12_text 56 = .ok (.iconst 0, 1) := by decide +kernel
theorem dX12_text_57 : decode cX12_text 57 = .ok (.putfield 197, 3) := by decide +kernel
theorem dX12_text_60 : decode cX12_text 60 = .ok (.aload_n 0, 1) := by decide +kernel
theorem dX12_text_61 : decode cX12_text 61 = .ok (.iconst 0, 1) := by decide +kernel
theorem dX12_text_62 : decode cX12_text 62 = .ok (.putfield 200, 3) := by decide +kernel
theorem dX12_text_65 : decode cX12_text 65 = .ok (.aload_n 0, 1) := by decide +kernel
theorem dX12_text_66 : decode cX12_text 66 = .ok (.iconst 5, 1) := by decide +kernel
theorem dX12_text_67 : decode cX12_text 67 = .ok (.putfield 178, 3) := by decide +kernel
theorem dX12_text_70 : decode cX12_text 70 = .ok (.aload_n 0, 1) := by decide +kernel
theorem dX12_text_71 : decode cX12_text 71 = .ok (.iconst 0, 1) := by decide +kernel
theorem dX12_text_72 : decode cX12_text 72 = .ok (.putfield 181, 3) := by decide +kernel
theorem dX12_text_75 : decode cX12_text 75 = .ok (.aload_n 0, 1) := by decide +kernel
theorem dX12_text_76 : decode cX12_text 76 = .ok (.iconst 0, 1) := by decide +kernel
theorem dX12_text_77 : decode cX12_text 77 = .ok (.putfield 162, 3) := by decide +kernel
theorem dX12_text_80 : decode cX12_text 80 = .ok (.aload_n 0, 1) := by decide +kernel
theorem dX12_text_81 : decode cX12_text 81 = .ok (.iconst 0, 1) := by decide +kernel
theorem dX12_text_82 : decode cX12_text 82 = .ok (.putfield 187, 3) := by decide +kernel
theorem dX12_text_85 : decode cX12_text 85 = .ok (.aload_n 0, 1) := by decide +kernel
theorem dX12_text_86 : decode cX12_text 86 = .ok (.iconst 0, 1) := by decide +kernel
theorem dX12_text_87 : decode cX12_text 87 = .ok (.putfield 225, 3) := by decide +kernel
theorem dX12_text_90 : decode cX12_text 90 = .ok (.aload_n 0, 1) := by decide +kernel
theorem dX12_text_91 : decode cX12_text 91 = .ok (.invokevirtual 149, 3) := by decide +kernel
theorem dX12_text_94 : decode cX12_text 94 = .ok (.aload_n 0, 1) := by decide +kernel
theorem dX12_text_95 : decode cX12_text 95 = .ok (.getfield 140, 3) := by decide +kernel
theorem dX12_text_98 : decode cX12_text 98 = .ok (.ifCond .ne 18, 3) := by decide +kernel
theorem dX12_text_101 : decode cX12_text 101 = .ok (.aload_n 0, 1) := by decide +kernel
theorem dX12_text_102 : decode cX12_text 102 = .ok (.getfield 106, 3) := by decide +kernel
theorem dX12_text_105 : decode cX12_text 105 = .ok (.iconst 4, 1) := by decide +kernel
theorem dX12_text_106 : decode cX12_text 106 = .ok (.if_icmp .eq 10, 3) := by decide +kernel
theorem dX12_text_109 : decode cX12_text 109 = .ok (.aload_n 0, 1) := by decide +kernel
theorem dX12_text_110 : decode cX12_text 110 = .ok (.invokevirtual 228, 3) := by decide +kernel
theorem dX12_text_113 : decode cX12_text 113 = .ok (.goto (-19), 3) := by decide +kernel
theorem dX12_text_116 : decode cX12_text 116 = .ok (.aload_n 0, 1) := by decide +kernel
theorem dX12_text_117 : decode cX12_text 117 = .ok (.aload_n 0, 1) := by decide +kernel
theorem dX12_text_118 : decode cX12_text 118 = .ok (.getfield 140, 3) := by decide +kernel
theorem dX12_text_121 : decode cX12_text 121 = .ok (.putfield 231, 3) := by decide +kernel
theorem dX12_text_124 : decode cX12_text 124 = .ok (.aload_n 0, 1) := by decide +kernel
theorem dX12_text_125 : decode cX12_text 125 = .ok (.aload_n 0, 1) := by decide +kernel
theorem dX12_text_126 : decode cX12_text 126 = .ok (.getfield 143, 3) := by decide +kernel
theorem dX12_text_129 : decode cX12_text 129 = .ok (.putfield 56, 3) := by decide +kernel
theorem dX12_text_132 : decode cX12_text 132 = .ok (.aload_n 0, 1) := by decide +kernel
theorem dX12_text_133 : decode cX12_text 133 = .ok (.getfield 140, 3) := by decide +kernel
theorem dX12_text_136 : decode cX12_text 136 = .ok (.ifCond .eq 5, 3) := by decide +kernel
theorem dX12_text_139 : decode cX12_text 139 = .ok (.iconst (-1), 1) := by decide +kernel
theorem dX12_text_140 : decode cX12_text 140 = .ok (.ireturn, 1) := by decide +kernel
theorem dX12_text_141 : decode cX12_text 141 = .ok (.aload_n 0, 1) := by decide +kernel
theorem dX12_text_142 : decode cX12_text 142 = .ok (.invokevirtual 234, 3) := by decide +kernel
theorem dX12_text_145 : decode cX12_text 145 = .ok (.aload_n 0, 1) := by decide +kernel
theorem dX12_text_146 : decode cX12_text 146 = .ok (.getfield 187, 3) := by decide +kernel
theorem dX12_text_149 : decode cX12_text 149 = .ok (.ireturn, 1) := by decide +kernel
theorem dX12_lays_0 : decode cX12_lays 0 = .ok (.aload_n 0, 1) := by decide +kernel
theorem dX12_lays_1 : decode cX12_lays 1 = .ok (.aload_n 0, 1) := by decide +kernel
theorem dX12_lays_2 : decode cX12_lays 2 = .ok (.getfield 156, 3) := by decide +kernel
theorem dX12_lays_5 : decode cX12_lays 5 = .ok (.putfield 237, 3) := by decide +kernel
theorem dX12_lays_8 : decode cX12_lays 8 = .ok (.aload_n 0, 1) := by decide +kernel
theorem dX12_lays_9 : decode cX12_lays 9 = .ok (.aload_n 0, 1) := by decide +kernel
theorem dX12_lays_10 : decode cX12_lays 10 = .ok (.getfield 159, 3) := by decide +kernel
theorem dX12_lays_13 : decode cX12_lays 13 = .ok (.putfield 240, 3) := by decide +kernel
theorem dX12_lays_16 : decode cX12_lays 16 = .ok (.aload_n 0, 1) := by decide +kernel
theorem dX12_lays_17 : decode cX12_lays 17 = .ok (.aload_n 0, 1) := by decide +kernel
theorem dX12_lays_18 : decode cX12_lays 18 = .ok (.getfield 197, 3) := by decide +kernel
theorem dX12_lays_21 : decode cX12_lays 21 = .ok (.putfield 243, 3) := by decide +kernel
theorem dX12_lays_24 : decode cX12_lays 24 = .ok (.aload_n 0, 1) := by decide +kernel
theorem dX12_lays_25 : decode cX12_lays 25 = .ok (.aload_n 0, 1) := by decide +kernel
theorem dX12_lays_26 : decode cX12_lays 26 = .ok (.getfield 178, 3) := by decide +kernel
theorem dX12_lays_29 : decode cX12_lays 29 = .ok (.putfield 52, 3) := by decide +kernel
theorem dX12_lays_32 : decode cX12_lays 32 = .ok (.aload_n 0, 1) := by decide +kernel
theorem dX12_lays_33 : decode cX12_lays 33 = .ok (.aload_n 0, 1) := by decide +kernel
theorem dX12_lays_34 : decode cX12_lays 34 = .ok (.getfield 181, 3) := by decide +kernel
theorem dX12_lays_37 : decode cX12_lays 37 = .ok (.putfield 246, 3) := by decide +kernel
theorem dX12_lays_40 : decode cX12_lays 40 = .ok (.aload_n 0, 1) := by decide +kernel
theorem dX12_lays_41 : decode cX12_lays 41 = .ok (.iconst 0, 1) := by decide +kernel
theorem dX12_lays_42 : decode cX12_lays 42 = .ok (.putfield 249, 3) := by decide +kernel
theorem dX12_lays_45 : decode cX12_lays 45 = .ok (.aload_n 0, 1) := by decide +kernel
theorem dX12_lays_46 : decode cX12_lays 46 = .ok (.iconst (-1), 1) := by decide +kernel
theorem dX12_lays_47 : decode cX12_lays 47 = .ok (.putfield 59, 3) := by decide +kernel
theorem dX12_lays_50 : decode cX12_lays 50 = .ok (.iconst 0, 1) := by decide +kernel
theorem dX12_lays_51 : decode cX12_lays 51 = .ok (.istore_n 1, 1) := by decide +kernel
theorem dX12_lays_52 : decode cX12_lays 52 = .ok (.iload_n 1, 1) := by decide +kernel
theorem dX12_lays_53 : decode cX12_lays 53 = .ok (.iconst 5, 1) := by decide +kernel
theorem dX12_lays_54 : decode cX12_lays 54 = .ok (.if_icmp .ge 37, 3) := by decide +kernel
theorem dX12_lays_57 : decode cX12_lays 57 = .ok (.aload_n 0, 1) := by decide +kernel
theorem dX12_lays_58 : decode cX12_lays 58 = .ok (.getfield 15, 3) := by decide +kernel
theorem dX12_lays_61 : decode cX12_lays 61 = .ok (.iload_n 1, 1) := by decide +kernel
theorem dX12_lays_62 : decode cX12_lays 62 = .ok (.aload_n 0, 1) := by decide +kernel
theorem dX12_lays_63 : decode cX12_lays 63 = .ok (.getfield 15, 3) := by decide +kernel
theorem dX12_lays_66 : decode cX12_lays 66 = .ok (.iconst 5, 1) := by decide +kernel
theorem dX12_lays_67 : decode cX12_lays 67 = .ok (.iload_n 1, 1) := by decide +kernel
theorem dX12_lays_68 : decode cX12_lays 68 = .ok (.iadd, 1) := by decide +kernel
theorem dX12_lays_69 : decode cX12_lays 69 = .ok (.iaload, 1) := by decide +kernel
theorem dX12_lays_70 : decode cX12_lays 70 = .ok (.iastore, 1) := by decide +kernel
theorem dX12_lays_71 : decode cX12_lays 71 = .ok (.aload_n 0, 1) := by decide +kernel
theorem dX12_lays_72 : decode cX12_lays 72 = .ok (.getfield 18, 3) := by decide +kernel
theorem dX12_lays_75 : decode cX12_lays 75 = .ok (.iload_n 1, 1) := by decide +kernel
theorem dX12_lays_76 : decode cX12_lays 76 = .ok (.aload_n 0, 1) := by decide +kernel
theorem dX12_lays_77 : decode cX12_lays 77 = .ok (.getfield 18, 3) := by decide +kernel
theorem dX12_lays_80 : decode cX12_lays 80 = .ok (.iconst 5, 1) := by decide +kernel
theorem dX12_lays_81 : decode cX12_lays 81 = .ok (.iload_n 1, 1) := by decide +kernel
theorem dX12_lays_82 : decode cX12_lays 82 = .ok (.iadd, 1) := by decide +kernel
theorem dX12_lays_83 : decode cX12_lays 83 = .ok (.iaload, 1) := by decide +kernel
theorem dX12_lays_84 : decode cX12_lays 84 = .ok (.iastore, 1) := by decide +kernel
theorem dX12_lays_85 : decode cX12_lays 85 = .ok (.iinc 1 1, 3) := by decide +kernel
theorem dX12_lays_88 : decode cX12_lays 88 = .ok (.goto (-36), 3) := by decide +kernel
theorem dX12_lays_91 : decode cX12_lays 91 = .ok (.iconst 0, 1) := by decide +kernel
theorem dX12_lays_92 : decode cX12_lays 92 = .ok (.istore_n 1, 1) := by decide +kernel
theorem dX12_lays_93 : decode cX12_lays 93 = .ok (.iload_n 1, 1) := by decide +kernel
theorem dX12_lays_94 : decode cX12_lays 94 = .ok (.bipush 50, 2) := by decide +kernel
theorem dX12_lays_96 : decode cX12_lays 96 = .ok (.if_icmp .ge 24, 3) := by decide +kernel
theorem dX12_lays_99 : decode cX12_lays 99 = .ok (.aload_n 0, 1) := by decide +kernel
theorem dX12_lays_100 : decode cX12_lays 100 = .ok (.getfield 21, 3) := by decide +kernel
theorem dX12_lays_103 : decode cX12_lays 103 = .ok (.iload_n 1, 1) := by decide +kernel
theorem dX12_lays_104 : decode cX12_lays 104 = .ok (.aload_n 0, 1) := by decide +kernel
theorem dX12_lays_105 : decode cX12_lays 105 = .ok (.getfield 21, 3) := by decide +kernel
theorem dX12_lays_108 : decode cX12_lays 108 = .ok (.bipush 50, 2) := by decide +kernel
theorem dX12_lays_110 : decode cX12_lays 110 = .ok (.iload_n 1, 1) := by decide +kernel
theorem dX12_lays_111 : decode cX12_lays 111 = .ok (.iadd, 1) := by decide +kernel
theorem dX12_lays_112 : decode cX12_lays 112 = .ok (.iaload, 1) := by decide +kernel
theorem dX12_lays_113 : decode cX12_lays 113 = .ok (.iastore, 1) := by decide +kernel
theorem dX12_lays_114 : decode cX12_lays 114 = .ok (.iinc 1 1, 3) := by decide +kernel
theorem dX12_lays_117 : decode cX12_lays 117 = .ok (.goto (-24), 3) := by decide +kernel
theorem dX12_lays_120 : decode cX12_lays 120 = .ok (.iconst 0, 1) := by decide +kernel
theorem dX12_lays_121 : decode cX12_lays 121 = .ok (.istore_n 1, 1) := by decide +kernel
theorem dX12_lays_122 : decode cX12_lays 122 = .ok (.iload_n 1, 1) := by decide +kernel
theorem dX12_lays_123 : decode cX12_lays 123 = .ok (.bipush 12, 2) := by decide +kernel
theorem dX12_lays_125 : decode cX12_lays 125 = .ok (.if_icmp .ge 106, 3) := by decide +kernel
theorem dX12_lays_128 : decode cX12_lays 128 = .ok (.aload_n 0, 1) := by decide +kernel
theorem dX12_lays_129 : decode cX12_lays 129 = .ok (.getfield 24, 3) := by decide +kernel
theorem dX12_lays_132 : decode cX12_lays 132 = .ok (.iload_n 1, 1) := by decide +kernel
theorem dX12_lays_133 : decode cX12_lays 133 = .ok (.aload_n 0, 1) := by decide +kernel
theorem dX12_lays_134 : decode cX12_lays 134 = .ok (.getfield 24, 3) := by decide +kernel
theorem dX12_lays_137 : decode cX12_lays 137 = .ok (.bipush 12, 2) := by decide +kernel
theorem dX12_lays_139 : decode cX12_lays 139 = .ok (.iload_n 1, 1) := by decide +kernel
theorem dX12_lays_140 : decode cX12_lays 140 = .ok (.iadd, 1) := by decide +kernel
theorem dX12_lays_141 : decode cX12_lays 141 = .ok (.iaload, 1) := by decide +kernel
theorem dX12_lays_142 : decode cX12_lays 142 = .ok (.iastore, 1) := by decide +kernel
theorem dX12_lays_143 : decode cX12_lays 143 = .ok (.aload_n 0, 1) := by decide +kernel
theorem dX12_lays_144 : decode cX12_lays 144 = .ok (.getfield 27, 3) := by decide +kernel
theorem dX12_lays_147 : decode cX12_lays 147 = .ok (.iload_n 1, 1) := by decide +kernel
theorem dX12_lays_148 : decode cX12_lays 148 = .ok (.aload_n 0, 1) := by decide +kernel
theorem dX12_lays_149 : decode cX12_lays 149 = .ok (.getfield 27, 3) := by decide +kernel
theorem dX12_lays_152 : decode cX12_lays 152 = .ok (.bipush 12, 2) := by decide +kernel
theorem dX12_lays_154 : decode cX12_lays 154 = .ok (.iload_n 1, 1) := by decide +kernel
theorem dX12_lays_155 : decode cX12_lays 155 = .ok (.iadd, 1) := by decide +kernel
theorem dX12_lays_156 : decode cX12_lays 156 = .ok (.iaload, 1) := by decide +kernel
theorem dX12_lays_157 : decode cX12_lays 157 = .ok (.iastore, 1) := by decide +kernel
theorem dX12_lays_158 : decode cX12_lays 158 = .ok (.aload_n 0, 1) := by decide +kernel
theorem dX12_lays_159 : decode cX12_lays 159 = .ok (.getfield 30, 3) := by decide +kernel
theorem dX12_lays_162 : decode cX12_lays 162 = .ok (.iload_n 1, 1) := by decide +kernel
theorem dX12_lays_163 : decode cX12_lays 163 = .ok (.aload_n 0, 1) := by decide +kernel
theorem dX12_lays_164 : decode cX12_lays 164 = .ok (.getfield 30, 3) := by decide +kernel
theorem dX12_lays_167 : decode cX12_lays 167 = .ok (.bipush 12, 2) := by decide +kernel
theorem dX12_lays_169 : decode cX12_lays 169 = .ok (.iload_n 1, 1) := by decide +kernel
theorem dX12_lays_170 : decode cX12_lays 170 = .ok (.iadd, 1) := by decide +kernel
theorem dX12_lays_171 : decode cX12_lays 171 = .ok (.baload, 1) := by decide +kernel
theorem dX12_lays_172 : decode cX12_lays 172 = .ok (.bastore, 1) := by decide +kernel
theorem dX12_lays_173 : decode cX12_lays 173 = .ok (.aload_n 0, 1) := by decide +kernel
theorem dX12_lays_174 : decode cX12_lays 174 = .ok (.getfield 34, 3) := by decide +kernel
theorem dX12_lays_177 : decode cX12_lays 177 = .ok (.iload_n 1, 1) := by decide +kernel
theorem dX12_lays_178 : decode cX12_lays 178 = .ok (.aload_n 0, 1) := by decide +kernel
theorem dX12_lays_179 : decode cX12_lays 179 = .ok (.getfield 34, 3) := by decide +kernel
theorem dX12_lays_182 : decode cX12_lays 182 = .ok (.bipush 12, 2) := by decide +kernel
theorem dX12_lays_184 : decode cX12_lays 184 = .ok (.iload_n 1, 1) := by decide +kernel
theorem dX12_lays_185 : decode cX12_lays 185 = .ok (.iadd, 1) := by decide +kernel
theorem dX12_lays_186 : decode cX12_lays 186 = .ok (.iaload, 1) := by decide +kernel
theorem dX12_lays_187 : decode cX12_lays 187 = .ok (.iastore, 1) := by decide +kernel
theorem dX12_lays_188 : decode cX12_lays 188 = .ok (.aload_n 0, 1) := by decide +kernel
theorem dX12_lays_189 : decode cX12_lays 189 = .ok (.getfield 37, 3) := by decide +kernel
theorem dX12_lays_192 : decode cX12_lays 192 = .ok (.iload_n 1, 1) := by decide +kernel
theorem dX12_lays_193 : decode cX12_lays 193 = .ok (.aload_n 0, 1) := by decide +kernel
theorem dX12_lays_194 : decode cX12_lays 194 = .ok (.getfield 37, 3) := by decide +kernel
theorem dX12_lays_197 : decode cX12_lays 197 = .ok (.bipush 12, 2) := by decide +kernel
theorem dX12_lays_199 : decode cX12_lays 199 = .ok (.iload_n 1, 1) := by decide +kernel
theorem dX12_lays_200 : decode cX12_lays 200 = .ok (.iadd, 1) := by decide +kernel
theorem dX12_lays_201 : decode cX12_lays 201 = .ok (.iaload, 1) := by decide +kernel
theorem dX12_lays_202 : decode cX12_lays 202 = .ok (.iastore, 1) := by decide +kernel
theorem dX12_lays_203 : decode cX12_lays 203 = .ok (.aload_n 0, 1) := by decide +kernel
theorem dX12_lays_204 : decode cX12_lays 204 = .ok (.getfield 40, 3) := by decide +kernel
theorem dX12_lays_207 : decode cX12_lays 207 = .ok (.iload_n 1, 1) := by decide +kernel
theorem dX12_lays_208 : decode cX12_lays 208 = .ok (.aload_n 0, 1) := by decide +kernel
theorem dX12_lays_209 : decode cX12_lays 209 = .ok (.getfield 40, 3) := by decide +kernel
theorem dX12_lays_212 : decode cX12_lays 212 = .ok (.bipush 12, 2) := by decide +kernel
theorem dX12_lays_214 : decode cX12_lays 214 = .ok (.iload_n 1, 1) := by decide +kernel
theorem dX12_lays_215 : decode cX12_lays 215 = .ok (.iadd, 1) := by decide +kernel
theorem dX12_lays_216 : decode cX12_lays 216 = .ok (.iaload, 1) := by decide +kernel
theorem dX12_lays_217 : decode cX12_lays 217 = .ok (.iastore, 1) := by decide +kernel
theorem dX12_lays_218 : decode cX12_lays 218 = .ok (.aload_n 0, 1) := by decide +kernel
theorem dX12_lays_219 : decode cX12_lays 219 = .ok (.getfield 43, 3) := by decide +kernel
theorem dX12_lays_222 : decode cX12_lays 222 = .ok (.iload_n 1, 1) := by decide +kernel
theorem dX12_lays_223 : decode cX12_lays 223 = .ok (.iconst 0, 1) := by decide +kernel
theorem dX12_lays_224 : decode cX12_lays 224 = .ok (.iastore, 1) := by decide +kernel
theorem dX12_lays_225 : decode cX12_lays 225 = .ok (.iinc 1 1, 3) := by decide +kernel
theorem dX12_lays_228 : decode cX12_lays 228 = .ok (.goto (-106), 3) := by decide +kernel
theorem dX12_lays_231 : decode cX12_lays 231 = .ok (.iconst 0, 1) := by decide +kernel
theorem dX12_lays_232 : decode cX12_lays 232 = .ok (.istore_n 1, 1) := by decide +kernel
theorem dX12_lays_233 : decode cX12_lays 233 = .ok (.iload_n 1, 1) := by decide +kernel
theorem dX12_lays_234 : decode cX12_lays 234 = .ok (.bipush 64, 2) := by decide +kernel
theorem dX12_lays_236 : decode cX12_lays 236 = .ok (.if_icmp .ge 39, 3) := by decide +kernel
theorem dX12_lays_239 : decode cX12_lays 239 = .ok (.aload_n 0, 1) := by decide +kernel
theorem dX12_lays_240 : decode cX12_lays 240 = .ok (.getfield 46, 3) := by decide +kernel
theorem dX12_lays_243 : decode cX12_lays 243 = .ok (.iload_n 1, 1) := by decide +kernel
theorem dX12_lays_244 : decode cX12_lays 244 = .ok (.aload_n 0, 1) := by decide +kernel
theorem dX12_lays_245 : decode cX12_lays 245 = .ok (.getfield 46, 3) := by decide +kernel
theorem dX12_lays_248 : decode cX12_lays 248 = .ok (.bipush 64, 2) := by decide +kernel
theorem dX12_lays_250 : decode cX12_lays 250 = .ok (.iload_n 1, 1) := by decide +kernel
theorem dX12_lays_251 : decode cX12_lays 251 = .ok (.iadd, 1) := by decide +kernel
theorem dX12_lays_252 : decode cX12_lays 252 = .ok (.iaload, 1) := by decide +kernel
theorem dX12_lays_253 : decode cX12_lays 253 = .ok (.iastore, 1) := by decide +kernel
theorem dX12_lays_254 : decode cX12_lays 254 = .ok (.aload_n 0, 1) := by decide +kernel
theorem dX12_lays_255 : decode cX12_lays 255 = .ok (.getfield 49, 3) := by decide +kernel
theorem dX12_lays_258 : decode cX12_lays 258 = .ok (.iload_n 1, 1) := by decide +kernel
theorem dX12_lays_259 : decode cX12_lays 259 = .ok (.aload_n 0, 1) := by decide +kernel
theorem dX12_lays_260 : decode cX12_lays 260 = .ok (.getfield 49, 3) := by decide +kernel
theorem dX12_lays_263 : decode cX12_lays 263 = .ok (.bipush 64, 2) := by decide +kernel
theorem dX12_lays_265 : decode cX12_lays 265 = .ok (.iload_n 1, 1) := by decide +kernel
theorem dX12_lays_266 : decode cX12_lays 266 = .ok (.iadd, 1) := by decide +kernel
theorem dX12_lays_267 : decode cX12_lays 267 = .ok (.iaload, 1) := by decide +kernel
theorem dX12_lays_268 : decode cX12_lays 268 = .ok (.iastore, 1) := by decide +kernel
theorem dX12_lays_269 : decode cX12_lays 269 = .ok (.iinc 1 1, 3) := by decide +kernel
theorem dX12_lays_272 : decode cX12_lays 272 = .ok (.goto (-39), 3) := by decide +kernel
theorem dX12_lays_275 : decode cX12_lays 275 = .ok (.return_, 1) := by decide +kernel
theorem dX12_fault_0 : decode cX12_fault 0 = .ok (.aload_n 0, 1) := by decide +kernel
theorem dX12_fault_1 : decode cX12_fault 1 = .ok (.iconst 0, 1) := by decide +kernel
theorem dX12_fault_2 : decode cX12_fault 2 = .ok (.putfield 87, 3) := by decide +kernel
theorem dX12_fault_5 : decode cX12_fault 5 = .ok (.iload_n 1, 1) := by decide +kernel
theorem dX12_fault_6 : decode cX12_fault 6 = .ok (.ifCond .ne 10, 3) := by decide +kernel
theorem dX12_fault_9 : decode cX12_fault 9 = .ok (.aload_n 0, 1) := by decide +kernel
theorem dX12_fault_10 : decode cX12_fault 10 = .ok (.getfield 231, 3) := by decide +kernel
theorem dX12_fault_13 : decode cX12_fault 13 = .ok (.goto 16, 3) := by decide +kernel
theorem dX12_fault_16 : decode cX12_fault 16 = .ok (.iload_n 1, 1) := by decide +kernel
theorem dX12_fault_17 : decode cX12_fault 17 = .ok (.iconst 1, 1) := by decide +kernel
theorem dX12_fault_18 : decode cX12_fault 18 = .ok (.if_icmp .ne 10, 3) := by decide +kernel
theorem dX12_fault_21 : decode cX12_fault 21 = .ok (.aload_n 0, 1) := by decide +kernel
theorem dX12_fault_22 : decode cX12_fault 22 = .ok (.getfield 56, 3) := by decide +kernel
theorem dX12_fault_25 : decode cX12_fault 25 = .ok (.goto 4, 3) := by decide +kernel
theorem dX12_fault_28 : decode cX12_fault 28 = .ok (.iconst (-1), 1) := by decide +kernel
theorem dX12_fault_29 : decode cX12_fault 29 = .ok (.ireturn, 1) := by decide +kernel
theorem dX12_named_0 : decode cX12_named 0 = .ok (.aload_n 0, 1) := by decide +kernel
theorem dX12_named_1 : decode cX12_named 1 = .ok (.iconst 0, 1) := by decide +kernel
theorem dX12_named_2 : decode cX12_named 2 = .ok (.putfield 87, 3) := by decide +kernel
theorem dX12_named_5 : decode cX12_named 5 = .ok (.iload_n 1, 1) := by decide +kernel
theorem dX12_named_6 : decode cX12_named 6 = .ok (.ifCond .ne 19, 3) := by decide +kernel
theorem dX12_named_9 : decode cX12_named 9 = .ok (.aload_n 0, 1) := by decide +kernel
theorem dX12_named_10 : decode cX12_named 10 = .ok (.getfield 15, 3) := by decide +kernel
theorem dX12_named_13 : decode cX12_named 13 = .ok (.iconst 0, 1) := by decide +kernel
theorem dX12_named_14 : decode cX12_named 14 = .ok (.aload_n 0, 1) := by decide +kernel
theorem dX12_named_15 : decode cX12_named 15 = .ok (.getfield 237, 3) := by decide +kernel
theorem dX12_named_18 : decode cX12_named 18 = .ok (.iload_n 2, 1) := by decide +kernel
theorem dX12_named_19 : decode cX12_named 19 = .ok (.invokestatic 152, 3) := by decide +kernel
theorem dX12_named_22 : decode cX12_named 22 = .ok (.goto 25, 3) := by decide +kernel
theorem dX12_named_25 : decode cX12_named 25 = .ok (.iload_n 1, 1) := by decide +kernel
theorem dX12_named_26 : decode cX12_named 26 = .ok (.iconst 1, 1) := by decide +kernel
theorem dX12_named_27 : decode cX12_named 27 = .ok (.if_icmp .ne 19, 3) := by decide +kernel
theorem dX12_named_30 : decode cX12_named 30 = .ok (.aload_n 0, 1) := by decide +kernel
theorem dX12_named_31 : decode cX12_named 31 = .ok (.getfield 24, 3) := by decide +kernel
theorem dX12_named_34 : decode cX12_named 34 = .ok (.iconst 0, 1) := by decide +kernel
theorem dX12_named_35 : decode cX12_named 35 = .ok (.aload_n 0, 1) := by decide +kernel
theorem dX12_named_36 : decode cX12_named 36 = .ok (.getfield 240, 3) := by decide +kernel
theorem dX12_named_39 : decode cX12_named 39 = .ok (.iload_n 2, 1) := by decide +kernel
theorem dX12_named_40 : decode cX12_named 40 = .ok (.invokestatic 152, 3) := by decide +kernel
theorem dX12_named_43 : decode cX12_named 43 = .ok (.goto 4, 3) := by decide +kernel
theorem dX12_named_46 : decode cX12_named 46 = .ok (.iconst (-1), 1) := by decide +kernel
theorem dX12_named_47 : decode cX12_named 47 = .ok (.ireturn, 1) := by decide +kernel
theorem dX12_isPlace_0 : decode cX12_isPlace 0 = .ok (.iload_n 1, 1) := by decide +kernel
theorem dX12_isPlace_1 : decode cX12_isPlace 1 = .ok (.ifCond .lt 15, 3) := by decide +kernel
theorem dX12_isPlace_4 : decode cX12_isPlace 4 = .ok (.iload_n 1, 1) := by decide +kernel
theorem dX12_isPlace_5 : decode cX12_isPlace 5 = .ok (.aload_n 0, 1) := by decide +kernel
theorem dX12_isPlace_6 : decode cX12_isPlace 6 = .ok (.getfield 240, 3) := by decide +kernel
theorem dX12_isPlace_9 : decode cX12_isPlace 9 = .ok (.if_icmp .ge 7, 3) := by decide +kernel
theorem dX12_isPlace_12 : decode cX12_isPlace 12 = .ok (.iconst 1, 1) := by decide +kernel
theorem dX12_isPlace_13 : decode cX12_isPlace 13 = .ok (.goto 4, 3) := by decide +kernel
theorem dX12_isPlace_16 : decode cX12_isPlace 16 = .ok (.iconst 0, 1) := by decide +kernel
theorem dX12_isPlace_17 : decode cX12_isPlace 17 = .ok (.ireturn, 1) := by decide +kernel
theorem dX12_look_0 : decode cX12_look 0 = .ok (.aload_n 0, 1) := by decide +kernel
theorem dX12_look_1 : decode cX12_look 1 = .ok (.aload_n 0, 1) := by decide +kernel
theorem dX12_look_2 : decode cX12_look 2 = .ok (.iload_n 1, 1) := by decide +kernel
theorem dX12_look_3 : decode cX12_look 3 = .ok (.invokevirtual 252, 3) := by decide +kernel
theorem dX12_look_6 : decode cX12_look 6 = .ok (.ifCond .ne 7, 3) := by decide +kernel
theorem dX12_look_9 : decode cX12_look 9 = .ok (.iconst 1, 1) := by decide +kernel
theorem dX12_look_10 : decode cX12_look 10 = .ok (.goto 17, 3) := by decide +kernel
theorem dX12_look_13 : decode cX12_look 13 = .ok (.iload_n 2, 1) := by decide +kernel
theorem dX12_look_14 : decode cX12_look 14 = .ok (.ifCond .lt 8, 3) := by decide +kernel
theorem dX12_look_17 : decode cX12_look 17 = .ok (.iload_n 2, 1) := by decide +kernel
theorem dX12_look_18 : decode cX12_look 18 = .ok (.iconst 5, 1) := by decide +kernel
theorem dX12_look_19 : decode cX12_look 19 = .ok (.if_icmp .le 7, 3) := by decide +kernel
theorem dX12_look_22 : decode cX12_look 22 = .ok (.iconst 2, 1) := by decide +kernel
theorem dX12_look_23 : decode cX12_look 23 = .ok (.goto 4, 3) := by decide +kernel
theorem dX12_look_26 : decode cX12_look 26 = .ok (.iconst 0, 1) := by decide +kernel
theorem dX12_look_27 : decode cX12_look 27 = .ok (.putfield 87, 3) := by decide +kernel
theorem dX12_look_30 : decode cX12_look 30 = .ok (.aload_n 0, 1) := by decide +kernel
theorem dX12_look_31 : decode cX12_look 31 = .ok (.getfield 87, 3) := by decide +kernel
theorem dX12_look_34 : decode cX12_look 34 = .ok (.ifCond .eq 5, 3) := by decide +kernel
theorem dX12_look_37 : decode cX12_look 37 = .ok (.iconst 0, 1) := by decide +kernel
theorem dX12_look_38 : decode cX12_look 38 = .ok (.ireturn, 1) := by decide +kernel
theorem dX12_look_39 : decode cX12_look 39 = .ok (.iload_n 2, 1) := by decide +kernel
theorem dX12_look_40 : decode cX12_look 40 = .ok (.tableswitch 79 0 4 #[36, 43, 58, 65, 72], 36) := by decide +kernel
theorem dX12_look_76 : decode cX12_look 76 = .ok (.aload_n 0, 1) := by decide +kernel
theorem dX12_look_77 : decode cX12_look 77 = .ok (.getfield 27, 3) := by decide +kernel
theorem dX12_look_80 : decode cX12_look 80 = .ok (.iload_n 1, 1) := by decide +kernel
theorem dX12_look_81 : decode cX12_look 81 = .ok (.iaload, 1) := by decide +kernel
theorem dX12_look_82 : decode cX12_look 82 = .ok (.ireturn, 1) := by decide +kernel
theorem dX12_look_83 : decode cX12_look 83 = .ok (.aload_n 0, 1) := by decide +kernel
theorem dX12_look_84 : decode cX12_look 84 = .ok (.getfield 30, 3) := by decide +kernel
theorem dX12_look_87 : decode cX12_look 87 = .ok (.iload_n 1, 1) := by decide +kernel
theorem dX12_look_88 : decode cX12_look 88 = .ok (.baload, 1) := by decide +kernel
theorem dX12_look_89 : decode cX12_look 89 = .ok (.ifCond .eq 7, 3) := by decide +kernel
theorem dX12_look_92 : decode cX12_look 92 = .ok (.iconst 1, 1) := by decide +kernel
theorem dX12_look_93 : decode cX12_look 93 = .ok (.goto 4, 3) := by decide +kernel
theorem dX12_look_96 : decode cX12_look 96 = .ok (.iconst 0, 1) := by decide +kernel
theorem dX12_look_97 : decode cX12_look 97 = .ok (.ireturn, 1) := by decide +kernel
theorem dX12_look_98 : decode cX12_look 98 = .ok (.aload_n 0, 1) := by decide +kernel
theorem dX12_look_99 : decode cX12_look 99 = .ok (.getfield 34, 3) := by decide +kernel
theorem dX12_look_102 : decode cX12_look 102 = .ok (.iload_n 1, 1) := by decide +kernel
theorem dX12_look_103 : decode cX12_look 103 = .ok (.iaload, 1) := by decide +kernel
theorem dX12_look_104 : decode cX12_look 104 = .ok (.ireturn, 1) := by decide +kernel
theorem dX12_look_105 : decode cX12_look 105 = .ok (.aload_n 0, 1) := by decide +kernel
theorem dX12_look_106 : decode cX12_look 106 = .ok (.getfield 37, 3) := by decide +kernel
theorem dX12_look_109 : decode cX12_look 109 = .ok (.iload_n 1, 1) := by decide +kernel
theorem dX12_look_110 : decode cX12_look 110 = .ok (.iaload, 1) := by decide +kernel
theorem dX12_look_111 : decode cX12_look 111 = .ok (.ireturn, 1) := by decide +kernel
theorem dX12_look_112 : decode cX12_look 112 = .ok (.aload_n 0, 1) := by decide +kernel
theorem dX12_look_113 : decode cX12_look 113 = .ok (.getfield 40, 3) := by decide +kernel
theorem dX12_look_116 : decode cX12_look 116 = .ok (.iload_n 1, 1) := by decide +kernel
theorem dX12_look_117 : decode cX12_look 117 = .ok (.iaload, 1) := by decide +kernel
theorem dX12_look_118 : decode cX12_look 118 = .ok (.ireturn, 1) := by decide +kernel
theorem dX12_look_119 : decode cX12_look 119 = .ok (.aload_n 0, 1) := by decide +kernel
theorem dX12_look_120 : decode cX12_look 120 = .ok (.getfield 43, 3) := by decide +kernel
theorem dX12_look_123 : decode cX12_look 123 = .ok (.iload_n 1, 1) := by decide +kernel
theorem dX12_look_124 : decode cX12_look 124 = .ok (.iaload, 1) := by decide +kernel
theorem dX12_look_125 : decode cX12_look 125 = .ok (.ireturn, 1) := by decide +kernel
theorem dX12_note_0 : decode cX12_note 0 = .ok (.aload_n 0, 1) := by decide +kernel
theorem dX12_note_1 : decode cX12_note 1 = .ok (.iconst 0, 1) := by decide +kernel
theorem dX12_note_2 : decode cX12_note 2 = .ok (.putfield 87, 3) := by decide +kernel
theorem dX12_note_5 : decode cX12_note 5 = .ok (.aload_n 0, 1) := by decide +kernel
theorem dX12_note_6 : decode cX12_note 6 = .ok (.iload_n 1, 1) := by decide +kernel
theorem dX12_note_7 : decode cX12_note 7 = .ok (.invokevirtual 252, 3) := by decide +kernel
theorem dX12_note_10 : decode cX12_note 10 = .ok (.ifCond .eq 33, 3) := by decide +kernel
theorem dX12_note_13 : decode cX12_note 13 = .ok (.iload_n 2, 1) := by decide +kernel
theorem dX12_note_14 : decode cX12_note 14 = .ok (.ifCond .lt 29, 3) := by decide +kernel
theorem dX12_note_17 : decode cX12_note 17 = .ok (.iload_n 2, 1) := by decide +kernel
theorem dX12_note_18 : decode cX12_note 18 = .ok (.bipush 9, 2) := by decide +kernel
theorem dX12_note_20 : decode cX12_note 20 = .ok (.if_icmp .ge 23, 3) := by decide +kernel
theorem dX12_note_23 : decode cX12_note 23 = .ok (.iload_n 3, 1) := by decide +kernel
theorem dX12_note_24 : decode cX12_note 24 = .ok (.ifCond .lt 19, 3) := by decide +kernel
theorem dX12_note_27 : decode cX12_note 27 = .ok (.iload_n 3, 1) := by decide +kernel
theorem dX12_note_28 : decode cX12_note 28 = .ok (.bipush 9, 2) := by decide +kernel
theorem dX12_note_30 : decode cX12_note 30 = .ok (.if_icmp .gt 13, 3) := by decide +kernel
theorem dX12_note_33 : decode cX12_note 33 = .ok (.aload_n 0, 1) := by decide +kernel
theorem dX12_note_34 : decode cX12_note 34 = .ok (.getfield 249, 3) := by decide +kernel
theorem dX12_note_37 : decode cX12_note 37 = .ok (.sipush 150, 3) := by decide +kernel
theorem dX12_note_40 : decode cX12_note 40 = .ok (.if_icmp .ne 5, 3) := by decide +kernel
theorem dX12_note_43 : decode cX12_note 43 = .ok (.iconst (-1), 1) := by decide +kernel
theorem dX12_note_44 : decode cX12_note 44 = .ok (.ireturn, 1) := by decide +kernel
theorem dX12_note_45 : decode cX12_note 45 = .ok (.aload_n 0, 1) := by decide +kernel
theorem dX12_note_46 : decode cX12_note 46 = .ok (.getfield 62, 3) := by decide +kernel
theorem dX12_note_49 : decode cX12_note 49 = .ok (.aload_n 0, 1) := by decide +kernel
theorem dX12_note_50 : decode cX12_note 50 = .ok (.getfield 249, 3) := by decide +kernel
theorem dX12_note_53 : decode cX12_note 53 = .ok (.iload_n 1, 1) := by decide +kernel
theorem dX12_note_54 : decode cX12_note 54 = .ok (.iastore, 1) := by decide +kernel
theorem dX12_note_55 : decode cX12_note 55 = .ok (.aload_n 0, 1) := by decide +kernel
theorem dX12_note_56 : decode cX12_note 56 = .ok (.getfield 65, 3) := by decide +kernel
theorem dX12_note_59 : decode cX12_note 59 = .ok (.aload_n 0, 1) := by decide +kernel
theorem dX12_note_60 : decode cX12_note 60 = .ok (.getfield 249, 3) := by decide +kernel
theorem dX12_note_63 : decode cX12_note 63 = .ok (.iload_n 2, 1) := by decide +kernel
theorem dX12_note_64 : decode cX12_note 64 = .ok (.iastore, 1) := by decide +kernel
theorem dX12_note_65 : decode cX12_note 65 = .ok (.aload_n 0, 1) := by decide +kernel
theorem dX12_note_66 : decode cX12_note 66 = .ok (.getfield 68, 3) := by decide +kernel
theorem dX12_note_69 : decode cX12_note 69 = .ok (.aload_n 0, 1) := by decide +kernel
theorem dX12_note_70 : decode cX12_note 70 = .ok (.getfield 249, 3) := by decide +kernel
theorem dX12_note_73 : decode cX12_note 73 = .ok (.iload_n 3, 1) := by decide +kernel
theorem dX12_note_74 : decode cX12_note 74 = .ok (.iastore, 1) := by decide +kernel
theorem dX12_note_75 : decode cX12_note 75 = .ok (.aload_n 0, 1) := by decide +kernel
theorem dX12_note_76 : decode cX12_note 76 = .ok (.dup, 1) := by decide +kernel
theorem dX12_note_77 : decode cX12_note 77 = .ok (.getfield 249, 3) := by decide +kernel
theorem dX12_note_80 : decode cX12_note 80 = .ok (.iconst 1, 1) := by decide +kernel
theorem dX12_note_81 : decode cX12_note 81 = .ok (.iadd, 1) := by decide +kernel
theorem dX12_note_82 : decode cX12_note 82 = .ok (.putfield 249, 3) := by decide +kernel
theorem dX12_note_85 : decode cX12_note 85 = .ok (.aload_n 0, 1) := by decide +kernel
theorem dX12_note_86 : decode cX12_note 86 = .ok (.getfield 249, 3) := by decide +kernel
theorem dX12_note_89 : decode cX12_note 89 = .ok (.iconst 1, 1) := by decide +kernel
theorem dX12_note_90 : decode cX12_note 90 = .ok (.isub, 1) := by decide +kernel
theorem dX12_note_91 : decode cX12_note 91 = .ok (.ireturn, 1) := by decide +kernel
theorem dX12_strike_0 : decode cX12_strike 0 = .ok (.aload_n 0, 1) := by decide +kernel
theorem dX12_strike_1 : decode cX12_strike 1 = .ok (.iconst 0, 1) := by decide +kernel
theorem dX12_strike_2 : decode cX12_strike 2 = .ok (.putfield 87, 3) := by decide +kernel
theorem dX12_strike_5 : decode cX12_strike 5 = .ok (.iload_n 1, 1) := by decide +kernel
theorem dX12_strike_6 : decode cX12_strike 6 = .ok (.ifCond .lt 21, 3) := by decide +kernel
theorem dX12_strike_9 : decode cX12_strike 9 = .ok (.iload_n 1, 1) := by decide +kernel
theorem dX12_strike_10 : decode cX12_strike 10 = .ok (.aload_n 0, 1) := by decide +kernel
theorem dX12_strike_11 : decode cX12_strike 11 = .ok (.getfield 249, 3) := by decide +kernel
theorem dX12_strike_14 : decode cX12_strike 14 = .ok (.if_icmp .ge 13, 3) := by decide +kernel
theorem dX12_strike_17 : decode cX12_strike 17 = .ok (.aload_n 0, 1) := by decide +kernel
theorem dX12_strike_18 : decode cX12_strike 18 = .ok (.getfield 249, 3) := by decide +kernel
theorem dX12_strike_21 : decode cX12_strike 21 = .ok (.sipush 150, 3) := by decide +kernel
theorem dX12_strike_24 : decode cX12_strike 24 = .ok (.if_icmp .ne 5, 3) := by decide +kernel
theorem dX12_strike_27 : decode cX12_strike 27 = .ok (.iconst (-1), 1) := by decide +kernel
theorem dX12_strike_28 : decode cX12_strike 28 = .ok (.ireturn, 1) := by decide +kernel
theorem dX12_strike_29 : decode cX12_strike 29 = .ok (.aload_n 0, 1) := by decide +kernel
theorem dX12_strike_30 : decode cX12_strike 30 = .ok (.getfield 62, 3) := by decide +kernel
theorem dX12_strike_33 : decode cX12_strike 33 = .ok (.aload_n 0, 1) := by decide +kernel
theorem dX12_strike_34 : decode cX12_strike 34 = .ok (.getfield 249, 3) := by decide +kernel
theorem dX12_strike_37 : decode cX12_strike 37 = .ok (.iconst (-1), 1) := by decide +kernel
theorem dX12_strike_38 : decode cX12_strike 38 = .ok (.iastore, 1) := by decide +kernel
theorem dX12_strike_39 : decode cX12_strike 39 = .ok (.aload_n 0, 1) := by decide +kernel
theorem dX12_strike_40 : decode cX12_strike 40 = .ok (.getfield 68, 3) := by decide +kernel
theorem dX12_strike_43 : decode cX12_strike 43 = .ok (.aload_n 0, 1) := by decide +kernel
theorem dX12_strike_44 : decode cX12_strike 44 = .ok (.getfield 249, 3) := by decide +kernel
theorem dX12_strike_47 : decode cX12_strike 47 = .ok (.iload_n 1, 1) := by decide +kernel
theorem dX12_strike_48 : decode cX12_strike 48 = .ok (.iastore, 1) := by decide +kernel
theorem dX12_strike_49 : decode cX12_strike 49 = .ok (.aload_n 0, 1) := by decide +kernel
theorem dX12_strike_50 : decode cX12_strike 50 = .ok (.dup, 1) := by decide +kernel
theorem dX12_strike_51 : decode cX12_strike 51 = .ok (.getfield 249, 3) := by decide +kernel
theorem dX12_strike_54 : decode cX12_strike 54 = .ok (.iconst 1, 1) := by decide +kernel
theorem dX12_strike_55 : decode cX12_strike 55 = .ok (.iadd, 1) := by decide +kernel
theorem dX12_strike_56 : decode cX12_strike 56 = .ok (.putfield 249, 3) := by decide +kernel
theorem dX12_strike_59 : decode cX12_strike 59 = .ok (.aload_n 0, 1) := by decide +kernel
theorem dX12_strike_60 : decode cX12_strike 60 = .ok (.getfield 249, 3) := by decide +kernel
theorem dX12_strike_63 : decode cX12_strike 63 = .ok (.iconst 1, 1) := by decide +kernel
theorem dX12_strike_64 : decode cX12_strike 64 = .ok (.isub, 1) := by decide +kernel
theorem dX12_strike_65 : decode cX12_strike 65 = .ok (.ireturn, 1) := by decide +kernel
theorem dX12_known_0 : decode cX12_known 0 = .ok (.aload_n 0, 1) := by decide +kernel
theorem dX12_known_1 : decode cX12_known 1 = .ok (.iconst 0, 1) := by decide +kernel
theorem dX12_known_2 : decode cX12_known 2 = .ok (.putfield 87, 3) := by decide +kernel
theorem dX12_known_5 : decode cX12_known 5 = .ok (.iload_n 1, 1) := by decide +kernel
theorem dX12_known_6 : decode cX12_known 6 = .ok (.iconst (-1), 1) := by decide +kernel
theorem dX12_known_7 : decode cX12_known 7 = .ok (.if_icmp .lt 11, 3) := by decide +kernel
theorem dX12_known_10 : decode cX12_known 10 = .ok (.iload_n 1, 1) := by decide +kernel
theorem dX12_known_11 : decode cX12_known 11 = .ok (.aload_n 0, 1) := by decide +kernel
theorem dX12_known_12 : decode cX12_known 12 = .ok (.getfield 249, 3) := by decide +kernel
theorem dX12_known_15 : decode cX12_known 15 = .ok (.if_icmp .le 5, 3) := by decide +kernel
theorem dX12_known_18 : decode cX12_known 18 = .ok (.iconst 0, 1) := by decide +kernel
theorem dX12_known_19 : decode cX12_known 19 = .ok (.ireturn, 1) := by decide +kernel
theorem dX12_known_20 : decode cX12_known 20 = .ok (.aload_n 0, 1) := by decide +kernel
theorem dX12_known_21 : decode cX12_known 21 = .ok (.iload_n 1, 1) := by decide +kernel
theorem dX12_known_22 : decode cX12_known 22 = .ok (.putfield 59, 3) := by decide +kernel
theorem dX12_known_25 : decode cX12_known 25 = .ok (.iconst 1, 1) := by decide +kernel
theorem dX12_known_26 : decode cX12_known 26 = .ok (.ireturn, 1) := by decide +kernel
theorem dX12_knows_0 : decode cX12_knows 0 = .ok (.aload_n 0, 1) := by decide +kernel
theorem dX12_knows_1 : decode cX12_knows 1 = .ok (.getfield 59, 3) := by decide +kernel
theorem dX12_knows_4 : decode cX12_knows 4 = .ok (.iconst (-1), 1) := by decide +kernel
theorem dX12_knows_5 : decode cX12_knows 5 = .ok (.if_icmp .ne 10, 3) := by decide +kernel
theorem dX12_knows_8 : decode cX12_knows 8 = .ok (.aload_n 0, 1) := by decide +kernel
theorem dX12_knows_9 : decode cX12_knows 9 = .ok (.getfield 249, 3) := by decide +kernel
theorem dX12_knows_12 : decode cX12_knows 12 = .ok (.goto 7, 3) := by decide +kernel
theorem dX12_knows_15 : decode cX12_knows 15 = .ok (.aload_n 0, 1) := by decide +kernel
theorem dX12_knows_16 : decode cX12_knows 16 = .ok (.getfield 59, 3) := by decide +kernel
theorem dX12_knows_19 : decode cX12_knows 19 = .ok (.istore_n 1, 1) := by decide +kernel
theorem dX12_knows_20 : decode cX12_knows 20 = .ok (.iconst 0, 1) := by decide +kernel
theorem dX12_knows_21 : decode cX12_knows 21 = .ok (.istore_n 2, 1) := by decide +kernel
theorem dX12_knows_22 : decode cX12_knows 22 = .ok (.iload_n 2, 1) := by decide +kernel
theorem dX12_knows_23 : decode cX12_knows 23 = .ok (.aload_n 0, 1) := by decide +kernel
theorem dX12_knows_24 : decode cX12_knows 24 = .ok (.getfield 74, 3) := by decide +kernel
theorem dX12_knows_27 : decode cX12_knows 27 = .ok (.arraylength, 1) := by decide +kernel
theorem dX12_knows_28 : decode cX12_knows 28 = .ok (.if_icmp .ge 16, 3) := by decide +kernel
theorem dX12_knows_31 : decode cX12_knows 31 = .ok (.aload_n 0, 1) := by decide +kernel
theorem dX12_knows_32 : decode cX12_knows 32 = .ok (.getfield 74, 3) := by decide +kernel
theorem dX12_knows_35 : decode cX12_knows 35 = .ok (.iload_n 2, 1) := by decide +kernel
theorem dX12_knows_36 : decode cX12_knows 36 = .ok (.iconst (-1), 1) := by decide +kernel
theorem dX12_knows_37 : decode cX12_knows 37 = .ok (.iastore, 1) := by decide +kernel
theorem dX12_knows_38 : decode cX12_knows 38 = .ok (.iinc 2 1, 3) := by decide +kernel
theorem dX12_knows_41 : decode cX12_knows 41 = .ok (.goto (-19), 3) := by decide +kernel
theorem dX12_knows_44 : decode cX12_knows 44 = .ok (.iconst 0, 1) := by decide +kernel
theorem dX12_knows_45 : decode cX12_knows 45 = .ok (.istore_n 2, 1) := by decide +kernel
theorem dX12_knows_46 : decode cX12_knows 46 = .ok (.iload_n 2, 1) := by decide +kernel
theorem dX12_knows_47 : decode cX12_knows 47 = .ok (.iload_n 1, 1) := by decide +kernel
theorem dX12_knows_48 : decode cX12_knows 48 = .ok (.if_icmp .ge 16, 3) := by decide +kernel
theorem dX12_knows_51 : decode cX12_knows 51 = .ok (.aload_n 0, 1) := by decide +kernel
theorem dX12_knows_52 : decode cX12_knows 52 = .ok (.getfield 71, 3) := by decide +kernel
theorem dX12_knows_55 : decode cX12_knows 55 = .ok (.iload_n 2, 1) := by decide +kernel
theorem dX12_knows_56 : decode cX12_knows 56 = .ok (.iconst 0, 1) := by decide +kernel
theorem dX12_knows_57 : decode cX12_knows 57 = .ok (.bastore, 1) := by decide +kernel
theorem dX12_knows_58 : decode cX12_knows 58 = .ok (.iinc 2 1, 3) := by decide +kernel
theorem dX12_knows_61 : decode cX12_knows 61 = .ok (.goto (-15), 3) := by decide +kernel
theorem dX12_knows_64 : decode cX12_knows 64 = .ok (.iload_n 1, 1) := by decide +kernel
theorem dX12_knows_65 : decode cX12_knows 65 = .ok (.iconst 1, 1) := by decide +kernel
theorem dX12_knows_66 : decode cX12_knows 66 = .ok (.isub, 1) := by decide +kernel
theorem dX12_knows_67 : decode cX12_knows 67 = .ok (.istore_n 2, 1) := by decide +kernel
theorem dX12_knows_68 : decode cX12_knows 68 = .ok (.iload_n 2, 1) := by decide +kernel
theorem dX12_knows_69 : decode cX12_knows 69 = .ok (.ifCond .lt 40, 3) := by decide +kernel
theorem dX12_knows_72 : decode cX12_knows 72 = .ok (.aload_n 0, 1) := by decide +kernel
theorem dX12_knows_73 : decode cX12_knows 73 = .ok (.getfield 71, 3) := by decide +kernel
theorem dX12_knows_76 : decode cX12_knows 76 = .ok (.iload_n 2, 1) := by decide +kernel
theorem dX12_knows_77 : decode cX12_knows 77 = .ok (.baload, 1) := by decide +kernel
theorem dX12_knows_78 : decode cX12_knows 78 = .ok (.ifCond .ne 25, 3) := by decide +kernel
theorem dX12_knows_81 : decode cX12_knows 81 = .ok (.aload_n 0, 1) := by decide +kernel
theorem dX12_knows_82 : decode cX12_knows 82 = .ok (.getfield 62, 3) := by decide +kernel
theorem dX12_knows_85 : decode cX12_knows 85 = .ok (.iload_n 2, 1) := by decide +kernel
theorem dX12_knows_86 : decode cX12_knows 86 = .ok (.iaload, 1) := by decide +kernel
theorem dX12_knows_87 : decode cX12_knows 87 = .ok (.iconst (-1), 1) := by decide +kernel
theorem dX12_knows_88 : decode cX12_knows 88 = .ok (.if_icmp .ne 15, 3) := by decide +kernel
theorem dX12_knows_91 : decode cX12_knows 91 = .ok (.aload_n 0, 1) := by decide +kernel
theorem dX12_knows_92 : decode cX12_knows 92 = .ok (.getfield 71, 3) := by decide +kernel
theorem dX12_knows_95 : decode cX12_knows 95 = .ok (.aload_n 0, 1) := by decide +kernel
theorem dX12_knows_96 : decode cX12_knows 96 = .ok (.getfield 68, 3) := by decide +kernel
theorem dX12_knows_99 : decode cX12_knows 99 = .ok (.iload_n 2, 1) := by decide +kernel
theorem dX12_knows_100 : decode cX12_knows 100 = .ok (.iaload, 1) := by decide +kernel
theorem dX12_knows_101 : decode cX12_knows 101 = .ok (.iconst 1, 1) := by decide +kernel
theorem dX12_knows_102 : decode cX12_knows 102 = .ok (.bastore, 1) := by decide +kernel
theorem dX12_knows_103 : decode cX12_knows 103 = .ok (.iinc 2 (-1), 3) := by decide +kernel
theorem dX12_knows_106 : decode cX12_knows 106 = .ok (.goto (-38), 3) := by decide +kernel
theorem dX12_knows_109 : decode cX12_knows 109 = .ok (.iconst 0, 1) := by decide +kernel
theorem dX12_knows_110 : decode cX12_knows 110 = .ok (.istore_n 2, 1) := by decide +kernel
theorem dX12_knows_111 : decode cX12_knows 111 = .ok (.iload_n 2, 1) := by decide +kernel
theorem dX12_knows_112 : decode cX12_knows 112 = .ok (.iload_n 1, 1) := by decide +kernel
theorem dX12_knows_113 : decode cX12_knows 113 = .ok (.if_icmp .ge 55, 3) := by decide +kernel
theorem dX12_knows_116 : decode cX12_knows 116 = .ok (.aload_n 0, 1) := by decide +kernel
