theorem dX0_init_0 : decode cX0_init 0 = .ok (.aload_n 0, 1) := by decide +kernel
theorem dX0_init_1 : decode cX0_init 1 = .ok (.invokespecial 3, 3) := by decide +kernel
theorem dX0_init_4 : decode cX0_init 4 = .ok (.aload_n 0, 1) := by decide +kernel
theorem dX0_init_5 : decode cX0_init 5 = .ok (.new 9, 3) := by decide +kernel
theorem dX0_init_8 : decode cX0_init 8 = .ok (.dup, 1) := by decide +kernel
theorem dX0_init_9 : decode cX0_init 9 = .ok (.invokespecial 11, 3) := by decide +kernel
theorem dX0_init_12 : decode cX0_init 12 = .ok (.putfield 12, 3) := by decide +kernel
theorem dX0_init_15 : decode cX0_init 15 = .ok (.aload_n 0, 1) := by decide +kernel
theorem dX0_init_16 : decode cX0_init 16 = .ok (.iconst 0, 1) := by decide +kernel
theorem dX0_init_17 : decode cX0_init 17 = .ok (.putfield 18, 3) := by decide +kernel
theorem dX0_init_20 : decode cX0_init 20 = .ok (.aload_n 0, 1) := by decide +kernel
theorem dX0_init_21 : decode cX0_init 21 = .ok (.iconst 0, 1) := by decide +kernel
theorem dX0_init_22 : decode cX0_init 22 = .ok (.putfield 22, 3) := by decide +kernel
theorem dX0_init_25 : decode cX0_init 25 = .ok (.aload_n 0, 1) := by decide +kernel
theorem dX0_init_26 : decode cX0_init 26 = .ok (.iconst 0, 1) := by decide +kernel
theorem dX0_init_27 : decode cX0_init 27 = .ok (.putfield 25, 3) := by decide +kernel
theorem dX0_init_30 : decode cX0_init 30 = .ok (.aload_n 0, 1) := by decide +kernel
theorem dX0_init_31 : decode cX0_init 31 = .ok (.iconst 0, 1) := by decide +kernel
theorem dX0_init_32 : decode cX0_init 32 = .ok (.putfield 28, 3) := by decide +kernel
theorem dX0_init_35 : decode cX0_init 35 = .ok (.aload_n 0, 1) := by decide +kernel
theorem dX0_init_36 : decode cX0_init 36 = .ok (.iconst 0, 1) := by decide +kernel
theorem dX0_init_37 : decode cX0_init 37 = .ok (.putfield 31, 3) := by decide +kernel
theorem dX0_init_40 : decode cX0_init 40 = .ok (.aload_n 0, 1) := by decide +kernel
theorem dX0_init_41 : decode cX0_init 41 = .ok (.iconst 0, 1) := by decide +kernel
theorem dX0_init_42 : decode cX0_init 42 = .ok (.putfield 34, 3) := by decide +kernel
theorem dX0_init_45 : decode cX0_init 45 = .ok (.aload_n 0, 1) := by decide +kernel
theorem dX0_init_46 : decode cX0_init 46 = .ok (.iconst 0, 1) := by decide +kernel
theorem dX0_init_47 : decode cX0_init 47 = .ok (.putfield 37, 3) := by decide +kernel
theorem dX0_init_50 : decode cX0_init 50 = .ok (.aload_n 0, 1) := by decide +kernel
theorem dX0_init_51 : decode cX0_init 51 = .ok (.iconst 0, 1) := by decide +kernel
theorem dX0_init_52 : decode cX0_init 52 = .ok (.putfield 40, 3) := by decide +kernel
theorem dX0_init_55 : decode cX0_init 55 = .ok (.aload_n 0, 1) := by decide +kernel
theorem dX0_init_56 : decode cX0_init 56 = .ok (.iconst 0, 1) := by decide +kernel
theorem dX0_init_57 : decode cX0_init 57 = .ok (.putfield 43, 3) := by decide +kernel
theorem dX0_init_60 : decode cX0_init 60 = .ok (.aload_n 0, 1) := by decide +kernel
theorem dX0_init_61 : decode cX0_init 61 = .ok (.iconst 0, 1) := by decide +kernel
theorem dX0_init_62 : decode cX0_init 62 = .ok (.putfield 46, 3) := by decide +kernel
theorem dX0_init_65 : decode cX0_init 65 = .ok (.aload_n 0, 1) := by decide +kernel
theorem dX0_init_66 : decode cX0_init 66 = .ok (.iconst 0, 1) := by decide +kernel
theorem dX0_init_67 : decode cX0_init 67 = .ok (.putfield 49, 3) := by decide +kernel
theorem dX0_init_70 : decode cX0_init 70 = .ok (.aload_n 0, 1) := by decide +kernel
theorem dX0_init_71 : decode cX0_init 71 = .ok (.iconst 0, 1) := by decide +kernel
theorem dX0_init_72 : decode cX0_init 72 = .ok (.putfield 52, 3) := by decide +kernel
theorem dX0_init_75 : decode cX0_init 75 = .ok (.return_, 1) := by decide +kernel
theorem dX0_part_0 : decode cX0_part 0 = .ok (.aload_n 1, 1) := by decide +kernel
theorem dX0_part_1 : decode cX0_part 1 = .ok (.iload_n 2, 1) := by decide +kernel
theorem dX0_part_2 : decode cX0_part 2 = .ok (.invokevirtual 55, 3) := by decide +kernel
theorem dX0_part_5 : decode cX0_part 5 = .ok (.ifCond .eq 12, 3) := by decide +kernel
theorem dX0_part_8 : decode cX0_part 8 = .ok (.aload_n 1, 1) := by decide +kernel
theorem dX0_part_9 : decode cX0_part 9 = .ok (.getfield 61, 3) := by decide +kernel
theorem dX0_part_12 : decode cX0_part 12 = .ok (.iload_n 2, 1) := by decide +kernel
theorem dX0_part_13 : decode cX0_part 13 = .ok (.iaload, 1) := by decide +kernel
theorem dX0_part_14 : decode cX0_part 14 = .ok (.goto 4, 3) := by decide +kernel
theorem dX0_part_17 : decode cX0_part 17 = .ok (.iconst 0, 1) := by decide +kernel
theorem dX0_part_18 : decode cX0_part 18 = .ok (.istore_n 3, 1) := by decide +kernel
theorem dX0_part_19 : decode cX0_part 19 = .ok (.iload_n 3, 1) := by decide +kernel
theorem dX0_part_20 : decode cX0_part 20 = .ok (.iconst 3, 1) := by decide +kernel
theorem dX0_part_21 : decode cX0_part 21 = .ok (.bipush 6, 2) := by decide +kernel
theorem dX0_part_23 : decode cX0_part 23 = .ok (.invokestatic 65, 3) := by decide +kernel
theorem dX0_part_26 : decode cX0_part 26 = .ok (.ifCond .ne 5, 3) := by decide +kernel
theorem dX0_part_29 : decode cX0_part 29 = .ok (.iconst 0, 1) := by decide +kernel
theorem dX0_part_30 : decode cX0_part 30 = .ok (.ireturn, 1) := by decide +kernel
theorem dX0_part_31 : decode cX0_part 31 = .ok (.aload_n 0, 1) := by decide +kernel
theorem dX0_part_32 : decode cX0_part 32 = .ok (.aload_n 1, 1) := by decide +kernel
theorem dX0_part_33 : decode cX0_part 33 = .ok (.iload_n 3, 1) := by decide +kernel
theorem dX0_part_34 : decode cX0_part 34 = .ok (.invokevirtual 69, 3) := by decide +kernel
theorem dX0_part_37 : decode cX0_part 37 = .ok (.aload_n 0, 1) := by decide +kernel
theorem dX0_part_38 : decode cX0_part 38 = .ok (.aload_n 0, 1) := by decide +kernel
theorem dX0_part_39 : decode cX0_part 39 = .ok (.aload_n 1, 1) := by decide +kernel
theorem dX0_part_40 : decode cX0_part 40 = .ok (.iload_n 2, 1) := by decide +kernel
theorem dX0_part_41 : decode cX0_part 41 = .ok (.iconst 1, 1) := by decide +kernel
theorem dX0_part_42 : decode cX0_part 42 = .ok (.iadd, 1) := by decide +kernel
theorem dX0_part_43 : decode cX0_part 43 = .ok (.iload_n 3, 1) := by decide +kernel
theorem dX0_part_44 : decode cX0_part 44 = .ok (.invokevirtual 73, 3) := by decide +kernel
theorem dX0_part_47 : decode cX0_part 47 = .ok (.putfield 46, 3) := by decide +kernel
theorem dX0_part_50 : decode cX0_part 50 = .ok (.aload_n 0, 1) := by decide +kernel
theorem dX0_part_51 : decode cX0_part 51 = .ok (.aload_n 1, 1) := by decide +kernel
theorem dX0_part_52 : decode cX0_part 52 = .ok (.getfield 77, 3) := by decide +kernel
theorem dX0_part_55 : decode cX0_part 55 = .ok (.iload_n 2, 1) := by decide +kernel
theorem dX0_part_56 : decode cX0_part 56 = .ok (.iload_n 3, 1) := by decide +kernel
theorem dX0_part_57 : decode cX0_part 57 = .ok (.invokevirtual 81, 3) := by decide +kernel
theorem dX0_part_60 : decode cX0_part 60 = .ok (.ifCond .ne 5, 3) := by decide +kernel
theorem dX0_part_63 : decode cX0_part 63 = .ok (.iconst 0, 1) := by decide +kernel
theorem dX0_part_64 : decode cX0_part 64 = .ok (.ireturn, 1) := by decide +kernel
theorem dX0_part_65 : decode cX0_part 65 = .ok (.aload_n 0, 1) := by decide +kernel
theorem dX0_part_66 : decode cX0_part 66 = .ok (.getfield 12, 3) := by decide +kernel
theorem dX0_part_69 : decode cX0_part 69 = .ok (.aload_n 1, 1) := by decide +kernel
theorem dX0_part_70 : decode cX0_part 70 = .ok (.iload_n 2, 1) := by decide +kernel
theorem dX0_part_71 : decode cX0_part 71 = .ok (.iload_n 3, 1) := by decide +kernel
theorem dX0_part_72 : decode cX0_part 72 = .ok (.iconst 3, 1) := by decide +kernel
theorem dX0_part_73 : decode cX0_part 73 = .ok (.isub, 1) := by decide +kernel
theorem dX0_part_74 : decode cX0_part 74 = .ok (.iload_n 3, 1) := by decide +kernel
theorem dX0_part_75 : decode cX0_part 75 = .ok (.iconst 1, 1) := by decide +kernel
theorem dX0_part_76 : decode cX0_part 76 = .ok (.isub, 1) := by decide +kernel
theorem dX0_part_77 : decode cX0_part 77 = .ok (.invokevirtual 85, 3) := by decide +kernel
theorem dX0_part_80 : decode cX0_part 80 = .ok (.aload_n 0, 1) := by decide +kernel
theorem dX0_part_81 : decode cX0_part 81 = .ok (.aload_n 0, 1) := by decide +kernel
theorem dX0_part_82 : decode cX0_part 82 = .ok (.getfield 12, 3) := by decide +kernel
theorem dX0_part_85 : decode cX0_part 85 = .ok (.sipush 3000, 3) := by decide +kernel
theorem dX0_part_88 : decode cX0_part 88 = .ok (.sipush 1000, 3) := by decide +kernel
theorem dX0_part_91 : decode cX0_part 91 = .ok (.aload_n 0, 1) := by decide +kernel
theorem dX0_part_92 : decode cX0_part 92 = .ok (.getfield 25, 3) := by decide +kernel
theorem dX0_part_95 : decode cX0_part 95 = .ok (.imul, 1) := by decide +kernel
theorem dX0_part_96 : decode cX0_part 96 = .ok (.invokevirtual 89, 3) := by decide +kernel
theorem dX0_part_99 : decode cX0_part 99 = .ok (.putfield 31, 3) := by decide +kernel
theorem dX0_part_102 : decode cX0_part 102 = .ok (.aload_n 0, 1) := by decide +kernel
theorem dX0_part_103 : decode cX0_part 103 = .ok (.sipush 1000, 3) := by decide +kernel
theorem dX0_part_106 : decode cX0_part 106 = .ok (.aload_n 0, 1) := by decide +kernel
theorem dX0_part_107 : decode cX0_part 107 = .ok (.getfield 25, 3) := by decide +kernel
theorem dX0_part_110 : decode cX0_part 110 = .ok (.imul, 1) := by decide +kernel
theorem dX0_part_111 : decode cX0_part 111 = .ok (.aload_n 0, 1) := by decide +kernel
theorem dX0_part_112 : decode cX0_part 112 = .ok (.getfield 31, 3) := by decide +kernel
theorem dX0_part_115 : decode cX0_part 115 = .ok (.isub, 1) := by decide +kernel
theorem dX0_part_116 : decode cX0_part 116 = .ok (.putfield 34, 3) := by decide +kernel
theorem dX0_part_119 : decode cX0_part 119 = .ok (.aload_n 0, 1) := by decide +kernel
theorem dX0_part_120 : decode cX0_part 120 = .ok (.aload_n 0, 1) := by decide +kernel
theorem dX0_part_121 : decode cX0_part 121 = .ok (.getfield 31, 3) := by decide +kernel
theorem dX0_part_124 : decode cX0_part 124 = .ok (.aload_n 0, 1) := by decide +kernel
theorem dX0_part_125 : decode cX0_part 125 = .ok (.aload_n 0, 1) := by decide +kernel
theorem dX0_part_126 : decode cX0_part 126 = .ok (.getfield 31, 3) := by decide +kernel
theorem dX0_part_129 : decode cX0_part 129 = .ok (.invokevirtual 93, 3) := by decide +kernel
theorem dX0_part_132 : decode cX0_part 132 = .ok (.isub, 1) := by decide +kernel
theorem dX0_part_133 : decode cX0_part 133 = .ok (.putfield 37, 3) := by decide +kernel
theorem dX0_part_136 : decode cX0_part 136 = .ok (.aload_n 1, 1) := by decide +kernel
theorem dX0_part_137 : decode cX0_part 137 = .ok (.getfield 97, 3) := by decide +kernel
theorem dX0_part_140 : decode cX0_part 140 = .ok (.iload_n 2, 1) := by decide +kernel
theorem dX0_part_141 : decode cX0_part 141 = .ok (.iaload, 1) := by decide +kernel
theorem dX0_part_142 : decode cX0_part 142 = .ok (.iload_n 3, 1) := by decide +kernel
theorem dX0_part_143 : decode cX0_part 143 = .ok (.iload_n 3, 1) := by decide +kernel
theorem dX0_part_144 : decode cX0_part 144 = .ok (.iconst 2, 1) := by decide +kernel
theorem dX0_part_145 : decode cX0_part 145 = .ok (.iadd, 1) := by decide +kernel
theorem dX0_part_146 : decode cX0_part 146 = .ok (.invokestatic 65, 3) := by decide +kernel
theorem dX0_part_149 : decode cX0_part 149 = .ok (.istore 4, 2) := by decide +kernel
theorem dX0_part_151 : decode cX0_part 151 = .ok (.aload_n 0, 1) := by decide +kernel
theorem dX0_part_152 : decode cX0_part 152 = .ok (.iload 4, 2) := by decide +kernel
theorem dX0_part_154 : decode cX0_part 154 = .ok (.ifCond .eq 25, 3) := by decide +kernel
theorem dX0_part_157 : decode cX0_part 157 = .ok (.aload_n 0, 1) := by decide +kernel
theorem dX0_part_158 : decode cX0_part 158 = .ok (.getfield 31, 3) := by decide +kernel
theorem dX0_part_161 : decode cX0_part 161 = .ok (.aload_n 0, 1) := by decide +kernel
theorem dX0_part_162 : decode cX0_part 162 = .ok (.getfield 37, 3) := by decide +kernel
theorem dX0_part_165 : decode cX0_part 165 = .ok (.isub, 1) := by decide +kernel
theorem dX0_part_166 : decode cX0_part 166 = .ok (.aload_n 1, 1) := by decide +kernel
theorem dX0_part_167 : decode cX0_part 167 = .ok (.getfield 100, 3) := by decide +kernel
theorem dX0_part_170 : decode cX0_part 170 = .ok (.iload_n 2, 1) := by decide +kernel
theorem dX0_part_171 : decode cX0_part 171 = .ok (.iaload, 1) := by decide +kernel
theorem dX0_part_172 : decode cX0_part 172 = .ok (.imul, 1) := by decide +kernel
theorem dX0_part_173 : decode cX0_part 173 = .ok (.bipush 10, 2) := by decide +kernel
theorem dX0_part_175 : decode cX0_part 175 = .ok (.idiv, 1) := by decide +kernel
theorem dX0_part_176 : decode cX0_part 176 = .ok (.goto 4, 3) := by decide +kernel
theorem dX0_part_179 : decode cX0_part 179 = .ok (.iconst 0, 1) := by decide +kernel
theorem dX0_part_180 : decode cX0_part 180 = .ok (.putfield 40, 3) := by decide +kernel
theorem dX0_part_183 : decode cX0_part 183 = .ok (.aload_n 0, 1) := by decide +kernel
theorem dX0_part_184 : decode cX0_part 184 = .ok (.sipush 1000, 3) := by decide +kernel
theorem dX0_part_187 : decode cX0_part 187 = .ok (.aload_n 0, 1) := by decide +kernel
theorem dX0_part_188 : decode cX0_part 188 = .ok (.getfield 25, 3) := by decide +kernel
theorem dX0_part_191 : decode cX0_part 191 = .ok (.aload_n 0, 1) := by decide +kernel
theorem dX0_part_192 : decode cX0_part 192 = .ok (.getfield 28, 3) := by decide +kernel
theorem dX0_part_195 : decode cX0_part 195 = .ok (.isub, 1) := by decide +kernel
theorem dX0_part_196 : decode cX0_part 196 = .ok (.imul, 1) := by decide +kernel
theorem dX0_part_197 : decode cX0_part 197 = .ok (.aload_n 0, 1) := by decide +kernel
theorem dX0_part_198 : decode cX0_part 198 = .ok (.getfield 34, 3) := by decide +kernel
theorem dX0_part_201 : decode cX0_part 201 = .ok (.isub, 1) := by decide +kernel
theorem dX0_part_202 : decode cX0_part 202 = .ok (.aload_n 0, 1) := by decide +kernel
theorem dX0_part_203 : decode cX0_part 203 = .ok (.getfield 37, 3) := by decide +kernel
theorem dX0_part_206 : decode cX0_part 206 = .ok (.isub, 1) := by decide +kernel
theorem dX0_part_207 : decode cX0_part 207 = .ok (.aload_n 0, 1) := by decide +kernel
theorem dX0_part_208 : decode cX0_part 208 = .ok (.getfield 40, 3) := by decide +kernel
theorem dX0_part_211 : decode cX0_part 211 = .ok (.isub, 1) := by decide +kernel
theorem dX0_part_212 : decode cX0_part 212 = .ok (.putfield 43, 3) := by decide +kernel
theorem dX0_part_215 : decode cX0_part 215 = .ok (.iconst 1, 1) := by decide +kernel
theorem dX0_part_216 : decode cX0_part 216 = .ok (.ireturn, 1) := by decide +kernel
theorem dX0_seekDealt_0 : decode cX0_seekDealt 0 = .ok (.aload_n 0, 1) := by decide +kernel
theorem dX0_seekDealt_1 : decode cX0_seekDealt 1 = .ok (.iconst 0, 1) := by decide +kernel
theorem dX0_seekDealt_2 : decode cX0_seekDealt 2 = .ok (.putfield 49, 3) := by decide +kernel
theorem dX0_seekDealt_5 : decode cX0_seekDealt 5 = .ok (.aload_n 0, 1) := by decide +kernel
theorem dX0_seekDealt_6 : decode cX0_seekDealt 6 = .ok (.iconst 0, 1) := by decide +kernel
theorem dX0_seekDealt_7 : decode cX0_seekDealt 7 = .ok (.putfield 52, 3) := by decide +kernel
theorem dX0_seekDealt_10 : decode cX0_seekDealt 10 = .ok (.iconst 0, 1) := by decide +kernel
theorem dX0_seekDealt_11 : decode cX0_seekDealt 11 = .ok (.istore 4, 2) := by decide +kernel
theorem dX0_seekDealt_13 : decode cX0_seekDealt 13 = .ok (.iconst 0, 1) := by decide +kernel
theorem dX0_seekDealt_14 : decode cX0_seekDealt 14 = .ok (.istore 5, 2) := by decide +kernel
theorem dX0_seekDealt_16 : decode cX0_seekDealt 16 = .ok (.iconst 0, 1) := by decide +kernel
theorem dX0_seekDealt_17 : decode cX0_seekDealt 17 = .ok (.istore 6, 2) := by decide +kernel
theorem dX0_seekDealt_19 : decode cX0_seekDealt 19 = .ok (.iload 6, 2) := by decide +kernel
theorem dX0_seekDealt_21 : decode cX0_seekDealt 21 = .ok (.bipush 12, 2) := by decide +kernel
theorem dX0_seekDealt_23 : decode cX0_seekDealt 23 = .ok (.if_icmp .ge 142, 3) := by decide +kernel
theorem dX0_seekDealt_26 : decode cX0_seekDealt 26 = .ok (.aload_n 1, 1) := by decide +kernel
theorem dX0_seekDealt_27 : decode cX0_seekDealt 27 = .ok (.iload 6, 2) := by decide +kernel
theorem dX0_seekDealt_29 : decode cX0_seekDealt 29 = .ok (.invokevirtual 55, 3) := by decide +kernel
theorem dX0_seekDealt_32 : decode cX0_seekDealt 32 = .ok (.ifCond .eq 133, 3) := by decide +kernel
theorem dX0_seekDealt_35 : decode cX0_seekDealt 35 = .ok (.aload_n 1, 1) := by decide +kernel
theorem dX0_seekDealt_36 : decode cX0_seekDealt 36 = .ok (.getfield 103, 3) := by decide +kernel
theorem dX0_seekDealt_39 : decode cX0_seekDealt 39 = .ok (.iload 6, 2) := by decide +kernel
theorem dX0_seekDealt_41 : decode cX0_seekDealt 41 = .ok (.baload, 1) := by decide +kernel
theorem dX0_seekDealt_42 : decode cX0_seekDealt 42 = .ok (.ifCond .eq 18, 3) := by decide +kernel
theorem dX0_seekDealt_45 : decode cX0_seekDealt 45 = .ok (.aload_n 1, 1) := by decide +kernel
theorem dX0_seekDealt_46 : decode cX0_seekDealt 46 = .ok (.getfield 107, 3) := by decide +kernel
theorem dX0_seekDealt_49 : decode cX0_seekDealt 49 = .ok (.iload 6, 2) := by decide +kernel
theorem dX0_seekDealt_51 : decode cX0_seekDealt 51 = .ok (.iaload, 1) := by decide +kernel
theorem dX0_seekDealt_52 : decode cX0_seekDealt 52 = .ok (.iload_n 2, 1) := by decide +kernel
theorem dX0_seekDealt_53 : decode cX0_seekDealt 53 = .ok (.if_icmp .ne 7, 3) := by decide +kernel
theorem dX0_seekDealt_56 : decode cX0_seekDealt 56 = .ok (.iconst 1, 1) := by decide +kernel
theorem dX0_seekDealt_57 : decode cX0_seekDealt 57 = .ok (.goto 4, 3) := by decide +kernel
theorem dX0_seekDealt_60 : decode cX0_seekDealt 60 = .ok (.iconst 0, 1) := by decide +kernel
theorem dX0_seekDealt_61 : decode cX0_seekDealt 61 = .ok (.istore 7, 2) := by decide +kernel
theorem dX0_seekDealt_63 : decode cX0_seekDealt 63 = .ok (.iload 7, 2) := by decide +kernel
theorem dX0_seekDealt_65 : decode cX0_seekDealt 65 = .ok (.ifCond .eq 94, 3) := by decide +kernel
theorem dX0_seekDealt_68 : decode cX0_seekDealt 68 = .ok (.aload_n 0, 1) := by decide +kernel
theorem dX0_seekDealt_69 : decode cX0_seekDealt 69 = .ok (.aload_n 1, 1) := by decide +kernel
theorem dX0_seekDealt_70 : decode cX0_seekDealt 70 = .ok (.getfield 77, 3) := by decide +kernel
theorem dX0_seekDealt_73 : decode cX0_seekDealt 73 = .ok (.iload 6, 2) := by decide +kernel
theorem dX0_seekDealt_75 : decode cX0_seekDealt 75 = .ok (.iload_n 3, 1) := by decide +kernel
theorem dX0_seekDealt_76 : decode cX0_seekDealt 76 = .ok (.invokevirtual 81, 3) := by decide +kernel
theorem dX0_seekDealt_79 : decode cX0_seekDealt 79 = .ok (.ifCond .ne 6, 3) := by decide +kernel
theorem dX0_seekDealt_82 : decode cX0_seekDealt 82 = .ok (.goto 77, 3) := by decide +kernel
theorem dX0_seekDealt_85 : decode cX0_seekDealt 85 = .ok (.aload_n 1, 1) := by decide +kernel
theorem dX0_seekDealt_86 : decode cX0_seekDealt 86 = .ok (.getfield 61, 3) := by decide +kernel
theorem dX0_seekDealt_89 : decode cX0_seekDealt 89 = .ok (.iload 6, 2) := by decide +kernel
theorem dX0_seekDealt_91 : decode cX0_seekDealt 91 = .ok (.iaload, 1) := by decide +kernel
theorem dX0_seekDealt_92 : decode cX0_seekDealt 92 = .ok (.iload_n 3, 1) := by decide +kernel
theorem dX0_seekDealt_93 : decode cX0_seekDealt 93 = .ok (.if_icmp .ne 30, 3) := by decide +kernel
theorem dX0_seekDealt_96 : decode cX0_seekDealt 96 = .ok (.aload_n 0, 1) := by decide +kernel
theorem dX0_seekDealt_97 : decode cX0_seekDealt 97 = .ok (.dup, 1) := by decide +kernel
theorem dX0_seekDealt_98 : decode cX0_seekDealt 98 = .ok (.getfield 49, 3) := by decide +kernel
theorem dX0_seekDealt_101 : decode cX0_seekDealt 101 = .ok (.iconst 1, 1) := by decide +kernel
theorem dX0_seekDealt_102 : decode cX0_seekDealt 102 = .ok (.iadd, 1) := by decide +kernel
theorem dX0_seekDealt_103 : decode cX0_seekDealt 103 = .ok (.putfield 49, 3) := by decide +kernel
theorem dX0_seekDealt_106 : decode cX0_seekDealt 106 = .ok (.iload 4, 2) := by decide +kernel
theorem dX0_seekDealt_108 : decode cX0_seekDealt 108 = .ok (.aload_n 0, 1) := by decide +kernel
theorem dX0_seekDealt_109 : decode cX0_seekDealt 109 = .ok (.getfield 25, 3) := by decide +kernel
theorem dX0_seekDealt_112 : decode cX0_seekDealt 112 = .ok (.aload_n 0, 1) := by decide +kernel
theorem dX0_seekDealt_113 : decode cX0_seekDealt 113 = .ok (.getfield 28, 3) := by decide +kernel
theorem dX0_seekDealt_116 : decode cX0_seekDealt 116 = .ok (.isub, 1) := by decide +kernel
theorem dX0_seekDealt_117 : decode cX0_seekDealt 117 = .ok (.iadd, 1) := by decide +kernel
theorem dX0_seekDealt_118 : decode cX0_seekDealt 118 = .ok (.istore 4, 2) := by decide +kernel
theorem dX0_seekDealt_120 : decode cX0_seekDealt 120 = .ok (.goto 39, 3) := by decide +kernel
theorem dX0_seekDealt_123 : decode cX0_seekDealt 123 = .ok (.aload_n 1, 1) := by decide +kernel
theorem dX0_seekDealt_124 : decode cX0_seekDealt 124 = .ok (.iload 6, 2) := by decide +kernel
theorem dX0_seekDealt_126 : decode cX0_seekDealt 126 = .ok (.iload_n 3, 1) := by decide +kernel
theorem dX0_seekDealt_127 : decode cX0_seekDealt 127 = .ok (.iconst 2, 1) := by decide +kernel
theorem dX0_seekDealt_128 : decode cX0_seekDealt 128 = .ok (.iadd, 1) := by decide +kernel
theorem dX0_seekDealt_129 : decode cX0_seekDealt 129 = .ok (.invokevirtual 110, 3) := by decide +kernel
theorem dX0_seekDealt_132 : decode cX0_seekDealt 132 = .ok (.ifCond .eq 27, 3) := by decide +kernel
theorem dX0_seekDealt_135 : decode cX0_seekDealt 135 = .ok (.aload_n 0, 1) := by decide +kernel
theorem dX0_seekDealt_136 : decode cX0_seekDealt 136 = .ok (.dup, 1) := by decide +kernel
theorem dX0_seekDealt_137 : decode cX0_seekDealt 137 = .ok (.getfield 52, 3) := by decide +kernel
theorem dX0_seekDealt_140 : decode cX0_seekDealt 140 = .ok (.iconst 1, 1) := by decide +kernel
theorem dX0_seekDealt_141 : decode cX0_seekDealt 141 = .ok (.iadd, 1) := by decide +kernel
theorem dX0_seekDealt_142 : decode cX0_seekDealt 142 = .ok (.putfield 52, 3) := by decide +kernel
theorem dX0_seekDealt_145 : decode cX0_seekDealt 145 = .ok (.iload 5, 2) := by decide +kernel
theorem dX0_seekDealt_147 : decode cX0_seekDealt 147 = .ok (.aload_n 0, 1) := by decide +kernel
theorem dX0_seekDealt_148 : decode cX0_seekDealt 148 = .ok (.getfield 25, 3) := by decide +kernel
theorem dX0_seekDealt_151 : decode cX0_seekDealt 151 = .ok (.aload_n 0, 1) := by decide +kernel
theorem dX0_seekDealt_152 : decode cX0_seekDealt 152 = .ok (.getfield 28, 3) := by decide +kernel
theorem dX0_seekDealt_155 : decode cX0_seekDealt 155 = .ok (.isub, 1) := by decide +kernel
theorem dX0_seekDealt_156 : decode cX0_seekDealt 156 = .ok (.iadd, 1) := by decide +kernel
theorem dX0_seekDealt_157 : decode cX0_seekDealt 157 = .ok (.istore 5, 2) := by decide +kernel
theorem dX0_seekDealt_159 : decode cX0_seekDealt 159 = .ok (.iinc 6 1, 3) := by decide +kernel
theorem dX0_seekDealt_162 : decode cX0_seekDealt 162 = .ok (.goto (-143), 3) := by decide +kernel
theorem dX0_seekDealt_165 : decode cX0_seekDealt 165 = .ok (.aload_n 0, 1) := by decide +kernel
theorem dX0_seekDealt_166 : decode cX0_seekDealt 166 = .ok (.getfield 12, 3) := by decide +kernel
theorem dX0_seekDealt_169 : decode cX0_seekDealt 169 = .ok (.iload 4, 2) := by decide +kernel
theorem dX0_seekDealt_171 : decode cX0_seekDealt 171 = .ok (.aload_n 0, 1) := by decide +kernel
theorem dX0_seekDealt_172 : decode cX0_seekDealt 172 = .ok (.getfield 52, 3) := by decide +kernel
theorem dX0_seekDealt_175 : decode cX0_seekDealt 175 = .ok (.imul, 1) := by decide +kernel
theorem dX0_seekDealt_176 : decode cX0_seekDealt 176 = .ok (.iload 5, 2) := by decide +kernel
theorem dX0_seekDealt_178 : decode cX0_seekDealt 178 = .ok (.aload_n 0, 1) := by decide +kernel
theorem dX0_seekDealt_179 : decode cX0_seekDealt 179 = .ok (.getfield 49, 3) := by decide +kernel
theorem dX0_seekDealt_182 : decode cX0_seekDealt 182 = .ok (.imul, 1) := by decide +kernel
theorem dX0_seekDealt_183 : decode cX0_seekDealt 183 = .ok (.isub, 1) := by decide +kernel
theorem dX0_seekDealt_184 : decode cX0_seekDealt 184 = .ok (.i2l, 1) := by decide +kernel
theorem dX0_seekDealt_185 : decode cX0_seekDealt 185 = .ok (.aload_n 0, 1) := by decide +kernel
theorem dX0_seekDealt_186 : decode cX0_seekDealt 186 = .ok (.getfield 49, 3) := by decide +kernel
theorem dX0_seekDealt_189 : decode cX0_seekDealt 189 = .ok (.aload_n 0, 1) := by decide +kernel
theorem dX0_seekDealt_190 : decode cX0_seekDealt 190 = .ok (.getfield 52, 3) := by decide +kernel
theorem dX0_seekDealt_193 : decode cX0_seekDealt 193 = .ok (.imul, 1) := by decide +kernel
theorem dX0_seekDealt_194 : decode cX0_seekDealt 194 = .ok (.i2l, 1) := by decide +kernel
theorem dX0_seekDealt_195 : decode cX0_seekDealt 195 = .ok (.invokevirtual 114, 3) := by decide +kernel
theorem dX0_seekDealt_198 : decode cX0_seekDealt 198 = .ok (.return_, 1) := by decide +kernel
theorem dX0_seekChosen_0 : decode cX0_seekChosen 0 = .ok (.iconst 0, 1) := by decide +kernel
theorem dX0_seekChosen_1 : decode cX0_seekChosen 1 = .ok (.istore_n 3, 1) := by decide +kernel
theorem dX0_seekChosen_2 : decode cX0_seekChosen 2 = .ok (.iconst 0, 1) := by decide +kernel
theorem dX0_seekChosen_3 : decode cX0_seekChosen 3 = .ok (.istore 4, 2) := by decide +kernel
theorem dX0_seekChosen_5 : decode cX0_seekChosen 5 = .ok (.iconst 0, 1) := by decide +kernel
theorem dX0_seekChosen_6 : decode cX0_seekChosen 6 = .ok (.istore 5, 2) := by decide +kernel
theorem dX0_seekChosen_8 : decode cX0_seekChosen 8 = .ok (.iload 5, 2) := by decide +kernel
theorem dX0_seekChosen_10 : decode cX0_seekChosen 10 = .ok (.bipush 12, 2) := by decide +kernel
theorem dX0_seekChosen_12 : decode cX0_seekChosen 12 = .ok (.if_icmp .ge 82, 3) := by decide +kernel
theorem dX0_seekChosen_15 : decode cX0_seekChosen 15 = .ok (.aload_n 1, 1) := by decide +kernel
theorem dX0_seekChosen_16 : decode cX0_seekChosen 16 = .ok (.iload 5, 2) := by decide +kernel
theorem dX0_seekChosen_18 : decode cX0_seekChosen 18 = .ok (.invokevirtual 55, 3) := by decide +kernel
theorem dX0_seekChosen_21 : decode cX0_seekChosen 21 = .ok (.ifCond .eq 73, 3) := by decide +kernel
theorem dX0_seekChosen_24 : decode cX0_seekChosen 24 = .ok (.aload_n 1, 1) := by decide +kernel
theorem dX0_seekChosen_25 : decode cX0_seekChosen 25 = .ok (.getfield 103, 3) := by decide +kernel
theorem dX0_seekChosen_28 : decode cX0_seekChosen 28 = .ok (.iload 5, 2) := by decide +kernel
theorem dX0_seekChosen_30 : decode cX0_seekChosen 30 = .ok (.baload, 1) := by decide +kernel
theorem dX0_seekChosen_31 : decode cX0_seekChosen 31 = .ok (.ifCond .ne 18, 3) := by decide +kernel
theorem dX0_seekChosen_34 : decode cX0_seekChosen 34 = .ok (.aload_n 1, 1) := by decide +kernel
theorem dX0_seekChosen_35 : decode cX0_seekChosen 35 = .ok (.getfield 61, 3) := by decide +kernel
theorem dX0_seekChosen_38 : decode cX0_seekChosen 38 = .ok (.iload 5, 2) := by decide +kernel
theorem dX0_seekChosen_40 : decode cX0_seekChosen 40 = .ok (.iaload, 1) := by decide +kernel
theorem dX0_seekChosen_41 : decode cX0_seekChosen 41 = .ok (.iload_n 2, 1) := by decide +kernel
theorem dX0_seekChosen_42 : decode cX0_seekChosen 42 = .ok (.if_icmp .ne 7, 3) := by decide +kernel
theorem dX0_seekChosen_45 : decode cX0_seekChosen 45 = .ok (.iconst 1, 1) := by decide +kernel
theorem dX0_seekChosen_46 : decode cX0_seekChosen 46 = .ok (.goto 4, 3) := by decide +kernel
theorem dX0_seekChosen_49 : decode cX0_seekChosen 49 = .ok (.iconst 0, 1) := by decide +kernel
theorem dX0_seekChosen_50 : decode cX0_seekChosen 50 = .ok (.istore 6, 2) := by decide +kernel
theorem dX0_seekChosen_52 : decode cX0_seekChosen 52 = .ok (.iload 6, 2) := by decide +kernel
theorem dX0_seekChosen_54 : decode cX0_seekChosen 54 = .ok (.ifCond .eq 34, 3) := by decide +kernel
theorem dX0_seekChosen_57 : decode cX0_seekChosen 57 = .ok (.aload_n 0, 1) := by decide +kernel
theorem dX0_seekChosen_58 : decode cX0_seekChosen 58 = .ok (.aload_n 1, 1) := by decide +kernel
theorem dX0_seekChosen_59 : decode cX0_seekChosen 59 = .ok (.getfield 77, 3) := by decide +kernel
theorem dX0_seekChosen_62 : decode cX0_seekChosen 62 = .ok (.iload 5, 2) := by decide +kernel
theorem dX0_seekChosen_64 : decode cX0_seekChosen 64 = .ok (.iload_n 2, 1) := by decide +kernel
theorem dX0_seekChosen_65 : decode cX0_seekChosen 65 = .ok (.invokevirtual 81, 3) := by decide +kernel
theorem dX0_seekChosen_68 : decode cX0_seekChosen 68 = .ok (.ifCond .eq 20, 3) := by decide +kernel
theorem dX0_seekChosen_71 : decode cX0_seekChosen 71 = .ok (.iinc 3 1, 3) := by decide +kernel
theorem dX0_seekChosen_74 : decode cX0_seekChosen 74 = .ok (.iload 4, 2) := by decide +kernel
theorem dX0_seekChosen_76 : decode cX0_seekChosen 76 = .ok (.aload_n 0, 1) := by decide +kernel
theorem dX0_seekChosen_77 : decode cX0_seekChosen 77 = .ok (.getfield 25, 3) := by decide +kernel
theorem dX0_seekChosen_80 : decode cX0_seekChosen 80 = .ok (.aload_n 0, 1) := by decide +kernel
theorem dX0_seekChosen_81 : decode cX0_seekChosen 81 = .ok (.getfield 28, 3) := by decide +kernel
theorem dX0_seekChosen_84 : decode cX0_seekChosen 84 = .ok (.isub, 1) := by decide +kernel
theorem dX0_seekChosen_85 : decode cX0_seekChosen 85 = .ok (.iadd, 1) := by decide +kernel
theorem dX0_seekChosen_86 : decode cX0_seekChosen 86 = .ok (.istore 4, 2) := by decide +kernel
theorem dX0_seekChosen_88 : decode cX0_seekChosen 88 = .ok (.iinc 5 1, 3) := by decide +kernel
theorem dX0_seekChosen_91 : decode cX0_seekChosen 91 = .ok (.goto (-83), 3) := by decide +kernel
theorem dX0_seekChosen_94 : decode cX0_seekChosen 94 = .ok (.aload_n 0, 1) := by decide +kernel
theorem dX0_seekChosen_95 : decode cX0_seekChosen 95 = .ok (.getfield 12, 3) := by decide +kernel
theorem dX0_seekChosen_98 : decode cX0_seekChosen 98 = .ok (.iload 4, 2) := by decide +kernel
theorem dX0_seekChosen_100 : decode cX0_seekChosen 100 = .ok (.i2l, 1) := by decide +kernel
theorem dX0_seekChosen_101 : decode cX0_seekChosen 101 = .ok (.iload_n 3, 1) := by decide +kernel
theorem dX0_seekChosen_102 : decode cX0_seekChosen 102 = .ok (.i2l, 1) := by decide +kernel
theorem dX0_seekChosen_103 : decode cX0_seekChosen 103 = .ok (.invokevirtual 114, 3) := by decide +kernel
theorem dX0_seekChosen_106 : decode cX0_seekChosen 106 = .ok (.return_, 1) := by decide +kernel
theorem dX0_seekSums_0 : decode cX0_seekSums 0 = .ok (.aload_n 0, 1) := by decide +kernel
theorem dX0_seekSums_1 : decode cX0_seekSums 1 = .ok (.aload_n 1, 1) := by decide +kernel
theorem dX0_seekSums_2 : decode cX0_seekSums 2 = .ok (.iload_n 2, 1) := by decide +kernel
theorem dX0_seekSums_3 : decode cX0_seekSums 3 = .ok (.iload_n 3, 1) := by decide +kernel
theorem dX0_seekSums_4 : decode cX0_seekSums 4 = .ok (.iconst 3, 1) := by decide +kernel
theorem dX0_seekSums_5 : decode cX0_seekSums 5 = .ok (.isub, 1) := by decide +kernel
theorem dX0_seekSums_6 : decode cX0_seekSums 6 = .ok (.iconst 3, 1) := by decide +kernel
theorem dX0_seekSums_7 : decode cX0_seekSums 7 = .ok (.invokevirtual 118, 3) := by decide +kernel
theorem dX0_seekSums_10 : decode cX0_seekSums 10 = .ok (.putfield 25, 3) := by decide +kernel
theorem dX0_seekSums_13 : decode cX0_seekSums 13 = .ok (.aload_n 0, 1) := by decide +kernel
theorem dX0_seekSums_14 : decode cX0_seekSums 14 = .ok (.aload_n 1, 1) := by decide +kernel
theorem dX0_seekSums_15 : decode cX0_seekSums 15 = .ok (.iload_n 2, 1) := by decide +kernel
theorem dX0_seekSums_16 : decode cX0_seekSums 16 = .ok (.iload_n 3, 1) := by decide +kernel
theorem dX0_seekSums_17 : decode cX0_seekSums 17 = .ok (.iconst 3, 1) := by decide +kernel
theorem dX0_seekSums_18 : decode cX0_seekSums 18 = .ok (.invokevirtual 118, 3) := by decide +kernel
theorem dX0_seekSums_21 : decode cX0_seekSums 21 = .ok (.putfield 28, 3) := by decide +kernel
theorem dX0_seekSums_24 : decode cX0_seekSums 24 = .ok (.aload_n 0, 1) := by decide +kernel
theorem dX0_seekSums_25 : decode cX0_seekSums 25 = .ok (.getfield 25, 3) := by decide +kernel
theorem dX0_seekSums_28 : decode cX0_seekSums 28 = .ok (.iconst (-1), 1) := by decide +kernel
theorem dX0_seekSums_29 : decode cX0_seekSums 29 = .ok (.if_icmp .eq 15, 3) := by decide +kernel
theorem dX0_seekSums_32 : decode cX0_seekSums 32 = .ok (.aload_n 0, 1) := by decide +kernel
theorem dX0_seekSums_33 : decode cX0_seekSums 33 = .ok (.getfield 28, 3) := by decide +kernel
theorem dX0_seekSums_36 : decode cX0_seekSums 36 = .ok (.iconst (-1), 1) := by decide +kernel
theorem dX0_seekSums_37 : decode cX0_seekSums 37 = .ok (.if_icmp .eq 7, 3) := by decide +kernel
theorem dX0_seekSums_40 : decode cX0_seekSums 40 = .ok (.iconst 1, 1) := by decide +kernel
theorem dX0_seekSums_41 : decode cX0_seekSums 41 = .ok (.goto 4, 3) := by decide +kernel
theorem dX0_seekSums_44 : decode cX0_seekSums 44 = .ok (.iconst 0, 1) := by decide +kernel
theorem dX0_seekSums_45 : decode cX0_seekSums 45 = .ok (.ireturn, 1) := by decide +kernel
theorem dX0_seekLand_0 : decode cX0_seekLand 0 = .ok (.aload_n 0, 1) := by decide +kernel
theorem dX0_seekLand_1 : decode cX0_seekLand 1 = .ok (.iconst 0, 1) := by decide +kernel
theorem dX0_seekLand_2 : decode cX0_seekLand 2 = .ok (.putfield 18, 3) := by decide +kernel
theorem dX0_seekLand_5 : decode cX0_seekLand 5 = .ok (.aload_n 0, 1) := by decide +kernel
theorem dX0_seekLand_6 : decode cX0_seekLand 6 = .ok (.iconst 0, 1) := by decide +kernel
theorem dX0_seekLand_7 : decode cX0_seekLand 7 = .ok (.putfield 22, 3) := by decide +kernel
theorem dX0_seekLand_10 : decode cX0_seekLand 10 = .ok (.iconst 0, 1) := by decide +kernel
theorem dX0_seekLand_11 : decode cX0_seekLand 11 = .ok (.istore_n 3, 1) := by decide +kernel
theorem dX0_seekLand_12 : decode cX0_seekLand 12 = .ok (.iload_n 3, 1) := by decide +kernel
theorem dX0_seekLand_13 : decode cX0_seekLand 13 = .ok (.bipush 12, 2) := by decide +kernel
theorem dX0_seekLand_15 : decode cX0_seekLand 15 = .ok (.if_icmp .ge 65, 3) := by decide +kernel
theorem dX0_seekLand_18 : decode cX0_seekLand 18 = .ok (.aload_n 1, 1) := by decide +kernel
theorem dX0_seekLand_19 : decode cX0_seekLand 19 = .ok (.iload_n 3, 1) := by decide +kernel
theorem dX0_seekLand_20 : decode cX0_seekLand 20 = .ok (.invokevirtual 55, 3) := by decide +kernel
theorem dX0_seekLand_23 : decode cX0_seekLand 23 = .ok (.ifCond .eq 57, 3) := by decide +kernel
theorem dX0_seekLand_26 : decode cX0_seekLand 26 = .ok (.aload_n 1, 1) := by decide +kernel
theorem dX0_seekLand_27 : decode cX0_seekLand 27 = .ok (.getfield 61, 3) := by decide +kernel
theorem dX0_seekLand_30 : decode cX0_seekLand 30 = .ok (.iload_n 3, 1) := by decide +kernel
theorem dX0_seekLand_31 : decode cX0_seekLand 31 = .ok (.iaload, 1) := by decide +kernel
theorem dX0_seekLand_32 : decode cX0_seekLand 32 = .ok (.ifCond .ne 42, 3) := by decide +kernel
theorem dX0_seekLand_35 : decode cX0_seekLand 35 = .ok (.aload_n 0, 1) := by decide +kernel
theorem dX0_seekLand_36 : decode cX0_seekLand 36 = .ok (.aload_n 1, 1) := by decide +kernel
theorem dX0_seekLand_37 : decode cX0_seekLand 37 = .ok (.getfield 77, 3) := by decide +kernel
theorem dX0_seekLand_40 : decode cX0_seekLand 40 = .ok (.iload_n 3, 1) := by decide +kernel
theorem dX0_seekLand_41 : decode cX0_seekLand 41 = .ok (.iload_n 2, 1) := by decide +kernel
theorem dX0_seekLand_42 : decode cX0_seekLand 42 = .ok (.invokevirtual 81, 3) := by decide +kernel
theorem dX0_seekLand_45 : decode cX0_seekLand 45 = .ok (.ifCond .eq 29, 3) := by decide +kernel
theorem dX0_seekLand_48 : decode cX0_seekLand 48 = .ok (.aload_n 0, 1) := by decide +kernel
theorem dX0_seekLand_49 : decode cX0_seekLand 49 = .ok (.dup, 1) := by decide +kernel
theorem dX0_seekLand_50 : decode cX0_seekLand 50 = .ok (.getfield 18, 3) := by decide +kernel
theorem dX0_seekLand_53 : decode cX0_seekLand 53 = .ok (.aload_n 0, 1) := by decide +kernel
theorem dX0_seekLand_54 : decode cX0_seekLand 54 = .ok (.getfield 25, 3) := by decide +kernel
theorem dX0_seekLand_57 : decode cX0_seekLand 57 = .ok (.iadd, 1) := by decide +kernel
theorem dX0_seekLand_58 : decode cX0_seekLand 58 = .ok (.putfield 18, 3) := by decide +kernel
theorem dX0_seekLand_61 : decode cX0_seekLand 61 = .ok (.aload_n 0, 1) := by decide +kernel
theorem dX0_seekLand_62 : decode cX0_seekLand 62 = .ok (.dup, 1) := by decide +kernel
theorem dX0_seekLand_63 : decode cX0_seekLand 63 = .ok (.getfield 22, 3) := by decide +kernel
theorem dX0_seekLand_66 : decode cX0_seekLand 66 = .ok (.aload_n 0, 1) := by decide +kernel
theorem dX0_seekLand_67 : decode cX0_seekLand 67 = .ok (.getfield 28, 3) := by decide +kernel
theorem dX0_seekLand_70 : decode cX0_seekLand 70 = .ok (.iadd, 1) := by decide +kernel
theorem dX0_seekLand_71 : decode cX0_seekLand 71 = .ok (.putfield 22, 3) := by decide +kernel
theorem dX0_seekLand_74 : decode cX0_seekLand 74 = .ok (.iinc 3 1, 3) := by decide +kernel
theorem dX0_seekLand_77 : decode cX0_seekLand 77 = .ok (.goto (-65), 3) := by decide +kernel
theorem dX0_seekLand_80 : decode cX0_seekLand 80 = .ok (.return_, 1) := by decide +kernel
theorem dX0_left_0 : decode cX0_left 0 = .ok (.aload_n 0, 1) := by decide +kernel
theorem dX0_left_1 : decode cX0_left 1 = .ok (.getfield 18, 3) := by decide +kernel
theorem dX0_left_4 : decode cX0_left 4 = .ok (.ifCond .ne 7, 3) := by decide +kernel
theorem dX0_left_7 : decode cX0_left 7 = .ok (.iload_n 1, 1) := by decide +kernel
theorem dX0_left_8 : decode cX0_left 8 = .ok (.goto 14, 3) := by decide +kernel
theorem dX0_left_11 : decode cX0_left 11 = .ok (.iload_n 1, 1) := by decide +kernel
theorem dX0_left_12 : decode cX0_left 12 = .ok (.aload_n 0, 1) := by decide +kernel
theorem dX0_left_13 : decode cX0_left 13 = .ok (.getfield 22, 3) := by decide +kernel
theorem dX0_left_16 : decode cX0_left 16 = .ok (.imul, 1) := by decide +kernel
theorem dX0_left_17 : decode cX0_left 17 = .ok (.aload_n 0, 1) := by decide +kernel
theorem dX0_left_18 : decode cX0_left 18 = .ok (.getfield 18, 3) := by decide +kernel
theorem dX0_left_21 : decode cX0_left 21 = .ok (.idiv, 1) := by decide +kernel
theorem dX0_left_22 : decode cX0_left 22 = .ok (.ireturn, 1) := by decide +kernel
theorem dX0_movedTo_0 : decode cX0_movedTo 0 = .ok (.aload_n 1, 1) := by decide +kernel
theorem dX0_movedTo_1 : decode cX0_movedTo 1 = .ok (.iload_n 2, 1) := by decide +kernel
theorem dX0_movedTo_2 : decode cX0_movedTo 2 = .ok (.iload_n 3, 1) := by decide +kernel
theorem dX0_movedTo_3 : decode cX0_movedTo 3 = .ok (.iconst 2, 1) := by decide +kernel
theorem dX0_movedTo_4 : decode cX0_movedTo 4 = .ok (.iadd, 1) := by decide +kernel
theorem dX0_movedTo_5 : decode cX0_movedTo 5 = .ok (.invokevirtual 110, 3) := by decide +kernel
theorem dX0_movedTo_8 : decode cX0_movedTo 8 = .ok (.ifCond .eq 16, 3) := by decide +kernel
theorem dX0_movedTo_11 : decode cX0_movedTo 11 = .ok (.aload_n 0, 1) := by decide +kernel
theorem dX0_movedTo_12 : decode cX0_movedTo 12 = .ok (.aload_n 1, 1) := by decide +kernel
theorem dX0_movedTo_13 : decode cX0_movedTo 13 = .ok (.getfield 77, 3) := by decide +kernel
theorem dX0_movedTo_16 : decode cX0_movedTo 16 = .ok (.iload_n 2, 1) := by decide +kernel
theorem dX0_movedTo_17 : decode cX0_movedTo 17 = .ok (.iload_n 3, 1) := by decide +kernel
theorem dX0_movedTo_18 : decode cX0_movedTo 18 = .ok (.invokevirtual 81, 3) := by decide +kernel
theorem dX0_movedTo_21 : decode cX0_movedTo 21 = .ok (.ifCond .ne 5, 3) := by decide +kernel
theorem dX0_movedTo_24 : decode cX0_movedTo 24 = .ok (.iconst 0, 1) := by decide +kernel
theorem dX0_movedTo_25 : decode cX0_movedTo 25 = .ok (.ireturn, 1) := by decide +kernel
theorem dX0_movedTo_26 : decode cX0_movedTo 26 = .ok (.iconst 0, 1) := by decide +kernel
theorem dX0_movedTo_27 : decode cX0_movedTo 27 = .ok (.sipush 1000, 3) := by decide +kernel
theorem dX0_movedTo_30 : decode cX0_movedTo 30 = .ok (.aload_n 0, 1) := by decide +kernel
theorem dX0_movedTo_31 : decode cX0_movedTo 31 = .ok (.getfield 28, 3) := by decide +kernel
theorem dX0_movedTo_34 : decode cX0_movedTo 34 = .ok (.imul, 1) := by decide +kernel
theorem dX0_movedTo_35 : decode cX0_movedTo 35 = .ok (.aload_n 0, 1) := by decide +kernel
theorem dX0_movedTo_36 : decode cX0_movedTo 36 = .ok (.sipush 1000, 3) := by decide +kernel
theorem dX0_movedTo_39 : decode cX0_movedTo 39 = .ok (.aload_n 0, 1) := by decide +kernel
theorem dX0_movedTo_40 : decode cX0_movedTo 40 = .ok (.getfield 25, 3) := by decide +kernel
theorem dX0_movedTo_43 : decode cX0_movedTo 43 = .ok (.imul, 1) := by decide +kernel
theorem dX0_movedTo_44 : decode cX0_movedTo 44 = .ok (.invokevirtual 93, 3) := by decide +kernel
theorem dX0_movedTo_47 : decode cX0_movedTo 47 = .ok (.isub, 1) := by decide +kernel
theorem dX0_movedTo_48 : decode cX0_movedTo 48 = .ok (.invokestatic 124, 3) := by decide +kernel
theorem dX0_movedTo_51 : decode cX0_movedTo 51 = .ok (.ireturn, 1) := by decide +kernel
theorem dX1_init_0 : decode cX1_init 0 = .ok (.aload_n 0, 1) := by decide +kernel
theorem dX1_init_1 : decode cX1_init 1 = .ok (.invokespecial 3, 3) := by decide +kernel
theorem dX1_init_4 : decode cX1_init 4 = .ok (.aload_n 0, 1) := by decide +kernel
theorem dX1_init_5 : decode cX1_init 5 = .ok (.iconst 0, 1) := by decide +kernel
theorem dX1_init_6 : decode cX1_init 6 = .ok (.putfield 9, 3) := by decide +kernel
theorem dX1_init_9 : decode cX1_init 9 = .ok (.aload_n 0, 1) := by decide +kernel
theorem dX1_init_10 : decode cX1_init 10 = .ok (.iconst 0, 1) := by decide +kernel
theorem dX1_init_11 : decode cX1_init 11 = .ok (.putfield 15, 3) := by decide +kernel
theorem dX1_init_14 : decode cX1_init 14 = .ok (.aload_n 0, 1) := by decide +kernel
theorem dX1_init_15 : decode cX1_init 15 = .ok (.iconst 0, 1) := by decide +kernel
theorem dX1_init_16 : decode cX1_init 16 = .ok (.putfield 19, 3) := by decide +kernel
theorem dX1_init_19 : decode cX1_init 19 = .ok (.aload_n 0, 1) := by decide +kernel
theorem dX1_init_20 : decode cX1_init 20 = .ok (.iconst 0, 1) := by decide +kernel
theorem dX1_init_21 : decode cX1_init 21 = .ok (.putfield 22, 3) := by decide +kernel
theorem dX1_init_24 : decode cX1_init 24 = .ok (.aload_n 0, 1) := by decide +kernel
theorem dX1_init_25 : decode cX1_init 25 = .ok (.iconst 0, 1) := by decide +kernel
theorem dX1_init_26 : decode cX1_init 26 = .ok (.putfield 25, 3) := by decide +kernel
theorem dX1_init_29 : decode cX1_init 29 = .ok (.aload_n 0, 1) := by decide +kernel
theorem dX1_init_30 : decode cX1_init 30 = .ok (.iconst 0, 1) := by decide +kernel
theorem dX1_init_31 : decode cX1_init 31 = .ok (.putfield 28, 3) := by decide +kernel
theorem dX1_init_34 : decode cX1_init 34 = .ok (.return_, 1) := by decide +kernel
theorem dX1_seek_0 : decode cX1_seek 0 = .ok (.aload_n 0, 1) := by decide +kernel
theorem dX1_seek_1 : decode cX1_seek 1 = .ok (.iconst 0, 1) := by decide +kernel
theorem dX1_seek_2 : decode cX1_seek 2 = .ok (.putfield 9, 3) := by decide +kernel
theorem dX1_seek_5 : decode cX1_seek 5 = .ok (.iconst 1, 1) := by decide +kernel
theorem dX1_seek_6 : decode cX1_seek 6 = .ok (.istore 4, 2) := by decide +kernel
theorem dX1_seek_8 : decode cX1_seek 8 = .ok (.iload 4, 2) := by decide +kernel
theorem dX1_seek_10 : decode cX1_seek 10 = .ok (.iconst 3, 1) := by decide +kernel
theorem dX1_seek_11 : decode cX1_seek 11 = .ok (.if_icmp .gt 126, 3) := by decide +kernel
theorem dX1_seek_14 : decode cX1_seek 14 = .ok (.iload_n 3, 1) := by decide +kernel
theorem dX1_seek_15 : decode cX1_seek 15 = .ok (.ifCond .le 122, 3) := by decide +kernel
theorem dX1_seek_18 : decode cX1_seek 18 = .ok (.iconst 0, 1) := by decide +kernel
theorem dX1_seek_19 : decode cX1_seek 19 = .ok (.istore 5, 2) := by decide +kernel
theorem dX1_seek_21 : decode cX1_seek 21 = .ok (.iload 5, 2) := by decide +kernel
theorem dX1_seek_23 : decode cX1_seek 23 = .ok (.iload 4, 2) := by decide +kernel
theorem dX1_seek_25 : decode cX1_seek 25 = .ok (.iadd, 1) := by decide +kernel
theorem dX1_seek_26 : decode cX1_seek 26 = .ok (.iload_n 3, 1) := by decide +kernel
theorem dX1_seek_27 : decode cX1_seek 27 = .ok (.if_icmp .gt 104, 3) := by decide +kernel
theorem dX1_seek_30 : decode cX1_seek 30 = .ok (.iload 5, 2) := by decide +kernel
theorem dX1_seek_32 : decode cX1_seek 32 = .ok (.bipush 9, 2) := by decide +kernel
theorem dX1_seek_34 : decode cX1_seek 34 = .ok (.if_icmp .ge 97, 3) := by decide +kernel
theorem dX1_seek_37 : decode cX1_seek 37 = .ok (.iload_n 3, 1) := by decide +kernel
theorem dX1_seek_38 : decode cX1_seek 38 = .ok (.istore 6, 2) := by decide +kernel
theorem dX1_seek_40 : decode cX1_seek 40 = .ok (.iload 6, 2) := by decide +kernel
theorem dX1_seek_42 : decode cX1_seek 42 = .ok (.iload 4, 2) := by decide +kernel
theorem dX1_seek_44 : decode cX1_seek 44 = .ok (.iadd, 1) := by decide +kernel
theorem dX1_seek_45 : decode cX1_seek 45 = .ok (.bipush 9, 2) := by decide +kernel
theorem dX1_seek_47 : decode cX1_seek 47 = .ok (.if_icmp .gt 78, 3) := by decide +kernel
theorem dX1_seek_50 : decode cX1_seek 50 = .ok (.aload_n 1, 1) := by decide +kernel
theorem dX1_seek_51 : decode cX1_seek 51 = .ok (.iload_n 2, 1) := by decide +kernel
theorem dX1_seek_52 : decode cX1_seek 52 = .ok (.iload 5, 2) := by decide +kernel
theorem dX1_seek_54 : decode cX1_seek 54 = .ok (.iload 4, 2) := by decide +kernel
theorem dX1_seek_56 : decode cX1_seek 56 = .ok (.invokevirtual 31, 3) := by decide +kernel
theorem dX1_seek_59 : decode cX1_seek 59 = .ok (.istore 7, 2) := by decide +kernel
theorem dX1_seek_61 : decode cX1_seek 61 = .ok (.aload_n 1, 1) := by decide +kernel
theorem dX1_seek_62 : decode cX1_seek 62 = .ok (.iload_n 2, 1) := by decide +kernel
theorem dX1_seek_63 : decode cX1_seek 63 = .ok (.iload 6, 2) := by decide +kernel
theorem dX1_seek_65 : decode cX1_seek 65 = .ok (.iload 4, 2) := by decide +kernel
theorem dX1_seek_67 : decode cX1_seek 67 = .ok (.invokevirtual 31, 3) := by decide +kernel
theorem dX1_seek_70 : decode cX1_seek 70 = .ok (.istore 8, 2) := by decide +kernel
theorem dX1_seek_72 : decode cX1_seek 72 = .ok (.iload 7, 2) := by decide +kernel
theorem dX1_seek_74 : decode cX1_seek 74 = .ok (.ifCond .le 45, 3) := by decide +kernel
theorem dX1_seek_77 : decode cX1_seek 77 = .ok (.iload 8, 2) := by decide +kernel
theorem dX1_seek_79 : decode cX1_seek 79 = .ok (.iconst (-1), 1) := by decide +kernel
theorem dX1_seek_80 : decode cX1_seek 80 = .ok (.if_icmp .eq 39, 3) := by decide +kernel
theorem dX1_seek_83 : decode cX1_seek 83 = .ok (.aload_n 0, 1) := by decide +kernel
theorem dX1_seek_84 : decode cX1_seek 84 = .ok (.bipush 100, 2) := by decide +kernel
theorem dX1_seek_86 : decode cX1_seek 86 = .ok (.iload 7, 2) := by decide +kernel
theorem dX1_seek_88 : decode cX1_seek 88 = .ok (.iload 8, 2) := by decide +kernel
theorem dX1_seek_90 : decode cX1_seek 90 = .ok (.isub, 1) := by decide +kernel
theorem dX1_seek_91 : decode cX1_seek 91 = .ok (.imul, 1) := by decide +kernel
theorem dX1_seek_92 : decode cX1_seek 92 = .ok (.iload 7, 2) := by decide +kernel
theorem dX1_seek_94 : decode cX1_seek 94 = .ok (.idiv, 1) := by decide +kernel
theorem dX1_seek_95 : decode cX1_seek 95 = .ok (.invokevirtual 37, 3) := by decide +kernel
theorem dX1_seek_98 : decode cX1_seek 98 = .ok (.ifCond .eq 21, 3) := by decide +kernel
theorem dX1_seek_101 : decode cX1_seek 101 = .ok (.aload_n 0, 1) := by decide +kernel
theorem dX1_seek_102 : decode cX1_seek 102 = .ok (.iload 4, 2) := by decide +kernel
theorem dX1_seek_104 : decode cX1_seek 104 = .ok (.putfield 22, 3) := by decide +kernel
theorem dX1_seek_107 : decode cX1_seek 107 = .ok (.aload_n 0, 1) := by decide +kernel
theorem dX1_seek_108 : decode cX1_seek 108 = .ok (.iload 5, 2) := by decide +kernel
theorem dX1_seek_110 : decode cX1_seek 110 = .ok (.putfield 25, 3) := by decide +kernel
theorem dX1_seek_113 : decode cX1_seek 113 = .ok (.aload_n 0, 1) := by decide +kernel
theorem dX1_seek_114 : decode cX1_seek 114 = .ok (.iload 6, 2) := by decide +kernel
theorem dX1_seek_116 : decode cX1_seek 116 = .ok (.putfield 28, 3) := by decide +kernel
theorem dX1_seek_119 : decode cX1_seek 119 = .ok (.iinc 6 1, 3) := by decide +kernel
theorem dX1_seek_122 : decode cX1_seek 122 = .ok (.goto (-82), 3) := by decide +kernel
theorem dX1_seek_125 : decode cX1_seek 125 = .ok (.iinc 5 1, 3) := by decide +kernel
theorem dX1_seek_128 : decode cX1_seek 128 = .ok (.goto (-107), 3) := by decide +kernel
theorem dX1_seek_131 : decode cX1_seek 131 = .ok (.iinc 4 1, 3) := by decide +kernel
theorem dX1_seek_134 : decode cX1_seek 134 = .ok (.goto (-126), 3) := by decide +kernel
theorem dX1_seek_137 : decode cX1_seek 137 = .ok (.aload_n 0, 1) := by decide +kernel
theorem dX1_seek_138 : decode cX1_seek 138 = .ok (.getfield 9, 3) := by decide +kernel
theorem dX1_seek_141 : decode cX1_seek 141 = .ok (.ireturn, 1) := by decide +kernel
theorem dX1_keep_0 : decode cX1_keep 0 = .ok (.aload_n 0, 1) := by decide +kernel
theorem dX1_keep_1 : decode cX1_keep 1 = .ok (.getfield 9, 3) := by decide +kernel
theorem dX1_keep_4 : decode cX1_keep 4 = .ok (.ifCond .eq 11, 3) := by decide +kernel
theorem dX1_keep_7 : decode cX1_keep 7 = .ok (.iload_n 1, 1) := by decide +kernel
theorem dX1_keep_8 : decode cX1_keep 8 = .ok (.aload_n 0, 1) := by decide +kernel
theorem dX1_keep_9 : decode cX1_keep 9 = .ok (.getfield 15, 3) := by decide +kernel
theorem dX1_keep_12 : decode cX1_keep 12 = .ok (.if_icmp .le 7, 3) := by decide +kernel
theorem dX1_keep_15 : decode cX1_keep 15 = .ok (.iconst 1, 1) := by decide +kernel
theorem dX1_keep_16 : decode cX1_keep 16 = .ok (.goto 4, 3) := by decide +kernel
theorem dX1_keep_19 : decode cX1_keep 19 = .ok (.iconst 0, 1) := by decide +kernel
theorem dX1_keep_20 : decode cX1_keep 20 = .ok (.istore_n 2, 1) := by decide +kernel
theorem dX1_keep_21 : decode cX1_keep 21 = .ok (.aload_n 0, 1) := by decide +kernel
theorem dX1_keep_22 : decode cX1_keep 22 = .ok (.iload_n 2, 1) := by decide +kernel
theorem dX1_keep_23 : decode cX1_keep 23 = .ok (.ifCond .eq 7, 3) := by decide +kernel
theorem dX1_keep_26 : decode cX1_keep 26 = .ok (.iload_n 1, 1) := by decide +kernel
theorem dX1_keep_27 : decode cX1_keep 27 = .ok (.goto 7, 3) := by decide +kernel
theorem dX1_keep_30 : decode cX1_keep 30 = .ok (.aload_n 0, 1) := by decide +kernel
theorem dX1_keep_31 : decode cX1_keep 31 = .ok (.getfield 15, 3) := by decide +kernel
theorem dX1_keep_34 : decode cX1_keep 34 = .ok (.putfield 15, 3) := by decide +kernel
theorem dX1_keep_37 : decode cX1_keep 37 = .ok (.aload_n 0, 1) := by decide +kernel
theorem dX1_keep_38 : decode cX1_keep 38 = .ok (.aload_n 0, 1) := by decide +kernel
theorem dX1_keep_39 : decode cX1_keep 39 = .ok (.getfield 9, 3) := by decide +kernel
theorem dX1_keep_42 : decode cX1_keep 42 = .ok (.ifCond .eq 11, 3) := by decide +kernel
theorem dX1_keep_45 : decode cX1_keep 45 = .ok (.iload_n 1, 1) := by decide +kernel
theorem dX1_keep_46 : decode cX1_keep 46 = .ok (.aload_n 0, 1) := by decide +kernel
theorem dX1_keep_47 : decode cX1_keep 47 = .ok (.getfield 19, 3) := by decide +kernel
theorem dX1_keep_50 : decode cX1_keep 50 = .ok (.if_icmp .ge 7, 3) := by decide +kernel
theorem dX1_keep_53 : decode cX1_keep 53 = .ok (.iload_n 1, 1) := by decide +kernel
theorem dX1_keep_54 : decode cX1_keep 54 = .ok (.goto 7, 3) := by decide +kernel
theorem dX1_keep_57 : decode cX1_keep 57 = .ok (.aload_n 0, 1) := by decide +kernel
theorem dX1_keep_58 : decode cX1_keep 58 = .ok (.getfield 19, 3) := by decide +kernel
theorem dX1_keep_61 : decode cX1_keep 61 = .ok (.putfield 19, 3) := by decide +kernel
theorem dX1_keep_64 : decode cX1_keep 64 = .ok (.aload_n 0, 1) := by decide +kernel
theorem dX1_keep_65 : decode cX1_keep 65 = .ok (.iconst 1, 1) := by decide +kernel
theorem dX1_keep_66 : decode cX1_keep 66 = .ok (.putfield 9, 3) := by decide +kernel
theorem dX1_keep_69 : decode cX1_keep 69 = .ok (.iload_n 2, 1) := by decide +kernel
theorem dX1_keep_70 : decode cX1_keep 70 = .ok (.ireturn, 1) := by decide +kernel
theorem dX2_init_0 : decode cX2_init 0 = .ok (.aload_n 0, 1) := by decide +kernel
theorem dX2_init_1 : decode cX2_init 1 = .ok (.invokespecial 3, 3) := by decide +kernel
theorem dX2_init_4 : decode cX2_init 4 = .ok (.aload_n 0, 1) := by decide +kernel
theorem dX2_init_5 : decode cX2_init 5 = .ok (.iconst 0, 1) := by decide +kernel
theorem dX2_init_6 : decode cX2_init 6 = .ok (.putfield 9, 3) := by decide +kernel
theorem dX2_init_9 : decode cX2_init 9 = .ok (.aload_n 0, 1) := by decide +kernel
theorem dX2_init_10 : decode cX2_init 10 = .ok (.iconst 0, 1) := by decide +kernel
theorem dX2_init_11 : decode cX2_init 11 = .ok (.putfield 15, 3) := by decide +kernel
theorem dX2_init_14 : decode cX2_init 14 = .ok (.aload_n 0, 1) := by decide +kernel
theorem dX2_init_15 : decode cX2_init 15 = .ok (.iconst 5, 1) := by decide +kernel
theorem dX2_init_16 : decode cX2_init 16 = .ok (.newarray .int, 2) := by decide +kernel
theorem dX2_init_18 : decode cX2_init 18 = .ok (.putfield 18, 3) := by decide +kernel
theorem dX2_init_21 : decode cX2_init 21 = .ok (.aload_n 0, 1) := by decide +kernel
theorem dX2_init_22 : decode cX2_init 22 = .ok (.iconst 5, 1) := by decide +kernel
theorem dX2_init_23 : decode cX2_init 23 = .ok (.newarray .int, 2) := by decide +kernel
theorem dX2_init_25 : decode cX2_init 25 = .ok (.putfield 22, 3) := by decide +kernel
theorem dX2_init_28 : decode cX2_init 28 = .ok (.aload_n 0, 1) := by decide +kernel
theorem dX2_init_29 : decode cX2_init 29 = .ok (.iconst 5, 1) := by decide +kernel
theorem dX2_init_30 : decode cX2_init 30 = .ok (.newarray .int, 2) := by decide +kernel
theorem dX2_init_32 : decode cX2_init 32 = .ok (.putfield 25, 3) := by decide +kernel
theorem dX2_init_35 : decode cX2_init 35 = .ok (.aload_n 0, 1) := by decide +kernel
theorem dX2_init_36 : decode cX2_init 36 = .ok (.bipush 50, 2) := by decide +kernel
theorem dX2_init_38 : decode cX2_init 38 = .ok (.newarray .int, 2) := by decide +kernel
theorem dX2_init_40 : decode cX2_init 40 = .ok (.putfield 28, 3) := by decide +kernel
theorem dX2_init_43 : decode cX2_init 43 = .ok (.aload_n 0, 1) := by decide +kernel
theorem dX2_init_44 : decode cX2_init 44 = .ok (.bipush 50, 2) := by decide +kernel
theorem dX2_init_46 : decode cX2_init 46 = .ok (.newarray .int, 2) := by decide +kernel
theorem dX2_init_48 : decode cX2_init 48 = .ok (.putfield 31, 3) := by decide +kernel
theorem dX2_init_51 : decode cX2_init 51 = .ok (.return_, 1) := by decide +kernel
theorem dX2_clear_0 : decode cX2_clear 0 = .ok (.aload_n 0, 1) := by decide +kernel
theorem dX2_clear_1 : decode cX2_clear 1 = .ok (.iconst 0, 1) := by decide +kernel
theorem dX2_clear_2 : decode cX2_clear 2 = .ok (.putfield 9, 3) := by decide +kernel
theorem dX2_clear_5 : decode cX2_clear 5 = .ok (.aload_n 0, 1) := by decide +kernel
theorem dX2_clear_6 : decode cX2_clear 6 = .ok (.iconst 0, 1) := by decide +kernel
theorem dX2_clear_7 : decode cX2_clear 7 = .ok (.putfield 15, 3) := by decide +kernel
theorem dX2_clear_10 : decode cX2_clear 10 = .ok (.iconst 0, 1) := by decide +kernel
theorem dX2_clear_11 : decode cX2_clear 11 = .ok (.istore_n 1, 1) := by decide +kernel
theorem dX2_clear_12 : decode cX2_clear 12 = .ok (.iload_n 1, 1) := by decide +kernel
theorem dX2_clear_13 : decode cX2_clear 13 = .ok (.iconst 5, 1) := by decide +kernel
theorem dX2_clear_14 : decode cX2_clear 14 = .ok (.if_icmp .ge 16, 3) := by decide +kernel
theorem dX2_clear_17 : decode cX2_clear 17 = .ok (.aload_n 0, 1) := by decide +kernel
theorem dX2_clear_18 : decode cX2_clear 18 = .ok (.getfield 25, 3) := by decide +kernel
theorem dX2_clear_21 : decode cX2_clear 21 = .ok (.iload_n 1, 1) := by decide +kernel
theorem dX2_clear_22 : decode cX2_clear 22 = .ok (.iconst 0, 1) := by decide +kernel
theorem dX2_clear_23 : decode cX2_clear 23 = .ok (.iastore, 1) := by decide +kernel
theorem dX2_clear_24 : decode cX2_clear 24 = .ok (.iinc 1 1, 3) := by decide +kernel
theorem dX2_clear_27 : decode cX2_clear 27 = .ok (.goto (-15), 3) := by decide +kernel
theorem dX2_clear_30 : decode cX2_clear 30 = .ok (.iconst 0, 1) := by decide +kernel
theorem dX2_clear_31 : decode cX2_clear 31 = .ok (.istore_n 1, 1) := by decide +kernel
theorem dX2_clear_32 : decode cX2_clear 32 = .ok (.iload_n 1, 1) := by decide +kernel
theorem dX2_clear_33 : decode cX2_clear 33 = .ok (.bipush 50, 2) := by decide +kernel
theorem dX2_clear_35 : decode cX2_clear 35 = .ok (.if_icmp .ge 16, 3) := by decide +kernel
theorem dX2_clear_38 : decode cX2_clear 38 = .ok (.aload_n 0, 1) := by decide +kernel
theorem dX2_clear_39 : decode cX2_clear 39 = .ok (.getfield 31, 3) := by decide +kernel
theorem dX2_clear_42 : decode cX2_clear 42 = .ok (.iload_n 1, 1) := by decide +kernel
theorem dX2_clear_43 : decode cX2_clear 43 = .ok (.iconst 0, 1) := by decide +kernel
theorem dX2_clear_44 : decode cX2_clear 44 = .ok (.iastore, 1) := by decide +kernel
theorem dX2_clear_45 : decode cX2_clear 45 = .ok (.iinc 1 1, 3) := by decide +kernel
theorem dX2_clear_48 : decode cX2_clear 48 = .ok (.goto (-16), 3) := by decide +kernel
theorem dX2_clear_51 : decode cX2_clear 51 = .ok (.return_, 1) := by decide +kernel
theorem dX2_putFace_0 : decode cX2_putFace 0 = .ok (.iload_n 1, 1) := by decide +kernel
theorem dX2_putFace_1 : decode cX2_putFace 1 = .ok (.ifCond .lt 65, 3) := by decide +kernel
theorem dX2_putFace_4 : decode cX2_putFace 4 = .ok (.iload_n 1, 1) := by decide +kernel
theorem dX2_putFace_5 : decode cX2_putFace 5 = .ok (.iconst 5, 1) := by decide +kernel
theorem dX2_putFace_6 : decode cX2_putFace 6 = .ok (.if_icmp .ge 60, 3) := by decide +kernel
theorem dX2_putFace_9 : decode cX2_putFace 9 = .ok (.iload_n 2, 1) := by decide +kernel
theorem dX2_putFace_10 : decode cX2_putFace 10 = .ok (.ifCond .lt 56, 3) := by decide +kernel
theorem dX2_putFace_13 : decode cX2_putFace 13 = .ok (.iload_n 2, 1) := by decide +kernel
theorem dX2_putFace_14 : decode cX2_putFace 14 = .ok (.bipush 10, 2) := by decide +kernel
theorem dX2_putFace_16 : decode cX2_putFace 16 = .ok (.if_icmp .ge 50, 3) := by decide +kernel
theorem dX2_putFace_19 : decode cX2_putFace 19 = .ok (.iload_n 3, 1) := by decide +kernel
theorem dX2_putFace_20 : decode cX2_putFace 20 = .ok (.ifCond .lt 46, 3) := by decide +kernel
theorem dX2_putFace_23 : decode cX2_putFace 23 = .ok (.iload_n 3, 1) := by decide +kernel
theorem dX2_putFace_24 : decode cX2_putFace 24 = .ok (.bipush 10, 2) := by decide +kernel
theorem dX2_putFace_26 : decode cX2_putFace 26 = .ok (.if_icmp .ge 40, 3) := by decide +kernel
theorem dX2_putFace_29 : decode cX2_putFace 29 = .ok (.aload_n 0, 1) := by decide +kernel
theorem dX2_putFace_30 : decode cX2_putFace 30 = .ok (.getfield 28, 3) := by decide +kernel
theorem dX2_putFace_33 : decode cX2_putFace 33 = .ok (.iload_n 1, 1) := by decide +kernel
theorem dX2_putFace_34 : decode cX2_putFace 34 = .ok (.bipush 10, 2) := by decide +kernel
theorem dX2_putFace_36 : decode cX2_putFace 36 = .ok (.imul, 1) := by decide +kernel
theorem dX2_putFace_37 : decode cX2_putFace 37 = .ok (.iload_n 2, 1) := by decide +kernel
theorem dX2_putFace_38 : decode cX2_putFace 38 = .ok (.iadd, 1) := by decide +kernel
theorem dX2_putFace_39 : decode cX2_putFace 39 = .ok (.iload_n 3, 1) := by decide +kernel
theorem dX2_putFace_40 : decode cX2_putFace 40 = .ok (.iastore, 1) := by decide +kernel
theorem dX2_putFace_41 : decode cX2_putFace 41 = .ok (.aload_n 0, 1) := by decide +kernel
theorem dX2_putFace_42 : decode cX2_putFace 42 = .ok (.getfield 31, 3) := by decide +kernel
theorem dX2_putFace_45 : decode cX2_putFace 45 = .ok (.iload_n 1, 1) := by decide +kernel
theorem dX2_putFace_46 : decode cX2_putFace 46 = .ok (.bipush 10, 2) := by decide +kernel
theorem dX2_putFace_48 : decode cX2_putFace 48 = .ok (.imul, 1) := by decide +kernel
theorem dX2_putFace_49 : decode cX2_putFace 49 = .ok (.iload_n 3, 1) := by decide +kernel
theorem dX2_putFace_50 : decode cX2_putFace 50 = .ok (.iadd, 1) := by decide +kernel
theorem dX2_putFace_51 : decode cX2_putFace 51 = .ok (.dup2, 1) := by decide +kernel
theorem dX2_putFace_52 : decode cX2_putFace 52 = .ok (.iaload, 1) := by decide +kernel
theorem dX2_putFace_53 : decode cX2_putFace 53 = .ok (.iconst 1, 1) := by decide +kernel
theorem dX2_putFace_54 : decode cX2_putFace 54 = .ok (.iadd, 1) := by decide +kernel
theorem dX2_putFace_55 : decode cX2_putFace 55 = .ok (.iastore, 1) := by decide +kernel
theorem dX2_putFace_56 : decode cX2_putFace 56 = .ok (.aload_n 0, 1) := by decide +kernel
theorem dX2_putFace_57 : decode cX2_putFace 57 = .ok (.getfield 25, 3) := by decide +kernel
theorem dX2_putFace_60 : decode cX2_putFace 60 = .ok (.iload_n 1, 1) := by decide +kernel
theorem dX2_putFace_61 : decode cX2_putFace 61 = .ok (.dup2, 1) := by decide +kernel
theorem dX2_putFace_62 : decode cX2_putFace 62 = .ok (.iaload, 1) := by decide +kernel
theorem dX2_putFace_63 : decode cX2_putFace 63 = .ok (.iload_n 3, 1) := by decide +kernel
theorem dX2_putFace_64 : decode cX2_putFace 64 = .ok (.iadd, 1) := by decide +kernel
theorem dX2_putFace_65 : decode cX2_putFace 65 = .ok (.iastore, 1) := by decide +kernel
theorem dX2_putFace_66 : decode cX2_putFace 66 = .ok (.return_, 1) := by decide +kernel
theorem dX2_faceAt_0 : decode cX2_faceAt 0 = .ok (.iload_n 1, 1) := by decide +kernel
theorem dX2_faceAt_1 : decode cX2_faceAt 1 = .ok (.ifCond .lt 22, 3) := by decide +kernel
theorem dX2_faceAt_4 : decode cX2_faceAt 4 = .ok (.iload_n 1, 1) := by decide +kernel
theorem dX2_faceAt_5 : decode cX2_faceAt 5 = .ok (.iconst 5, 1) := by decide +kernel
theorem dX2_faceAt_6 : decode cX2_faceAt 6 = .ok (.if_icmp .ge 17, 3) := by decide +kernel
theorem dX2_faceAt_9 : decode cX2_faceAt 9 = .ok (.iload_n 2, 1) := by decide +kernel
theorem dX2_faceAt_10 : decode cX2_faceAt 10 = .ok (.ifCond .lt 13, 3) := by decide +kernel
theorem dX2_faceAt_13 : decode cX2_faceAt 13 = .ok (.iload_n 2, 1) := by decide +kernel
theorem dX2_faceAt_14 : decode cX2_faceAt 14 = .ok (.bipush 10, 2) := by decide +kernel
theorem dX2_faceAt_16 : decode cX2_faceAt 16 = .ok (.if_icmp .ge 7, 3) := by decide +kernel
theorem dX2_faceAt_19 : decode cX2_faceAt 19 = .ok (.iconst 1, 1) := by decide +kernel
theorem dX2_faceAt_20 : decode cX2_faceAt 20 = .ok (.goto 4, 3) := by decide +kernel
theorem dX2_faceAt_23 : decode cX2_faceAt 23 = .ok (.iconst 0, 1) := by decide +kernel
theorem dX2_faceAt_24 : decode cX2_faceAt 24 = .ok (.istore_n 3, 1) := by decide +kernel
theorem dX2_faceAt_25 : decode cX2_faceAt 25 = .ok (.iload_n 3, 1) := by decide +kernel
theorem dX2_faceAt_26 : decode cX2_faceAt 26 = .ok (.ifCond .eq 17, 3) := by decide +kernel
theorem dX2_faceAt_29 : decode cX2_faceAt 29 = .ok (.aload_n 0, 1) := by decide +kernel
theorem dX2_faceAt_30 : decode cX2_faceAt 30 = .ok (.getfield 28, 3) := by decide +kernel
theorem dX2_faceAt_33 : decode cX2_faceAt 33 = .ok (.iload_n 1, 1) := by decide +kernel
theorem dX2_faceAt_34 : decode cX2_faceAt 34 = .ok (.bipush 10, 2) := by decide +kernel
theorem dX2_faceAt_36 : decode cX2_faceAt 36 = .ok (.imul, 1) := by decide +kernel
theorem dX2_faceAt_37 : decode cX2_faceAt 37 = .ok (.iload_n 2, 1) := by decide +kernel
theorem dX2_faceAt_38 : decode cX2_faceAt 38 = .ok (.iadd, 1) := by decide +kernel
theorem dX2_faceAt_39 : decode cX2_faceAt 39 = .ok (.iaload, 1) := by decide +kernel
theorem dX2_faceAt_40 : decode cX2_faceAt 40 = .ok (.goto 4, 3) := by decide +kernel
theorem dX2_faceAt_43 : decode cX2_faceAt 43 = .ok (.iconst 0, 1) := by decide +kernel
theorem dX2_faceAt_44 : decode cX2_faceAt 44 = .ok (.ireturn, 1) := by decide +kernel
theorem dX2_howManyAre_0 : decode cX2_howManyAre 0 = .ok (.iload_n 1, 1) := by decide +kernel
theorem dX2_howManyAre_1 : decode cX2_howManyAre 1 = .ok (.ifCond .lt 22, 3) := by decide +kernel
theorem dX2_howManyAre_4 : decode cX2_howManyAre 4 = .ok (.iload_n 1, 1) := by decide +kernel
theorem dX2_howManyAre_5 : decode cX2_howManyAre 5 = .ok (.iconst 5, 1) := by decide +kernel
theorem dX2_howManyAre_6 : decode cX2_howManyAre 6 = .ok (.if_icmp .ge 17, 3) := by decide +kernel
theorem dX2_howManyAre_9 : decode cX2_howManyAre 9 = .ok (.iload_n 2, 1) := by decide +kernel
theorem dX2_howManyAre_10 : decode cX2_howManyAre 10 = .ok (.ifCond .lt 13, 3) := by decide +kernel
theorem dX2_howManyAre_13 : decode cX2_howManyAre 13 = .ok (.iload_n 2, 1) := by decide +kernel
theorem dX2_howManyAre_14 : decode cX2_howManyAre 14 = .ok (.bipush 10, 2) := by decide +kernel
theorem dX2_howManyAre_16 : decode cX2_howManyAre 16 = .ok (.if_icmp .ge 7, 3) := by decide +kernel
theorem dX2_howManyAre_19 : decode cX2_howManyAre 19 = .ok (.iconst 1, 1) := by decide +kernel
theorem dX2_howManyAre_20 : decode cX2_howManyAre 20 = .ok (.goto 4, 3) := by decide +kernel
theorem dX2_howManyAre_23 : decode cX2_howManyAre 23 = .ok (.iconst 0, 1) := by decide +kernel
theorem dX2_howManyAre_24 : decode cX2_howManyAre 24 = .ok (.istore_n 3, 1) := by decide +kernel
theorem dX2_howManyAre_25 : decode cX2_howManyAre 25 = .ok (.iload_n 3, 1) := by decide +kernel
theorem dX2_howManyAre_26 : decode cX2_howManyAre 26 = .ok (.ifCond .eq 17, 3) := by decide +kernel
theorem dX2_howManyAre_29 : decode cX2_howManyAre 29 = .ok (.aload_n 0, 1) := by decide +kernel
theorem dX2_howManyAre_30 : decode cX2_howManyAre 30 = .ok (.getfield 31, 3) := by decide +kernel
theorem dX2_howManyAre_33 : decode cX2_howManyAre 33 = .ok (.iload_n 1, 1) := by decide +kernel
theorem dX2_howManyAre_34 : decode cX2_howManyAre 34 = .ok (.bipush 10, 2) := by decide +kernel
theorem dX2_howManyAre_36 : decode cX2_howManyAre 36 = .ok (.imul, 1) := by decide +kernel
theorem dX2_howManyAre_37 : decode cX2_howManyAre 37 = .ok (.iload_n 2, 1) := by decide +kernel
theorem dX2_howManyAre_38 : decode cX2_howManyAre 38 = .ok (.iadd, 1) := by decide +kernel
theorem dX2_howManyAre_39 : decode cX2_howManyAre 39 = .ok (.iaload, 1) := by decide +kernel
theorem dX2_howManyAre_40 : decode cX2_howManyAre 40 = .ok (.goto 4, 3) := by decide +kernel
theorem dX2_howManyAre_43 : decode cX2_howManyAre 43 = .ok (.iconst 0, 1) := by decide +kernel
theorem dX2_howManyAre_44 : decode cX2_howManyAre 44 = .ok (.ireturn, 1) := by decide +kernel
theorem dX3_init_0 : decode cX3_init 0 = .ok (.aload_n 0, 1) := by decide +kernel
theorem dX3_init_1 : decode cX3_init 1 = .ok (.invokespecial 3, 3) := by decide +kernel
theorem dX3_init_4 : decode cX3_init 4 = .ok (.aload_n 0, 1) := by decide +kernel
theorem dX3_init_5 : decode cX3_init 5 = .ok (.iconst (-1), 1) := by decide +kernel
theorem dX3_init_6 : decode cX3_init 6 = .ok (.putfield 9, 3) := by decide +kernel
theorem dX3_init_9 : decode cX3_init 9 = .ok (.aload_n 0, 1) := by decide +kernel
theorem dX3_init_10 : decode cX3_init 10 = .ok (.lconst 0, 1) := by decide +kernel
theorem dX3_init_11 : decode cX3_init 11 = .ok (.putfield 15, 3) := by decide +kernel
theorem dX3_init_14 : decode cX3_init 14 = .ok (.aload_n 0, 1) := by decide +kernel
theorem dX3_init_15 : decode cX3_init 15 = .ok (.lconst 0, 1) := by decide +kernel
theorem dX3_init_16 : decode cX3_init 16 = .ok (.putfield 19, 3) := by decide +kernel
theorem dX3_init_19 : decode cX3_init 19 = .ok (.aload_n 0, 1) := by decide +kernel
theorem dX3_init_20 : decode cX3_init 20 = .ok (.lconst 0, 1) := by decide +kernel
theorem dX3_init_21 : decode cX3_init 21 = .ok (.putfield 22, 3) := by decide +kernel
theorem dX3_init_24 : decode cX3_init 24 = .ok (.aload_n 0, 1) := by decide +kernel
theorem dX3_init_25 : decode cX3_init 25 = .ok (.iconst 0, 1) := by decide +kernel
theorem dX3_init_26 : decode cX3_init 26 = .ok (.putfield 25, 3) := by decide +kernel
theorem dX3_init_29 : decode cX3_init 29 = .ok (.aload_n 0, 1) := by decide +kernel
theorem dX3_init_30 : decode cX3_init 30 = .ok (.bipush 6, 2) := by decide +kernel
theorem dX3_init_32 : decode cX3_init 32 = .ok (.newarray .int, 2) := by decide +kernel
theorem dX3_init_34 : decode cX3_init 34 = .ok (.putfield 28, 3) := by decide +kernel
theorem dX3_init_37 : decode cX3_init 37 = .ok (.aload_n 0, 1) := by decide +kernel
theorem dX3_init_38 : decode cX3_init 38 = .ok (.iconst 0, 1) := by decide +kernel
theorem dX3_init_39 : decode cX3_init 39 = .ok (.putfield 32, 3) := by decide +kernel
theorem dX3_init_42 : decode cX3_init 42 = .ok (.aload_n 0, 1) := by decide +kernel
theorem dX3_init_43 : decode cX3_init 43 = .ok (.iconst 0, 1) := by decide +kernel
theorem dX3_init_44 : decode cX3_init 44 = .ok (.putfield 35, 3) := by decide +kernel
theorem dX3_init_47 : decode cX3_init 47 = .ok (.return_, 1) := by decide +kernel
theorem dX3_forget_0 : decode cX3_forget 0 = .ok (.aload_n 0, 1) := by decide +kernel
theorem dX3_forget_1 : decode cX3_forget 1 = .ok (.iconst (-1), 1) := by decide +kernel
theorem dX3_forget_2 : decode cX3_forget 2 = .ok (.putfield 9, 3) := by decide +kernel
theorem dX3_forget_5 : decode cX3_forget 5 = .ok (.return_, 1) := by decide +kernel
theorem dX3_applyLaw_0 : decode cX3_applyLaw 0 = .ok (.aload_n 0, 1) := by decide +kernel
theorem dX3_applyLaw_1 : decode cX3_applyLaw 1 = .ok (.getfield 9, 3) := by decide +kernel
theorem dX3_applyLaw_4 : decode cX3_applyLaw 4 = .ok (.iload_n 2, 1) := by decide +kernel
theorem dX3_applyLaw_5 : decode cX3_applyLaw 5 = .ok (.if_icmp .ne 4, 3) := by decide +kernel
theorem dX3_applyLaw_8 : decode cX3_applyLaw 8 = .ok (.return_, 1) := by decide +kernel
theorem dX3_applyLaw_9 : decode cX3_applyLaw 9 = .ok (.aload_n 0, 1) := by decide +kernel
theorem dX3_applyLaw_10 : decode cX3_applyLaw 10 = .ok (.iload_n 2, 1) := by decide +kernel
theorem dX3_applyLaw_11 : decode cX3_applyLaw 11 = .ok (.putfield 9, 3) := by decide +kernel
theorem dX3_applyLaw_14 : decode cX3_applyLaw 14 = .ok (.aload_n 0, 1) := by decide +kernel
theorem dX3_applyLaw_15 : decode cX3_applyLaw 15 = .ok (.lconst 0, 1) := by decide +kernel
theorem dX3_applyLaw_16 : decode cX3_applyLaw 16 = .ok (.putfield 15, 3) := by decide +kernel
theorem dX3_applyLaw_19 : decode cX3_applyLaw 19 = .ok (.aload_n 0, 1) := by decide +kernel
theorem dX3_applyLaw_20 : decode cX3_applyLaw 20 = .ok (.lconst 0, 1) := by decide +kernel
theorem dX3_applyLaw_21 : decode cX3_applyLaw 21 = .ok (.putfield 19, 3) := by decide +kernel
theorem dX3_applyLaw_24 : decode cX3_applyLaw 24 = .ok (.aload_n 0, 1) := by decide +kernel
theorem dX3_applyLaw_25 : decode cX3_applyLaw 25 = .ok (.lconst 0, 1) := by decide +kernel
theorem dX3_applyLaw_26 : decode cX3_applyLaw 26 = .ok (.putfield 22, 3) := by decide +kernel
theorem dX3_applyLaw_29 : decode cX3_applyLaw 29 = .ok (.iconst 0, 1) := by decide +kernel
theorem dX3_applyLaw_30 : decode cX3_applyLaw 30 = .ok (.istore_n 3, 1) := by decide +kernel
theorem dX3_applyLaw_31 : decode cX3_applyLaw 31 = .ok (.iload_n 3, 1) := by decide +kernel
theorem dX3_applyLaw_32 : decode cX3_applyLaw 32 = .ok (.sipush 1000, 3) := by decide +kernel
theorem dX3_applyLaw_35 : decode cX3_applyLaw 35 = .ok (.if_icmp .ge 29, 3) := by decide +kernel
theorem dX3_applyLaw_38 : decode cX3_applyLaw 38 = .ok (.aload_n 0, 1) := by decide +kernel
theorem dX3_applyLaw_39 : decode cX3_applyLaw 39 = .ok (.aload_n 1, 1) := by decide +kernel
theorem dX3_applyLaw_40 : decode cX3_applyLaw 40 = .ok (.iload_n 3, 1) := by decide +kernel
theorem dX3_applyLaw_41 : decode cX3_applyLaw 41 = .ok (.bipush 100, 2) := by decide +kernel
theorem dX3_applyLaw_43 : decode cX3_applyLaw 43 = .ok (.idiv, 1) := by decide +kernel
theorem dX3_applyLaw_44 : decode cX3_applyLaw 44 = .ok (.iload_n 3, 1) := by decide +kernel
theorem dX3_applyLaw_45 : decode cX3_applyLaw 45 = .ok (.bipush 10, 2) := by decide +kernel
theorem dX3_applyLaw_47 : decode cX3_applyLaw 47 = .ok (.idiv, 1) := by decide +kernel
theorem dX3_applyLaw_48 : decode cX3_applyLaw 48 = .ok (.bipush 10, 2) := by decide +kernel
theorem dX3_applyLaw_50 : decode cX3_applyLaw 50 = .ok (.irem, 1) := by decide +kernel
theorem dX3_applyLaw_51 : decode cX3_applyLaw 51 = .ok (.iload_n 3, 1) := by decide +kernel
theorem dX3_applyLaw_52 : decode cX3_applyLaw 52 = .ok (.bipush 10, 2) := by decide +kernel
theorem dX3_applyLaw_54 : decode cX3_applyLaw 54 = .ok (.irem, 1) := by decide +kernel
theorem dX3_applyLaw_55 : decode cX3_applyLaw 55 = .ok (.invokevirtual 38, 3) := by decide +kernel
theorem dX3_applyLaw_58 : decode cX3_applyLaw 58 = .ok (.iinc 3 1, 3) := by decide +kernel
theorem dX3_applyLaw_61 : decode cX3_applyLaw 61 = .ok (.goto (-30), 3) := by decide +kernel
theorem dX3_applyLaw_64 : decode cX3_applyLaw 64 = .ok (.return_, 1) := by decide +kernel
theorem dX3_ofHundred_0 : decode cX3_ofHundred 0 = .ok (.ldc2_w 42, 3) := by decide +kernel
theorem dX3_ofHundred_3 : decode cX3_ofHundred 3 = .ok (.aload_n 0, 1) := by decide +kernel
theorem dX3_ofHundred_4 : decode cX3_ofHundred 4 = .ok (.getfield 19, 3) := by decide +kernel
theorem dX3_ofHundred_7 : decode cX3_ofHundred 7 = .ok (.lmul, 1) := by decide +kernel
theorem dX3_ofHundred_8 : decode cX3_ofHundred 8 = .ok (.lstore_n 1, 1) := by decide +kernel
theorem dX3_ofHundred_9 : decode cX3_ofHundred 9 = .ok (.lload_n 1, 1) := by decide +kernel
theorem dX3_ofHundred_10 : decode cX3_ofHundred 10 = .ok (.lconst 0, 1) := by decide +kernel
theorem dX3_ofHundred_11 : decode cX3_ofHundred 11 = .ok (.lcmp, 1) := by decide +kernel
theorem dX3_ofHundred_12 : decode cX3_ofHundred 12 = .ok (.ifCond .ne 7, 3) := by decide +kernel
theorem dX3_ofHundred_15 : decode cX3_ofHundred 15 = .ok (.lconst 0, 1) := by decide +kernel
theorem dX3_ofHundred_16 : decode cX3_ofHundred 16 = .ok (.goto 15, 3) := by decide +kernel
theorem dX3_ofHundred_19 : decode cX3_ofHundred 19 = .ok (.ldc2_w 44, 3) := by decide +kernel
theorem dX3_ofHundred_22 : decode cX3_ofHundred 22 = .ok (.lload_n 1, 1) := by decide +kernel
theorem dX3_ofHundred_23 : decode cX3_ofHundred 23 = .ok (.aload_n 0, 1) := by decide +kernel
theorem dX3_ofHundred_24 : decode cX3_ofHundred 24 = .ok (.getfield 22, 3) := by decide +kernel
theorem dX3_ofHundred_27 : decode cX3_ofHundred 27 = .ok (.lsub, 1) := by decide +kernel
theorem dX3_ofHundred_28 : decode cX3_ofHundred 28 = .ok (.lmul, 1) := by decide +kernel
theorem dX3_ofHundred_29 : decode cX3_ofHundred 29 = .ok (.lload_n 1, 1) := by decide +kernel
theorem dX3_ofHundred_30 : decode cX3_ofHundred 30 = .ok (.ldiv, 1) := by decide +kernel
theorem dX3_ofHundred_31 : decode cX3_ofHundred 31 = .ok (.lreturn, 1) := by decide +kernel
theorem dX3_addThree_0 : decode cX3_addThree 0 = .ok (.aload_n 1, 1) := by decide +kernel
theorem dX3_addThree_1 : decode cX3_addThree 1 = .ok (.getfield 46, 3) := by decide +kernel
theorem dX3_addThree_4 : decode cX3_addThree 4 = .ok (.astore 5, 2) := by decide +kernel
theorem dX3_addThree_6 : decode cX3_addThree 6 = .ok (.lconst 0, 1) := by decide +kernel
theorem dX3_addThree_7 : decode cX3_addThree 7 = .ok (.lstore 6, 2) := by decide +kernel
theorem dX3_addThree_9 : decode cX3_addThree 9 = .ok (.lconst 0, 1) := by decide +kernel
theorem dX3_addThree_10 : decode cX3_addThree 10 = .ok (.lstore 8, 2) := by decide +kernel
theorem dX3_addThree_12 : decode cX3_addThree 12 = .ok (.iconst 0, 1) := by decide +kernel
theorem dX3_addThree_13 : decode cX3_addThree 13 = .ok (.istore 10, 2) := by decide +kernel
theorem dX3_addThree_15 : decode cX3_addThree 15 = .ok (.iload 10, 2) := by decide +kernel
theorem dX3_addThree_17 : decode cX3_addThree 17 = .ok (.aload 5, 2) := by decide +kernel
theorem dX3_addThree_19 : decode cX3_addThree 19 = .ok (.getfield 52, 3) := by decide +kernel
theorem dX3_addThree_22 : decode cX3_addThree 22 = .ok (.if_icmp .ge 97, 3) := by decide +kernel
theorem dX3_addThree_25 : decode cX3_addThree 25 = .ok (.iload 10, 2) := by decide +kernel
theorem dX3_addThree_27 : decode cX3_addThree 27 = .ok (.iconst 5, 1) := by decide +kernel
theorem dX3_addThree_28 : decode cX3_addThree 28 = .ok (.if_icmp .ge 91, 3) := by decide +kernel
theorem dX3_addThree_31 : decode cX3_addThree 31 = .ok (.aload 5, 2) := by decide +kernel
theorem dX3_addThree_33 : decode cX3_addThree 33 = .ok (.getfield 57, 3) := by decide +kernel
theorem dX3_addThree_36 : decode cX3_addThree 36 = .ok (.iload 10, 2) := by decide +kernel
theorem dX3_addThree_38 : decode cX3_addThree 38 = .ok (.iaload, 1) := by decide +kernel
theorem dX3_addThree_39 : decode cX3_addThree 39 = .ok (.i2l, 1) := by decide +kernel
theorem dX3_addThree_40 : decode cX3_addThree 40 = .ok (.lstore 11, 2) := by decide +kernel
theorem dX3_addThree_42 : decode cX3_addThree 42 = .ok (.lload 11, 2) := by decide +kernel
theorem dX3_addThree_44 : decode cX3_addThree 44 = .ok (.aload 5, 2) := by decide +kernel
theorem dX3_addThree_46 : decode cX3_addThree 46 = .ok (.iload 10, 2) := by decide +kernel
theorem dX3_addThree_48 : decode cX3_addThree 48 = .ok (.iload_n 2, 1) := by decide +kernel
theorem dX3_addThree_49 : decode cX3_addThree 49 = .ok (.invokevirtual 60, 3) := by decide +kernel
theorem dX3_addThree_52 : decode cX3_addThree 52 = .ok (.i2l, 1) := by decide +kernel
theorem dX3_addThree_53 : decode cX3_addThree 53 = .ok (.lmul, 1) := by decide +kernel
theorem dX3_addThree_54 : decode cX3_addThree 54 = .ok (.lstore 11, 2) := by decide +kernel
theorem dX3_addThree_56 : decode cX3_addThree 56 = .ok (.lload 11, 2) := by decide +kernel
theorem dX3_addThree_58 : decode cX3_addThree 58 = .ok (.aload 5, 2) := by decide +kernel
theorem dX3_addThree_60 : decode cX3_addThree 60 = .ok (.iload 10, 2) := by decide +kernel
theorem dX3_addThree_62 : decode cX3_addThree 62 = .ok (.iload_n 3, 1) := by decide +kernel
theorem dX3_addThree_63 : decode cX3_addThree 63 = .ok (.invokevirtual 60, 3) := by decide +kernel
theorem dX3_addThree_66 : decode cX3_addThree 66 = .ok (.i2l, 1) := by decide +kernel
theorem dX3_addThree_67 : decode cX3_addThree 67 = .ok (.lmul, 1) := by decide +kernel
theorem dX3_addThree_68 : decode cX3_addThree 68 = .ok (.lstore 11, 2) := by decide +kernel
theorem dX3_addThree_70 : decode cX3_addThree 70 = .ok (.lload 11, 2) := by decide +kernel
theorem dX3_addThree_72 : decode cX3_addThree 72 = .ok (.aload 5, 2) := by decide +kernel
theorem dX3_addThree_74 : decode cX3_addThree 74 = .ok (.iload 10, 2) := by decide +kernel
theorem dX3_addThree_76 : decode cX3_addThree 76 = .ok (.iload 4, 2) := by decide +kernel
theorem dX3_addThree_78 : decode cX3_addThree 78 = .ok (.invokevirtual 60, 3) := by decide +kernel
theorem dX3_addThree_81 : decode cX3_addThree 81 = .ok (.i2l, 1) := by decide +kernel
theorem dX3_addThree_82 : decode cX3_addThree 82 = .ok (.lmul, 1) := by decide +kernel
theorem dX3_addThree_83 : decode cX3_addThree 83 = .ok (.lstore 11, 2) := by decide +kernel
theorem dX3_addThree_85 : decode cX3_addThree 85 = .ok (.lload 6, 2) := by decide +kernel
theorem dX3_addThree_87 : decode cX3_addThree 87 = .ok (.lload 11, 2) := by decide +kernel
theorem dX3_addThree_89 : decode cX3_addThree 89 = .ok (.ladd, 1) := by decide +kernel
theorem dX3_addThree_90 : decode cX3_addThree 90 = .ok (.lstore 6, 2) := by decide +kernel
theorem dX3_addThree_92 : decode cX3_addThree 92 = .ok (.lload 8, 2) := by decide +kernel
theorem dX3_addThree_94 : decode cX3_addThree 94 = .ok (.lload 11, 2) := by decide +kernel
theorem dX3_addThree_96 : decode cX3_addThree 96 = .ok (.ldc2_w 64, 3) := by decide +kernel
theorem dX3_addThree_99 : decode cX3_addThree 99 = .ok (.lmul, 1) := by decide +kernel
theorem dX3_addThree_100 : decode cX3_addThree 100 = .ok (.aload 5, 2) := by decide +kernel
theorem dX3_addThree_102 : decode cX3_addThree 102 = .ok (.getfield 66, 3) := by decide +kernel
theorem dX3_addThree_105 : decode cX3_addThree 105 = .ok (.iload 10, 2) := by decide +kernel
theorem dX3_addThree_107 : decode cX3_addThree 107 = .ok (.iaload, 1) := by decide +kernel
theorem dX3_addThree_108 : decode cX3_addThree 108 = .ok (.i2l, 1) := by decide +kernel
theorem dX3_addThree_109 : decode cX3_addThree 109 = .ok (.lmul, 1) := by decide +kernel
theorem dX3_addThree_110 : decode cX3_addThree 110 = .ok (.ladd, 1) := by decide +kernel
theorem dX3_addThree_111 : decode cX3_addThree 111 = .ok (.lstore 8, 2) := by decide +kernel
theorem dX3_addThree_113 : decode cX3_addThree 113 = .ok (.iinc 10 1, 3) := by decide +kernel
theorem dX3_addThree_116 : decode cX3_addThree 116 = .ok (.goto (-101), 3) := by decide +kernel
theorem dX3_addThree_119 : decode cX3_addThree 119 = .ok (.lload 6, 2) := by decide +kernel
theorem dX3_addThree_121 : decode cX3_addThree 121 = .ok (.lconst 0, 1) := by decide +kernel
theorem dX3_addThree_122 : decode cX3_addThree 122 = .ok (.lcmp, 1) := by decide +kernel
theorem dX3_addThree_123 : decode cX3_addThree 123 = .ok (.ifCond .eq 62, 3) := by decide +kernel
theorem dX3_addThree_126 : decode cX3_addThree 126 = .ok (.aload_n 1, 1) := by decide +kernel
theorem dX3_addThree_127 : decode cX3_addThree 127 = .ok (.getfield 69, 3) := by decide +kernel
theorem dX3_addThree_130 : decode cX3_addThree 130 = .ok (.iload_n 2, 1) := by decide +kernel
theorem dX3_addThree_131 : decode cX3_addThree 131 = .ok (.iload_n 3, 1) := by decide +kernel
theorem dX3_addThree_132 : decode cX3_addThree 132 = .ok (.iload 4, 2) := by decide +kernel
theorem dX3_addThree_134 : decode cX3_addThree 134 = .ok (.aload_n 0, 1) := by decide +kernel
theorem dX3_addThree_135 : decode cX3_addThree 135 = .ok (.getfield 9, 3) := by decide +kernel
theorem dX3_addThree_138 : decode cX3_addThree 138 = .ok (.invokevirtual 73, 3) := by decide +kernel
theorem dX3_addThree_141 : decode cX3_addThree 141 = .ok (.ifCond .eq 44, 3) := by decide +kernel
theorem dX3_addThree_144 : decode cX3_addThree 144 = .ok (.aload_n 0, 1) := by decide +kernel
theorem dX3_addThree_145 : decode cX3_addThree 145 = .ok (.dup, 1) := by decide +kernel
theorem dX3_addThree_146 : decode cX3_addThree 146 = .ok (.getfield 15, 3) := by decide +kernel
theorem dX3_addThree_149 : decode cX3_addThree 149 = .ok (.lload 6, 2) := by decide +kernel
theorem dX3_addThree_151 : decode cX3_addThree 151 = .ok (.ladd, 1) := by decide +kernel
theorem dX3_addThree_152 : decode cX3_addThree 152 = .ok (.putfield 15, 3) := by decide +kernel
theorem dX3_addThree_155 : decode cX3_addThree 155 = .ok (.aload_n 0, 1) := by decide +kernel
theorem dX3_addThree_156 : decode cX3_addThree 156 = .ok (.dup, 1) := by decide +kernel
theorem dX3_addThree_157 : decode cX3_addThree 157 = .ok (.getfield 19, 3) := by decide +kernel
theorem dX3_addThree_160 : decode cX3_addThree 160 = .ok (.lload 6, 2) := by decide +kernel
theorem dX3_addThree_162 : decode cX3_addThree 162 = .ok (.iload_n 2, 1) := by decide +kernel
theorem dX3_addThree_163 : decode cX3_addThree 163 = .ok (.iload_n 3, 1) := by decide +kernel
theorem dX3_addThree_164 : decode cX3_addThree 164 = .ok (.iadd, 1) := by decide +kernel
theorem dX3_addThree_165 : decode cX3_addThree 165 = .ok (.iload 4, 2) := by decide +kernel
theorem dX3_addThree_167 : decode cX3_addThree 167 = .ok (.iadd, 1) := by decide +kernel
theorem dX3_addThree_168 : decode cX3_addThree 168 = .ok (.i2l, 1) := by decide +kernel
theorem dX3_addThree_169 : decode cX3_addThree 169 = .ok (.lmul, 1) := by decide +kernel
theorem dX3_addThree_170 : decode cX3_addThree 170 = .ok (.ladd, 1) := by decide +kernel
theorem dX3_addThree_171 : decode cX3_addThree 171 = .ok (.putfield 19, 3) := by decide +kernel
theorem dX3_addThree_174 : decode cX3_addThree 174 = .ok (.aload_n 0, 1) := by decide +kernel
theorem dX3_addThree_175 : decode cX3_addThree 175 = .ok (.dup, 1) := by decide +kernel
theorem dX3_addThree_176 : decode cX3_addThree 176 = .ok (.getfield 22, 3) := by decide +kernel
theorem dX3_addThree_179 : decode cX3_addThree 179 = .ok (.lload 8, 2) := by decide +kernel
theorem dX3_addThree_181 : decode cX3_addThree 181 = .ok (.ladd, 1) := by decide +kernel
theorem dX3_addThree_182 : decode cX3_addThree 182 = .ok (.putfield 22, 3) := by decide +kernel
theorem dX3_addThree_185 : decode cX3_addThree 185 = .ok (.return_, 1) := by decide +kernel
theorem dX3_deal_0 : decode cX3_deal 0 = .ok (.aload_n 0, 1) := by decide +kernel
theorem dX3_deal_1 : decode cX3_deal 1 = .ok (.iload_n 2, 1) := by decide +kernel
theorem dX3_deal_2 : decode cX3_deal 2 = .ok (.putfield 25, 3) := by decide +kernel
theorem dX3_deal_5 : decode cX3_deal 5 = .ok (.aload_n 0, 1) := by decide +kernel
theorem dX3_deal_6 : decode cX3_deal 6 = .ok (.iconst 0, 1) := by decide +kernel
theorem dX3_deal_7 : decode cX3_deal 7 = .ok (.putfield 32, 3) := by decide +kernel
theorem dX3_deal_10 : decode cX3_deal 10 = .ok (.aload_n 0, 1) := by decide +kernel
theorem dX3_deal_11 : decode cX3_deal 11 = .ok (.iconst 0, 1) := by decide +kernel
theorem dX3_deal_12 : decode cX3_deal 12 = .ok (.putfield 35, 3) := by decide +kernel
theorem dX3_deal_15 : decode cX3_deal 15 = .ok (.iconst 0, 1) := by decide +kernel
theorem dX3_deal_16 : decode cX3_deal 16 = .ok (.istore 4, 2) := by decide +kernel
theorem dX3_deal_18 : decode cX3_deal 18 = .ok (.iload 4, 2) := by decide +kernel
theorem dX3_deal_20 : decode cX3_deal 20 = .ok (.iload_n 3, 1) := by decide +kernel
theorem dX3_deal_21 : decode cX3_deal 21 = .ok (.if_icmp .ge 22, 3) := by decide +kernel
theorem dX3_deal_24 : decode cX3_deal 24 = .ok (.iload 4, 2) := by decide +kernel
theorem dX3_deal_26 : decode cX3_deal 26 = .ok (.sipush 500, 3) := by decide +kernel
theorem dX3_deal_29 : decode cX3_deal 29 = .ok (.if_icmp .ge 14, 3) := by decide +kernel
theorem dX3_deal_32 : decode cX3_deal 32 = .ok (.aload_n 0, 1) := by decide +kernel
theorem dX3_deal_33 : decode cX3_deal 33 = .ok (.aload_n 1, 1) := by decide +kernel
theorem dX3_deal_34 : decode cX3_deal 34 = .ok (.invokevirtual 78, 3) := by decide +kernel
theorem dX3_deal_37 : decode cX3_deal 37 = .ok (.iinc 4 1, 3) := by decide +kernel
theorem dX3_deal_40 : decode cX3_deal 40 = .ok (.goto (-22), 3) := by decide +kernel
theorem dX3_deal_43 : decode cX3_deal 43 = .ok (.return_, 1) := by decide +kernel
theorem dX3_dealOnce_0 : decode cX3_dealOnce 0 = .ok (.aload_n 1, 1) := by decide +kernel
theorem dX3_dealOnce_1 : decode cX3_dealOnce 1 = .ok (.getfield 46, 3) := by decide +kernel
theorem dX3_dealOnce_4 : decode cX3_dealOnce 4 = .ok (.aload_n 0, 1) := by decide +kernel
theorem dX3_dealOnce_5 : decode cX3_dealOnce 5 = .ok (.invokevirtual 82, 3) := by decide +kernel
theorem dX3_dealOnce_8 : decode cX3_dealOnce 8 = .ok (.invokestatic 86, 3) := by decide +kernel
theorem dX3_dealOnce_11 : decode cX3_dealOnce 11 = .ok (.istore_n 2, 1) := by decide +kernel
theorem dX3_dealOnce_12 : decode cX3_dealOnce 12 = .ok (.iconst 0, 1) := by decide +kernel
theorem dX3_dealOnce_13 : decode cX3_dealOnce 13 = .ok (.istore_n 3, 1) := by decide +kernel
theorem dX3_dealOnce_14 : decode cX3_dealOnce 14 = .ok (.iload_n 3, 1) := by decide +kernel
theorem dX3_dealOnce_15 : decode cX3_dealOnce 15 = .ok (.aload_n 0, 1) := by decide +kernel
theorem dX3_dealOnce_16 : decode cX3_dealOnce 16 = .ok (.getfield 28, 3) := by decide +kernel
theorem dX3_dealOnce_19 : decode cX3_dealOnce 19 = .ok (.arraylength, 1) := by decide +kernel
theorem dX3_dealOnce_20 : decode cX3_dealOnce 20 = .ok (.if_icmp .ge 30, 3) := by decide +kernel
theorem dX3_dealOnce_23 : decode cX3_dealOnce 23 = .ok (.aload_n 0, 1) := by decide +kernel
theorem dX3_dealOnce_24 : decode cX3_dealOnce 24 = .ok (.getfield 28, 3) := by decide +kernel
theorem dX3_dealOnce_27 : decode cX3_dealOnce 27 = .ok (.iload_n 3, 1) := by decide +kernel
theorem dX3_dealOnce_28 : decode cX3_dealOnce 28 = .ok (.aload_n 1, 1) := by decide +kernel
theorem dX3_dealOnce_29 : decode cX3_dealOnce 29 = .ok (.getfield 46, 3) := by decide +kernel
theorem dX3_dealOnce_32 : decode cX3_dealOnce 32 = .ok (.iload_n 2, 1) := by decide +kernel
theorem dX3_dealOnce_33 : decode cX3_dealOnce 33 = .ok (.aload_n 0, 1) := by decide +kernel
theorem dX3_dealOnce_34 : decode cX3_dealOnce 34 = .ok (.invokevirtual 82, 3) := by decide +kernel
theorem dX3_dealOnce_37 : decode cX3_dealOnce 37 = .ok (.bipush 10, 2) := by decide +kernel
theorem dX3_dealOnce_39 : decode cX3_dealOnce 39 = .ok (.irem, 1) := by decide +kernel
theorem dX3_dealOnce_40 : decode cX3_dealOnce 40 = .ok (.invokevirtual 90, 3) := by decide +kernel
theorem dX3_dealOnce_43 : decode cX3_dealOnce 43 = .ok (.iastore, 1) := by decide +kernel
theorem dX3_dealOnce_44 : decode cX3_dealOnce 44 = .ok (.iinc 3 1, 3) := by decide +kernel
theorem dX3_dealOnce_47 : decode cX3_dealOnce 47 = .ok (.goto (-33), 3) := by decide +kernel
theorem dX3_dealOnce_50 : decode cX3_dealOnce 50 = .ok (.aload_n 1, 1) := by decide +kernel
theorem dX3_dealOnce_51 : decode cX3_dealOnce 51 = .ok (.getfield 69, 3) := by decide +kernel
theorem dX3_dealOnce_54 : decode cX3_dealOnce 54 = .ok (.aload_n 0, 1) := by decide +kernel
theorem dX3_dealOnce_55 : decode cX3_dealOnce 55 = .ok (.getfield 28, 3) := by decide +kernel
theorem dX3_dealOnce_58 : decode cX3_dealOnce 58 = .ok (.iconst 0, 1) := by decide +kernel
theorem dX3_dealOnce_59 : decode cX3_dealOnce 59 = .ok (.iaload, 1) := by decide +kernel
theorem dX3_dealOnce_60 : decode cX3_dealOnce 60 = .ok (.aload_n 0, 1) := by decide +kernel
theorem dX3_dealOnce_61 : decode cX3_dealOnce 61 = .ok (.getfield 28, 3) := by decide +kernel
theorem dX3_dealOnce_64 : decode cX3_dealOnce 64 = .ok (.iconst 1, 1) := by decide +kernel
theorem dX3_dealOnce_65 : decode cX3_dealOnce 65 = .ok (.iaload, 1) := by decide +kernel
theorem dX3_dealOnce_66 : decode cX3_dealOnce 66 = .ok (.aload_n 0, 1) := by decide +kernel
theorem dX3_dealOnce_67 : decode cX3_dealOnce 67 = .ok (.getfield 28, 3) := by decide +kernel
theorem dX3_dealOnce_70 : decode cX3_dealOnce 70 = .ok (.iconst 2, 1) := by decide +kernel
theorem dX3_dealOnce_71 : decode cX3_dealOnce 71 = .ok (.iaload, 1) := by decide +kernel
theorem dX3_dealOnce_72 : decode cX3_dealOnce 72 = .ok (.iconst 0, 1) := by decide +kernel
theorem dX3_dealOnce_73 : decode cX3_dealOnce 73 = .ok (.invokevirtual 73, 3) := by decide +kernel
theorem dX3_dealOnce_76 : decode cX3_dealOnce 76 = .ok (.ifCond .eq 63, 3) := by decide +kernel
theorem dX3_dealOnce_79 : decode cX3_dealOnce 79 = .ok (.aload_n 0, 1) := by decide +kernel
theorem dX3_dealOnce_80 : decode cX3_dealOnce 80 = .ok (.dup, 1) := by decide +kernel
theorem dX3_dealOnce_81 : decode cX3_dealOnce 81 = .ok (.getfield 32, 3) := by decide +kernel
theorem dX3_dealOnce_84 : decode cX3_dealOnce 84 = .ok (.iconst 1, 1) := by decide +kernel
theorem dX3_dealOnce_85 : decode cX3_dealOnce 85 = .ok (.iadd, 1) := by decide +kernel
theorem dX3_dealOnce_86 : decode cX3_dealOnce 86 = .ok (.putfield 32, 3) := by decide +kernel
theorem dX3_dealOnce_89 : decode cX3_dealOnce 89 = .ok (.aload_n 0, 1) := by decide +kernel
theorem dX3_dealOnce_90 : decode cX3_dealOnce 90 = .ok (.dup, 1) := by decide +kernel
theorem dX3_dealOnce_91 : decode cX3_dealOnce 91 = .ok (.getfield 35, 3) := by decide +kernel
theorem dX3_dealOnce_94 : decode cX3_dealOnce 94 = .ok (.aload_n 0, 1) := by decide +kernel
theorem dX3_dealOnce_95 : decode cX3_dealOnce 95 = .ok (.getfield 28, 3) := by decide +kernel
theorem dX3_dealOnce_98 : decode cX3_dealOnce 98 = .ok (.iconst 0, 1) := by decide +kernel
theorem dX3_dealOnce_99 : decode cX3_dealOnce 99 = .ok (.iaload, 1) := by decide +kernel
theorem dX3_dealOnce_100 : decode cX3_dealOnce 100 = .ok (.aload_n 0, 1) := by decide +kernel
theorem dX3_dealOnce_101 : decode cX3_dealOnce 101 = .ok (.getfield 28, 3) := by decide +kernel
theorem dX3_dealOnce_104 : decode cX3_dealOnce 104 = .ok (.iconst 1, 1) := by decide +kernel
theorem dX3_dealOnce_105 : decode cX3_dealOnce 105 = .ok (.iaload, 1) := by decide +kernel
theorem dX3_dealOnce_106 : decode cX3_dealOnce 106 = .ok (.iadd, 1) := by decide +kernel
theorem dX3_dealOnce_107 : decode cX3_dealOnce 107 = .ok (.aload_n 0, 1) := by decide +kernel
theorem dX3_dealOnce_108 : decode cX3_dealOnce 108 = .ok (.getfield 28, 3) := by decide +kernel
theorem dX3_dealOnce_111 : decode cX3_dealOnce 111 = .ok (.iconst 2, 1) := by decide +kernel
theorem dX3_dealOnce_112 : decode cX3_dealOnce 112 = .ok (.iaload, 1) := by decide +kernel
theorem dX3_dealOnce_113 : decode cX3_dealOnce 113 = .ok (.iadd, 1) := by decide +kernel
theorem dX3_dealOnce_114 : decode cX3_dealOnce 114 = .ok (.aload_n 0, 1) := by decide +kernel
theorem dX3_dealOnce_115 : decode cX3_dealOnce 115 = .ok (.getfield 28, 3) := by decide +kernel
theorem dX3_dealOnce_118 : decode cX3_dealOnce 118 = .ok (.iconst 3, 1) := by decide +kernel
theorem dX3_dealOnce_119 : decode cX3_dealOnce 119 = .ok (.iaload, 1) := by decide +kernel
theorem dX3_dealOnce_120 : decode cX3_dealOnce 120 = .ok (.isub, 1) := by decide +kernel
theorem dX3_dealOnce_121 : decode cX3_dealOnce 121 = .ok (.aload_n 0, 1) := by decide +kernel
theorem dX3_dealOnce_122 : decode cX3_dealOnce 122 = .ok (.getfield 28, 3) := by decide +kernel
theorem dX3_dealOnce_125 : decode cX3_dealOnce 125 = .ok (.iconst 4, 1) := by decide +kernel
theorem dX3_dealOnce_126 : decode cX3_dealOnce 126 = .ok (.iaload, 1) := by decide +kernel
theorem dX3_dealOnce_127 : decode cX3_dealOnce 127 = .ok (.isub, 1) := by decide +kernel
theorem dX3_dealOnce_128 : decode cX3_dealOnce 128 = .ok (.aload_n 0, 1) := by decide +kernel
theorem dX3_dealOnce_129 : decode cX3_dealOnce 129 = .ok (.getfield 28, 3) := by decide +kernel
theorem dX3_dealOnce_132 : decode cX3_dealOnce 132 = .ok (.iconst 5, 1) := by decide +kernel
theorem dX3_dealOnce_133 : decode cX3_dealOnce 133 = .ok (.iaload, 1) := by decide +kernel
theorem dX3_dealOnce_134 : decode cX3_dealOnce 134 = .ok (.isub, 1) := by decide +kernel
theorem dX3_dealOnce_135 : decode cX3_dealOnce 135 = .ok (.iadd, 1) := by decide +kernel
theorem dX3_dealOnce_136 : decode cX3_dealOnce 136 = .ok (.putfield 35, 3) := by decide +kernel
theorem dX3_dealOnce_139 : decode cX3_dealOnce 139 = .ok (.return_, 1) := by decide +kernel
theorem dX3_kindBy_0 : decode cX3_kindBy 0 = .ok (.aload_n 0, 1) := by decide +kernel
theorem dX3_kindBy_1 : decode cX3_kindBy 1 = .ok (.getfield 93, 3) := by decide +kernel
theorem dX3_kindBy_4 : decode cX3_kindBy 4 = .ok (.ifCond .le 12, 3) := by decide +kernel
theorem dX3_kindBy_7 : decode cX3_kindBy 7 = .ok (.iload_n 1, 1) := by decide +kernel
theorem dX3_kindBy_8 : decode cX3_kindBy 8 = .ok (.aload_n 0, 1) := by decide +kernel
theorem dX3_kindBy_9 : decode cX3_kindBy 9 = .ok (.getfield 93, 3) := by decide +kernel
theorem dX3_kindBy_12 : decode cX3_kindBy 12 = .ok (.irem, 1) := by decide +kernel
theorem dX3_kindBy_13 : decode cX3_kindBy 13 = .ok (.goto 4, 3) := by decide +kernel
theorem dX3_kindBy_16 : decode cX3_kindBy 16 = .ok (.iconst 0, 1) := by decide +kernel
theorem dX3_kindBy_17 : decode cX3_kindBy 17 = .ok (.istore_n 2, 1) := by decide +kernel
theorem dX3_kindBy_18 : decode cX3_kindBy 18 = .ok (.iconst 0, 1) := by decide +kernel
theorem dX3_kindBy_19 : decode cX3_kindBy 19 = .ok (.istore_n 3, 1) := by decide +kernel
theorem dX3_kindBy_20 : decode cX3_kindBy 20 = .ok (.iconst 0, 1) := by decide +kernel
theorem dX3_kindBy_21 : decode cX3_kindBy 21 = .ok (.istore 4, 2) := by decide +kernel
theorem dX3_kindBy_23 : decode cX3_kindBy 23 = .ok (.iload 4, 2) := by decide +kernel
theorem dX3_kindBy_25 : decode cX3_kindBy 25 = .ok (.aload_n 0, 1) := by decide +kernel
theorem dX3_kindBy_26 : decode cX3_kindBy 26 = .ok (.getfield 52, 3) := by decide +kernel
theorem dX3_kindBy_29 : decode cX3_kindBy 29 = .ok (.if_icmp .ge 33, 3) := by decide +kernel
theorem dX3_kindBy_32 : decode cX3_kindBy 32 = .ok (.iload 4, 2) := by decide +kernel
theorem dX3_kindBy_34 : decode cX3_kindBy 34 = .ok (.iconst 5, 1) := by decide +kernel
theorem dX3_kindBy_35 : decode cX3_kindBy 35 = .ok (.if_icmp .ge 27, 3) := by decide +kernel
theorem dX3_kindBy_38 : decode cX3_kindBy 38 = .ok (.iload_n 3, 1) := by decide +kernel
theorem dX3_kindBy_39 : decode cX3_kindBy 39 = .ok (.aload_n 0, 1) := by decide +kernel
theorem dX3_kindBy_40 : decode cX3_kindBy 40 = .ok (.getfield 57, 3) := by decide +kernel
theorem dX3_kindBy_43 : decode cX3_kindBy 43 = .ok (.iload 4, 2) := by decide +kernel
theorem dX3_kindBy_45 : decode cX3_kindBy 45 = .ok (.iaload, 1) := by decide +kernel
theorem dX3_kindBy_46 : decode cX3_kindBy 46 = .ok (.iadd, 1) := by decide +kernel
theorem dX3_kindBy_47 : decode cX3_kindBy 47 = .ok (.istore_n 3, 1) := by decide +kernel
theorem dX3_kindBy_48 : decode cX3_kindBy 48 = .ok (.iload_n 3, 1) := by decide +kernel
theorem dX3_kindBy_49 : decode cX3_kindBy 49 = .ok (.iload_n 2, 1) := by decide +kernel
theorem dX3_kindBy_50 : decode cX3_kindBy 50 = .ok (.if_icmp .le 6, 3) := by decide +kernel
theorem dX3_kindBy_53 : decode cX3_kindBy 53 = .ok (.iload 4, 2) := by decide +kernel
theorem dX3_kindBy_55 : decode cX3_kindBy 55 = .ok (.ireturn, 1) := by decide +kernel
theorem dX3_kindBy_56 : decode cX3_kindBy 56 = .ok (.iinc 4 1, 3) := by decide +kernel
theorem dX3_kindBy_59 : decode cX3_kindBy 59 = .ok (.goto (-36), 3) := by decide +kernel
theorem dX3_kindBy_62 : decode cX3_kindBy 62 = .ok (.iconst 0, 1) := by decide +kernel
theorem dX3_kindBy_63 : decode cX3_kindBy 63 = .ok (.ireturn, 1) := by decide +kernel
theorem dX3_next_0 : decode cX3_next 0 = .ok (.aload_n 0, 1) := by decide +kernel
theorem dX3_next_1 : decode cX3_next 1 = .ok (.aload_n 0, 1) := by decide +kernel
theorem dX3_next_2 : decode cX3_next 2 = .ok (.getfield 25, 3) := by decide +kernel
theorem dX3_next_5 : decode cX3_next 5 = .ok (.ldc 96, 2) := by decide +kernel
theorem dX3_next_7 : decode cX3_next 7 = .ok (.imul, 1) := by decide +kernel
theorem dX3_next_8 : decode cX3_next 8 = .ok (.sipush 12345, 3) := by decide +kernel
theorem dX3_next_11 : decode cX3_next 11 = .ok (.iadd, 1) := by decide +kernel
theorem dX3_next_12 : decode cX3_next 12 = .ok (.ldc 99, 2) := by decide +kernel
theorem dX3_next_14 : decode cX3_next 14 = .ok (.iand, 1) := by decide +kernel
theorem dX3_next_15 : decode cX3_next 15 = .ok (.putfield 25, 3) := by decide +kernel
theorem dX3_next_18 : decode cX3_next 18 = .ok (.aload_n 0, 1) := by decide +kernel
theorem dX3_next_19 : decode cX3_next 19 = .ok (.getfield 25, 3) := by decide +kernel
theorem dX3_next_22 : decode cX3_next 22 = .ok (.ldc 100, 2) := by decide +kernel
theorem dX3_next_24 : decode cX3_next 24 = .ok (.idiv, 1) := by decide +kernel
theorem dX3_next_25 : decode cX3_next 25 = .ok (.ireturn, 1) := by decide +kernel
theorem dX4_init_0 : decode cX4_init 0 = .ok (.aload_n 0, 1) := by decide +kernel
theorem dX4_init_1 : decode cX4_init 1 = .ok (.invokespecial 3, 3) := by decide +kernel
theorem dX4_init_4 : decode cX4_init 4 = .ok (.aload_n 0, 1) := by decide +kernel
theorem dX4_init_5 : decode cX4_init 5 = .ok (.iconst 0, 1) := by decide +kernel
theorem dX4_init_6 : decode cX4_init 6 = .ok (.putfield 9, 3) := by decide +kernel
theorem dX4_init_9 : decode cX4_init 9 = .ok (.aload_n 0, 1) := by decide +kernel
theorem dX4_init_10 : decode cX4_init 10 = .ok (.iconst (-1), 1) := by decide +kernel
theorem dX4_init_11 : decode cX4_init 11 = .ok (.putfield 15, 3) := by decide +kernel
theorem dX4_init_14 : decode cX4_init 14 = .ok (.aload_n 0, 1) := by decide +kernel
theorem dX4_init_15 : decode cX4_init 15 = .ok (.sipush 150, 3) := by decide +kernel
theorem dX4_init_18 : decode cX4_init 18 = .ok (.newarray .int, 2) := by decide +kernel
theorem dX4_init_20 : decode cX4_init 20 = .ok (.putfield 18, 3) := by decide +kernel
theorem dX4_init_23 : decode cX4_init 23 = .ok (.aload_n 0, 1) := by decide +kernel
theorem dX4_init_24 : decode cX4_init 24 = .ok (.sipush 150, 3) := by decide +kernel
theorem dX4_init_27 : decode cX4_init 27 = .ok (.newarray .int, 2) := by decide +kernel
theorem dX4_init_29 : decode cX4_init 29 = .ok (.putfield 22, 3) := by decide +kernel
theorem dX4_init_32 : decode cX4_init 32 = .ok (.aload_n 0, 1) := by decide +kernel
theorem dX4_init_33 : decode cX4_init 33 = .ok (.sipush 150, 3) := by decide +kernel
theorem dX4_init_36 : decode cX4_init 36 = .ok (.newarray .int, 2) := by decide +kernel
theorem dX4_init_38 : decode cX4_init 38 = .ok (.putfield 25, 3) := by decide +kernel
theorem dX4_init_41 : decode cX4_init 41 = .ok (.aload_n 0, 1) := by decide +kernel
theorem dX4_init_42 : decode cX4_init 42 = .ok (.sipush 150, 3) := by decide +kernel
theorem dX4_init_45 : decode cX4_init 45 = .ok (.newarray .int, 2) := by decide +kernel
theorem dX4_init_47 : decode cX4_init 47 = .ok (.putfield 28, 3) := by decide +kernel
theorem dX4_init_50 : decode cX4_init 50 = .ok (.aload_n 0, 1) := by decide +kernel
theorem dX4_init_51 : decode cX4_init 51 = .ok (.sipush 150, 3) := by decide +kernel
theorem dX4_init_54 : decode cX4_init 54 = .ok (.newarray .boolean, 2) := by decide +kernel
theorem dX4_init_56 : decode cX4_init 56 = .ok (.putfield 31, 3) := by decide +kernel
theorem dX4_init_59 : decode cX4_init 59 = .ok (.aload_n 0, 1) := by decide +kernel
theorem dX4_init_60 : decode cX4_init 60 = .ok (.bipush 108, 2) := by decide +kernel
theorem dX4_init_62 : decode cX4_init 62 = .ok (.newarray .int, 2) := by decide +kernel
theorem dX4_init_64 : decode cX4_init 64 = .ok (.putfield 35, 3) := by decide +kernel
theorem dX4_init_67 : decode cX4_init 67 = .ok (.iconst 0, 1) := by decide +kernel
theorem dX4_init_68 : decode cX4_init 68 = .ok (.istore_n 1, 1) := by decide +kernel
theorem dX4_init_69 : decode cX4_init 69 = .ok (.iload_n 1, 1) := by decide +kernel
theorem dX4_init_70 : decode cX4_init 70 = .ok (.bipush 108, 2) := by decide +kernel
theorem dX4_init_72 : decode cX4_init 72 = .ok (.if_icmp .ge 16, 3) := by decide +kernel
theorem dX4_init_75 : decode cX4_init 75 = .ok (.aload_n 0, 1) := by decide +kernel
theorem dX4_init_76 : decode cX4_init 76 = .ok (.getfield 35, 3) := by decide +kernel
theorem dX4_init_79 : decode cX4_init 79 = .ok (.iload_n 1, 1) := by decide +kernel
theorem dX4_init_80 : decode cX4_init 80 = .ok (.iconst (-1), 1) := by decide +kernel
theorem dX4_init_81 : decode cX4_init 81 = .ok (.iastore, 1) := by decide +kernel
theorem dX4_init_82 : decode cX4_init 82 = .ok (.iinc 1 1, 3) := by decide +kernel
theorem dX4_init_85 : decode cX4_init 85 = .ok (.goto (-16), 3) := by decide +kernel
theorem dX4_init_88 : decode cX4_init 88 = .ok (.return_, 1) := by decide +kernel
theorem dX4_clear_0 : decode cX4_clear 0 = .ok (.aload_n 0, 1) := by decide +kernel
theorem dX4_clear_1 : decode cX4_clear 1 = .ok (.iconst 0, 1) := by decide +kernel
theorem dX4_clear_2 : decode cX4_clear 2 = .ok (.putfield 9, 3) := by decide +kernel
theorem dX4_clear_5 : decode cX4_clear 5 = .ok (.aload_n 0, 1) := by decide +kernel
theorem dX4_clear_6 : decode cX4_clear 6 = .ok (.iconst (-1), 1) := by decide +kernel
theorem dX4_clear_7 : decode cX4_clear 7 = .ok (.putfield 15, 3) := by decide +kernel
theorem dX4_clear_10 : decode cX4_clear 10 = .ok (.aload_n 0, 1) := by decide +kernel
theorem dX4_clear_11 : decode cX4_clear 11 = .ok (.invokevirtual 38, 3) := by decide +kernel
theorem dX4_clear_14 : decode cX4_clear 14 = .ok (.return_, 1) := by decide +kernel
theorem dX4_add_0 : decode cX4_add 0 = .ok (.aload_n 0, 1) := by decide +kernel
theorem dX4_add_1 : decode cX4_add 1 = .ok (.getfield 9, 3) := by decide +kernel
theorem dX4_add_4 : decode cX4_add 4 = .ok (.istore 5, 2) := by decide +kernel
theorem dX4_add_6 : decode cX4_add 6 = .ok (.iload 5, 2) := by decide +kernel
theorem dX4_add_8 : decode cX4_add 8 = .ok (.ifCond .lt 11, 3) := by decide +kernel
theorem dX4_add_11 : decode cX4_add 11 = .ok (.iload 5, 2) := by decide +kernel
theorem dX4_add_13 : decode cX4_add 13 = .ok (.sipush 150, 3) := by decide +kernel
theorem dX4_add_16 : decode cX4_add 16 = .ok (.if_icmp .lt 5, 3) := by decide +kernel
theorem dX4_add_19 : decode cX4_add 19 = .ok (.iconst (-1), 1) := by decide +kernel
theorem dX4_add_20 : decode cX4_add 20 = .ok (.ireturn, 1) := by decide +kernel
theorem dX4_add_21 : decode cX4_add 21 = .ok (.aload_n 0, 1) := by decide +kernel
theorem dX4_add_22 : decode cX4_add 22 = .ok (.getfield 18, 3) := by decide +kernel
theorem dX4_add_25 : decode cX4_add 25 = .ok (.iload 5, 2) := by decide +kernel
theorem dX4_add_27 : decode cX4_add 27 = .ok (.iload_n 1, 1) := by decide +kernel
theorem dX4_add_28 : decode cX4_add 28 = .ok (.iastore, 1) := by decide +kernel
theorem dX4_add_29 : decode cX4_add 29 = .ok (.aload_n 0, 1) := by decide +kernel
theorem dX4_add_30 : decode cX4_add 30 = .ok (.getfield 22, 3) := by decide +kernel
theorem dX4_add_33 : decode cX4_add 33 = .ok (.iload 5, 2) := by decide +kernel
theorem dX4_add_35 : decode cX4_add 35 = .ok (.iload_n 2, 1) := by decide +kernel
theorem dX4_add_36 : decode cX4_add 36 = .ok (.iastore, 1) := by decide +kernel
theorem dX4_add_37 : decode cX4_add 37 = .ok (.aload_n 0, 1) := by decide +kernel
theorem dX4_add_38 : decode cX4_add 38 = .ok (.getfield 25, 3) := by decide +kernel
theorem dX4_add_41 : decode cX4_add 41 = .ok (.iload 5, 2) := by decide +kernel
theorem dX4_add_43 : decode cX4_add 43 = .ok (.iload_n 3, 1) := by decide +kernel
theorem dX4_add_44 : decode cX4_add 44 = .ok (.iastore, 1) := by decide +kernel
theorem dX4_add_45 : decode cX4_add 45 = .ok (.aload_n 0, 1) := by decide +kernel
theorem dX4_add_46 : decode cX4_add 46 = .ok (.getfield 28, 3) := by decide +kernel
theorem dX4_add_49 : decode cX4_add 49 = .ok (.iload 5, 2) := by decide +kernel
theorem dX4_add_51 : decode cX4_add 51 = .ok (.iload 4, 2) := by decide +kernel
theorem dX4_add_53 : decode cX4_add 53 = .ok (.iastore, 1) := by decide +kernel
theorem dX4_add_54 : decode cX4_add 54 = .ok (.aload_n 0, 1) := by decide +kernel
theorem dX4_add_55 : decode cX4_add 55 = .ok (.iload 5, 2) := by decide +kernel
theorem dX4_add_57 : decode cX4_add 57 = .ok (.iconst 1, 1) := by decide +kernel
theorem dX4_add_58 : decode cX4_add 58 = .ok (.iadd, 1) := by decide +kernel
theorem dX4_add_59 : decode cX4_add 59 = .ok (.putfield 9, 3) := by decide +kernel
theorem dX4_add_62 : decode cX4_add 62 = .ok (.aload_n 0, 1) := by decide +kernel
theorem dX4_add_63 : decode cX4_add 63 = .ok (.getfield 15, 3) := by decide +kernel
theorem dX4_add_66 : decode cX4_add 66 = .ok (.iconst (-1), 1) := by decide +kernel
theorem dX4_add_67 : decode cX4_add 67 = .ok (.if_icmp .ne 12, 3) := by decide +kernel
theorem dX4_add_70 : decode cX4_add 70 = .ok (.aload_n 0, 1) := by decide +kernel
theorem dX4_add_71 : decode cX4_add 71 = .ok (.iload_n 1, 1) := by decide +kernel
theorem dX4_add_72 : decode cX4_add 72 = .ok (.iload_n 2, 1) := by decide +kernel
theorem dX4_add_73 : decode cX4_add 73 = .ok (.iload_n 3, 1) := by decide +kernel
theorem dX4_add_74 : decode cX4_add 74 = .ok (.iload 4, 2) := by decide +kernel
theorem dX4_add_76 : decode cX4_add 76 = .ok (.invokevirtual 41, 3) := by decide +kernel
theorem dX4_add_79 : decode cX4_add 79 = .ok (.iload 5, 2) := by decide +kernel
theorem dX4_add_81 : decode cX4_add 81 = .ok (.ireturn, 1) := by decide +kernel
theorem dX4_putLatest_0 : decode cX4_putLatest 0 = .ok (.iload_n 1, 1) := by decide +kernel
theorem dX4_putLatest_1 : decode cX4_putLatest 1 = .ok (.iconst 0, 1) := by decide +kernel
theorem dX4_putLatest_2 : decode cX4_putLatest 2 = .ok (.bipush 11, 2) := by decide +kernel
theorem dX4_putLatest_4 : decode cX4_putLatest 4 = .ok (.invokestatic 45, 3) := by decide +kernel
theorem dX4_putLatest_7 : decode cX4_putLatest 7 = .ok (.ifCond .eq 17, 3) := by decide +kernel
theorem dX4_putLatest_10 : decode cX4_putLatest 10 = .ok (.iload_n 2, 1) := by decide +kernel
theorem dX4_putLatest_11 : decode cX4_putLatest 11 = .ok (.iconst 0, 1) := by decide +kernel
theorem dX4_putLatest_12 : decode cX4_putLatest 12 = .ok (.bipush 8, 2) := by decide +kernel
theorem dX4_putLatest_14 : decode cX4_putLatest 14 = .ok (.invokestatic 45, 3) := by decide +kernel
theorem dX4_putLatest_17 : decode cX4_putLatest 17 = .ok (.ifCond .eq 7, 3) := by decide +kernel
theorem dX4_putLatest_20 : decode cX4_putLatest 20 = .ok (.iconst 1, 1) := by decide +kernel
theorem dX4_putLatest_21 : decode cX4_putLatest 21 = .ok (.goto 4, 3) := by decide +kernel
theorem dX4_putLatest_24 : decode cX4_putLatest 24 = .ok (.iconst 0, 1) := by decide +kernel
theorem dX4_putLatest_25 : decode cX4_putLatest 25 = .ok (.istore 5, 2) := by decide +kernel
theorem dX4_putLatest_27 : decode cX4_putLatest 27 = .ok (.iload 4, 2) := by decide +kernel
theorem dX4_putLatest_29 : decode cX4_putLatest 29 = .ok (.iconst (-1), 1) := by decide +kernel
theorem dX4_putLatest_30 : decode cX4_putLatest 30 = .ok (.if_icmp .ne 23, 3) := by decide +kernel
theorem dX4_putLatest_33 : decode cX4_putLatest 33 = .ok (.iload 5, 2) := by decide +kernel
theorem dX4_putLatest_35 : decode cX4_putLatest 35 = .ok (.ifCond .eq 18, 3) := by decide +kernel
theorem dX4_putLatest_38 : decode cX4_putLatest 38 = .ok (.aload_n 0, 1) := by decide +kernel
theorem dX4_putLatest_39 : decode cX4_putLatest 39 = .ok (.getfield 35, 3) := by decide +kernel
theorem dX4_putLatest_42 : decode cX4_putLatest 42 = .ok (.iload_n 1, 1) := by decide +kernel
theorem dX4_putLatest_43 : decode cX4_putLatest 43 = .ok (.bipush 9, 2) := by decide +kernel
theorem dX4_putLatest_45 : decode cX4_putLatest 45 = .ok (.imul, 1) := by decide +kernel
theorem dX4_putLatest_46 : decode cX4_putLatest 46 = .ok (.iload_n 2, 1) := by decide +kernel
theorem dX4_putLatest_47 : decode cX4_putLatest 47 = .ok (.iadd, 1) := by decide +kernel
theorem dX4_putLatest_48 : decode cX4_putLatest 48 = .ok (.iload_n 3, 1) := by decide +kernel
theorem dX4_putLatest_49 : decode cX4_putLatest 49 = .ok (.iastore, 1) := by decide +kernel
theorem dX4_putLatest_50 : decode cX4_putLatest 50 = .ok (.goto 7, 3) := by decide +kernel
theorem dX4_putLatest_53 : decode cX4_putLatest 53 = .ok (.aload_n 0, 1) := by decide +kernel
theorem dX4_putLatest_54 : decode cX4_putLatest 54 = .ok (.invokevirtual 38, 3) := by decide +kernel
theorem dX4_putLatest_57 : decode cX4_putLatest 57 = .ok (.return_, 1) := by decide +kernel
theorem dX4_limitTo_0 : decode cX4_limitTo 0 = .ok (.aload_n 0, 1) := by decide +kernel
theorem dX4_limitTo_1 : decode cX4_limitTo 1 = .ok (.iload_n 1, 1) := by decide +kernel
theorem dX4_limitTo_2 : decode cX4_limitTo 2 = .ok (.putfield 15, 3) := by decide +kernel
theorem dX4_limitTo_5 : decode cX4_limitTo 5 = .ok (.aload_n 0, 1) := by decide +kernel
theorem dX4_limitTo_6 : decode cX4_limitTo 6 = .ok (.invokevirtual 38, 3) := by decide +kernel
theorem dX4_limitTo_9 : decode cX4_limitTo 9 = .ok (.return_, 1) := by decide +kernel
theorem dX4_byHowMany_0 : decode cX4_byHowMany 0 = .ok (.aload_n 0, 1) := by decide +kernel
theorem dX4_byHowMany_1 : decode cX4_byHowMany 1 = .ok (.getfield 15, 3) := by decide +kernel
theorem dX4_byHowMany_4 : decode cX4_byHowMany 4 = .ok (.iconst (-1), 1) := by decide +kernel
theorem dX4_byHowMany_5 : decode cX4_byHowMany 5 = .ok (.if_icmp .ne 10, 3) := by decide +kernel
theorem dX4_byHowMany_8 : decode cX4_byHowMany 8 = .ok (.aload_n 0, 1) := by decide +kernel
theorem dX4_byHowMany_9 : decode cX4_byHowMany 9 = .ok (.getfield 9, 3) := by decide +kernel
theorem dX4_byHowMany_12 : decode cX4_byHowMany 12 = .ok (.goto 7, 3) := by decide +kernel
theorem dX4_byHowMany_15 : decode cX4_byHowMany 15 = .ok (.aload_n 0, 1) := by decide +kernel
theorem dX4_byHowMany_16 : decode cX4_byHowMany 16 = .ok (.getfield 15, 3) := by decide +kernel
theorem dX4_byHowMany_19 : decode cX4_byHowMany 19 = .ok (.ireturn, 1) := by decide +kernel
theorem dX4_at_0 : decode cX4_at 0 = .ok (.iload_n 1, 1) := by decide +kernel
theorem dX4_at_1 : decode cX4_at 1 = .ok (.ifCond .lt 23, 3) := by decide +kernel
theorem dX4_at_4 : decode cX4_at 4 = .ok (.iload_n 1, 1) := by decide +kernel
theorem dX4_at_5 : decode cX4_at 5 = .ok (.bipush 12, 2) := by decide +kernel
theorem dX4_at_7 : decode cX4_at 7 = .ok (.if_icmp .ge 17, 3) := by decide +kernel
theorem dX4_at_10 : decode cX4_at 10 = .ok (.iload_n 2, 1) := by decide +kernel
theorem dX4_at_11 : decode cX4_at 11 = .ok (.ifCond .lt 13, 3) := by decide +kernel
theorem dX4_at_14 : decode cX4_at 14 = .ok (.iload_n 2, 1) := by decide +kernel
theorem dX4_at_15 : decode cX4_at 15 = .ok (.bipush 9, 2) := by decide +kernel
theorem dX4_at_17 : decode cX4_at 17 = .ok (.if_icmp .ge 7, 3) := by decide +kernel
theorem dX4_at_20 : decode cX4_at 20 = .ok (.iconst 1, 1) := by decide +kernel
theorem dX4_at_21 : decode cX4_at 21 = .ok (.goto 4, 3) := by decide +kernel
theorem dX4_at_24 : decode cX4_at 24 = .ok (.iconst 0, 1) := by decide +kernel
theorem dX4_at_25 : decode cX4_at 25 = .ok (.istore_n 3, 1) := by decide +kernel
theorem dX4_at_26 : decode cX4_at 26 = .ok (.iload_n 3, 1) := by decide +kernel
theorem dX4_at_27 : decode cX4_at 27 = .ok (.ifCond .eq 17, 3) := by decide +kernel
theorem dX4_at_30 : decode cX4_at 30 = .ok (.aload_n 0, 1) := by decide +kernel
theorem dX4_at_31 : decode cX4_at 31 = .ok (.getfield 35, 3) := by decide +kernel
theorem dX4_at_34 : decode cX4_at 34 = .ok (.iload_n 1, 1) := by decide +kernel
theorem dX4_at_35 : decode cX4_at 35 = .ok (.bipush 9, 2) := by decide +kernel
theorem dX4_at_37 : decode cX4_at 37 = .ok (.imul, 1) := by decide +kernel
theorem dX4_at_38 : decode cX4_at 38 = .ok (.iload_n 2, 1) := by decide +kernel
theorem dX4_at_39 : decode cX4_at 39 = .ok (.iadd, 1) := by decide +kernel
theorem dX4_at_40 : decode cX4_at 40 = .ok (.iaload, 1) := by decide +kernel
theorem dX4_at_41 : decode cX4_at 41 = .ok (.goto 4, 3) := by decide +kernel
theorem dX4_at_44 : decode cX4_at 44 = .ok (.iconst (-1), 1) := by decide +kernel
theorem dX4_at_45 : decode cX4_at 45 = .ok (.ireturn, 1) := by decide +kernel
theorem dX4_sumOf_0 : decode cX4_sumOf 0 = .ok (.iconst 0, 1) := by decide +kernel
theorem dX4_sumOf_1 : decode cX4_sumOf 1 = .ok (.istore 4, 2) := by decide +kernel
theorem dX4_sumOf_3 : decode cX4_sumOf 3 = .ok (.iconst 0, 1) := by decide +kernel
theorem dX4_sumOf_4 : decode cX4_sumOf 4 = .ok (.istore 5, 2) := by decide +kernel
theorem dX4_sumOf_6 : decode cX4_sumOf 6 = .ok (.iload 5, 2) := by decide +kernel
theorem dX4_sumOf_8 : decode cX4_sumOf 8 = .ok (.iload_n 3, 1) := by decide +kernel
theorem dX4_sumOf_9 : decode cX4_sumOf 9 = .ok (.if_icmp .ge 42, 3) := by decide +kernel
theorem dX4_sumOf_12 : decode cX4_sumOf 12 = .ok (.iload 5, 2) := by decide +kernel
theorem dX4_sumOf_14 : decode cX4_sumOf 14 = .ok (.bipush 9, 2) := by decide +kernel
theorem dX4_sumOf_16 : decode cX4_sumOf 16 = .ok (.if_icmp .ge 35, 3) := by decide +kernel
theorem dX4_sumOf_19 : decode cX4_sumOf 19 = .ok (.aload_n 0, 1) := by decide +kernel
theorem dX4_sumOf_20 : decode cX4_sumOf 20 = .ok (.iload_n 1, 1) := by decide +kernel
theorem dX4_sumOf_21 : decode cX4_sumOf 21 = .ok (.iload_n 2, 1) := by decide +kernel
theorem dX4_sumOf_22 : decode cX4_sumOf 22 = .ok (.iload 5, 2) := by decide +kernel
theorem dX4_sumOf_24 : decode cX4_sumOf 24 = .ok (.iadd, 1) := by decide +kernel
theorem dX4_sumOf_25 : decode cX4_sumOf 25 = .ok (.invokevirtual 49, 3) := by decide +kernel
theorem dX4_sumOf_28 : decode cX4_sumOf 28 = .ok (.istore 6, 2) := by decide +kernel
theorem dX4_sumOf_30 : decode cX4_sumOf 30 = .ok (.iload 6, 2) := by decide +kernel
theorem dX4_sumOf_32 : decode cX4_sumOf 32 = .ok (.iconst (-1), 1) := by decide +kernel
theorem dX4_sumOf_33 : decode cX4_sumOf 33 = .ok (.if_icmp .ne 5, 3) := by decide +kernel
theorem dX4_sumOf_36 : decode cX4_sumOf 36 = .ok (.iconst (-1), 1) := by decide +kernel
theorem dX4_sumOf_37 : decode cX4_sumOf 37 = .ok (.ireturn, 1) := by decide +kernel
theorem dX4_sumOf_38 : decode cX4_sumOf 38 = .ok (.iload 4, 2) := by decide +kernel
theorem dX4_sumOf_40 : decode cX4_sumOf 40 = .ok (.iload 6, 2) := by decide +kernel
theorem dX4_sumOf_42 : decode cX4_sumOf 42 = .ok (.iadd, 1) := by decide +kernel
theorem dX4_sumOf_43 : decode cX4_sumOf 43 = .ok (.istore 4, 2) := by decide +kernel
theorem dX4_sumOf_45 : decode cX4_sumOf 45 = .ok (.iinc 5 1, 3) := by decide +kernel
theorem dX4_sumOf_48 : decode cX4_sumOf 48 = .ok (.goto (-42), 3) := by decide +kernel
theorem dX4_sumOf_51 : decode cX4_sumOf 51 = .ok (.iload 4, 2) := by decide +kernel
theorem dX4_sumOf_53 : decode cX4_sumOf 53 = .ok (.ireturn, 1) := by decide +kernel
theorem dX4_latestYear_0 : decode cX4_latestYear 0 = .ok (.bipush 8, 2) := by decide +kernel
theorem dX4_latestYear_2 : decode cX4_latestYear 2 = .ok (.istore_n 1, 1) := by decide +kernel
theorem dX4_latestYear_3 : decode cX4_latestYear 3 = .ok (.iload_n 1, 1) := by decide +kernel
theorem dX4_latestYear_4 : decode cX4_latestYear 4 = .ok (.ifCond .lt 35, 3) := by decide +kernel
theorem dX4_latestYear_7 : decode cX4_latestYear 7 = .ok (.iconst 0, 1) := by decide +kernel
theorem dX4_latestYear_8 : decode cX4_latestYear 8 = .ok (.istore_n 2, 1) := by decide +kernel
theorem dX4_latestYear_9 : decode cX4_latestYear 9 = .ok (.iload_n 2, 1) := by decide +kernel
theorem dX4_latestYear_10 : decode cX4_latestYear 10 = .ok (.bipush 12, 2) := by decide +kernel
theorem dX4_latestYear_12 : decode cX4_latestYear 12 = .ok (.if_icmp .ge 21, 3) := by decide +kernel
theorem dX4_latestYear_15 : decode cX4_latestYear 15 = .ok (.aload_n 0, 1) := by decide +kernel
theorem dX4_latestYear_16 : decode cX4_latestYear 16 = .ok (.iload_n 2, 1) := by decide +kernel
theorem dX4_latestYear_17 : decode cX4_latestYear 17 = .ok (.iload_n 1, 1) := by decide +kernel
theorem dX4_latestYear_18 : decode cX4_latestYear 18 = .ok (.invokevirtual 49, 3) := by decide +kernel
theorem dX4_latestYear_21 : decode cX4_latestYear 21 = .ok (.iconst (-1), 1) := by decide +kernel
theorem dX4_latestYear_22 : decode cX4_latestYear 22 = .ok (.if_icmp .eq 5, 3) := by decide +kernel
theorem dX4_latestYear_25 : decode cX4_latestYear 25 = .ok (.iload_n 1, 1) := by decide +kernel
theorem dX4_latestYear_26 : decode cX4_latestYear 26 = .ok (.ireturn, 1) := by decide +kernel
theorem dX4_latestYear_27 : decode cX4_latestYear 27 = .ok (.iinc 2 1, 3) := by decide +kernel
theorem dX4_latestYear_30 : decode cX4_latestYear 30 = .ok (.goto (-21), 3) := by decide +kernel
theorem dX4_latestYear_33 : decode cX4_latestYear 33 = .ok (.iinc 1 (-1), 3) := by decide +kernel
theorem dX4_latestYear_36 : decode cX4_latestYear 36 = .ok (.goto (-33), 3) := by decide +kernel
theorem dX4_latestYear_39 : decode cX4_latestYear 39 = .ok (.iconst (-1), 1) := by decide +kernel
theorem dX4_latestYear_40 : decode cX4_latestYear 40 = .ok (.ireturn, 1) := by decide +kernel
theorem dX4_refresh_0 : decode cX4_refresh 0 = .ok (.aload_n 0, 1) := by decide +kernel
theorem dX4_refresh_1 : decode cX4_refresh 1 = .ok (.invokevirtual 53, 3) := by decide +kernel
theorem dX4_refresh_4 : decode cX4_refresh 4 = .ok (.sipush 150, 3) := by decide +kernel
theorem dX4_refresh_7 : decode cX4_refresh 7 = .ok (.invokestatic 57, 3) := by decide +kernel
theorem dX4_refresh_10 : decode cX4_refresh 10 = .ok (.istore_n 1, 1) := by decide +kernel
theorem dX4_refresh_11 : decode cX4_refresh 11 = .ok (.aload_n 0, 1) := by decide +kernel
theorem dX4_refresh_12 : decode cX4_refresh 12 = .ok (.iload_n 1, 1) := by decide +kernel
theorem dX4_refresh_13 : decode cX4_refresh 13 = .ok (.invokevirtual 62, 3) := by decide +kernel
theorem dX4_refresh_16 : decode cX4_refresh 16 = .ok (.iconst 0, 1) := by decide +kernel
theorem dX4_refresh_17 : decode cX4_refresh 17 = .ok (.istore_n 2, 1) := by decide +kernel
theorem dX4_refresh_18 : decode cX4_refresh 18 = .ok (.iload_n 2, 1) := by decide +kernel
theorem dX4_refresh_19 : decode cX4_refresh 19 = .ok (.bipush 108, 2) := by decide +kernel
theorem dX4_refresh_21 : decode cX4_refresh 21 = .ok (.if_icmp .ge 16, 3) := by decide +kernel
theorem dX4_refresh_24 : decode cX4_refresh 24 = .ok (.aload_n 0, 1) := by decide +kernel
theorem dX4_refresh_25 : decode cX4_refresh 25 = .ok (.getfield 35, 3) := by decide +kernel
theorem dX4_refresh_28 : decode cX4_refresh 28 = .ok (.iload_n 2, 1) := by decide +kernel
theorem dX4_refresh_29 : decode cX4_refresh 29 = .ok (.iconst (-1), 1) := by decide +kernel
theorem dX4_refresh_30 : decode cX4_refresh 30 = .ok (.iastore, 1) := by decide +kernel
theorem dX4_refresh_31 : decode cX4_refresh 31 = .ok (.iinc 2 1, 3) := by decide +kernel
theorem dX4_refresh_34 : decode cX4_refresh 34 = .ok (.goto (-16), 3) := by decide +kernel
theorem dX4_refresh_37 : decode cX4_refresh 37 = .ok (.iconst 0, 1) := by decide +kernel
theorem dX4_refresh_38 : decode cX4_refresh 38 = .ok (.istore_n 2, 1) := by decide +kernel
theorem dX4_refresh_39 : decode cX4_refresh 39 = .ok (.iload_n 2, 1) := by decide +kernel
theorem dX4_refresh_40 : decode cX4_refresh 40 = .ok (.iload_n 1, 1) := by decide +kernel
theorem dX4_refresh_41 : decode cX4_refresh 41 = .ok (.if_icmp .ge 85, 3) := by decide +kernel
theorem dX4_refresh_44 : decode cX4_refresh 44 = .ok (.aload_n 0, 1) := by decide +kernel
theorem dX4_refresh_45 : decode cX4_refresh 45 = .ok (.getfield 18, 3) := by decide +kernel
theorem dX4_refresh_48 : decode cX4_refresh 48 = .ok (.iload_n 2, 1) := by decide +kernel
theorem dX4_refresh_49 : decode cX4_refresh 49 = .ok (.iaload, 1) := by decide +kernel
theorem dX4_refresh_50 : decode cX4_refresh 50 = .ok (.iconst 0, 1) := by decide +kernel
theorem dX4_refresh_51 : decode cX4_refresh 51 = .ok (.bipush 11, 2) := by decide +kernel
theorem dX4_refresh_53 : decode cX4_refresh 53 = .ok (.invokestatic 45, 3) := by decide +kernel
theorem dX4_refresh_56 : decode cX4_refresh 56 = .ok (.ifCond .eq 22, 3) := by decide +kernel
theorem dX4_refresh_59 : decode cX4_refresh 59 = .ok (.aload_n 0, 1) := by decide +kernel
theorem dX4_refresh_60 : decode cX4_refresh 60 = .ok (.getfield 22, 3) := by decide +kernel
theorem dX4_refresh_63 : decode cX4_refresh 63 = .ok (.iload_n 2, 1) := by decide +kernel
theorem dX4_refresh_64 : decode cX4_refresh 64 = .ok (.iaload, 1) := by decide +kernel
theorem dX4_refresh_65 : decode cX4_refresh 65 = .ok (.iconst 0, 1) := by decide +kernel
theorem dX4_refresh_66 : decode cX4_refresh 66 = .ok (.bipush 8, 2) := by decide +kernel
theorem dX4_refresh_68 : decode cX4_refresh 68 = .ok (.invokestatic 45, 3) := by decide +kernel
theorem dX4_refresh_71 : decode cX4_refresh 71 = .ok (.ifCond .eq 7, 3) := by decide +kernel
theorem dX4_refresh_74 : decode cX4_refresh 74 = .ok (.iconst 1, 1) := by decide +kernel
theorem dX4_refresh_75 : decode cX4_refresh 75 = .ok (.goto 4, 3) := by decide +kernel
theorem dX4_refresh_78 : decode cX4_refresh 78 = .ok (.iconst 0, 1) := by decide +kernel
theorem dX4_refresh_79 : decode cX4_refresh 79 = .ok (.istore_n 3, 1) := by decide +kernel
theorem dX4_refresh_80 : decode cX4_refresh 80 = .ok (.iload_n 3, 1) := by decide +kernel
theorem dX4_refresh_81 : decode cX4_refresh 81 = .ok (.ifCond .eq 39, 3) := by decide +kernel
theorem dX4_refresh_84 : decode cX4_refresh 84 = .ok (.aload_n 0, 1) := by decide +kernel
theorem dX4_refresh_85 : decode cX4_refresh 85 = .ok (.getfield 31, 3) := by decide +kernel
theorem dX4_refresh_88 : decode cX4_refresh 88 = .ok (.iload_n 2, 1) := by decide +kernel
theorem dX4_refresh_89 : decode cX4_refresh 89 = .ok (.baload, 1) := by decide +kernel
theorem dX4_refresh_90 : decode cX4_refresh 90 = .ok (.ifCond .ne 30, 3) := by decide +kernel
theorem dX4_refresh_93 : decode cX4_refresh 93 = .ok (.aload_n 0, 1) := by decide +kernel
theorem dX4_refresh_94 : decode cX4_refresh 94 = .ok (.getfield 35, 3) := by decide +kernel
theorem dX4_refresh_97 : decode cX4_refresh 97 = .ok (.aload_n 0, 1) := by decide +kernel
theorem dX4_refresh_98 : decode cX4_refresh 98 = .ok (.getfield 18, 3) := by decide +kernel
theorem dX4_refresh_101 : decode cX4_refresh 101 = .ok (.iload_n 2, 1) := by decide +kernel
theorem dX4_refresh_102 : decode cX4_refresh 102 = .ok (.iaload, 1) := by decide +kernel
theorem dX4_refresh_103 : decode cX4_refresh 103 = .ok (.bipush 9, 2) := by decide +kernel
theorem dX4_refresh_105 : decode cX4_refresh 105 = .ok (.imul, 1) := by decide +kernel
theorem dX4_refresh_106 : decode cX4_refresh 106 = .ok (.aload_n 0, 1) := by decide +kernel
theorem dX4_refresh_107 : decode cX4_refresh 107 = .ok (.getfield 22, 3) := by decide +kernel
theorem dX4_refresh_110 : decode cX4_refresh 110 = .ok (.iload_n 2, 1) := by decide +kernel
theorem dX4_refresh_111 : decode cX4_refresh 111 = .ok (.iaload, 1) := by decide +kernel
theorem dX4_refresh_112 : decode cX4_refresh 112 = .ok (.iadd, 1) := by decide +kernel
theorem dX4_refresh_113 : decode cX4_refresh 113 = .ok (.aload_n 0, 1) := by decide +kernel
theorem dX4_refresh_114 : decode cX4_refresh 114 = .ok (.getfield 25, 3) := by decide +kernel
theorem dX4_refresh_117 : decode cX4_refresh 117 = .ok (.iload_n 2, 1) := by decide +kernel
theorem dX4_refresh_118 : decode cX4_refresh 118 = .ok (.iaload, 1) := by decide +kernel
theorem dX4_refresh_119 : decode cX4_refresh 119 = .ok (.iastore, 1) := by decide +kernel
theorem dX4_refresh_120 : decode cX4_refresh 120 = .ok (.iinc 2 1, 3) := by decide +kernel
theorem dX4_refresh_123 : decode cX4_refresh 123 = .ok (.goto (-84), 3) := by decide +kernel
theorem dX4_refresh_126 : decode cX4_refresh 126 = .ok (.return_, 1) := by decide +kernel
theorem dX4_findStruck_0 : decode cX4_findStruck 0 = .ok (.iconst 0, 1) := by decide +kernel
theorem dX4_findStruck_1 : decode cX4_findStruck 1 = .ok (.istore_n 2, 1) := by decide +kernel
theorem dX4_findStruck_2 : decode cX4_findStruck 2 = .ok (.iload_n 2, 1) := by decide +kernel
theorem dX4_findStruck_3 : decode cX4_findStruck 3 = .ok (.sipush 150, 3) := by decide +kernel
theorem dX4_findStruck_6 : decode cX4_findStruck 6 = .ok (.if_icmp .ge 16, 3) := by decide +kernel
theorem dX4_findStruck_9 : decode cX4_findStruck 9 = .ok (.aload_n 0, 1) := by decide +kernel
theorem dX4_findStruck_10 : decode cX4_findStruck 10 = .ok (.getfield 31, 3) := by decide +kernel
theorem dX4_findStruck_13 : decode cX4_findStruck 13 = .ok (.iload_n 2, 1) := by decide +kernel
theorem dX4_findStruck_14 : decode cX4_findStruck 14 = .ok (.iconst 0, 1) := by decide +kernel
theorem dX4_findStruck_15 : decode cX4_findStruck 15 = .ok (.bastore, 1) := by decide +kernel
theorem dX4_findStruck_16 : decode cX4_findStruck 16 = .ok (.iinc 2 1, 3) := by decide +kernel
theorem dX4_findStruck_19 : decode cX4_findStruck 19 = .ok (.goto (-17), 3) := by decide +kernel
theorem dX4_findStruck_22 : decode cX4_findStruck 22 = .ok (.iload_n 1, 1) := by decide +kernel
theorem dX4_findStruck_23 : decode cX4_findStruck 23 = .ok (.sipush 150, 3) := by decide +kernel
theorem dX4_findStruck_26 : decode cX4_findStruck 26 = .ok (.invokestatic 57, 3) := by decide +kernel
theorem dX4_findStruck_29 : decode cX4_findStruck 29 = .ok (.iconst 1, 1) := by decide +kernel
theorem dX4_findStruck_30 : decode cX4_findStruck 30 = .ok (.isub, 1) := by decide +kernel
theorem dX4_findStruck_31 : decode cX4_findStruck 31 = .ok (.istore_n 2, 1) := by decide +kernel
theorem dX4_findStruck_32 : decode cX4_findStruck 32 = .ok (.iload_n 2, 1) := by decide +kernel
theorem dX4_findStruck_33 : decode cX4_findStruck 33 = .ok (.ifCond .lt 43, 3) := by decide +kernel
theorem dX4_findStruck_36 : decode cX4_findStruck 36 = .ok (.aload_n 0, 1) := by decide +kernel
theorem dX4_findStruck_37 : decode cX4_findStruck 37 = .ok (.getfield 28, 3) := by decide +kernel
theorem dX4_findStruck_40 : decode cX4_findStruck 40 = .ok (.iload_n 2, 1) := by decide +kernel
theorem dX4_findStruck_41 : decode cX4_findStruck 41 = .ok (.iaload, 1) := by decide +kernel
theorem dX4_findStruck_42 : decode cX4_findStruck 42 = .ok (.istore_n 3, 1) := by decide +kernel
theorem dX4_findStruck_43 : decode cX4_findStruck 43 = .ok (.aload_n 0, 1) := by decide +kernel
theorem dX4_findStruck_44 : decode cX4_findStruck 44 = .ok (.getfield 31, 3) := by decide +kernel
theorem dX4_findStruck_47 : decode cX4_findStruck 47 = .ok (.iload_n 2, 1) := by decide +kernel
theorem dX4_findStruck_48 : decode cX4_findStruck 48 = .ok (.baload, 1) := by decide +kernel
theorem dX4_findStruck_49 : decode cX4_findStruck 49 = .ok (.ifCond .ne 21, 3) := by decide +kernel
theorem dX4_findStruck_52 : decode cX4_findStruck 52 = .ok (.iload_n 3, 1) := by decide +kernel
theorem dX4_findStruck_53 : decode cX4_findStruck 53 = .ok (.ifCond .lt 17, 3) := by decide +kernel
theorem dX4_findStruck_56 : decode cX4_findStruck 56 = .ok (.iload_n 3, 1) := by decide +kernel
theorem dX4_findStruck_57 : decode cX4_findStruck 57 = .ok (.sipush 150, 3) := by decide +kernel
theorem dX4_findStruck_60 : decode cX4_findStruck 60 = .ok (.if_icmp .ge 10, 3) := by decide +kernel
theorem dX4_findStruck_63 : decode cX4_findStruck 63 = .ok (.aload_n 0, 1) := by decide +kernel
theorem dX4_findStruck_64 : decode cX4_findStruck 64 = .ok (.getfield 31, 3) := by decide +kernel
theorem dX4_findStruck_67 : decode cX4_findStruck 67 = .ok (.iload_n 3, 1) := by decide +kernel
theorem dX4_findStruck_68 : decode cX4_findStruck 68 = .ok (.iconst 1, 1) := by decide +kernel
theorem dX4_findStruck_69 : decode cX4_findStruck 69 = .ok (.bastore, 1) := by decide +kernel
theorem dX4_findStruck_70 : decode cX4_findStruck 70 = .ok (.iinc 2 (-1), 3) := by decide +kernel
theorem dX4_findStruck_73 : decode cX4_findStruck 73 = .ok (.goto (-41), 3) := by decide +kernel
theorem dX4_findStruck_76 : decode cX4_findStruck 76 = .ok (.return_, 1) := by decide +kernel
theorem dX5_init_0 : decode cX5_init 0 = .ok (.aload_n 0, 1) := by decide +kernel
theorem dX5_init_1 : decode cX5_init 1 = .ok (.invokespecial 3, 3) := by decide +kernel
theorem dX5_init_4 : decode cX5_init 4 = .ok (.aload_n 0, 1) := by decide +kernel
theorem dX5_init_5 : decode cX5_init 5 = .ok (.iconst 5, 1) := by decide +kernel
theorem dX5_init_6 : decode cX5_init 6 = .ok (.newarray .long, 2) := by decide +kernel
theorem dX5_init_8 : decode cX5_init 8 = .ok (.putfield 9, 3) := by decide +kernel
theorem dX5_init_11 : decode cX5_init 11 = .ok (.aload_n 0, 1) := by decide +kernel
theorem dX5_init_12 : decode cX5_init 12 = .ok (.iconst 5, 1) := by decide +kernel
theorem dX5_init_13 : decode cX5_init 13 = .ok (.newarray .long, 2) := by decide +kernel
theorem dX5_init_15 : decode cX5_init 15 = .ok (.putfield 15, 3) := by decide +kernel
theorem dX5_init_18 : decode cX5_init 18 = .ok (.aload_n 0, 1) := by decide +kernel
theorem dX5_init_19 : decode cX5_init 19 = .ok (.lconst 0, 1) := by decide +kernel
theorem dX5_init_20 : decode cX5_init 20 = .ok (.putfield 18, 3) := by decide +kernel
theorem dX5_init_23 : decode cX5_init 23 = .ok (.aload_n 0, 1) := by decide +kernel
theorem dX5_init_24 : decode cX5_init 24 = .ok (.lconst 0, 1) := by decide +kernel
theorem dX5_init_25 : decode cX5_init 25 = .ok (.putfield 22, 3) := by decide +kernel
theorem dX5_init_28 : decode cX5_init 28 = .ok (.aload_n 0, 1) := by decide +kernel
theorem dX5_init_29 : decode cX5_init 29 = .ok (.iconst 0, 1) := by decide +kernel
theorem dX5_init_30 : decode cX5_init 30 = .ok (.putfield 25, 3) := by decide +kernel
theorem dX5_init_33 : decode cX5_init 33 = .ok (.aload_n 0, 1) := by decide +kernel
theorem dX5_init_34 : decode cX5_init 34 = .ok (.iconst 0, 1) := by decide +kernel
theorem dX5_init_35 : decode cX5_init 35 = .ok (.putfield 29, 3) := by decide +kernel
theorem dX5_init_38 : decode cX5_init 38 = .ok (.return_, 1) := by decide +kernel
theorem dX5_weigh_0 : decode cX5_weigh 0 = .ok (.iload_n 2, 1) := by decide +kernel
theorem dX5_weigh_1 : decode cX5_weigh 1 = .ok (.ifCond .lt 8, 3) := by decide +kernel
theorem dX5_weigh_4 : decode cX5_weigh 4 = .ok (.iload_n 2, 1) := by decide +kernel
theorem dX5_weigh_5 : decode cX5_weigh 5 = .ok (.iconst 5, 1) := by decide +kernel
theorem dX5_weigh_6 : decode cX5_weigh 6 = .ok (.if_icmp .lt 5, 3) := by decide +kernel
theorem dX5_weigh_9 : decode cX5_weigh 9 = .ok (.lconst 0, 1) := by decide +kernel
theorem dX5_weigh_10 : decode cX5_weigh 10 = .ok (.lreturn, 1) := by decide +kernel
theorem dX5_weigh_11 : decode cX5_weigh 11 = .ok (.aload_n 1, 1) := by decide +kernel
theorem dX5_weigh_12 : decode cX5_weigh 12 = .ok (.getfield 32, 3) := by decide +kernel
theorem dX5_weigh_15 : decode cX5_weigh 15 = .ok (.getfield 38, 3) := by decide +kernel
theorem dX5_weigh_18 : decode cX5_weigh 18 = .ok (.iload_n 2, 1) := by decide +kernel
theorem dX5_weigh_19 : decode cX5_weigh 19 = .ok (.iaload, 1) := by decide +kernel
theorem dX5_weigh_20 : decode cX5_weigh 20 = .ok (.i2l, 1) := by decide +kernel
theorem dX5_weigh_21 : decode cX5_weigh 21 = .ok (.lstore 6, 2) := by decide +kernel
theorem dX5_weigh_23 : decode cX5_weigh 23 = .ok (.iload 4, 2) := by decide +kernel
theorem dX5_weigh_25 : decode cX5_weigh 25 = .ok (.istore 8, 2) := by decide +kernel
theorem dX5_weigh_27 : decode cX5_weigh 27 = .ok (.iload 8, 2) := by decide +kernel
theorem dX5_weigh_29 : decode cX5_weigh 29 = .ok (.iload 5, 2) := by decide +kernel
theorem dX5_weigh_31 : decode cX5_weigh 31 = .ok (.if_icmp .gt 50, 3) := by decide +kernel
theorem dX5_weigh_34 : decode cX5_weigh 34 = .ok (.iload 8, 2) := by decide +kernel
theorem dX5_weigh_36 : decode cX5_weigh 36 = .ok (.bipush 9, 2) := by decide +kernel
theorem dX5_weigh_38 : decode cX5_weigh 38 = .ok (.if_icmp .ge 43, 3) := by decide +kernel
theorem dX5_weigh_41 : decode cX5_weigh 41 = .ok (.aload_n 1, 1) := by decide +kernel
theorem dX5_weigh_42 : decode cX5_weigh 42 = .ok (.getfield 44, 3) := by decide +kernel
theorem dX5_weigh_45 : decode cX5_weigh 45 = .ok (.iload_n 3, 1) := by decide +kernel
theorem dX5_weigh_46 : decode cX5_weigh 46 = .ok (.iload 8, 2) := by decide +kernel
theorem dX5_weigh_48 : decode cX5_weigh 48 = .ok (.invokevirtual 48, 3) := by decide +kernel
theorem dX5_weigh_51 : decode cX5_weigh 51 = .ok (.istore 9, 2) := by decide +kernel
theorem dX5_weigh_53 : decode cX5_weigh 53 = .ok (.iload 9, 2) := by decide +kernel
theorem dX5_weigh_55 : decode cX5_weigh 55 = .ok (.iconst (-1), 1) := by decide +kernel
theorem dX5_weigh_56 : decode cX5_weigh 56 = .ok (.if_icmp .eq 19, 3) := by decide +kernel
theorem dX5_weigh_59 : decode cX5_weigh 59 = .ok (.lload 6, 2) := by decide +kernel
theorem dX5_weigh_61 : decode cX5_weigh 61 = .ok (.aload_n 1, 1) := by decide +kernel
theorem dX5_weigh_62 : decode cX5_weigh 62 = .ok (.getfield 32, 3) := by decide +kernel
theorem dX5_weigh_65 : decode cX5_weigh 65 = .ok (.iload_n 2, 1) := by decide +kernel
theorem dX5_weigh_66 : decode cX5_weigh 66 = .ok (.iload 9, 2) := by decide +kernel
theorem dX5_weigh_68 : decode cX5_weigh 68 = .ok (.invokevirtual 54, 3) := by decide +kernel
theorem dX5_weigh_71 : decode cX5_weigh 71 = .ok (.i2l, 1) := by decide +kernel
theorem dX5_weigh_72 : decode cX5_weigh 72 = .ok (.lmul, 1) := by decide +kernel
theorem dX5_weigh_73 : decode cX5_weigh 73 = .ok (.lstore 6, 2) := by decide +kernel
theorem dX5_weigh_75 : decode cX5_weigh 75 = .ok (.iinc 8 1, 3) := by decide +kernel
theorem dX5_weigh_78 : decode cX5_weigh 78 = .ok (.goto (-51), 3) := by decide +kernel
theorem dX5_weigh_81 : decode cX5_weigh 81 = .ok (.lload 6, 2) := by decide +kernel
theorem dX5_weigh_83 : decode cX5_weigh 83 = .ok (.lreturn, 1) := by decide +kernel
theorem dX5_seekRate_0 : decode cX5_seekRate 0 = .ok (.aload_n 0, 1) := by decide +kernel
theorem dX5_seekRate_1 : decode cX5_seekRate 1 = .ok (.aload_n 0, 1) := by decide +kernel
theorem dX5_seekRate_2 : decode cX5_seekRate 2 = .ok (.getfield 9, 3) := by decide +kernel
theorem dX5_seekRate_5 : decode cX5_seekRate 5 = .ok (.aload_n 1, 1) := by decide +kernel
theorem dX5_seekRate_6 : decode cX5_seekRate 6 = .ok (.iload_n 2, 1) := by decide +kernel
theorem dX5_seekRate_7 : decode cX5_seekRate 7 = .ok (.iload_n 3, 1) := by decide +kernel
theorem dX5_seekRate_8 : decode cX5_seekRate 8 = .ok (.iload 4, 2) := by decide +kernel
theorem dX5_seekRate_10 : decode cX5_seekRate 10 = .ok (.invokevirtual 57, 3) := by decide +kernel
theorem dX5_seekRate_13 : decode cX5_seekRate 13 = .ok (.lstore 5, 2) := by decide +kernel
theorem dX5_seekRate_15 : decode cX5_seekRate 15 = .ok (.lconst 0, 1) := by decide +kernel
theorem dX5_seekRate_16 : decode cX5_seekRate 16 = .ok (.lstore 7, 2) := by decide +kernel
theorem dX5_seekRate_18 : decode cX5_seekRate 18 = .ok (.iconst 0, 1) := by decide +kernel
theorem dX5_seekRate_19 : decode cX5_seekRate 19 = .ok (.istore 9, 2) := by decide +kernel
theorem dX5_seekRate_21 : decode cX5_seekRate 21 = .ok (.iload 9, 2) := by decide +kernel
theorem dX5_seekRate_23 : decode cX5_seekRate 23 = .ok (.iconst 5, 1) := by decide +kernel
theorem dX5_seekRate_24 : decode cX5_seekRate 24 = .ok (.if_icmp .ge 33, 3) := by decide +kernel
theorem dX5_seekRate_27 : decode cX5_seekRate 27 = .ok (.lload 7, 2) := by decide +kernel
theorem dX5_seekRate_29 : decode cX5_seekRate 29 = .ok (.aload_n 0, 1) := by decide +kernel
theorem dX5_seekRate_30 : decode cX5_seekRate 30 = .ok (.getfield 9, 3) := by decide +kernel
theorem dX5_seekRate_33 : decode cX5_seekRate 33 = .ok (.iload 9, 2) := by decide +kernel
theorem dX5_seekRate_35 : decode cX5_seekRate 35 = .ok (.laload, 1) := by decide +kernel
theorem dX5_seekRate_36 : decode cX5_seekRate 36 = .ok (.aload_n 1, 1) := by decide +kernel
theorem dX5_seekRate_37 : decode cX5_seekRate 37 = .ok (.getfield 32, 3) := by decide +kernel
theorem dX5_seekRate_40 : decode cX5_seekRate 40 = .ok (.getfield 61, 3) := by decide +kernel
theorem dX5_seekRate_43 : decode cX5_seekRate 43 = .ok (.iload 9, 2) := by decide +kernel
theorem dX5_seekRate_45 : decode cX5_seekRate 45 = .ok (.iaload, 1) := by decide +kernel
theorem dX5_seekRate_46 : decode cX5_seekRate 46 = .ok (.i2l, 1) := by decide +kernel
theorem dX5_seekRate_47 : decode cX5_seekRate 47 = .ok (.lmul, 1) := by decide +kernel
theorem dX5_seekRate_48 : decode cX5_seekRate 48 = .ok (.ladd, 1) := by decide +kernel
theorem dX5_seekRate_49 : decode cX5_seekRate 49 = .ok (.lstore 7, 2) := by decide +kernel
theorem dX5_seekRate_51 : decode cX5_seekRate 51 = .ok (.iinc 9 1, 3) := by decide +kernel
theorem dX5_seekRate_54 : decode cX5_seekRate 54 = .ok (.goto (-33), 3) := by decide +kernel
theorem dX5_seekRate_57 : decode cX5_seekRate 57 = .ok (.aload_n 0, 1) := by decide +kernel
theorem dX5_seekRate_58 : decode cX5_seekRate 58 = .ok (.lload 7, 2) := by decide +kernel
theorem dX5_seekRate_60 : decode cX5_seekRate 60 = .ok (.ldc2_w 64, 3) := by decide +kernel
theorem dX5_seekRate_63 : decode cX5_seekRate 63 = .ok (.lload 5, 2) := by decide +kernel
theorem dX5_seekRate_65 : decode cX5_seekRate 65 = .ok (.lmul, 1) := by decide +kernel
theorem dX5_seekRate_66 : decode cX5_seekRate 66 = .ok (.invokevirtual 66, 3) := by decide +kernel
theorem dX5_seekRate_69 : decode cX5_seekRate 69 = .ok (.return_, 1) := by decide +kernel
theorem dX5_seekSpan_0 : decode cX5_seekSpan 0 = .ok (.aload_n 0, 1) := by decide +kernel
theorem dX5_seekSpan_1 : decode cX5_seekSpan 1 = .ok (.aload_n 0, 1) := by decide +kernel
theorem dX5_seekSpan_2 : decode cX5_seekSpan 2 = .ok (.getfield 9, 3) := by decide +kernel
theorem dX5_seekSpan_5 : decode cX5_seekSpan 5 = .ok (.aload_n 1, 1) := by decide +kernel
theorem dX5_seekSpan_6 : decode cX5_seekSpan 6 = .ok (.iload_n 2, 1) := by decide +kernel
theorem dX5_seekSpan_7 : decode cX5_seekSpan 7 = .ok (.iload_n 3, 1) := by decide +kernel
theorem dX5_seekSpan_8 : decode cX5_seekSpan 8 = .ok (.iload 4, 2) := by decide +kernel
theorem dX5_seekSpan_10 : decode cX5_seekSpan 10 = .ok (.invokevirtual 57, 3) := by decide +kernel
theorem dX5_seekSpan_13 : decode cX5_seekSpan 13 = .ok (.lstore 5, 2) := by decide +kernel
theorem dX5_seekSpan_15 : decode cX5_seekSpan 15 = .ok (.lconst 0, 1) := by decide +kernel
theorem dX5_seekSpan_16 : decode cX5_seekSpan 16 = .ok (.lstore 7, 2) := by decide +kernel
theorem dX5_seekSpan_18 : decode cX5_seekSpan 18 = .ok (.iconst 0, 1) := by decide +kernel
theorem dX5_seekSpan_19 : decode cX5_seekSpan 19 = .ok (.istore 9, 2) := by decide +kernel
theorem dX5_seekSpan_21 : decode cX5_seekSpan 21 = .ok (.iconst 0, 1) := by decide +kernel
theorem dX5_seekSpan_22 : decode cX5_seekSpan 22 = .ok (.istore 10, 2) := by decide +kernel
theorem dX5_seekSpan_24 : decode cX5_seekSpan 24 = .ok (.iload 10, 2) := by decide +kernel
theorem dX5_seekSpan_26 : decode cX5_seekSpan 26 = .ok (.iconst 5, 1) := by decide +kernel
theorem dX5_seekSpan_27 : decode cX5_seekSpan 27 = .ok (.if_icmp .ge 112, 3) := by decide +kernel
theorem dX5_seekSpan_30 : decode cX5_seekSpan 30 = .ok (.ldc2_w 70, 3) := by decide +kernel
theorem dX5_seekSpan_33 : decode cX5_seekSpan 33 = .ok (.lload 7, 2) := by decide +kernel
theorem dX5_seekSpan_35 : decode cX5_seekSpan 35 = .ok (.lmul, 1) := by decide +kernel
theorem dX5_seekSpan_36 : decode cX5_seekSpan 36 = .ok (.ldc2_w 72, 3) := by decide +kernel
theorem dX5_seekSpan_39 : decode cX5_seekSpan 39 = .ok (.lload 5, 2) := by decide +kernel
theorem dX5_seekSpan_41 : decode cX5_seekSpan 41 = .ok (.lmul, 1) := by decide +kernel
theorem dX5_seekSpan_42 : decode cX5_seekSpan 42 = .ok (.lcmp, 1) := by decide +kernel
theorem dX5_seekSpan_43 : decode cX5_seekSpan 43 = .ok (.ifCond .ge 96, 3) := by decide +kernel
theorem dX5_seekSpan_46 : decode cX5_seekSpan 46 = .ok (.aload_n 0, 1) := by decide +kernel
theorem dX5_seekSpan_47 : decode cX5_seekSpan 47 = .ok (.invokevirtual 74, 3) := by decide +kernel
theorem dX5_seekSpan_50 : decode cX5_seekSpan 50 = .ok (.istore 11, 2) := by decide +kernel
theorem dX5_seekSpan_52 : decode cX5_seekSpan 52 = .ok (.aload_n 1, 1) := by decide +kernel
theorem dX5_seekSpan_53 : decode cX5_seekSpan 53 = .ok (.getfield 32, 3) := by decide +kernel
theorem dX5_seekSpan_56 : decode cX5_seekSpan 56 = .ok (.getfield 61, 3) := by decide +kernel
theorem dX5_seekSpan_59 : decode cX5_seekSpan 59 = .ok (.iload 11, 2) := by decide +kernel
theorem dX5_seekSpan_61 : decode cX5_seekSpan 61 = .ok (.iaload, 1) := by decide +kernel
theorem dX5_seekSpan_62 : decode cX5_seekSpan 62 = .ok (.istore 12, 2) := by decide +kernel
theorem dX5_seekSpan_64 : decode cX5_seekSpan 64 = .ok (.aload_n 0, 1) := by decide +kernel
theorem dX5_seekSpan_65 : decode cX5_seekSpan 65 = .ok (.iload 9, 2) := by decide +kernel
theorem dX5_seekSpan_67 : decode cX5_seekSpan 67 = .ok (.ifCond .eq 15, 3) := by decide +kernel
theorem dX5_seekSpan_70 : decode cX5_seekSpan 70 = .ok (.aload_n 0, 1) := by decide +kernel
theorem dX5_seekSpan_71 : decode cX5_seekSpan 71 = .ok (.getfield 25, 3) := by decide +kernel
theorem dX5_seekSpan_74 : decode cX5_seekSpan 74 = .ok (.iload 12, 2) := by decide +kernel
theorem dX5_seekSpan_76 : decode cX5_seekSpan 76 = .ok (.invokestatic 78, 3) := by decide +kernel
theorem dX5_seekSpan_79 : decode cX5_seekSpan 79 = .ok (.goto 5, 3) := by decide +kernel
theorem dX5_seekSpan_82 : decode cX5_seekSpan 82 = .ok (.iload 12, 2) := by decide +kernel
theorem dX5_seekSpan_84 : decode cX5_seekSpan 84 = .ok (.putfield 25, 3) := by decide +kernel
theorem dX5_seekSpan_87 : decode cX5_seekSpan 87 = .ok (.aload_n 0, 1) := by decide +kernel
theorem dX5_seekSpan_88 : decode cX5_seekSpan 88 = .ok (.iload 9, 2) := by decide +kernel
theorem dX5_seekSpan_90 : decode cX5_seekSpan 90 = .ok (.ifCond .eq 15, 3) := by decide +kernel
theorem dX5_seekSpan_93 : decode cX5_seekSpan 93 = .ok (.aload_n 0, 1) := by decide +kernel
theorem dX5_seekSpan_94 : decode cX5_seekSpan 94 = .ok (.getfield 29, 3) := by decide +kernel
theorem dX5_seekSpan_97 : decode cX5_seekSpan 97 = .ok (.iload 12, 2) := by decide +kernel
theorem dX5_seekSpan_99 : decode cX5_seekSpan 99 = .ok (.invokestatic 83, 3) := by decide +kernel
theorem dX5_seekSpan_102 : decode cX5_seekSpan 102 = .ok (.goto 5, 3) := by decide +kernel
theorem dX5_seekSpan_105 : decode cX5_seekSpan 105 = .ok (.iload 12, 2) := by decide +kernel
theorem dX5_seekSpan_107 : decode cX5_seekSpan 107 = .ok (.putfield 29, 3) := by decide +kernel
theorem dX5_seekSpan_110 : decode cX5_seekSpan 110 = .ok (.iconst 1, 1) := by decide +kernel
theorem dX5_seekSpan_111 : decode cX5_seekSpan 111 = .ok (.istore 9, 2) := by decide +kernel
theorem dX5_seekSpan_113 : decode cX5_seekSpan 113 = .ok (.lload 7, 2) := by decide +kernel
theorem dX5_seekSpan_115 : decode cX5_seekSpan 115 = .ok (.aload_n 0, 1) := by decide +kernel
theorem dX5_seekSpan_116 : decode cX5_seekSpan 116 = .ok (.getfield 9, 3) := by decide +kernel
theorem dX5_seekSpan_119 : decode cX5_seekSpan 119 = .ok (.iload 11, 2) := by decide +kernel
theorem dX5_seekSpan_121 : decode cX5_seekSpan 121 = .ok (.laload, 1) := by decide +kernel
theorem dX5_seekSpan_122 : decode cX5_seekSpan 122 = .ok (.ladd, 1) := by decide +kernel
theorem dX5_seekSpan_123 : decode cX5_seekSpan 123 = .ok (.lstore 7, 2) := by decide +kernel
theorem dX5_seekSpan_125 : decode cX5_seekSpan 125 = .ok (.aload_n 0, 1) := by decide +kernel
theorem dX5_seekSpan_126 : decode cX5_seekSpan 126 = .ok (.getfield 9, 3) := by decide +kernel
theorem dX5_seekSpan_129 : decode cX5_seekSpan 129 = .ok (.iload 11, 2) := by decide +kernel
theorem dX5_seekSpan_131 : decode cX5_seekSpan 131 = .ok (.lconst 0, 1) := by decide +kernel
theorem dX5_seekSpan_132 : decode cX5_seekSpan 132 = .ok (.lastore, 1) := by decide +kernel
theorem dX5_seekSpan_133 : decode cX5_seekSpan 133 = .ok (.iinc 10 1, 3) := by decide +kernel
theorem dX5_seekSpan_136 : decode cX5_seekSpan 136 = .ok (.goto (-112), 3) := by decide +kernel
theorem dX5_seekSpan_139 : decode cX5_seekSpan 139 = .ok (.iload 9, 2) := by decide +kernel
theorem dX5_seekSpan_141 : decode cX5_seekSpan 141 = .ok (.ireturn, 1) := by decide +kernel
theorem dX5_compare_0 : decode cX5_compare 0 = .ok (.aload_n 0, 1) := by decide +kernel
theorem dX5_compare_1 : decode cX5_compare 1 = .ok (.aload_n 0, 1) := by decide +kernel
theorem dX5_compare_2 : decode cX5_compare 2 = .ok (.getfield 9, 3) := by decide +kernel
theorem dX5_compare_5 : decode cX5_compare 5 = .ok (.aload_n 1, 1) := by decide +kernel
theorem dX5_compare_6 : decode cX5_compare 6 = .ok (.iload_n 2, 1) := by decide +kernel
theorem dX5_compare_7 : decode cX5_compare 7 = .ok (.iload 4, 2) := by decide +kernel
theorem dX5_compare_9 : decode cX5_compare 9 = .ok (.iload 5, 2) := by decide +kernel
theorem dX5_compare_11 : decode cX5_compare 11 = .ok (.invokevirtual 57, 3) := by decide +kernel
theorem dX5_compare_14 : decode cX5_compare 14 = .ok (.lstore 6, 2) := by decide +kernel
theorem dX5_compare_16 : decode cX5_compare 16 = .ok (.aload_n 0, 1) := by decide +kernel
theorem dX5_compare_17 : decode cX5_compare 17 = .ok (.aload_n 0, 1) := by decide +kernel
theorem dX5_compare_18 : decode cX5_compare 18 = .ok (.getfield 15, 3) := by decide +kernel
theorem dX5_compare_21 : decode cX5_compare 21 = .ok (.aload_n 1, 1) := by decide +kernel
theorem dX5_compare_22 : decode cX5_compare 22 = .ok (.iload_n 3, 1) := by decide +kernel
theorem dX5_compare_23 : decode cX5_compare 23 = .ok (.iload 4, 2) := by decide +kernel
theorem dX5_compare_25 : decode cX5_compare 25 = .ok (.iload 5, 2) := by decide +kernel
theorem dX5_compare_27 : decode cX5_compare 27 = .ok (.invokevirtual 57, 3) := by decide +kernel
theorem dX5_compare_30 : decode cX5_compare 30 = .ok (.lstore 8, 2) := by decide +kernel
theorem dX5_compare_32 : decode cX5_compare 32 = .ok (.lconst 0, 1) := by decide +kernel
theorem dX5_compare_33 : decode cX5_compare 33 = .ok (.lstore 10, 2) := by decide +kernel
theorem dX5_compare_35 : decode cX5_compare 35 = .ok (.iconst 0, 1) := by decide +kernel
theorem dX5_compare_36 : decode cX5_compare 36 = .ok (.istore 12, 2) := by decide +kernel
theorem dX5_compare_38 : decode cX5_compare 38 = .ok (.iload 12, 2) := by decide +kernel
theorem dX5_compare_40 : decode cX5_compare 40 = .ok (.iconst 5, 1) := by decide +kernel
theorem dX5_compare_41 : decode cX5_compare 41 = .ok (.if_icmp .ge 67, 3) := by decide +kernel
theorem dX5_compare_44 : decode cX5_compare 44 = .ok (.iconst 0, 1) := by decide +kernel
theorem dX5_compare_45 : decode cX5_compare 45 = .ok (.istore 13, 2) := by decide +kernel
theorem dX5_compare_47 : decode cX5_compare 47 = .ok (.iload 13, 2) := by decide +kernel
theorem dX5_compare_49 : decode cX5_compare 49 = .ok (.iconst 5, 1) := by decide +kernel
theorem dX5_compare_50 : decode cX5_compare 50 = .ok (.if_icmp .ge 52, 3) := by decide +kernel
theorem dX5_compare_53 : decode cX5_compare 53 = .ok (.aload_n 1, 1) := by decide +kernel
theorem dX5_compare_54 : decode cX5_compare 54 = .ok (.getfield 32, 3) := by decide +kernel
theorem dX5_compare_57 : decode cX5_compare 57 = .ok (.getfield 61, 3) := by decide +kernel
theorem dX5_compare_60 : decode cX5_compare 60 = .ok (.iload 12, 2) := by decide +kernel
theorem dX5_compare_62 : decode cX5_compare 62 = .ok (.iaload, 1) := by decide +kernel
theorem dX5_compare_63 : decode cX5_compare 63 = .ok (.aload_n 1, 1) := by decide +kernel
theorem dX5_compare_64 : decode cX5_compare 64 = .ok (.getfield 32, 3) := by decide +kernel
theorem dX5_compare_67 : decode cX5_compare 67 = .ok (.getfield 61, 3) := by decide +kernel
theorem dX5_compare_70 : decode cX5_compare 70 = .ok (.iload 13, 2) := by decide +kernel
theorem dX5_compare_72 : decode cX5_compare 72 = .ok (.iaload, 1) := by decide +kernel
theorem dX5_compare_73 : decode cX5_compare 73 = .ok (.if_icmp .le 23, 3) := by decide +kernel
theorem dX5_compare_76 : decode cX5_compare 76 = .ok (.lload 10, 2) := by decide +kernel
theorem dX5_compare_78 : decode cX5_compare 78 = .ok (.aload_n 0, 1) := by decide +kernel
theorem dX5_compare_79 : decode cX5_compare 79 = .ok (.getfield 9, 3) := by decide +kernel
theorem dX5_compare_82 : decode cX5_compare 82 = .ok (.iload 12, 2) := by decide +kernel
theorem dX5_compare_84 : decode cX5_compare 84 = .ok (.laload, 1) := by decide +kernel
theorem dX5_compare_85 : decode cX5_compare 85 = .ok (.aload_n 0, 1) := by decide +kernel
theorem dX5_compare_86 : decode cX5_compare 86 = .ok (.getfield 15, 3) := by decide +kernel
theorem dX5_compare_89 : decode cX5_compare 89 = .ok (.iload 13, 2) := by decide +kernel
theorem dX5_compare_91 : decode cX5_compare 91 = .ok (.laload, 1) := by decide +kernel
theorem dX5_compare_92 : decode cX5_compare 92 = .ok (.lmul, 1) := by decide +kernel
theorem dX5_compare_93 : decode cX5_compare 93 = .ok (.ladd, 1) := by decide +kernel
theorem dX5_compare_94 : decode cX5_compare 94 = .ok (.lstore 10, 2) := by decide +kernel
theorem dX5_compare_96 : decode cX5_compare 96 = .ok (.iinc 13 1, 3) := by decide +kernel
theorem dX5_compare_99 : decode cX5_compare 99 = .ok (.goto (-52), 3) := by decide +kernel
theorem dX5_compare_102 : decode cX5_compare 102 = .ok (.iinc 12 1, 3) := by decide +kernel
theorem dX5_compare_105 : decode cX5_compare 105 = .ok (.goto (-67), 3) := by decide +kernel
theorem dX5_compare_108 : decode cX5_compare 108 = .ok (.aload_n 0, 1) := by decide +kernel
theorem dX5_compare_109 : decode cX5_compare 109 = .ok (.lload 10, 2) := by decide +kernel
theorem dX5_compare_111 : decode cX5_compare 111 = .ok (.lload 6, 2) := by decide +kernel
theorem dX5_compare_113 : decode cX5_compare 113 = .ok (.lload 8, 2) := by decide +kernel
theorem dX5_compare_115 : decode cX5_compare 115 = .ok (.lmul, 1) := by decide +kernel
theorem dX5_compare_116 : decode cX5_compare 116 = .ok (.invokevirtual 66, 3) := by decide +kernel
