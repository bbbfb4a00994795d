theorem dX9_takes_15 : decode cX9_takes 15 = .ok (.aload_n 0, 1) := by decide +kernel
theorem dX9_takes_16 : decode cX9_takes 16 = .ok (.iload 4, 2) := by decide +kernel
theorem dX9_takes_18 : decode cX9_takes 18 = .ok (.putfield 39, 3) := by decide +kernel
theorem dX9_takes_21 : decode cX9_takes 21 = .ok (.aload_n 0, 1) := by decide +kernel
theorem dX9_takes_22 : decode cX9_takes 22 = .ok (.iconst 0, 1) := by decide +kernel
theorem dX9_takes_23 : decode cX9_takes 23 = .ok (.putfield 23, 3) := by decide +kernel
theorem dX9_takes_26 : decode cX9_takes 26 = .ok (.aload_n 0, 1) := by decide +kernel
theorem dX9_takes_27 : decode cX9_takes 27 = .ok (.iconst 0, 1) := by decide +kernel
theorem dX9_takes_28 : decode cX9_takes 28 = .ok (.putfield 26, 3) := by decide +kernel
theorem dX9_takes_31 : decode cX9_takes 31 = .ok (.iconst 0, 1) := by decide +kernel
theorem dX9_takes_32 : decode cX9_takes 32 = .ok (.istore 5, 2) := by decide +kernel
theorem dX9_takes_34 : decode cX9_takes 34 = .ok (.iload 5, 2) := by decide +kernel
theorem dX9_takes_36 : decode cX9_takes 36 = .ok (.aload_n 0, 1) := by decide +kernel
theorem dX9_takes_37 : decode cX9_takes 37 = .ok (.getfield 9, 3) := by decide +kernel
theorem dX9_takes_40 : decode cX9_takes 40 = .ok (.if_icmp .ge 37, 3) := by decide +kernel
theorem dX9_takes_43 : decode cX9_takes 43 = .ok (.iload 5, 2) := by decide +kernel
theorem dX9_takes_45 : decode cX9_takes 45 = .ok (.aload_n 0, 1) := by decide +kernel
theorem dX9_takes_46 : decode cX9_takes 46 = .ok (.getfield 15, 3) := by decide +kernel
theorem dX9_takes_49 : decode cX9_takes 49 = .ok (.arraylength, 1) := by decide +kernel
theorem dX9_takes_50 : decode cX9_takes 50 = .ok (.if_icmp .ge 27, 3) := by decide +kernel
theorem dX9_takes_53 : decode cX9_takes 53 = .ok (.aload_n 0, 1) := by decide +kernel
theorem dX9_takes_54 : decode cX9_takes 54 = .ok (.getfield 26, 3) := by decide +kernel
theorem dX9_takes_57 : decode cX9_takes 57 = .ok (.ifCond .ne 20, 3) := by decide +kernel
theorem dX9_takes_60 : decode cX9_takes 60 = .ok (.aload_n 0, 1) := by decide +kernel
theorem dX9_takes_61 : decode cX9_takes 61 = .ok (.aload_n 0, 1) := by decide +kernel
theorem dX9_takes_62 : decode cX9_takes 62 = .ok (.getfield 15, 3) := by decide +kernel
theorem dX9_takes_65 : decode cX9_takes 65 = .ok (.iload 5, 2) := by decide +kernel
theorem dX9_takes_67 : decode cX9_takes 67 = .ok (.iaload, 1) := by decide +kernel
theorem dX9_takes_68 : decode cX9_takes 68 = .ok (.invokevirtual 42, 3) := by decide +kernel
theorem dX9_takes_71 : decode cX9_takes 71 = .ok (.iinc 5 1, 3) := by decide +kernel
theorem dX9_takes_74 : decode cX9_takes 74 = .ok (.goto (-40), 3) := by decide +kernel
theorem dX9_takes_77 : decode cX9_takes 77 = .ok (.aload_n 0, 1) := by decide +kernel
theorem dX9_takes_78 : decode cX9_takes 78 = .ok (.getfield 26, 3) := by decide +kernel
theorem dX9_takes_81 : decode cX9_takes 81 = .ok (.ifCond .ne 26, 3) := by decide +kernel
theorem dX9_takes_84 : decode cX9_takes 84 = .ok (.aload_n 0, 1) := by decide +kernel
theorem dX9_takes_85 : decode cX9_takes 85 = .ok (.getfield 23, 3) := by decide +kernel
theorem dX9_takes_88 : decode cX9_takes 88 = .ok (.iconst 1, 1) := by decide +kernel
theorem dX9_takes_89 : decode cX9_takes 89 = .ok (.if_icmp .ne 18, 3) := by decide +kernel
theorem dX9_takes_92 : decode cX9_takes 92 = .ok (.aload_n 0, 1) := by decide +kernel
theorem dX9_takes_93 : decode cX9_takes 93 = .ok (.getfield 19, 3) := by decide +kernel
theorem dX9_takes_96 : decode cX9_takes 96 = .ok (.iconst 0, 1) := by decide +kernel
theorem dX9_takes_97 : decode cX9_takes 97 = .ok (.laload, 1) := by decide +kernel
theorem dX9_takes_98 : decode cX9_takes 98 = .ok (.lconst 0, 1) := by decide +kernel
theorem dX9_takes_99 : decode cX9_takes 99 = .ok (.lcmp, 1) := by decide +kernel
theorem dX9_takes_100 : decode cX9_takes 100 = .ok (.ifCond .eq 7, 3) := by decide +kernel
theorem dX9_takes_103 : decode cX9_takes 103 = .ok (.iconst 1, 1) := by decide +kernel
theorem dX9_takes_104 : decode cX9_takes 104 = .ok (.goto 4, 3) := by decide +kernel
theorem dX9_takes_107 : decode cX9_takes 107 = .ok (.iconst 0, 1) := by decide +kernel
theorem dX9_takes_108 : decode cX9_takes 108 = .ok (.ireturn, 1) := by decide +kernel
theorem dX9_work_0 : decode cX9_work 0 = .ok (.iload_n 1, 1) := by decide +kernel
theorem dX9_work_1 : decode cX9_work 1 = .ok (.ifCond .ge 14, 3) := by decide +kernel
theorem dX9_work_4 : decode cX9_work 4 = .ok (.aload_n 0, 1) := by decide +kernel
theorem dX9_work_5 : decode cX9_work 5 = .ok (.iconst (-1), 1) := by decide +kernel
theorem dX9_work_6 : decode cX9_work 6 = .ok (.iload_n 1, 1) := by decide +kernel
theorem dX9_work_7 : decode cX9_work 7 = .ok (.isub, 1) := by decide +kernel
theorem dX9_work_8 : decode cX9_work 8 = .ok (.i2l, 1) := by decide +kernel
theorem dX9_work_9 : decode cX9_work 9 = .ok (.invokevirtual 46, 3) := by decide +kernel
theorem dX9_work_12 : decode cX9_work 12 = .ok (.goto 72, 3) := by decide +kernel
theorem dX9_work_15 : decode cX9_work 15 = .ok (.iload_n 1, 1) := by decide +kernel
theorem dX9_work_16 : decode cX9_work 16 = .ok (.invokestatic 50, 3) := by decide +kernel
theorem dX9_work_19 : decode cX9_work 19 = .ok (.ifCond .eq 15, 3) := by decide +kernel
theorem dX9_work_22 : decode cX9_work 22 = .ok (.aload_n 0, 1) := by decide +kernel
theorem dX9_work_23 : decode cX9_work 23 = .ok (.aload_n 0, 1) := by decide +kernel
theorem dX9_work_24 : decode cX9_work 24 = .ok (.iload_n 1, 1) := by decide +kernel
theorem dX9_work_25 : decode cX9_work 25 = .ok (.invokevirtual 56, 3) := by decide +kernel
theorem dX9_work_28 : decode cX9_work 28 = .ok (.invokevirtual 46, 3) := by decide +kernel
theorem dX9_work_31 : decode cX9_work 31 = .ok (.goto 53, 3) := by decide +kernel
theorem dX9_work_34 : decode cX9_work 34 = .ok (.iload_n 1, 1) := by decide +kernel
theorem dX9_work_35 : decode cX9_work 35 = .ok (.ldc 60, 2) := by decide +kernel
theorem dX9_work_37 : decode cX9_work 37 = .ok (.if_icmp .ne 24, 3) := by decide +kernel
theorem dX9_work_40 : decode cX9_work 40 = .ok (.aload_n 0, 1) := by decide +kernel
theorem dX9_work_41 : decode cX9_work 41 = .ok (.aload_n 0, 1) := by decide +kernel
theorem dX9_work_42 : decode cX9_work 42 = .ok (.invokevirtual 61, 3) := by decide +kernel
theorem dX9_work_45 : decode cX9_work 45 = .ok (.lconst 0, 1) := by decide +kernel
theorem dX9_work_46 : decode cX9_work 46 = .ok (.lcmp, 1) := by decide +kernel
theorem dX9_work_47 : decode cX9_work 47 = .ok (.ifCond .ne 7, 3) := by decide +kernel
theorem dX9_work_50 : decode cX9_work 50 = .ok (.lconst 1, 1) := by decide +kernel
theorem dX9_work_51 : decode cX9_work 51 = .ok (.goto 4, 3) := by decide +kernel
theorem dX9_work_54 : decode cX9_work 54 = .ok (.lconst 0, 1) := by decide +kernel
theorem dX9_work_55 : decode cX9_work 55 = .ok (.invokevirtual 46, 3) := by decide +kernel
theorem dX9_work_58 : decode cX9_work 58 = .ok (.goto 26, 3) := by decide +kernel
theorem dX9_work_61 : decode cX9_work 61 = .ok (.aload_n 0, 1) := by decide +kernel
theorem dX9_work_62 : decode cX9_work 62 = .ok (.invokevirtual 61, 3) := by decide +kernel
theorem dX9_work_65 : decode cX9_work 65 = .ok (.lstore_n 2, 1) := by decide +kernel
theorem dX9_work_66 : decode cX9_work 66 = .ok (.aload_n 0, 1) := by decide +kernel
theorem dX9_work_67 : decode cX9_work 67 = .ok (.invokevirtual 61, 3) := by decide +kernel
theorem dX9_work_70 : decode cX9_work 70 = .ok (.lstore 4, 2) := by decide +kernel
theorem dX9_work_72 : decode cX9_work 72 = .ok (.aload_n 0, 1) := by decide +kernel
theorem dX9_work_73 : decode cX9_work 73 = .ok (.aload_n 0, 1) := by decide +kernel
theorem dX9_work_74 : decode cX9_work 74 = .ok (.iload_n 1, 1) := by decide +kernel
theorem dX9_work_75 : decode cX9_work 75 = .ok (.lload 4, 2) := by decide +kernel
theorem dX9_work_77 : decode cX9_work 77 = .ok (.lload_n 2, 1) := by decide +kernel
theorem dX9_work_78 : decode cX9_work 78 = .ok (.invokevirtual 65, 3) := by decide +kernel
theorem dX9_work_81 : decode cX9_work 81 = .ok (.invokevirtual 46, 3) := by decide +kernel
theorem dX9_work_84 : decode cX9_work 84 = .ok (.return_, 1) := by decide +kernel
theorem dX9_valueOf_0 : decode cX9_valueOf 0 = .ok (.iload_n 1, 1) := by decide +kernel
theorem dX9_valueOf_1 : decode cX9_valueOf 1 = .ok (.lookupswitch 133 #[(407948928, 113), (452579328, 93), (518160384, 59), (659980288, 77), (680072352, 71), (695697408, 65)], 59) := by decide +kernel
theorem dX9_valueOf_60 : decode cX9_valueOf 60 = .ok (.aload_n 0, 1) := by decide +kernel
theorem dX9_valueOf_61 : decode cX9_valueOf 61 = .ok (.getfield 30, 3) := by decide +kernel
theorem dX9_valueOf_64 : decode cX9_valueOf 64 = .ok (.i2l, 1) := by decide +kernel
theorem dX9_valueOf_65 : decode cX9_valueOf 65 = .ok (.lreturn, 1) := by decide +kernel
theorem dX9_valueOf_66 : decode cX9_valueOf 66 = .ok (.aload_n 0, 1) := by decide +kernel
theorem dX9_valueOf_67 : decode cX9_valueOf 67 = .ok (.getfield 33, 3) := by decide +kernel
theorem dX9_valueOf_70 : decode cX9_valueOf 70 = .ok (.i2l, 1) := by decide +kernel
theorem dX9_valueOf_71 : decode cX9_valueOf 71 = .ok (.lreturn, 1) := by decide +kernel
theorem dX9_valueOf_72 : decode cX9_valueOf 72 = .ok (.aload_n 0, 1) := by decide +kernel
theorem dX9_valueOf_73 : decode cX9_valueOf 73 = .ok (.getfield 36, 3) := by decide +kernel
theorem dX9_valueOf_76 : decode cX9_valueOf 76 = .ok (.i2l, 1) := by decide +kernel
theorem dX9_valueOf_77 : decode cX9_valueOf 77 = .ok (.lreturn, 1) := by decide +kernel
theorem dX9_valueOf_78 : decode cX9_valueOf 78 = .ok (.aload_n 0, 1) := by decide +kernel
theorem dX9_valueOf_79 : decode cX9_valueOf 79 = .ok (.getfield 30, 3) := by decide +kernel
theorem dX9_valueOf_82 : decode cX9_valueOf 82 = .ok (.aload_n 0, 1) := by decide +kernel
theorem dX9_valueOf_83 : decode cX9_valueOf 83 = .ok (.getfield 33, 3) := by decide +kernel
theorem dX9_valueOf_86 : decode cX9_valueOf 86 = .ok (.iadd, 1) := by decide +kernel
theorem dX9_valueOf_87 : decode cX9_valueOf 87 = .ok (.aload_n 0, 1) := by decide +kernel
theorem dX9_valueOf_88 : decode cX9_valueOf 88 = .ok (.getfield 36, 3) := by decide +kernel
theorem dX9_valueOf_91 : decode cX9_valueOf 91 = .ok (.iadd, 1) := by decide +kernel
theorem dX9_valueOf_92 : decode cX9_valueOf 92 = .ok (.i2l, 1) := by decide +kernel
theorem dX9_valueOf_93 : decode cX9_valueOf 93 = .ok (.lreturn, 1) := by decide +kernel
theorem dX9_valueOf_94 : decode cX9_valueOf 94 = .ok (.aload_n 0, 1) := by decide +kernel
theorem dX9_valueOf_95 : decode cX9_valueOf 95 = .ok (.getfield 30, 3) := by decide +kernel
theorem dX9_valueOf_98 : decode cX9_valueOf 98 = .ok (.aload_n 0, 1) := by decide +kernel
theorem dX9_valueOf_99 : decode cX9_valueOf 99 = .ok (.getfield 33, 3) := by decide +kernel
theorem dX9_valueOf_102 : decode cX9_valueOf 102 = .ok (.aload_n 0, 1) := by decide +kernel
theorem dX9_valueOf_103 : decode cX9_valueOf 103 = .ok (.getfield 36, 3) := by decide +kernel
theorem dX9_valueOf_106 : decode cX9_valueOf 106 = .ok (.invokestatic 69, 3) := by decide +kernel
theorem dX9_valueOf_109 : decode cX9_valueOf 109 = .ok (.invokestatic 69, 3) := by decide +kernel
theorem dX9_valueOf_112 : decode cX9_valueOf 112 = .ok (.i2l, 1) := by decide +kernel
theorem dX9_valueOf_113 : decode cX9_valueOf 113 = .ok (.lreturn, 1) := by decide +kernel
theorem dX9_valueOf_114 : decode cX9_valueOf 114 = .ok (.aload_n 0, 1) := by decide +kernel
theorem dX9_valueOf_115 : decode cX9_valueOf 115 = .ok (.getfield 30, 3) := by decide +kernel
theorem dX9_valueOf_118 : decode cX9_valueOf 118 = .ok (.aload_n 0, 1) := by decide +kernel
theorem dX9_valueOf_119 : decode cX9_valueOf 119 = .ok (.getfield 33, 3) := by decide +kernel
theorem dX9_valueOf_122 : decode cX9_valueOf 122 = .ok (.aload_n 0, 1) := by decide +kernel
theorem dX9_valueOf_123 : decode cX9_valueOf 123 = .ok (.getfield 36, 3) := by decide +kernel
theorem dX9_valueOf_126 : decode cX9_valueOf 126 = .ok (.invokestatic 75, 3) := by decide +kernel
theorem dX9_valueOf_129 : decode cX9_valueOf 129 = .ok (.invokestatic 75, 3) := by decide +kernel
theorem dX9_valueOf_132 : decode cX9_valueOf 132 = .ok (.i2l, 1) := by decide +kernel
theorem dX9_valueOf_133 : decode cX9_valueOf 133 = .ok (.lreturn, 1) := by decide +kernel
theorem dX9_valueOf_134 : decode cX9_valueOf 134 = .ok (.aload_n 0, 1) := by decide +kernel
theorem dX9_valueOf_135 : decode cX9_valueOf 135 = .ok (.getfield 39, 3) := by decide +kernel
theorem dX9_valueOf_138 : decode cX9_valueOf 138 = .ok (.i2l, 1) := by decide +kernel
theorem dX9_valueOf_139 : decode cX9_valueOf 139 = .ok (.lreturn, 1) := by decide +kernel
theorem dX9_join_0 : decode cX9_join 0 = .ok (.iload_n 1, 1) := by decide +kernel
theorem dX9_join_1 : decode cX9_join 1 = .ok (.lookupswitch 222 #[(42, 109), (43, 99), (45, 104), (47, 117), (60, 125), (61, 138), (62, 151), (256, 164), (257, 177), (258, 190), (48365568, 203)], 99) := by decide +kernel
theorem dX9_join_100 : decode cX9_join 100 = .ok (.lload_n 2, 1) := by decide +kernel
theorem dX9_join_101 : decode cX9_join 101 = .ok (.lload 4, 2) := by decide +kernel
theorem dX9_join_103 : decode cX9_join 103 = .ok (.ladd, 1) := by decide +kernel
theorem dX9_join_104 : decode cX9_join 104 = .ok (.lreturn, 1) := by decide +kernel
theorem dX9_join_105 : decode cX9_join 105 = .ok (.lload_n 2, 1) := by decide +kernel
theorem dX9_join_106 : decode cX9_join 106 = .ok (.lload 4, 2) := by decide +kernel
theorem dX9_join_108 : decode cX9_join 108 = .ok (.lsub, 1) := by decide +kernel
theorem dX9_join_109 : decode cX9_join 109 = .ok (.lreturn, 1) := by decide +kernel
theorem dX9_join_110 : decode cX9_join 110 = .ok (.aload_n 0, 1) := by decide +kernel
theorem dX9_join_111 : decode cX9_join 111 = .ok (.lload_n 2, 1) := by decide +kernel
theorem dX9_join_112 : decode cX9_join 112 = .ok (.lload 4, 2) := by decide +kernel
theorem dX9_join_114 : decode cX9_join 114 = .ok (.invokevirtual 78, 3) := by decide +kernel
theorem dX9_join_117 : decode cX9_join 117 = .ok (.lreturn, 1) := by decide +kernel
theorem dX9_join_118 : decode cX9_join 118 = .ok (.aload_n 0, 1) := by decide +kernel
theorem dX9_join_119 : decode cX9_join 119 = .ok (.lload_n 2, 1) := by decide +kernel
theorem dX9_join_120 : decode cX9_join 120 = .ok (.lload 4, 2) := by decide +kernel
theorem dX9_join_122 : decode cX9_join 122 = .ok (.invokevirtual 82, 3) := by decide +kernel
theorem dX9_join_125 : decode cX9_join 125 = .ok (.lreturn, 1) := by decide +kernel
theorem dX9_join_126 : decode cX9_join 126 = .ok (.lload_n 2, 1) := by decide +kernel
theorem dX9_join_127 : decode cX9_join 127 = .ok (.lload 4, 2) := by decide +kernel
theorem dX9_join_129 : decode cX9_join 129 = .ok (.lcmp, 1) := by decide +kernel
theorem dX9_join_130 : decode cX9_join 130 = .ok (.ifCond .ge 7, 3) := by decide +kernel
theorem dX9_join_133 : decode cX9_join 133 = .ok (.lconst 1, 1) := by decide +kernel
theorem dX9_join_134 : decode cX9_join 134 = .ok (.goto 4, 3) := by decide +kernel
theorem dX9_join_137 : decode cX9_join 137 = .ok (.lconst 0, 1) := by decide +kernel
theorem dX9_join_138 : decode cX9_join 138 = .ok (.lreturn, 1) := by decide +kernel
theorem dX9_join_139 : decode cX9_join 139 = .ok (.lload_n 2, 1) := by decide +kernel
theorem dX9_join_140 : decode cX9_join 140 = .ok (.lload 4, 2) := by decide +kernel
theorem dX9_join_142 : decode cX9_join 142 = .ok (.lcmp, 1) := by decide +kernel
theorem dX9_join_143 : decode cX9_join 143 = .ok (.ifCond .ne 7, 3) := by decide +kernel
theorem dX9_join_146 : decode cX9_join 146 = .ok (.lconst 1, 1) := by decide +kernel
theorem dX9_join_147 : decode cX9_join 147 = .ok (.goto 4, 3) := by decide +kernel
theorem dX9_join_150 : decode cX9_join 150 = .ok (.lconst 0, 1) := by decide +kernel
theorem dX9_join_151 : decode cX9_join 151 = .ok (.lreturn, 1) := by decide +kernel
theorem dX9_join_152 : decode cX9_join 152 = .ok (.lload_n 2, 1) := by decide +kernel
theorem dX9_join_153 : decode cX9_join 153 = .ok (.lload 4, 2) := by decide +kernel
theorem dX9_join_155 : decode cX9_join 155 = .ok (.lcmp, 1) := by decide +kernel
theorem dX9_join_156 : decode cX9_join 156 = .ok (.ifCond .le 7, 3) := by decide +kernel
theorem dX9_join_159 : decode cX9_join 159 = .ok (.lconst 1, 1) := by decide +kernel
theorem dX9_join_160 : decode cX9_join 160 = .ok (.goto 4, 3) := by decide +kernel
theorem dX9_join_163 : decode cX9_join 163 = .ok (.lconst 0, 1) := by decide +kernel
theorem dX9_join_164 : decode cX9_join 164 = .ok (.lreturn, 1) := by decide +kernel
theorem dX9_join_165 : decode cX9_join 165 = .ok (.lload_n 2, 1) := by decide +kernel
theorem dX9_join_166 : decode cX9_join 166 = .ok (.lload 4, 2) := by decide +kernel
theorem dX9_join_168 : decode cX9_join 168 = .ok (.lcmp, 1) := by decide +kernel
theorem dX9_join_169 : decode cX9_join 169 = .ok (.ifCond .gt 7, 3) := by decide +kernel
theorem dX9_join_172 : decode cX9_join 172 = .ok (.lconst 1, 1) := by decide +kernel
theorem dX9_join_173 : decode cX9_join 173 = .ok (.goto 4, 3) := by decide +kernel
theorem dX9_join_176 : decode cX9_join 176 = .ok (.lconst 0, 1) := by decide +kernel
theorem dX9_join_177 : decode cX9_join 177 = .ok (.lreturn, 1) := by decide +kernel
theorem dX9_join_178 : decode cX9_join 178 = .ok (.lload_n 2, 1) := by decide +kernel
theorem dX9_join_179 : decode cX9_join 179 = .ok (.lload 4, 2) := by decide +kernel
theorem dX9_join_181 : decode cX9_join 181 = .ok (.lcmp, 1) := by decide +kernel
theorem dX9_join_182 : decode cX9_join 182 = .ok (.ifCond .eq 7, 3) := by decide +kernel
theorem dX9_join_185 : decode cX9_join 185 = .ok (.lconst 1, 1) := by decide +kernel
theorem dX9_join_186 : decode cX9_join 186 = .ok (.goto 4, 3) := by decide +kernel
theorem dX9_join_189 : decode cX9_join 189 = .ok (.lconst 0, 1) := by decide +kernel
theorem dX9_join_190 : decode cX9_join 190 = .ok (.lreturn, 1) := by decide +kernel
theorem dX9_join_191 : decode cX9_join 191 = .ok (.lload_n 2, 1) := by decide +kernel
theorem dX9_join_192 : decode cX9_join 192 = .ok (.lload 4, 2) := by decide +kernel
theorem dX9_join_194 : decode cX9_join 194 = .ok (.lcmp, 1) := by decide +kernel
theorem dX9_join_195 : decode cX9_join 195 = .ok (.ifCond .lt 7, 3) := by decide +kernel
theorem dX9_join_198 : decode cX9_join 198 = .ok (.lconst 1, 1) := by decide +kernel
theorem dX9_join_199 : decode cX9_join 199 = .ok (.goto 4, 3) := by decide +kernel
theorem dX9_join_202 : decode cX9_join 202 = .ok (.lconst 0, 1) := by decide +kernel
theorem dX9_join_203 : decode cX9_join 203 = .ok (.lreturn, 1) := by decide +kernel
theorem dX9_join_204 : decode cX9_join 204 = .ok (.lload_n 2, 1) := by decide +kernel
theorem dX9_join_205 : decode cX9_join 205 = .ok (.lconst 0, 1) := by decide +kernel
theorem dX9_join_206 : decode cX9_join 206 = .ok (.lcmp, 1) := by decide +kernel
theorem dX9_join_207 : decode cX9_join 207 = .ok (.ifCond .eq 14, 3) := by decide +kernel
theorem dX9_join_210 : decode cX9_join 210 = .ok (.lload 4, 2) := by decide +kernel
theorem dX9_join_212 : decode cX9_join 212 = .ok (.lconst 0, 1) := by decide +kernel
theorem dX9_join_213 : decode cX9_join 213 = .ok (.lcmp, 1) := by decide +kernel
theorem dX9_join_214 : decode cX9_join 214 = .ok (.ifCond .eq 7, 3) := by decide +kernel
theorem dX9_join_217 : decode cX9_join 217 = .ok (.lconst 1, 1) := by decide +kernel
theorem dX9_join_218 : decode cX9_join 218 = .ok (.goto 4, 3) := by decide +kernel
theorem dX9_join_221 : decode cX9_join 221 = .ok (.lconst 0, 1) := by decide +kernel
theorem dX9_join_222 : decode cX9_join 222 = .ok (.lreturn, 1) := by decide +kernel
theorem dX9_join_223 : decode cX9_join 223 = .ok (.lload_n 2, 1) := by decide +kernel
theorem dX9_join_224 : decode cX9_join 224 = .ok (.lconst 0, 1) := by decide +kernel
theorem dX9_join_225 : decode cX9_join 225 = .ok (.lcmp, 1) := by decide +kernel
theorem dX9_join_226 : decode cX9_join 226 = .ok (.ifCond .ne 10, 3) := by decide +kernel
theorem dX9_join_229 : decode cX9_join 229 = .ok (.lload 4, 2) := by decide +kernel
theorem dX9_join_231 : decode cX9_join 231 = .ok (.lconst 0, 1) := by decide +kernel
theorem dX9_join_232 : decode cX9_join 232 = .ok (.lcmp, 1) := by decide +kernel
theorem dX9_join_233 : decode cX9_join 233 = .ok (.ifCond .eq 7, 3) := by decide +kernel
theorem dX9_join_236 : decode cX9_join 236 = .ok (.lconst 1, 1) := by decide +kernel
theorem dX9_join_237 : decode cX9_join 237 = .ok (.goto 4, 3) := by decide +kernel
theorem dX9_join_240 : decode cX9_join 240 = .ok (.lconst 0, 1) := by decide +kernel
theorem dX9_join_241 : decode cX9_join 241 = .ok (.lreturn, 1) := by decide +kernel
theorem dX9_times_0 : decode cX9_times 0 = .ok (.lload_n 3, 1) := by decide +kernel
theorem dX9_times_1 : decode cX9_times 1 = .ok (.lconst 0, 1) := by decide +kernel
theorem dX9_times_2 : decode cX9_times 2 = .ok (.lcmp, 1) := by decide +kernel
theorem dX9_times_3 : decode cX9_times 3 = .ok (.ifCond .ne 5, 3) := by decide +kernel
theorem dX9_times_6 : decode cX9_times 6 = .ok (.lconst 0, 1) := by decide +kernel
theorem dX9_times_7 : decode cX9_times 7 = .ok (.lreturn, 1) := by decide +kernel
theorem dX9_times_8 : decode cX9_times 8 = .ok (.lload_n 1, 1) := by decide +kernel
theorem dX9_times_9 : decode cX9_times 9 = .ok (.lconst 0, 1) := by decide +kernel
theorem dX9_times_10 : decode cX9_times 10 = .ok (.lcmp, 1) := by decide +kernel
theorem dX9_times_11 : decode cX9_times 11 = .ok (.ifCond .ge 8, 3) := by decide +kernel
theorem dX9_times_14 : decode cX9_times 14 = .ok (.lload_n 1, 1) := by decide +kernel
theorem dX9_times_15 : decode cX9_times 15 = .ok (.lneg, 1) := by decide +kernel
theorem dX9_times_16 : decode cX9_times 16 = .ok (.goto 4, 3) := by decide +kernel
theorem dX9_times_19 : decode cX9_times 19 = .ok (.lload_n 1, 1) := by decide +kernel
theorem dX9_times_20 : decode cX9_times 20 = .ok (.lstore 5, 2) := by decide +kernel
theorem dX9_times_22 : decode cX9_times 22 = .ok (.lload_n 3, 1) := by decide +kernel
theorem dX9_times_23 : decode cX9_times 23 = .ok (.lconst 0, 1) := by decide +kernel
theorem dX9_times_24 : decode cX9_times 24 = .ok (.lcmp, 1) := by decide +kernel
theorem dX9_times_25 : decode cX9_times 25 = .ok (.ifCond .ge 8, 3) := by decide +kernel
theorem dX9_times_28 : decode cX9_times 28 = .ok (.lload_n 3, 1) := by decide +kernel
theorem dX9_times_29 : decode cX9_times 29 = .ok (.lneg, 1) := by decide +kernel
theorem dX9_times_30 : decode cX9_times 30 = .ok (.goto 4, 3) := by decide +kernel
theorem dX9_times_33 : decode cX9_times 33 = .ok (.lload_n 3, 1) := by decide +kernel
theorem dX9_times_34 : decode cX9_times 34 = .ok (.lstore 7, 2) := by decide +kernel
theorem dX9_times_36 : decode cX9_times 36 = .ok (.lload 5, 2) := by decide +kernel
theorem dX9_times_38 : decode cX9_times 38 = .ok (.ldc2_w 85, 3) := by decide +kernel
theorem dX9_times_41 : decode cX9_times 41 = .ok (.lload 7, 2) := by decide +kernel
theorem dX9_times_43 : decode cX9_times 43 = .ok (.ldiv, 1) := by decide +kernel
theorem dX9_times_44 : decode cX9_times 44 = .ok (.lcmp, 1) := by decide +kernel
theorem dX9_times_45 : decode cX9_times 45 = .ok (.ifCond .le 10, 3) := by decide +kernel
theorem dX9_times_48 : decode cX9_times 48 = .ok (.aload_n 0, 1) := by decide +kernel
theorem dX9_times_49 : decode cX9_times 49 = .ok (.iconst 1, 1) := by decide +kernel
theorem dX9_times_50 : decode cX9_times 50 = .ok (.putfield 26, 3) := by decide +kernel
theorem dX9_times_53 : decode cX9_times 53 = .ok (.lconst 0, 1) := by decide +kernel
theorem dX9_times_54 : decode cX9_times 54 = .ok (.lreturn, 1) := by decide +kernel
theorem dX9_times_55 : decode cX9_times 55 = .ok (.lload_n 1, 1) := by decide +kernel
theorem dX9_times_56 : decode cX9_times 56 = .ok (.lload_n 3, 1) := by decide +kernel
theorem dX9_times_57 : decode cX9_times 57 = .ok (.lmul, 1) := by decide +kernel
theorem dX9_times_58 : decode cX9_times 58 = .ok (.lreturn, 1) := by decide +kernel
theorem dX9_by_0 : decode cX9_by 0 = .ok (.lload_n 3, 1) := by decide +kernel
theorem dX9_by_1 : decode cX9_by 1 = .ok (.lconst 0, 1) := by decide +kernel
theorem dX9_by_2 : decode cX9_by 2 = .ok (.lcmp, 1) := by decide +kernel
theorem dX9_by_3 : decode cX9_by 3 = .ok (.ifCond .ne 10, 3) := by decide +kernel
theorem dX9_by_6 : decode cX9_by 6 = .ok (.aload_n 0, 1) := by decide +kernel
theorem dX9_by_7 : decode cX9_by 7 = .ok (.iconst 1, 1) := by decide +kernel
theorem dX9_by_8 : decode cX9_by 8 = .ok (.putfield 26, 3) := by decide +kernel
theorem dX9_by_11 : decode cX9_by 11 = .ok (.lconst 0, 1) := by decide +kernel
theorem dX9_by_12 : decode cX9_by 12 = .ok (.lreturn, 1) := by decide +kernel
theorem dX9_by_13 : decode cX9_by 13 = .ok (.lload_n 1, 1) := by decide +kernel
theorem dX9_by_14 : decode cX9_by 14 = .ok (.lload_n 3, 1) := by decide +kernel
theorem dX9_by_15 : decode cX9_by 15 = .ok (.ldiv, 1) := by decide +kernel
theorem dX9_by_16 : decode cX9_by 16 = .ok (.lreturn, 1) := by decide +kernel
theorem dX9_push_0 : decode cX9_push 0 = .ok (.aload_n 0, 1) := by decide +kernel
theorem dX9_push_1 : decode cX9_push 1 = .ok (.getfield 23, 3) := by decide +kernel
theorem dX9_push_4 : decode cX9_push 4 = .ok (.ifCond .lt 31, 3) := by decide +kernel
theorem dX9_push_7 : decode cX9_push 7 = .ok (.aload_n 0, 1) := by decide +kernel
theorem dX9_push_8 : decode cX9_push 8 = .ok (.getfield 23, 3) := by decide +kernel
theorem dX9_push_11 : decode cX9_push 11 = .ok (.aload_n 0, 1) := by decide +kernel
theorem dX9_push_12 : decode cX9_push 12 = .ok (.getfield 19, 3) := by decide +kernel
theorem dX9_push_15 : decode cX9_push 15 = .ok (.arraylength, 1) := by decide +kernel
theorem dX9_push_16 : decode cX9_push 16 = .ok (.if_icmp .ge 19, 3) := by decide +kernel
theorem dX9_push_19 : decode cX9_push 19 = .ok (.lload_n 1, 1) := by decide +kernel
theorem dX9_push_20 : decode cX9_push 20 = .ok (.ldc2_w 85, 3) := by decide +kernel
theorem dX9_push_23 : decode cX9_push 23 = .ok (.lcmp, 1) := by decide +kernel
theorem dX9_push_24 : decode cX9_push 24 = .ok (.ifCond .gt 11, 3) := by decide +kernel
theorem dX9_push_27 : decode cX9_push 27 = .ok (.lload_n 1, 1) := by decide +kernel
theorem dX9_push_28 : decode cX9_push 28 = .ok (.ldc2_w 87, 3) := by decide +kernel
theorem dX9_push_31 : decode cX9_push 31 = .ok (.lcmp, 1) := by decide +kernel
theorem dX9_push_32 : decode cX9_push 32 = .ok (.ifCond .ge 9, 3) := by decide +kernel
theorem dX9_push_35 : decode cX9_push 35 = .ok (.aload_n 0, 1) := by decide +kernel
theorem dX9_push_36 : decode cX9_push 36 = .ok (.iconst 1, 1) := by decide +kernel
theorem dX9_push_37 : decode cX9_push 37 = .ok (.putfield 26, 3) := by decide +kernel
theorem dX9_push_40 : decode cX9_push 40 = .ok (.return_, 1) := by decide +kernel
theorem dX9_push_41 : decode cX9_push 41 = .ok (.aload_n 0, 1) := by decide +kernel
theorem dX9_push_42 : decode cX9_push 42 = .ok (.getfield 19, 3) := by decide +kernel
theorem dX9_push_45 : decode cX9_push 45 = .ok (.aload_n 0, 1) := by decide +kernel
theorem dX9_push_46 : decode cX9_push 46 = .ok (.getfield 23, 3) := by decide +kernel
theorem dX9_push_49 : decode cX9_push 49 = .ok (.lload_n 1, 1) := by decide +kernel
theorem dX9_push_50 : decode cX9_push 50 = .ok (.lastore, 1) := by decide +kernel
theorem dX9_push_51 : decode cX9_push 51 = .ok (.aload_n 0, 1) := by decide +kernel
theorem dX9_push_52 : decode cX9_push 52 = .ok (.dup, 1) := by decide +kernel
theorem dX9_push_53 : decode cX9_push 53 = .ok (.getfield 23, 3) := by decide +kernel
theorem dX9_push_56 : decode cX9_push 56 = .ok (.iconst 1, 1) := by decide +kernel
theorem dX9_push_57 : decode cX9_push 57 = .ok (.iadd, 1) := by decide +kernel
theorem dX9_push_58 : decode cX9_push 58 = .ok (.putfield 23, 3) := by decide +kernel
theorem dX9_push_61 : decode cX9_push 61 = .ok (.return_, 1) := by decide +kernel
theorem dX9_pop_0 : decode cX9_pop 0 = .ok (.aload_n 0, 1) := by decide +kernel
theorem dX9_pop_1 : decode cX9_pop 1 = .ok (.getfield 23, 3) := by decide +kernel
theorem dX9_pop_4 : decode cX9_pop 4 = .ok (.ifCond .le 15, 3) := by decide +kernel
theorem dX9_pop_7 : decode cX9_pop 7 = .ok (.aload_n 0, 1) := by decide +kernel
theorem dX9_pop_8 : decode cX9_pop 8 = .ok (.getfield 23, 3) := by decide +kernel
theorem dX9_pop_11 : decode cX9_pop 11 = .ok (.aload_n 0, 1) := by decide +kernel
theorem dX9_pop_12 : decode cX9_pop 12 = .ok (.getfield 19, 3) := by decide +kernel
theorem dX9_pop_15 : decode cX9_pop 15 = .ok (.arraylength, 1) := by decide +kernel
theorem dX9_pop_16 : decode cX9_pop 16 = .ok (.if_icmp .le 10, 3) := by decide +kernel
theorem dX9_pop_19 : decode cX9_pop 19 = .ok (.aload_n 0, 1) := by decide +kernel
theorem dX9_pop_20 : decode cX9_pop 20 = .ok (.iconst 1, 1) := by decide +kernel
theorem dX9_pop_21 : decode cX9_pop 21 = .ok (.putfield 26, 3) := by decide +kernel
theorem dX9_pop_24 : decode cX9_pop 24 = .ok (.lconst 0, 1) := by decide +kernel
theorem dX9_pop_25 : decode cX9_pop 25 = .ok (.lreturn, 1) := by decide +kernel
theorem dX9_pop_26 : decode cX9_pop 26 = .ok (.aload_n 0, 1) := by decide +kernel
theorem dX9_pop_27 : decode cX9_pop 27 = .ok (.dup, 1) := by decide +kernel
theorem dX9_pop_28 : decode cX9_pop 28 = .ok (.getfield 23, 3) := by decide +kernel
theorem dX9_pop_31 : decode cX9_pop 31 = .ok (.iconst 1, 1) := by decide +kernel
theorem dX9_pop_32 : decode cX9_pop 32 = .ok (.isub, 1) := by decide +kernel
theorem dX9_pop_33 : decode cX9_pop 33 = .ok (.putfield 23, 3) := by decide +kernel
theorem dX9_pop_36 : decode cX9_pop 36 = .ok (.aload_n 0, 1) := by decide +kernel
theorem dX9_pop_37 : decode cX9_pop 37 = .ok (.getfield 19, 3) := by decide +kernel
theorem dX9_pop_40 : decode cX9_pop 40 = .ok (.aload_n 0, 1) := by decide +kernel
theorem dX9_pop_41 : decode cX9_pop 41 = .ok (.getfield 23, 3) := by decide +kernel
theorem dX9_pop_44 : decode cX9_pop 44 = .ok (.laload, 1) := by decide +kernel
theorem dX9_pop_45 : decode cX9_pop 45 = .ok (.lreturn, 1) := by decide +kernel
theorem dX10_init_0 : decode cX10_init 0 = .ok (.aload_n 0, 1) := by decide +kernel
theorem dX10_init_1 : decode cX10_init 1 = .ok (.invokespecial 3, 3) := by decide +kernel
theorem dX10_init_4 : decode cX10_init 4 = .ok (.aload_n 0, 1) := by decide +kernel
theorem dX10_init_5 : decode cX10_init 5 = .ok (.sipush 600, 3) := by decide +kernel
theorem dX10_init_8 : decode cX10_init 8 = .ok (.newarray .byte, 2) := by decide +kernel
theorem dX10_init_10 : decode cX10_init 10 = .ok (.putfield 9, 3) := by decide +kernel
theorem dX10_init_13 : decode cX10_init 13 = .ok (.aload_n 0, 1) := by decide +kernel
theorem dX10_init_14 : decode cX10_init 14 = .ok (.iconst 0, 1) := by decide +kernel
theorem dX10_init_15 : decode cX10_init 15 = .ok (.putfield 15, 3) := by decide +kernel
theorem dX10_init_18 : decode cX10_init 18 = .ok (.aload_n 0, 1) := by decide +kernel
theorem dX10_init_19 : decode cX10_init 19 = .ok (.iconst 0, 1) := by decide +kernel
theorem dX10_init_20 : decode cX10_init 20 = .ok (.putfield 19, 3) := by decide +kernel
theorem dX10_init_23 : decode cX10_init 23 = .ok (.aload_n 0, 1) := by decide +kernel
theorem dX10_init_24 : decode cX10_init 24 = .ok (.iconst 0, 1) := by decide +kernel
theorem dX10_init_25 : decode cX10_init 25 = .ok (.putfield 22, 3) := by decide +kernel
theorem dX10_init_28 : decode cX10_init 28 = .ok (.aload_n 0, 1) := by decide +kernel
theorem dX10_init_29 : decode cX10_init 29 = .ok (.iconst 0, 1) := by decide +kernel
theorem dX10_init_30 : decode cX10_init 30 = .ok (.putfield 25, 3) := by decide +kernel
theorem dX10_init_33 : decode cX10_init 33 = .ok (.aload_n 0, 1) := by decide +kernel
theorem dX10_init_34 : decode cX10_init 34 = .ok (.iconst 0, 1) := by decide +kernel
theorem dX10_init_35 : decode cX10_init 35 = .ok (.putfield 28, 3) := by decide +kernel
theorem dX10_init_38 : decode cX10_init 38 = .ok (.aload_n 0, 1) := by decide +kernel
theorem dX10_init_39 : decode cX10_init 39 = .ok (.iconst 0, 1) := by decide +kernel
theorem dX10_init_40 : decode cX10_init 40 = .ok (.putfield 31, 3) := by decide +kernel
theorem dX10_init_43 : decode cX10_init 43 = .ok (.return_, 1) := by decide +kernel
theorem dX10_put_0 : decode cX10_put 0 = .ok (.bipush 24, 2) := by decide +kernel
theorem dX10_put_2 : decode cX10_put 2 = .ok (.istore_n 2, 1) := by decide +kernel
theorem dX10_put_3 : decode cX10_put 3 = .ok (.iload_n 2, 1) := by decide +kernel
theorem dX10_put_4 : decode cX10_put 4 = .ok (.ifCond .lt 51, 3) := by decide +kernel
theorem dX10_put_7 : decode cX10_put 7 = .ok (.aload_n 0, 1) := by decide +kernel
theorem dX10_put_8 : decode cX10_put 8 = .ok (.getfield 15, 3) := by decide +kernel
theorem dX10_put_11 : decode cX10_put 11 = .ok (.ifCond .lt 44, 3) := by decide +kernel
theorem dX10_put_14 : decode cX10_put 14 = .ok (.aload_n 0, 1) := by decide +kernel
theorem dX10_put_15 : decode cX10_put 15 = .ok (.getfield 15, 3) := by decide +kernel
theorem dX10_put_18 : decode cX10_put 18 = .ok (.aload_n 0, 1) := by decide +kernel
theorem dX10_put_19 : decode cX10_put 19 = .ok (.getfield 9, 3) := by decide +kernel
theorem dX10_put_22 : decode cX10_put 22 = .ok (.arraylength, 1) := by decide +kernel
theorem dX10_put_23 : decode cX10_put 23 = .ok (.if_icmp .ge 32, 3) := by decide +kernel
theorem dX10_put_26 : decode cX10_put 26 = .ok (.aload_n 0, 1) := by decide +kernel
theorem dX10_put_27 : decode cX10_put 27 = .ok (.getfield 9, 3) := by decide +kernel
theorem dX10_put_30 : decode cX10_put 30 = .ok (.aload_n 0, 1) := by decide +kernel
theorem dX10_put_31 : decode cX10_put 31 = .ok (.getfield 15, 3) := by decide +kernel
theorem dX10_put_34 : decode cX10_put 34 = .ok (.iload_n 1, 1) := by decide +kernel
theorem dX10_put_35 : decode cX10_put 35 = .ok (.iload_n 2, 1) := by decide +kernel
theorem dX10_put_36 : decode cX10_put 36 = .ok (.ishr, 1) := by decide +kernel
theorem dX10_put_37 : decode cX10_put 37 = .ok (.i2b, 1) := by decide +kernel
theorem dX10_put_38 : decode cX10_put 38 = .ok (.bastore, 1) := by decide +kernel
theorem dX10_put_39 : decode cX10_put 39 = .ok (.aload_n 0, 1) := by decide +kernel
theorem dX10_put_40 : decode cX10_put 40 = .ok (.dup, 1) := by decide +kernel
theorem dX10_put_41 : decode cX10_put 41 = .ok (.getfield 15, 3) := by decide +kernel
theorem dX10_put_44 : decode cX10_put 44 = .ok (.iconst 1, 1) := by decide +kernel
theorem dX10_put_45 : decode cX10_put 45 = .ok (.iadd, 1) := by decide +kernel
theorem dX10_put_46 : decode cX10_put 46 = .ok (.putfield 15, 3) := by decide +kernel
theorem dX10_put_49 : decode cX10_put 49 = .ok (.iinc 2 (-8), 3) := by decide +kernel
theorem dX10_put_52 : decode cX10_put 52 = .ok (.goto (-49), 3) := by decide +kernel
theorem dX10_put_55 : decode cX10_put 55 = .ok (.return_, 1) := by decide +kernel
theorem dX10_begin_0 : decode cX10_begin 0 = .ok (.aload_n 0, 1) := by decide +kernel
theorem dX10_begin_1 : decode cX10_begin 1 = .ok (.iload_n 1, 1) := by decide +kernel
theorem dX10_begin_2 : decode cX10_begin 2 = .ok (.aload_n 0, 1) := by decide +kernel
theorem dX10_begin_3 : decode cX10_begin 3 = .ok (.getfield 9, 3) := by decide +kernel
theorem dX10_begin_6 : decode cX10_begin 6 = .ok (.arraylength, 1) := by decide +kernel
theorem dX10_begin_7 : decode cX10_begin 7 = .ok (.invokestatic 34, 3) := by decide +kernel
theorem dX10_begin_10 : decode cX10_begin 10 = .ok (.putfield 19, 3) := by decide +kernel
theorem dX10_begin_13 : decode cX10_begin 13 = .ok (.aload_n 0, 1) := by decide +kernel
theorem dX10_begin_14 : decode cX10_begin 14 = .ok (.iconst 0, 1) := by decide +kernel
theorem dX10_begin_15 : decode cX10_begin 15 = .ok (.putfield 15, 3) := by decide +kernel
theorem dX10_begin_18 : decode cX10_begin 18 = .ok (.aload_n 0, 1) := by decide +kernel
theorem dX10_begin_19 : decode cX10_begin 19 = .ok (.iconst 0, 1) := by decide +kernel
theorem dX10_begin_20 : decode cX10_begin 20 = .ok (.putfield 22, 3) := by decide +kernel
theorem dX10_begin_23 : decode cX10_begin 23 = .ok (.aload_n 0, 1) := by decide +kernel
theorem dX10_begin_24 : decode cX10_begin 24 = .ok (.invokevirtual 40, 3) := by decide +kernel
theorem dX10_begin_27 : decode cX10_begin 27 = .ok (.return_, 1) := by decide +kernel
theorem dX10_isSign_0 : decode cX10_isSign 0 = .ok (.aload_n 0, 1) := by decide +kernel
theorem dX10_isSign_1 : decode cX10_isSign 1 = .ok (.getfield 25, 3) := by decide +kernel
theorem dX10_isSign_4 : decode cX10_isSign 4 = .ok (.iconst 3, 1) := by decide +kernel
theorem dX10_isSign_5 : decode cX10_isSign 5 = .ok (.if_icmp .ne 15, 3) := by decide +kernel
theorem dX10_isSign_8 : decode cX10_isSign 8 = .ok (.aload_n 0, 1) := by decide +kernel
theorem dX10_isSign_9 : decode cX10_isSign 9 = .ok (.getfield 28, 3) := by decide +kernel
theorem dX10_isSign_12 : decode cX10_isSign 12 = .ok (.iload_n 1, 1) := by decide +kernel
theorem dX10_isSign_13 : decode cX10_isSign 13 = .ok (.if_icmp .ne 7, 3) := by decide +kernel
theorem dX10_isSign_16 : decode cX10_isSign 16 = .ok (.iconst 1, 1) := by decide +kernel
theorem dX10_isSign_17 : decode cX10_isSign 17 = .ok (.goto 4, 3) := by decide +kernel
theorem dX10_isSign_20 : decode cX10_isSign 20 = .ok (.iconst 0, 1) := by decide +kernel
theorem dX10_isSign_21 : decode cX10_isSign 21 = .ok (.ireturn, 1) := by decide +kernel
theorem dX10_isWord_0 : decode cX10_isWord 0 = .ok (.aload_n 0, 1) := by decide +kernel
theorem dX10_isWord_1 : decode cX10_isWord 1 = .ok (.getfield 25, 3) := by decide +kernel
theorem dX10_isWord_4 : decode cX10_isWord 4 = .ok (.iconst 1, 1) := by decide +kernel
theorem dX10_isWord_5 : decode cX10_isWord 5 = .ok (.if_icmp .ne 15, 3) := by decide +kernel
theorem dX10_isWord_8 : decode cX10_isWord 8 = .ok (.aload_n 0, 1) := by decide +kernel
theorem dX10_isWord_9 : decode cX10_isWord 9 = .ok (.getfield 28, 3) := by decide +kernel
theorem dX10_isWord_12 : decode cX10_isWord 12 = .ok (.iload_n 1, 1) := by decide +kernel
theorem dX10_isWord_13 : decode cX10_isWord 13 = .ok (.if_icmp .ne 7, 3) := by decide +kernel
theorem dX10_isWord_16 : decode cX10_isWord 16 = .ok (.iconst 1, 1) := by decide +kernel
theorem dX10_isWord_17 : decode cX10_isWord 17 = .ok (.goto 4, 3) := by decide +kernel
theorem dX10_isWord_20 : decode cX10_isWord 20 = .ok (.iconst 0, 1) := by decide +kernel
theorem dX10_isWord_21 : decode cX10_isWord 21 = .ok (.ireturn, 1) := by decide +kernel
theorem dX10_step_0 : decode cX10_step 0 = .ok (.aload_n 0, 1) := by decide +kernel
theorem dX10_step_1 : decode cX10_step 1 = .ok (.getfield 22, 3) := by decide +kernel
theorem dX10_step_4 : decode cX10_step 4 = .ok (.ifCond .lt 55, 3) := by decide +kernel
theorem dX10_step_7 : decode cX10_step 7 = .ok (.aload_n 0, 1) := by decide +kernel
theorem dX10_step_8 : decode cX10_step 8 = .ok (.getfield 22, 3) := by decide +kernel
theorem dX10_step_11 : decode cX10_step 11 = .ok (.aload_n 0, 1) := by decide +kernel
theorem dX10_step_12 : decode cX10_step 12 = .ok (.getfield 19, 3) := by decide +kernel
theorem dX10_step_15 : decode cX10_step 15 = .ok (.if_icmp .ge 44, 3) := by decide +kernel
theorem dX10_step_18 : decode cX10_step 18 = .ok (.aload_n 0, 1) := by decide +kernel
theorem dX10_step_19 : decode cX10_step 19 = .ok (.getfield 9, 3) := by decide +kernel
theorem dX10_step_22 : decode cX10_step 22 = .ok (.aload_n 0, 1) := by decide +kernel
theorem dX10_step_23 : decode cX10_step 23 = .ok (.getfield 22, 3) := by decide +kernel
theorem dX10_step_26 : decode cX10_step 26 = .ok (.baload, 1) := by decide +kernel
theorem dX10_step_27 : decode cX10_step 27 = .ok (.bipush 10, 2) := by decide +kernel
theorem dX10_step_29 : decode cX10_step 29 = .ok (.if_icmp .eq 17, 3) := by decide +kernel
theorem dX10_step_32 : decode cX10_step 32 = .ok (.aload_n 0, 1) := by decide +kernel
theorem dX10_step_33 : decode cX10_step 33 = .ok (.getfield 9, 3) := by decide +kernel
theorem dX10_step_36 : decode cX10_step 36 = .ok (.aload_n 0, 1) := by decide +kernel
theorem dX10_step_37 : decode cX10_step 37 = .ok (.getfield 22, 3) := by decide +kernel
theorem dX10_step_40 : decode cX10_step 40 = .ok (.baload, 1) := by decide +kernel
theorem dX10_step_41 : decode cX10_step 41 = .ok (.bipush 32, 2) := by decide +kernel
theorem dX10_step_43 : decode cX10_step 43 = .ok (.if_icmp .ne 16, 3) := by decide +kernel
theorem dX10_step_46 : decode cX10_step 46 = .ok (.aload_n 0, 1) := by decide +kernel
theorem dX10_step_47 : decode cX10_step 47 = .ok (.dup, 1) := by decide +kernel
theorem dX10_step_48 : decode cX10_step 48 = .ok (.getfield 22, 3) := by decide +kernel
theorem dX10_step_51 : decode cX10_step 51 = .ok (.iconst 1, 1) := by decide +kernel
theorem dX10_step_52 : decode cX10_step 52 = .ok (.iadd, 1) := by decide +kernel
theorem dX10_step_53 : decode cX10_step 53 = .ok (.putfield 22, 3) := by decide +kernel
theorem dX10_step_56 : decode cX10_step 56 = .ok (.goto (-56), 3) := by decide +kernel
theorem dX10_step_59 : decode cX10_step 59 = .ok (.aload_n 0, 1) := by decide +kernel
theorem dX10_step_60 : decode cX10_step 60 = .ok (.aload_n 0, 1) := by decide +kernel
theorem dX10_step_61 : decode cX10_step 61 = .ok (.getfield 22, 3) := by decide +kernel
theorem dX10_step_64 : decode cX10_step 64 = .ok (.putfield 31, 3) := by decide +kernel
theorem dX10_step_67 : decode cX10_step 67 = .ok (.aload_n 0, 1) := by decide +kernel
theorem dX10_step_68 : decode cX10_step 68 = .ok (.iconst 0, 1) := by decide +kernel
theorem dX10_step_69 : decode cX10_step 69 = .ok (.putfield 28, 3) := by decide +kernel
theorem dX10_step_72 : decode cX10_step 72 = .ok (.aload_n 0, 1) := by decide +kernel
theorem dX10_step_73 : decode cX10_step 73 = .ok (.getfield 22, 3) := by decide +kernel
theorem dX10_step_76 : decode cX10_step 76 = .ok (.ifCond .lt 26, 3) := by decide +kernel
theorem dX10_step_79 : decode cX10_step 79 = .ok (.aload_n 0, 1) := by decide +kernel
theorem dX10_step_80 : decode cX10_step 80 = .ok (.getfield 22, 3) := by decide +kernel
theorem dX10_step_83 : decode cX10_step 83 = .ok (.aload_n 0, 1) := by decide +kernel
theorem dX10_step_84 : decode cX10_step 84 = .ok (.getfield 19, 3) := by decide +kernel
theorem dX10_step_87 : decode cX10_step 87 = .ok (.if_icmp .ge 15, 3) := by decide +kernel
theorem dX10_step_90 : decode cX10_step 90 = .ok (.aload_n 0, 1) := by decide +kernel
theorem dX10_step_91 : decode cX10_step 91 = .ok (.getfield 9, 3) := by decide +kernel
theorem dX10_step_94 : decode cX10_step 94 = .ok (.aload_n 0, 1) := by decide +kernel
theorem dX10_step_95 : decode cX10_step 95 = .ok (.getfield 22, 3) := by decide +kernel
theorem dX10_step_98 : decode cX10_step 98 = .ok (.baload, 1) := by decide +kernel
theorem dX10_step_99 : decode cX10_step 99 = .ok (.goto 4, 3) := by decide +kernel
theorem dX10_step_102 : decode cX10_step 102 = .ok (.iconst 0, 1) := by decide +kernel
theorem dX10_step_103 : decode cX10_step 103 = .ok (.istore_n 1, 1) := by decide +kernel
theorem dX10_step_104 : decode cX10_step 104 = .ok (.aload_n 0, 1) := by decide +kernel
theorem dX10_step_105 : decode cX10_step 105 = .ok (.getfield 22, 3) := by decide +kernel
theorem dX10_step_108 : decode cX10_step 108 = .ok (.aload_n 0, 1) := by decide +kernel
theorem dX10_step_109 : decode cX10_step 109 = .ok (.getfield 19, 3) := by decide +kernel
theorem dX10_step_112 : decode cX10_step 112 = .ok (.if_icmp .lt 11, 3) := by decide +kernel
theorem dX10_step_115 : decode cX10_step 115 = .ok (.aload_n 0, 1) := by decide +kernel
theorem dX10_step_116 : decode cX10_step 116 = .ok (.iconst 0, 1) := by decide +kernel
theorem dX10_step_117 : decode cX10_step 117 = .ok (.putfield 25, 3) := by decide +kernel
theorem dX10_step_120 : decode cX10_step 120 = .ok (.goto 46, 3) := by decide +kernel
theorem dX10_step_123 : decode cX10_step 123 = .ok (.iload_n 1, 1) := by decide +kernel
theorem dX10_step_124 : decode cX10_step 124 = .ok (.bipush 97, 2) := by decide +kernel
theorem dX10_step_126 : decode cX10_step 126 = .ok (.if_icmp .lt 16, 3) := by decide +kernel
theorem dX10_step_129 : decode cX10_step 129 = .ok (.iload_n 1, 1) := by decide +kernel
theorem dX10_step_130 : decode cX10_step 130 = .ok (.bipush 122, 2) := by decide +kernel
theorem dX10_step_132 : decode cX10_step 132 = .ok (.if_icmp .gt 10, 3) := by decide +kernel
theorem dX10_step_135 : decode cX10_step 135 = .ok (.aload_n 0, 1) := by decide +kernel
theorem dX10_step_136 : decode cX10_step 136 = .ok (.invokevirtual 43, 3) := by decide +kernel
theorem dX10_step_139 : decode cX10_step 139 = .ok (.goto 27, 3) := by decide +kernel
theorem dX10_step_142 : decode cX10_step 142 = .ok (.iload_n 1, 1) := by decide +kernel
theorem dX10_step_143 : decode cX10_step 143 = .ok (.bipush 48, 2) := by decide +kernel
theorem dX10_step_145 : decode cX10_step 145 = .ok (.if_icmp .lt 16, 3) := by decide +kernel
theorem dX10_step_148 : decode cX10_step 148 = .ok (.iload_n 1, 1) := by decide +kernel
theorem dX10_step_149 : decode cX10_step 149 = .ok (.bipush 57, 2) := by decide +kernel
theorem dX10_step_151 : decode cX10_step 151 = .ok (.if_icmp .gt 10, 3) := by decide +kernel
theorem dX10_step_154 : decode cX10_step 154 = .ok (.aload_n 0, 1) := by decide +kernel
theorem dX10_step_155 : decode cX10_step 155 = .ok (.invokevirtual 46, 3) := by decide +kernel
theorem dX10_step_158 : decode cX10_step 158 = .ok (.goto 8, 3) := by decide +kernel
theorem dX10_step_161 : decode cX10_step 161 = .ok (.aload_n 0, 1) := by decide +kernel
theorem dX10_step_162 : decode cX10_step 162 = .ok (.iload_n 1, 1) := by decide +kernel
theorem dX10_step_163 : decode cX10_step 163 = .ok (.invokevirtual 49, 3) := by decide +kernel
theorem dX10_step_166 : decode cX10_step 166 = .ok (.return_, 1) := by decide +kernel
theorem dX10_stepWord_0 : decode cX10_stepWord 0 = .ok (.iconst 0, 1) := by decide +kernel
theorem dX10_stepWord_1 : decode cX10_stepWord 1 = .ok (.istore_n 1, 1) := by decide +kernel
theorem dX10_stepWord_2 : decode cX10_stepWord 2 = .ok (.aload_n 0, 1) := by decide +kernel
theorem dX10_stepWord_3 : decode cX10_stepWord 3 = .ok (.getfield 22, 3) := by decide +kernel
theorem dX10_stepWord_6 : decode cX10_stepWord 6 = .ok (.ifCond .lt 92, 3) := by decide +kernel
theorem dX10_stepWord_9 : decode cX10_stepWord 9 = .ok (.aload_n 0, 1) := by decide +kernel
theorem dX10_stepWord_10 : decode cX10_stepWord 10 = .ok (.getfield 22, 3) := by decide +kernel
theorem dX10_stepWord_13 : decode cX10_stepWord 13 = .ok (.aload_n 0, 1) := by decide +kernel
theorem dX10_stepWord_14 : decode cX10_stepWord 14 = .ok (.getfield 19, 3) := by decide +kernel
theorem dX10_stepWord_17 : decode cX10_stepWord 17 = .ok (.if_icmp .ge 81, 3) := by decide +kernel
theorem dX10_stepWord_20 : decode cX10_stepWord 20 = .ok (.aload_n 0, 1) := by decide +kernel
theorem dX10_stepWord_21 : decode cX10_stepWord 21 = .ok (.getfield 9, 3) := by decide +kernel
theorem dX10_stepWord_24 : decode cX10_stepWord 24 = .ok (.aload_n 0, 1) := by decide +kernel
theorem dX10_stepWord_25 : decode cX10_stepWord 25 = .ok (.getfield 22, 3) := by decide +kernel
theorem dX10_stepWord_28 : decode cX10_stepWord 28 = .ok (.baload, 1) := by decide +kernel
theorem dX10_stepWord_29 : decode cX10_stepWord 29 = .ok (.bipush 97, 2) := by decide +kernel
theorem dX10_stepWord_31 : decode cX10_stepWord 31 = .ok (.if_icmp .lt 67, 3) := by decide +kernel
theorem dX10_stepWord_34 : decode cX10_stepWord 34 = .ok (.aload_n 0, 1) := by decide +kernel
theorem dX10_stepWord_35 : decode cX10_stepWord 35 = .ok (.getfield 9, 3) := by decide +kernel
theorem dX10_stepWord_38 : decode cX10_stepWord 38 = .ok (.aload_n 0, 1) := by decide +kernel
theorem dX10_stepWord_39 : decode cX10_stepWord 39 = .ok (.getfield 22, 3) := by decide +kernel
theorem dX10_stepWord_42 : decode cX10_stepWord 42 = .ok (.baload, 1) := by decide +kernel
theorem dX10_stepWord_43 : decode cX10_stepWord 43 = .ok (.bipush 122, 2) := by decide +kernel
theorem dX10_stepWord_45 : decode cX10_stepWord 45 = .ok (.if_icmp .gt 53, 3) := by decide +kernel
theorem dX10_stepWord_48 : decode cX10_stepWord 48 = .ok (.iinc 1 1, 3) := by decide +kernel
theorem dX10_stepWord_51 : decode cX10_stepWord 51 = .ok (.iload_n 1, 1) := by decide +kernel
theorem dX10_stepWord_52 : decode cX10_stepWord 52 = .ok (.bipush 6, 2) := by decide +kernel
theorem dX10_stepWord_54 : decode cX10_stepWord 54 = .ok (.if_icmp .gt 31, 3) := by decide +kernel
theorem dX10_stepWord_57 : decode cX10_stepWord 57 = .ok (.aload_n 0, 1) := by decide +kernel
theorem dX10_stepWord_58 : decode cX10_stepWord 58 = .ok (.dup, 1) := by decide +kernel
theorem dX10_stepWord_59 : decode cX10_stepWord 59 = .ok (.getfield 28, 3) := by decide +kernel
theorem dX10_stepWord_62 : decode cX10_stepWord 62 = .ok (.aload_n 0, 1) := by decide +kernel
theorem dX10_stepWord_63 : decode cX10_stepWord 63 = .ok (.getfield 9, 3) := by decide +kernel
theorem dX10_stepWord_66 : decode cX10_stepWord 66 = .ok (.aload_n 0, 1) := by decide +kernel
theorem dX10_stepWord_67 : decode cX10_stepWord 67 = .ok (.getfield 22, 3) := by decide +kernel
theorem dX10_stepWord_70 : decode cX10_stepWord 70 = .ok (.baload, 1) := by decide +kernel
theorem dX10_stepWord_71 : decode cX10_stepWord 71 = .ok (.bipush 96, 2) := by decide +kernel
theorem dX10_stepWord_73 : decode cX10_stepWord 73 = .ok (.isub, 1) := by decide +kernel
theorem dX10_stepWord_74 : decode cX10_stepWord 74 = .ok (.iconst 5, 1) := by decide +kernel
theorem dX10_stepWord_75 : decode cX10_stepWord 75 = .ok (.bipush 6, 2) := by decide +kernel
theorem dX10_stepWord_77 : decode cX10_stepWord 77 = .ok (.iload_n 1, 1) := by decide +kernel
theorem dX10_stepWord_78 : decode cX10_stepWord 78 = .ok (.isub, 1) := by decide +kernel
theorem dX10_stepWord_79 : decode cX10_stepWord 79 = .ok (.imul, 1) := by decide +kernel
theorem dX10_stepWord_80 : decode cX10_stepWord 80 = .ok (.ishl, 1) := by decide +kernel
theorem dX10_stepWord_81 : decode cX10_stepWord 81 = .ok (.ior, 1) := by decide +kernel
theorem dX10_stepWord_82 : decode cX10_stepWord 82 = .ok (.putfield 28, 3) := by decide +kernel
theorem dX10_stepWord_85 : decode cX10_stepWord 85 = .ok (.aload_n 0, 1) := by decide +kernel
theorem dX10_stepWord_86 : decode cX10_stepWord 86 = .ok (.dup, 1) := by decide +kernel
theorem dX10_stepWord_87 : decode cX10_stepWord 87 = .ok (.getfield 22, 3) := by decide +kernel
theorem dX10_stepWord_90 : decode cX10_stepWord 90 = .ok (.iconst 1, 1) := by decide +kernel
theorem dX10_stepWord_91 : decode cX10_stepWord 91 = .ok (.iadd, 1) := by decide +kernel
theorem dX10_stepWord_92 : decode cX10_stepWord 92 = .ok (.putfield 22, 3) := by decide +kernel
theorem dX10_stepWord_95 : decode cX10_stepWord 95 = .ok (.goto (-93), 3) := by decide +kernel
theorem dX10_stepWord_98 : decode cX10_stepWord 98 = .ok (.aload_n 0, 1) := by decide +kernel
theorem dX10_stepWord_99 : decode cX10_stepWord 99 = .ok (.iload_n 1, 1) := by decide +kernel
theorem dX10_stepWord_100 : decode cX10_stepWord 100 = .ok (.bipush 6, 2) := by decide +kernel
theorem dX10_stepWord_102 : decode cX10_stepWord 102 = .ok (.if_icmp .gt 7, 3) := by decide +kernel
theorem dX10_stepWord_105 : decode cX10_stepWord 105 = .ok (.iconst 1, 1) := by decide +kernel
theorem dX10_stepWord_106 : decode cX10_stepWord 106 = .ok (.goto 4, 3) := by decide +kernel
theorem dX10_stepWord_109 : decode cX10_stepWord 109 = .ok (.iconst 4, 1) := by decide +kernel
theorem dX10_stepWord_110 : decode cX10_stepWord 110 = .ok (.putfield 25, 3) := by decide +kernel
theorem dX10_stepWord_113 : decode cX10_stepWord 113 = .ok (.return_, 1) := by decide +kernel
theorem dX10_stepDigits_0 : decode cX10_stepDigits 0 = .ok (.aload_n 0, 1) := by decide +kernel
theorem dX10_stepDigits_1 : decode cX10_stepDigits 1 = .ok (.getfield 22, 3) := by decide +kernel
theorem dX10_stepDigits_4 : decode cX10_stepDigits 4 = .ok (.ifCond .lt 94, 3) := by decide +kernel
theorem dX10_stepDigits_7 : decode cX10_stepDigits 7 = .ok (.aload_n 0, 1) := by decide +kernel
theorem dX10_stepDigits_8 : decode cX10_stepDigits 8 = .ok (.getfield 22, 3) := by decide +kernel
theorem dX10_stepDigits_11 : decode cX10_stepDigits 11 = .ok (.aload_n 0, 1) := by decide +kernel
theorem dX10_stepDigits_12 : decode cX10_stepDigits 12 = .ok (.getfield 19, 3) := by decide +kernel
theorem dX10_stepDigits_15 : decode cX10_stepDigits 15 = .ok (.if_icmp .ge 83, 3) := by decide +kernel
theorem dX10_stepDigits_18 : decode cX10_stepDigits 18 = .ok (.aload_n 0, 1) := by decide +kernel
theorem dX10_stepDigits_19 : decode cX10_stepDigits 19 = .ok (.getfield 9, 3) := by decide +kernel
theorem dX10_stepDigits_22 : decode cX10_stepDigits 22 = .ok (.aload_n 0, 1) := by decide +kernel
theorem dX10_stepDigits_23 : decode cX10_stepDigits 23 = .ok (.getfield 22, 3) := by decide +kernel
theorem dX10_stepDigits_26 : decode cX10_stepDigits 26 = .ok (.baload, 1) := by decide +kernel
theorem dX10_stepDigits_27 : decode cX10_stepDigits 27 = .ok (.bipush 48, 2) := by decide +kernel
theorem dX10_stepDigits_29 : decode cX10_stepDigits 29 = .ok (.if_icmp .lt 69, 3) := by decide +kernel
theorem dX10_stepDigits_32 : decode cX10_stepDigits 32 = .ok (.aload_n 0, 1) := by decide +kernel
theorem dX10_stepDigits_33 : decode cX10_stepDigits 33 = .ok (.getfield 9, 3) := by decide +kernel
theorem dX10_stepDigits_36 : decode cX10_stepDigits 36 = .ok (.aload_n 0, 1) := by decide +kernel
theorem dX10_stepDigits_37 : decode cX10_stepDigits 37 = .ok (.getfield 22, 3) := by decide +kernel
theorem dX10_stepDigits_40 : decode cX10_stepDigits 40 = .ok (.baload, 1) := by decide +kernel
theorem dX10_stepDigits_41 : decode cX10_stepDigits 41 = .ok (.bipush 57, 2) := by decide +kernel
theorem dX10_stepDigits_43 : decode cX10_stepDigits 43 = .ok (.if_icmp .gt 55, 3) := by decide +kernel
theorem dX10_stepDigits_46 : decode cX10_stepDigits 46 = .ok (.bipush 10, 2) := by decide +kernel
theorem dX10_stepDigits_48 : decode cX10_stepDigits 48 = .ok (.aload_n 0, 1) := by decide +kernel
theorem dX10_stepDigits_49 : decode cX10_stepDigits 49 = .ok (.getfield 28, 3) := by decide +kernel
theorem dX10_stepDigits_52 : decode cX10_stepDigits 52 = .ok (.imul, 1) := by decide +kernel
theorem dX10_stepDigits_53 : decode cX10_stepDigits 53 = .ok (.aload_n 0, 1) := by decide +kernel
theorem dX10_stepDigits_54 : decode cX10_stepDigits 54 = .ok (.getfield 9, 3) := by decide +kernel
theorem dX10_stepDigits_57 : decode cX10_stepDigits 57 = .ok (.aload_n 0, 1) := by decide +kernel
theorem dX10_stepDigits_58 : decode cX10_stepDigits 58 = .ok (.getfield 22, 3) := by decide +kernel
theorem dX10_stepDigits_61 : decode cX10_stepDigits 61 = .ok (.baload, 1) := by decide +kernel
theorem dX10_stepDigits_62 : decode cX10_stepDigits 62 = .ok (.iadd, 1) := by decide +kernel
theorem dX10_stepDigits_63 : decode cX10_stepDigits 63 = .ok (.bipush 48, 2) := by decide +kernel
theorem dX10_stepDigits_65 : decode cX10_stepDigits 65 = .ok (.isub, 1) := by decide +kernel
theorem dX10_stepDigits_66 : decode cX10_stepDigits 66 = .ok (.istore_n 1, 1) := by decide +kernel
theorem dX10_stepDigits_67 : decode cX10_stepDigits 67 = .ok (.aload_n 0, 1) := by decide +kernel
theorem dX10_stepDigits_68 : decode cX10_stepDigits 68 = .ok (.iload_n 1, 1) := by decide +kernel
theorem dX10_stepDigits_69 : decode cX10_stepDigits 69 = .ok (.sipush 1000, 3) := by decide +kernel
theorem dX10_stepDigits_72 : decode cX10_stepDigits 72 = .ok (.if_icmp .le 9, 3) := by decide +kernel
theorem dX10_stepDigits_75 : decode cX10_stepDigits 75 = .ok (.sipush 1000, 3) := by decide +kernel
theorem dX10_stepDigits_78 : decode cX10_stepDigits 78 = .ok (.goto 4, 3) := by decide +kernel
theorem dX10_stepDigits_81 : decode cX10_stepDigits 81 = .ok (.iload_n 1, 1) := by decide +kernel
theorem dX10_stepDigits_82 : decode cX10_stepDigits 82 = .ok (.putfield 28, 3) := by decide +kernel
theorem dX10_stepDigits_85 : decode cX10_stepDigits 85 = .ok (.aload_n 0, 1) := by decide +kernel
theorem dX10_stepDigits_86 : decode cX10_stepDigits 86 = .ok (.dup, 1) := by decide +kernel
theorem dX10_stepDigits_87 : decode cX10_stepDigits 87 = .ok (.getfield 22, 3) := by decide +kernel
theorem dX10_stepDigits_90 : decode cX10_stepDigits 90 = .ok (.iconst 1, 1) := by decide +kernel
theorem dX10_stepDigits_91 : decode cX10_stepDigits 91 = .ok (.iadd, 1) := by decide +kernel
theorem dX10_stepDigits_92 : decode cX10_stepDigits 92 = .ok (.putfield 22, 3) := by decide +kernel
theorem dX10_stepDigits_95 : decode cX10_stepDigits 95 = .ok (.goto (-95), 3) := by decide +kernel
theorem dX10_stepDigits_98 : decode cX10_stepDigits 98 = .ok (.aload_n 0, 1) := by decide +kernel
theorem dX10_stepDigits_99 : decode cX10_stepDigits 99 = .ok (.iconst 2, 1) := by decide +kernel
theorem dX10_stepDigits_100 : decode cX10_stepDigits 100 = .ok (.putfield 25, 3) := by decide +kernel
theorem dX10_stepDigits_103 : decode cX10_stepDigits 103 = .ok (.return_, 1) := by decide +kernel
theorem dX10_stepSign_0 : decode cX10_stepSign 0 = .ok (.aload_n 0, 1) := by decide +kernel
theorem dX10_stepSign_1 : decode cX10_stepSign 1 = .ok (.dup, 1) := by decide +kernel
theorem dX10_stepSign_2 : decode cX10_stepSign 2 = .ok (.getfield 22, 3) := by decide +kernel
theorem dX10_stepSign_5 : decode cX10_stepSign 5 = .ok (.iconst 1, 1) := by decide +kernel
theorem dX10_stepSign_6 : decode cX10_stepSign 6 = .ok (.iadd, 1) := by decide +kernel
theorem dX10_stepSign_7 : decode cX10_stepSign 7 = .ok (.putfield 22, 3) := by decide +kernel
theorem dX10_stepSign_10 : decode cX10_stepSign 10 = .ok (.aload_n 0, 1) := by decide +kernel
theorem dX10_stepSign_11 : decode cX10_stepSign 11 = .ok (.getfield 22, 3) := by decide +kernel
theorem dX10_stepSign_14 : decode cX10_stepSign 14 = .ok (.ifCond .lt 26, 3) := by decide +kernel
theorem dX10_stepSign_17 : decode cX10_stepSign 17 = .ok (.aload_n 0, 1) := by decide +kernel
theorem dX10_stepSign_18 : decode cX10_stepSign 18 = .ok (.getfield 22, 3) := by decide +kernel
theorem dX10_stepSign_21 : decode cX10_stepSign 21 = .ok (.aload_n 0, 1) := by decide +kernel
theorem dX10_stepSign_22 : decode cX10_stepSign 22 = .ok (.getfield 19, 3) := by decide +kernel
theorem dX10_stepSign_25 : decode cX10_stepSign 25 = .ok (.if_icmp .ge 15, 3) := by decide +kernel
theorem dX10_stepSign_28 : decode cX10_stepSign 28 = .ok (.aload_n 0, 1) := by decide +kernel
theorem dX10_stepSign_29 : decode cX10_stepSign 29 = .ok (.getfield 9, 3) := by decide +kernel
theorem dX10_stepSign_32 : decode cX10_stepSign 32 = .ok (.aload_n 0, 1) := by decide +kernel
theorem dX10_stepSign_33 : decode cX10_stepSign 33 = .ok (.getfield 22, 3) := by decide +kernel
theorem dX10_stepSign_36 : decode cX10_stepSign 36 = .ok (.baload, 1) := by decide +kernel
theorem dX10_stepSign_37 : decode cX10_stepSign 37 = .ok (.goto 4, 3) := by decide +kernel
theorem dX10_stepSign_40 : decode cX10_stepSign 40 = .ok (.iconst 0, 1) := by decide +kernel
theorem dX10_stepSign_41 : decode cX10_stepSign 41 = .ok (.istore_n 2, 1) := by decide +kernel
theorem dX10_stepSign_42 : decode cX10_stepSign 42 = .ok (.aload_n 0, 1) := by decide +kernel
theorem dX10_stepSign_43 : decode cX10_stepSign 43 = .ok (.iload_n 1, 1) := by decide +kernel
theorem dX10_stepSign_44 : decode cX10_stepSign 44 = .ok (.putfield 28, 3) := by decide +kernel
theorem dX10_stepSign_47 : decode cX10_stepSign 47 = .ok (.aload_n 0, 1) := by decide +kernel
theorem dX10_stepSign_48 : decode cX10_stepSign 48 = .ok (.iconst 3, 1) := by decide +kernel
theorem dX10_stepSign_49 : decode cX10_stepSign 49 = .ok (.putfield 25, 3) := by decide +kernel
theorem dX10_stepSign_52 : decode cX10_stepSign 52 = .ok (.iload_n 1, 1) := by decide +kernel
theorem dX10_stepSign_53 : decode cX10_stepSign 53 = .ok (.bipush 60, 2) := by decide +kernel
theorem dX10_stepSign_55 : decode cX10_stepSign 55 = .ok (.if_icmp .ne 19, 3) := by decide +kernel
theorem dX10_stepSign_58 : decode cX10_stepSign 58 = .ok (.iload_n 2, 1) := by decide +kernel
theorem dX10_stepSign_59 : decode cX10_stepSign 59 = .ok (.bipush 61, 2) := by decide +kernel
theorem dX10_stepSign_61 : decode cX10_stepSign 61 = .ok (.if_icmp .ne 13, 3) := by decide +kernel
theorem dX10_stepSign_64 : decode cX10_stepSign 64 = .ok (.aload_n 0, 1) := by decide +kernel
theorem dX10_stepSign_65 : decode cX10_stepSign 65 = .ok (.sipush 256, 3) := by decide +kernel
theorem dX10_stepSign_68 : decode cX10_stepSign 68 = .ok (.putfield 28, 3) := by decide +kernel
theorem dX10_stepSign_71 : decode cX10_stepSign 71 = .ok (.goto 44, 3) := by decide +kernel
theorem dX10_stepSign_74 : decode cX10_stepSign 74 = .ok (.iload_n 1, 1) := by decide +kernel
theorem dX10_stepSign_75 : decode cX10_stepSign 75 = .ok (.bipush 60, 2) := by decide +kernel
theorem dX10_stepSign_77 : decode cX10_stepSign 77 = .ok (.if_icmp .ne 19, 3) := by decide +kernel
theorem dX10_stepSign_80 : decode cX10_stepSign 80 = .ok (.iload_n 2, 1) := by decide +kernel
theorem dX10_stepSign_81 : decode cX10_stepSign 81 = .ok (.bipush 62, 2) := by decide +kernel
theorem dX10_stepSign_83 : decode cX10_stepSign 83 = .ok (.if_icmp .ne 13, 3) := by decide +kernel
theorem dX10_stepSign_86 : decode cX10_stepSign 86 = .ok (.aload_n 0, 1) := by decide +kernel
theorem dX10_stepSign_87 : decode cX10_stepSign 87 = .ok (.sipush 257, 3) := by decide +kernel
theorem dX10_stepSign_90 : decode cX10_stepSign 90 = .ok (.putfield 28, 3) := by decide +kernel
theorem dX10_stepSign_93 : decode cX10_stepSign 93 = .ok (.goto 22, 3) := by decide +kernel
theorem dX10_stepSign_96 : decode cX10_stepSign 96 = .ok (.iload_n 1, 1) := by decide +kernel
theorem dX10_stepSign_97 : decode cX10_stepSign 97 = .ok (.bipush 62, 2) := by decide +kernel
theorem dX10_stepSign_99 : decode cX10_stepSign 99 = .ok (.if_icmp .ne 16, 3) := by decide +kernel
theorem dX10_stepSign_102 : decode cX10_stepSign 102 = .ok (.iload_n 2, 1) := by decide +kernel
theorem dX10_stepSign_103 : decode cX10_stepSign 103 = .ok (.bipush 61, 2) := by decide +kernel
theorem dX10_stepSign_105 : decode cX10_stepSign 105 = .ok (.if_icmp .ne 10, 3) := by decide +kernel
theorem dX10_stepSign_108 : decode cX10_stepSign 108 = .ok (.aload_n 0, 1) := by decide +kernel
theorem dX10_stepSign_109 : decode cX10_stepSign 109 = .ok (.sipush 258, 3) := by decide +kernel
theorem dX10_stepSign_112 : decode cX10_stepSign 112 = .ok (.putfield 28, 3) := by decide +kernel
theorem dX10_stepSign_115 : decode cX10_stepSign 115 = .ok (.aload_n 0, 1) := by decide +kernel
theorem dX10_stepSign_116 : decode cX10_stepSign 116 = .ok (.getfield 28, 3) := by decide +kernel
theorem dX10_stepSign_119 : decode cX10_stepSign 119 = .ok (.iload_n 1, 1) := by decide +kernel
theorem dX10_stepSign_120 : decode cX10_stepSign 120 = .ok (.if_icmp .eq 13, 3) := by decide +kernel
theorem dX10_stepSign_123 : decode cX10_stepSign 123 = .ok (.aload_n 0, 1) := by decide +kernel
theorem dX10_stepSign_124 : decode cX10_stepSign 124 = .ok (.dup, 1) := by decide +kernel
theorem dX10_stepSign_125 : decode cX10_stepSign 125 = .ok (.getfield 22, 3) := by decide +kernel
theorem dX10_stepSign_128 : decode cX10_stepSign 128 = .ok (.iconst 1, 1) := by decide +kernel
theorem dX10_stepSign_129 : decode cX10_stepSign 129 = .ok (.iadd, 1) := by decide +kernel
theorem dX10_stepSign_130 : decode cX10_stepSign 130 = .ok (.putfield 22, 3) := by decide +kernel
theorem dX10_stepSign_133 : decode cX10_stepSign 133 = .ok (.return_, 1) := by decide +kernel
theorem dX10_isOfLanguage_0 : decode cX10_isOfLanguage 0 = .ok (.iload_n 0, 1) := by decide +kernel
theorem dX10_isOfLanguage_1 : decode cX10_isOfLanguage 1 = .ok (.lookupswitch 93 #[(48365568, 91), (83623936, 91), (378998784, 91), (419037184, 91), (486146048, 91), (522190848, 91), (549489824, 91), (639309408, 91), (672502784, 91), (788082272, 91)], 91) := by decide +kernel
theorem dX10_isOfLanguage_92 : decode cX10_isOfLanguage 92 = .ok (.iconst 1, 1) := by decide +kernel
theorem dX10_isOfLanguage_93 : decode cX10_isOfLanguage 93 = .ok (.ireturn, 1) := by decide +kernel
theorem dX10_isOfLanguage_94 : decode cX10_isOfLanguage 94 = .ok (.iload_n 0, 1) := by decide +kernel
theorem dX10_isOfLanguage_95 : decode cX10_isOfLanguage 95 = .ok (.invokestatic 53, 3) := by decide +kernel
theorem dX10_isOfLanguage_98 : decode cX10_isOfLanguage 98 = .ok (.ireturn, 1) := by decide +kernel
theorem dX10_isOfCounts_0 : decode cX10_isOfCounts 0 = .ok (.iload_n 0, 1) := by decide +kernel
theorem dX10_isOfCounts_1 : decode cX10_isOfCounts 1 = .ok (.lookupswitch 69 #[(117095065, 67), (407948928, 67), (452579328, 67), (518160384, 67), (659980288, 67), (680072352, 67), (695697408, 67)], 67) := by decide +kernel
theorem dX10_isOfCounts_68 : decode cX10_isOfCounts 68 = .ok (.iconst 1, 1) := by decide +kernel
theorem dX10_isOfCounts_69 : decode cX10_isOfCounts 69 = .ok (.ireturn, 1) := by decide +kernel
theorem dX10_isOfCounts_70 : decode cX10_isOfCounts 70 = .ok (.iconst 0, 1) := by decide +kernel
theorem dX10_isOfCounts_71 : decode cX10_isOfCounts 71 = .ok (.ireturn, 1) := by decide +kernel
theorem dX11_init_0 : decode cX11_init 0 = .ok (.aload_n 0, 1) := by decide +kernel
theorem dX11_init_1 : decode cX11_init 1 = .ok (.invokespecial 3, 3) := by decide +kernel
theorem dX11_init_4 : decode cX11_init 4 = .ok (.aload_n 0, 1) := by decide +kernel
theorem dX11_init_5 : decode cX11_init 5 = .ok (.new 9, 3) := by decide +kernel
theorem dX11_init_8 : decode cX11_init 8 = .ok (.dup, 1) := by decide +kernel
theorem dX11_init_9 : decode cX11_init 9 = .ok (.invokespecial 11, 3) := by decide +kernel
theorem dX11_init_12 : decode cX11_init 12 = .ok (.putfield 12, 3) := by decide +kernel
theorem dX11_init_15 : decode cX11_init 15 = .ok (.aload_n 0, 1) := by decide +kernel
theorem dX11_init_16 : decode cX11_init 16 = .ok (.new 18, 3) := by decide +kernel
theorem dX11_init_19 : decode cX11_init 19 = .ok (.dup, 1) := by decide +kernel
theorem dX11_init_20 : decode cX11_init 20 = .ok (.invokespecial 20, 3) := by decide +kernel
theorem dX11_init_23 : decode cX11_init 23 = .ok (.putfield 21, 3) := by decide +kernel
theorem dX11_init_26 : decode cX11_init 26 = .ok (.aload_n 0, 1) := by decide +kernel
theorem dX11_init_27 : decode cX11_init 27 = .ok (.new 18, 3) := by decide +kernel
theorem dX11_init_30 : decode cX11_init 30 = .ok (.dup, 1) := by decide +kernel
theorem dX11_init_31 : decode cX11_init 31 = .ok (.invokespecial 20, 3) := by decide +kernel
theorem dX11_init_34 : decode cX11_init 34 = .ok (.putfield 25, 3) := by decide +kernel
theorem dX11_init_37 : decode cX11_init 37 = .ok (.aload_n 0, 1) := by decide +kernel
theorem dX11_init_38 : decode cX11_init 38 = .ok (.new 28, 3) := by decide +kernel
theorem dX11_init_41 : decode cX11_init 41 = .ok (.dup, 1) := by decide +kernel
theorem dX11_init_42 : decode cX11_init 42 = .ok (.invokespecial 30, 3) := by decide +kernel
theorem dX11_init_45 : decode cX11_init 45 = .ok (.putfield 31, 3) := by decide +kernel
theorem dX11_init_48 : decode cX11_init 48 = .ok (.aload_n 0, 1) := by decide +kernel
theorem dX11_init_49 : decode cX11_init 49 = .ok (.new 35, 3) := by decide +kernel
theorem dX11_init_52 : decode cX11_init 52 = .ok (.dup, 1) := by decide +kernel
theorem dX11_init_53 : decode cX11_init 53 = .ok (.invokespecial 37, 3) := by decide +kernel
theorem dX11_init_56 : decode cX11_init 56 = .ok (.putfield 38, 3) := by decide +kernel
theorem dX11_init_59 : decode cX11_init 59 = .ok (.aload_n 0, 1) := by decide +kernel
theorem dX11_init_60 : decode cX11_init 60 = .ok (.new 42, 3) := by decide +kernel
theorem dX11_init_63 : decode cX11_init 63 = .ok (.dup, 1) := by decide +kernel
theorem dX11_init_64 : decode cX11_init 64 = .ok (.invokespecial 44, 3) := by decide +kernel
theorem dX11_init_67 : decode cX11_init 67 = .ok (.putfield 45, 3) := by decide +kernel
theorem dX11_init_70 : decode cX11_init 70 = .ok (.aload_n 0, 1) := by decide +kernel
theorem dX11_init_71 : decode cX11_init 71 = .ok (.new 49, 3) := by decide +kernel
theorem dX11_init_74 : decode cX11_init 74 = .ok (.dup, 1) := by decide +kernel
theorem dX11_init_75 : decode cX11_init 75 = .ok (.invokespecial 51, 3) := by decide +kernel
theorem dX11_init_78 : decode cX11_init 78 = .ok (.putfield 52, 3) := by decide +kernel
theorem dX11_init_81 : decode cX11_init 81 = .ok (.aload_n 0, 1) := by decide +kernel
theorem dX11_init_82 : decode cX11_init 82 = .ok (.new 56, 3) := by decide +kernel
theorem dX11_init_85 : decode cX11_init 85 = .ok (.dup, 1) := by decide +kernel
theorem dX11_init_86 : decode cX11_init 86 = .ok (.invokespecial 58, 3) := by decide +kernel
theorem dX11_init_89 : decode cX11_init 89 = .ok (.putfield 59, 3) := by decide +kernel
theorem dX11_init_92 : decode cX11_init 92 = .ok (.return_, 1) := by decide +kernel
theorem dX11_feed_0 : decode cX11_feed 0 = .ok (.aload_n 0, 1) := by decide +kernel
theorem dX11_feed_1 : decode cX11_feed 1 = .ok (.getfield 12, 3) := by decide +kernel
theorem dX11_feed_4 : decode cX11_feed 4 = .ok (.getfield 63, 3) := by decide +kernel
theorem dX11_feed_7 : decode cX11_feed 7 = .ok (.astore 6, 2) := by decide +kernel
theorem dX11_feed_9 : decode cX11_feed 9 = .ok (.aload 6, 2) := by decide +kernel
theorem dX11_feed_11 : decode cX11_feed 11 = .ok (.getfield 67, 3) := by decide +kernel
theorem dX11_feed_14 : decode cX11_feed 14 = .ok (.bipush 20, 2) := by decide +kernel
theorem dX11_feed_16 : decode cX11_feed 16 = .ok (.iadd, 1) := by decide +kernel
theorem dX11_feed_17 : decode cX11_feed 17 = .ok (.sipush 600, 3) := by decide +kernel
theorem dX11_feed_20 : decode cX11_feed 20 = .ok (.if_icmp .le 5, 3) := by decide +kernel
theorem dX11_feed_23 : decode cX11_feed 23 = .ok (.iconst (-1), 1) := by decide +kernel
theorem dX11_feed_24 : decode cX11_feed 24 = .ok (.ireturn, 1) := by decide +kernel
theorem dX11_feed_25 : decode cX11_feed 25 = .ok (.aload 6, 2) := by decide +kernel
theorem dX11_feed_27 : decode cX11_feed 27 = .ok (.iload_n 1, 1) := by decide +kernel
theorem dX11_feed_28 : decode cX11_feed 28 = .ok (.invokevirtual 73, 3) := by decide +kernel
theorem dX11_feed_31 : decode cX11_feed 31 = .ok (.aload 6, 2) := by decide +kernel
theorem dX11_feed_33 : decode cX11_feed 33 = .ok (.iload_n 2, 1) := by decide +kernel
theorem dX11_feed_34 : decode cX11_feed 34 = .ok (.invokevirtual 73, 3) := by decide +kernel
theorem dX11_feed_37 : decode cX11_feed 37 = .ok (.aload 6, 2) := by decide +kernel
theorem dX11_feed_39 : decode cX11_feed 39 = .ok (.iload_n 3, 1) := by decide +kernel
theorem dX11_feed_40 : decode cX11_feed 40 = .ok (.invokevirtual 73, 3) := by decide +kernel
theorem dX11_feed_43 : decode cX11_feed 43 = .ok (.aload 6, 2) := by decide +kernel
theorem dX11_feed_45 : decode cX11_feed 45 = .ok (.iload 4, 2) := by decide +kernel
theorem dX11_feed_47 : decode cX11_feed 47 = .ok (.invokevirtual 73, 3) := by decide +kernel
theorem dX11_feed_50 : decode cX11_feed 50 = .ok (.aload 6, 2) := by decide +kernel
theorem dX11_feed_52 : decode cX11_feed 52 = .ok (.iload 5, 2) := by decide +kernel
theorem dX11_feed_54 : decode cX11_feed 54 = .ok (.invokevirtual 73, 3) := by decide +kernel
theorem dX11_feed_57 : decode cX11_feed 57 = .ok (.aload 6, 2) := by decide +kernel
theorem dX11_feed_59 : decode cX11_feed 59 = .ok (.getfield 67, 3) := by decide +kernel
theorem dX11_feed_62 : decode cX11_feed 62 = .ok (.ireturn, 1) := by decide +kernel
theorem dX11_text_0 : decode cX11_text 0 = .ok (.iload_n 1, 1) := by decide +kernel
theorem dX11_text_1 : decode cX11_text 1 = .ok (.ifCond .lt 17, 3) := by decide +kernel
theorem dX11_text_4 : decode cX11_text 4 = .ok (.iload_n 1, 1) := by decide +kernel
theorem dX11_text_5 : decode cX11_text 5 = .ok (.aload_n 0, 1) := by decide +kernel
theorem dX11_text_6 : decode cX11_text 6 = .ok (.getfield 12, 3) := by decide +kernel
theorem dX11_text_9 : decode cX11_text 9 = .ok (.getfield 63, 3) := by decide +kernel
theorem dX11_text_12 : decode cX11_text 12 = .ok (.getfield 67, 3) := by decide +kernel
theorem dX11_text_15 : decode cX11_text 15 = .ok (.if_icmp .le 6, 3) := by decide +kernel
theorem dX11_text_18 : decode cX11_text 18 = .ok (.bipush (-2), 2) := by decide +kernel
theorem dX11_text_20 : decode cX11_text 20 = .ok (.ireturn, 1) := by decide +kernel
theorem dX11_text_21 : decode cX11_text 21 = .ok (.aload_n 0, 1) := by decide +kernel
theorem dX11_text_22 : decode cX11_text 22 = .ok (.getfield 12, 3) := by decide +kernel
theorem dX11_text_25 : decode cX11_text 25 = .ok (.iload_n 1, 1) := by decide +kernel
theorem dX11_text_26 : decode cX11_text 26 = .ok (.aload_n 0, 1) := by decide +kernel
theorem dX11_text_27 : decode cX11_text 27 = .ok (.getfield 25, 3) := by decide +kernel
theorem dX11_text_30 : decode cX11_text 30 = .ok (.invokevirtual 77, 3) := by decide +kernel
theorem dX11_text_33 : decode cX11_text 33 = .ok (.ifCond .ne 5, 3) := by decide +kernel
theorem dX11_text_36 : decode cX11_text 36 = .ok (.iconst (-1), 1) := by decide +kernel
theorem dX11_text_37 : decode cX11_text 37 = .ok (.ireturn, 1) := by decide +kernel
theorem dX11_text_38 : decode cX11_text 38 = .ok (.aload_n 0, 1) := by decide +kernel
theorem dX11_text_39 : decode cX11_text 39 = .ok (.getfield 21, 3) := by decide +kernel
theorem dX11_text_42 : decode cX11_text 42 = .ok (.astore_n 2, 1) := by decide +kernel
theorem dX11_text_43 : decode cX11_text 43 = .ok (.aload_n 0, 1) := by decide +kernel
theorem dX11_text_44 : decode cX11_text 44 = .ok (.aload_n 0, 1) := by decide +kernel
theorem dX11_text_45 : decode cX11_text 45 = .ok (.getfield 25, 3) := by decide +kernel
theorem dX11_text_48 : decode cX11_text 48 = .ok (.putfield 21, 3) := by decide +kernel
theorem dX11_text_51 : decode cX11_text 51 = .ok (.aload_n 0, 1) := by decide +kernel
theorem dX11_text_52 : decode cX11_text 52 = .ok (.aload_n 2, 1) := by decide +kernel
theorem dX11_text_53 : decode cX11_text 53 = .ok (.putfield 25, 3) := by decide +kernel
theorem dX11_text_56 : decode cX11_text 56 = .ok (.aload_n 0, 1) := by decide +kernel
theorem dX11_text_57 : decode cX11_text 57 = .ok (.getfield 38, 3) := by decide +kernel
theorem dX11_text_60 : decode cX11_text 60 = .ok (.invokevirtual 81, 3) := by decide +kernel
theorem dX11_text_63 : decode cX11_text 63 = .ok (.aload_n 0, 1) := by decide +kernel
theorem dX11_text_64 : decode cX11_text 64 = .ok (.getfield 21, 3) := by decide +kernel
theorem dX11_text_67 : decode cX11_text 67 = .ok (.getfield 84, 3) := by decide +kernel
theorem dX11_text_70 : decode cX11_text 70 = .ok (.ireturn, 1) := by decide +kernel
theorem dX11_fault_0 : decode cX11_fault 0 = .ok (.iload_n 1, 1) := by decide +kernel
theorem dX11_fault_1 : decode cX11_fault 1 = .ok (.lookupswitch 43 #[(0, 27), (1, 35)], 27) := by decide +kernel
theorem dX11_fault_28 : decode cX11_fault 28 = .ok (.aload_n 0, 1) := by decide +kernel
theorem dX11_fault_29 : decode cX11_fault 29 = .ok (.getfield 12, 3) := by decide +kernel
theorem dX11_fault_32 : decode cX11_fault 32 = .ok (.getfield 87, 3) := by decide +kernel
theorem dX11_fault_35 : decode cX11_fault 35 = .ok (.ireturn, 1) := by decide +kernel
theorem dX11_fault_36 : decode cX11_fault 36 = .ok (.aload_n 0, 1) := by decide +kernel
theorem dX11_fault_37 : decode cX11_fault 37 = .ok (.getfield 12, 3) := by decide +kernel
theorem dX11_fault_40 : decode cX11_fault 40 = .ok (.getfield 90, 3) := by decide +kernel
theorem dX11_fault_43 : decode cX11_fault 43 = .ok (.ireturn, 1) := by decide +kernel
theorem dX11_fault_44 : decode cX11_fault 44 = .ok (.iconst (-1), 1) := by decide +kernel
theorem dX11_fault_45 : decode cX11_fault 45 = .ok (.ireturn, 1) := by decide +kernel
theorem dX11_named_0 : decode cX11_named 0 = .ok (.iload_n 1, 1) := by decide +kernel
theorem dX11_named_1 : decode cX11_named 1 = .ok (.lookupswitch 71 #[(0, 27), (1, 52)], 27) := by decide +kernel
theorem dX11_named_28 : decode cX11_named 28 = .ok (.aload_n 0, 1) := by decide +kernel
theorem dX11_named_29 : decode cX11_named 29 = .ok (.getfield 21, 3) := by decide +kernel
theorem dX11_named_32 : decode cX11_named 32 = .ok (.getfield 93, 3) := by decide +kernel
theorem dX11_named_35 : decode cX11_named 35 = .ok (.getfield 97, 3) := by decide +kernel
theorem dX11_named_38 : decode cX11_named 38 = .ok (.aload_n 0, 1) := by decide +kernel
theorem dX11_named_39 : decode cX11_named 39 = .ok (.getfield 21, 3) := by decide +kernel
theorem dX11_named_42 : decode cX11_named 42 = .ok (.getfield 93, 3) := by decide +kernel
theorem dX11_named_45 : decode cX11_named 45 = .ok (.getfield 103, 3) := by decide +kernel
theorem dX11_named_48 : decode cX11_named 48 = .ok (.iload_n 2, 1) := by decide +kernel
theorem dX11_named_49 : decode cX11_named 49 = .ok (.invokestatic 106, 3) := by decide +kernel
theorem dX11_named_52 : decode cX11_named 52 = .ok (.ireturn, 1) := by decide +kernel
theorem dX11_named_53 : decode cX11_named 53 = .ok (.aload_n 0, 1) := by decide +kernel
theorem dX11_named_54 : decode cX11_named 54 = .ok (.getfield 21, 3) := by decide +kernel
theorem dX11_named_57 : decode cX11_named 57 = .ok (.getfield 110, 3) := by decide +kernel
theorem dX11_named_60 : decode cX11_named 60 = .ok (.aload_n 0, 1) := by decide +kernel
theorem dX11_named_61 : decode cX11_named 61 = .ok (.getfield 21, 3) := by decide +kernel
theorem dX11_named_64 : decode cX11_named 64 = .ok (.getfield 111, 3) := by decide +kernel
theorem dX11_named_67 : decode cX11_named 67 = .ok (.iload_n 2, 1) := by decide +kernel
theorem dX11_named_68 : decode cX11_named 68 = .ok (.invokestatic 106, 3) := by decide +kernel
theorem dX11_named_71 : decode cX11_named 71 = .ok (.ireturn, 1) := by decide +kernel
theorem dX11_named_72 : decode cX11_named 72 = .ok (.iconst (-1), 1) := by decide +kernel
theorem dX11_named_73 : decode cX11_named 73 = .ok (.ireturn, 1) := by decide +kernel
theorem dX11_look_0 : decode cX11_look 0 = .ok (.aload_n 0, 1) := by decide +kernel
theorem dX11_look_1 : decode cX11_look 1 = .ok (.getfield 21, 3) := by decide +kernel
theorem dX11_look_4 : decode cX11_look 4 = .ok (.iload_n 1, 1) := by decide +kernel
theorem dX11_look_5 : decode cX11_look 5 = .ok (.invokevirtual 114, 3) := by decide +kernel
theorem dX11_look_8 : decode cX11_look 8 = .ok (.ifCond .ne 13, 3) := by decide +kernel
theorem dX11_look_11 : decode cX11_look 11 = .ok (.new 118, 3) := by decide +kernel
theorem dX11_look_14 : decode cX11_look 14 = .ok (.dup, 1) := by decide +kernel
theorem dX11_look_15 : decode cX11_look 15 = .ok (.ldc 120, 2) := by decide +kernel
theorem dX11_look_17 : decode cX11_look 17 = .ok (.invokespecial 122, 3) := by decide +kernel
theorem dX11_look_20 : decode cX11_look 20 = .ok (.athrow, 1) := by decide +kernel
theorem dX11_look_21 : decode cX11_look 21 = .ok (.iload_n 2, 1) := by decide +kernel
theorem dX11_look_22 : decode cX11_look 22 = .ok (.tableswitch 106 0 5 #[38, 48, 66, 76, 86, 96], 38) := by decide +kernel
theorem dX11_look_60 : decode cX11_look 60 = .ok (.aload_n 0, 1) := by decide +kernel
theorem dX11_look_61 : decode cX11_look 61 = .ok (.getfield 21, 3) := by decide +kernel
theorem dX11_look_64 : decode cX11_look 64 = .ok (.getfield 125, 3) := by decide +kernel
theorem dX11_look_67 : decode cX11_look 67 = .ok (.iload_n 1, 1) := by decide +kernel
theorem dX11_look_68 : decode cX11_look 68 = .ok (.iaload, 1) := by decide +kernel
theorem dX11_look_69 : decode cX11_look 69 = .ok (.ireturn, 1) := by decide +kernel
theorem dX11_look_70 : decode cX11_look 70 = .ok (.aload_n 0, 1) := by decide +kernel
theorem dX11_look_71 : decode cX11_look 71 = .ok (.getfield 21, 3) := by decide +kernel
theorem dX11_look_74 : decode cX11_look 74 = .ok (.getfield 128, 3) := by decide +kernel
theorem dX11_look_77 : decode cX11_look 77 = .ok (.iload_n 1, 1) := by decide +kernel
theorem dX11_look_78 : decode cX11_look 78 = .ok (.baload, 1) := by decide +kernel
theorem dX11_look_79 : decode cX11_look 79 = .ok (.ifCond .eq 7, 3) := by decide +kernel
theorem dX11_look_82 : decode cX11_look 82 = .ok (.iconst 1, 1) := by decide +kernel
theorem dX11_look_83 : decode cX11_look 83 = .ok (.goto 4, 3) := by decide +kernel
theorem dX11_look_86 : decode cX11_look 86 = .ok (.iconst 0, 1) := by decide +kernel
theorem dX11_look_87 : decode cX11_look 87 = .ok (.ireturn, 1) := by decide +kernel
theorem dX11_look_88 : decode cX11_look 88 = .ok (.aload_n 0, 1) := by decide +kernel
theorem dX11_look_89 : decode cX11_look 89 = .ok (.getfield 21, 3) := by decide +kernel
theorem dX11_look_92 : decode cX11_look 92 = .ok (.getfield 132, 3) := by decide +kernel
theorem dX11_look_95 : decode cX11_look 95 = .ok (.iload_n 1, 1) := by decide +kernel
theorem dX11_look_96 : decode cX11_look 96 = .ok (.iaload, 1) := by decide +kernel
theorem dX11_look_97 : decode cX11_look 97 = .ok (.ireturn, 1) := by decide +kernel
theorem dX11_look_98 : decode cX11_look 98 = .ok (.aload_n 0, 1) := by decide +kernel
theorem dX11_look_99 : decode cX11_look 99 = .ok (.getfield 21, 3) := by decide +kernel
theorem dX11_look_102 : decode cX11_look 102 = .ok (.getfield 135, 3) := by decide +kernel
theorem dX11_look_105 : decode cX11_look 105 = .ok (.iload_n 1, 1) := by decide +kernel
theorem dX11_look_106 : decode cX11_look 106 = .ok (.iaload, 1) := by decide +kernel
theorem dX11_look_107 : decode cX11_look 107 = .ok (.ireturn, 1) := by decide +kernel
theorem dX11_look_108 : decode cX11_look 108 = .ok (.aload_n 0, 1) := by decide +kernel
theorem dX11_look_109 : decode cX11_look 109 = .ok (.getfield 21, 3) := by decide +kernel
theorem dX11_look_112 : decode cX11_look 112 = .ok (.getfield 138, 3) := by decide +kernel
theorem dX11_look_115 : decode cX11_look 115 = .ok (.iload_n 1, 1) := by decide +kernel
theorem dX11_look_116 : decode cX11_look 116 = .ok (.iaload, 1) := by decide +kernel
theorem dX11_look_117 : decode cX11_look 117 = .ok (.ireturn, 1) := by decide +kernel
theorem dX11_look_118 : decode cX11_look 118 = .ok (.aload_n 0, 1) := by decide +kernel
theorem dX11_look_119 : decode cX11_look 119 = .ok (.getfield 21, 3) := by decide +kernel
theorem dX11_look_122 : decode cX11_look 122 = .ok (.getfield 141, 3) := by decide +kernel
theorem dX11_look_125 : decode cX11_look 125 = .ok (.iload_n 1, 1) := by decide +kernel
theorem dX11_look_126 : decode cX11_look 126 = .ok (.iaload, 1) := by decide +kernel
theorem dX11_look_127 : decode cX11_look 127 = .ok (.ireturn, 1) := by decide +kernel
theorem dX11_look_128 : decode cX11_look 128 = .ok (.new 144, 3) := by decide +kernel
theorem dX11_look_131 : decode cX11_look 131 = .ok (.dup, 1) := by decide +kernel
theorem dX11_look_132 : decode cX11_look 132 = .ok (.ldc 146, 2) := by decide +kernel
theorem dX11_look_134 : decode cX11_look 134 = .ok (.invokespecial 148, 3) := by decide +kernel
theorem dX11_look_137 : decode cX11_look 137 = .ok (.athrow, 1) := by decide +kernel
theorem dX11_note_0 : decode cX11_note 0 = .ok (.aload_n 0, 1) := by decide +kernel
theorem dX11_note_1 : decode cX11_note 1 = .ok (.getfield 21, 3) := by decide +kernel
theorem dX11_note_4 : decode cX11_note 4 = .ok (.iload_n 1, 1) := by decide +kernel
theorem dX11_note_5 : decode cX11_note 5 = .ok (.invokevirtual 114, 3) := by decide +kernel
theorem dX11_note_8 : decode cX11_note 8 = .ok (.ifCond .eq 23, 3) := by decide +kernel
theorem dX11_note_11 : decode cX11_note 11 = .ok (.iload_n 2, 1) := by decide +kernel
theorem dX11_note_12 : decode cX11_note 12 = .ok (.iconst 0, 1) := by decide +kernel
theorem dX11_note_13 : decode cX11_note 13 = .ok (.bipush 8, 2) := by decide +kernel
theorem dX11_note_15 : decode cX11_note 15 = .ok (.invokestatic 149, 3) := by decide +kernel
theorem dX11_note_18 : decode cX11_note 18 = .ok (.ifCond .eq 13, 3) := by decide +kernel
theorem dX11_note_21 : decode cX11_note 21 = .ok (.iload_n 3, 1) := by decide +kernel
theorem dX11_note_22 : decode cX11_note 22 = .ok (.iconst 0, 1) := by decide +kernel
theorem dX11_note_23 : decode cX11_note 23 = .ok (.bipush 9, 2) := by decide +kernel
theorem dX11_note_25 : decode cX11_note 25 = .ok (.invokestatic 149, 3) := by decide +kernel
theorem dX11_note_28 : decode cX11_note 28 = .ok (.ifCond .ne 5, 3) := by decide +kernel
theorem dX11_note_31 : decode cX11_note 31 = .ok (.iconst (-1), 1) := by decide +kernel
theorem dX11_note_32 : decode cX11_note 32 = .ok (.ireturn, 1) := by decide +kernel
theorem dX11_note_33 : decode cX11_note 33 = .ok (.aload_n 0, 1) := by decide +kernel
theorem dX11_note_34 : decode cX11_note 34 = .ok (.getfield 21, 3) := by decide +kernel
theorem dX11_note_37 : decode cX11_note 37 = .ok (.getfield 153, 3) := by decide +kernel
theorem dX11_note_40 : decode cX11_note 40 = .ok (.iload_n 1, 1) := by decide +kernel
theorem dX11_note_41 : decode cX11_note 41 = .ok (.iload_n 2, 1) := by decide +kernel
theorem dX11_note_42 : decode cX11_note 42 = .ok (.iload_n 3, 1) := by decide +kernel
theorem dX11_note_43 : decode cX11_note 43 = .ok (.iconst (-1), 1) := by decide +kernel
theorem dX11_note_44 : decode cX11_note 44 = .ok (.invokevirtual 157, 3) := by decide +kernel
theorem dX11_note_47 : decode cX11_note 47 = .ok (.ireturn, 1) := by decide +kernel
theorem dX11_strike_0 : decode cX11_strike 0 = .ok (.iload_n 1, 1) := by decide +kernel
theorem dX11_strike_1 : decode cX11_strike 1 = .ok (.iconst 0, 1) := by decide +kernel
theorem dX11_strike_2 : decode cX11_strike 2 = .ok (.aload_n 0, 1) := by decide +kernel
theorem dX11_strike_3 : decode cX11_strike 3 = .ok (.getfield 21, 3) := by decide +kernel
theorem dX11_strike_6 : decode cX11_strike 6 = .ok (.getfield 153, 3) := by decide +kernel
theorem dX11_strike_9 : decode cX11_strike 9 = .ok (.getfield 163, 3) := by decide +kernel
theorem dX11_strike_12 : decode cX11_strike 12 = .ok (.iconst 1, 1) := by decide +kernel
theorem dX11_strike_13 : decode cX11_strike 13 = .ok (.isub, 1) := by decide +kernel
theorem dX11_strike_14 : decode cX11_strike 14 = .ok (.invokestatic 149, 3) := by decide +kernel
theorem dX11_strike_17 : decode cX11_strike 17 = .ok (.ifCond .ne 5, 3) := by decide +kernel
theorem dX11_strike_20 : decode cX11_strike 20 = .ok (.iconst (-1), 1) := by decide +kernel
theorem dX11_strike_21 : decode cX11_strike 21 = .ok (.ireturn, 1) := by decide +kernel
theorem dX11_strike_22 : decode cX11_strike 22 = .ok (.aload_n 0, 1) := by decide +kernel
theorem dX11_strike_23 : decode cX11_strike 23 = .ok (.getfield 21, 3) := by decide +kernel
theorem dX11_strike_26 : decode cX11_strike 26 = .ok (.getfield 153, 3) := by decide +kernel
theorem dX11_strike_29 : decode cX11_strike 29 = .ok (.iconst (-1), 1) := by decide +kernel
theorem dX11_strike_30 : decode cX11_strike 30 = .ok (.iconst (-1), 1) := by decide +kernel
theorem dX11_strike_31 : decode cX11_strike 31 = .ok (.iconst (-1), 1) := by decide +kernel
theorem dX11_strike_32 : decode cX11_strike 32 = .ok (.iload_n 1, 1) := by decide +kernel
theorem dX11_strike_33 : decode cX11_strike 33 = .ok (.invokevirtual 157, 3) := by decide +kernel
theorem dX11_strike_36 : decode cX11_strike 36 = .ok (.ireturn, 1) := by decide +kernel
theorem dX11_known_0 : decode cX11_known 0 = .ok (.iload_n 1, 1) := by decide +kernel
theorem dX11_known_1 : decode cX11_known 1 = .ok (.iconst (-1), 1) := by decide +kernel
theorem dX11_known_2 : decode cX11_known 2 = .ok (.aload_n 0, 1) := by decide +kernel
theorem dX11_known_3 : decode cX11_known 3 = .ok (.getfield 21, 3) := by decide +kernel
theorem dX11_known_6 : decode cX11_known 6 = .ok (.getfield 153, 3) := by decide +kernel
theorem dX11_known_9 : decode cX11_known 9 = .ok (.getfield 163, 3) := by decide +kernel
theorem dX11_known_12 : decode cX11_known 12 = .ok (.invokestatic 149, 3) := by decide +kernel
theorem dX11_known_15 : decode cX11_known 15 = .ok (.ifCond .ne 5, 3) := by decide +kernel
theorem dX11_known_18 : decode cX11_known 18 = .ok (.iconst 0, 1) := by decide +kernel
theorem dX11_known_19 : decode cX11_known 19 = .ok (.ireturn, 1) := by decide +kernel
theorem dX11_known_20 : decode cX11_known 20 = .ok (.aload_n 0, 1) := by decide +kernel
theorem dX11_known_21 : decode cX11_known 21 = .ok (.getfield 21, 3) := by decide +kernel
theorem dX11_known_24 : decode cX11_known 24 = .ok (.getfield 153, 3) := by decide +kernel
theorem dX11_known_27 : decode cX11_known 27 = .ok (.iload_n 1, 1) := by decide +kernel
theorem dX11_known_28 : decode cX11_known 28 = .ok (.invokevirtual 164, 3) := by decide +kernel
theorem dX11_known_31 : decode cX11_known 31 = .ok (.iconst 1, 1) := by decide +kernel
theorem dX11_known_32 : decode cX11_known 32 = .ok (.ireturn, 1) := by decide +kernel
theorem dX11_count_0 : decode cX11_count 0 = .ok (.aload_n 0, 1) := by decide +kernel
theorem dX11_count_1 : decode cX11_count 1 = .ok (.getfield 21, 3) := by decide +kernel
theorem dX11_count_4 : decode cX11_count 4 = .ok (.iload_n 1, 1) := by decide +kernel
theorem dX11_count_5 : decode cX11_count 5 = .ok (.invokevirtual 114, 3) := by decide +kernel
theorem dX11_count_8 : decode cX11_count 8 = .ok (.ifCond .eq 18, 3) := by decide +kernel
theorem dX11_count_11 : decode cX11_count 11 = .ok (.aload_n 0, 1) := by decide +kernel
theorem dX11_count_12 : decode cX11_count 12 = .ok (.getfield 21, 3) := by decide +kernel
theorem dX11_count_15 : decode cX11_count 15 = .ok (.getfield 153, 3) := by decide +kernel
theorem dX11_count_18 : decode cX11_count 18 = .ok (.iload_n 1, 1) := by decide +kernel
theorem dX11_count_19 : decode cX11_count 19 = .ok (.iload_n 2, 1) := by decide +kernel
theorem dX11_count_20 : decode cX11_count 20 = .ok (.invokevirtual 167, 3) := by decide +kernel
theorem dX11_count_23 : decode cX11_count 23 = .ok (.goto 4, 3) := by decide +kernel
theorem dX11_count_26 : decode cX11_count 26 = .ok (.iconst (-1), 1) := by decide +kernel
theorem dX11_count_27 : decode cX11_count 27 = .ok (.ireturn, 1) := by decide +kernel
theorem dX11_likely_0 : decode cX11_likely 0 = .ok (.iload_n 1, 1) := by decide +kernel
theorem dX11_likely_1 : decode cX11_likely 1 = .ok (.iconst 0, 1) := by decide +kernel
theorem dX11_likely_2 : decode cX11_likely 2 = .ok (.aload_n 0, 1) := by decide +kernel
theorem dX11_likely_3 : decode cX11_likely 3 = .ok (.getfield 21, 3) := by decide +kernel
theorem dX11_likely_6 : decode cX11_likely 6 = .ok (.getfield 93, 3) := by decide +kernel
theorem dX11_likely_9 : decode cX11_likely 9 = .ok (.getfield 103, 3) := by decide +kernel
theorem dX11_likely_12 : decode cX11_likely 12 = .ok (.iconst 1, 1) := by decide +kernel
theorem dX11_likely_13 : decode cX11_likely 13 = .ok (.isub, 1) := by decide +kernel
theorem dX11_likely_14 : decode cX11_likely 14 = .ok (.invokestatic 149, 3) := by decide +kernel
theorem dX11_likely_17 : decode cX11_likely 17 = .ok (.ifCond .eq 23, 3) := by decide +kernel
theorem dX11_likely_20 : decode cX11_likely 20 = .ok (.aload_n 0, 1) := by decide +kernel
theorem dX11_likely_21 : decode cX11_likely 21 = .ok (.getfield 21, 3) := by decide +kernel
theorem dX11_likely_24 : decode cX11_likely 24 = .ok (.iload_n 2, 1) := by decide +kernel
theorem dX11_likely_25 : decode cX11_likely 25 = .ok (.invokevirtual 114, 3) := by decide +kernel
theorem dX11_likely_28 : decode cX11_likely 28 = .ok (.ifCond .eq 12, 3) := by decide +kernel
theorem dX11_likely_31 : decode cX11_likely 31 = .ok (.iload_n 3, 1) := by decide +kernel
theorem dX11_likely_32 : decode cX11_likely 32 = .ok (.iload 4, 2) := by decide +kernel
theorem dX11_likely_34 : decode cX11_likely 34 = .ok (.invokestatic 171, 3) := by decide +kernel
theorem dX11_likely_37 : decode cX11_likely 37 = .ok (.ifCond .ne 7, 3) := by decide +kernel
theorem dX11_likely_40 : decode cX11_likely 40 = .ok (.ldc2_w 175, 3) := by decide +kernel
theorem dX11_likely_43 : decode cX11_likely 43 = .ok (.lreturn, 1) := by decide +kernel
theorem dX11_likely_44 : decode cX11_likely 44 = .ok (.aload_n 0, 1) := by decide +kernel
theorem dX11_likely_45 : decode cX11_likely 45 = .ok (.getfield 31, 3) := by decide +kernel
theorem dX11_likely_48 : decode cX11_likely 48 = .ok (.aload_n 0, 1) := by decide +kernel
theorem dX11_likely_49 : decode cX11_likely 49 = .ok (.getfield 21, 3) := by decide +kernel
theorem dX11_likely_52 : decode cX11_likely 52 = .ok (.iload_n 1, 1) := by decide +kernel
theorem dX11_likely_53 : decode cX11_likely 53 = .ok (.iload_n 2, 1) := by decide +kernel
theorem dX11_likely_54 : decode cX11_likely 54 = .ok (.iload_n 3, 1) := by decide +kernel
theorem dX11_likely_55 : decode cX11_likely 55 = .ok (.iload 4, 2) := by decide +kernel
theorem dX11_likely_57 : decode cX11_likely 57 = .ok (.invokevirtual 177, 3) := by decide +kernel
theorem dX11_likely_60 : decode cX11_likely 60 = .ok (.lreturn, 1) := by decide +kernel
theorem dX11_rate_0 : decode cX11_rate 0 = .ok (.aload_n 0, 1) := by decide +kernel
theorem dX11_rate_1 : decode cX11_rate 1 = .ok (.getfield 21, 3) := by decide +kernel
theorem dX11_rate_4 : decode cX11_rate 4 = .ok (.iload_n 1, 1) := by decide +kernel
theorem dX11_rate_5 : decode cX11_rate 5 = .ok (.invokevirtual 114, 3) := by decide +kernel
theorem dX11_rate_8 : decode cX11_rate 8 = .ok (.ifCond .eq 21, 3) := by decide +kernel
theorem dX11_rate_11 : decode cX11_rate 11 = .ok (.iload_n 2, 1) := by decide +kernel
theorem dX11_rate_12 : decode cX11_rate 12 = .ok (.iload_n 3, 1) := by decide +kernel
theorem dX11_rate_13 : decode cX11_rate 13 = .ok (.invokestatic 171, 3) := by decide +kernel
theorem dX11_rate_16 : decode cX11_rate 16 = .ok (.ifCond .eq 13, 3) := by decide +kernel
theorem dX11_rate_19 : decode cX11_rate 19 = .ok (.iload 4, 2) := by decide +kernel
theorem dX11_rate_21 : decode cX11_rate 21 = .ok (.iconst 0, 1) := by decide +kernel
theorem dX11_rate_22 : decode cX11_rate 22 = .ok (.iconst 1, 1) := by decide +kernel
theorem dX11_rate_23 : decode cX11_rate 23 = .ok (.invokestatic 149, 3) := by decide +kernel
theorem dX11_rate_26 : decode cX11_rate 26 = .ok (.ifCond .ne 7, 3) := by decide +kernel
theorem dX11_rate_29 : decode cX11_rate 29 = .ok (.ldc2_w 175, 3) := by decide +kernel
theorem dX11_rate_32 : decode cX11_rate 32 = .ok (.lreturn, 1) := by decide +kernel
theorem dX11_rate_33 : decode cX11_rate 33 = .ok (.aload_n 0, 1) := by decide +kernel
theorem dX11_rate_34 : decode cX11_rate 34 = .ok (.getfield 31, 3) := by decide +kernel
theorem dX11_rate_37 : decode cX11_rate 37 = .ok (.aload_n 0, 1) := by decide +kernel
theorem dX11_rate_38 : decode cX11_rate 38 = .ok (.getfield 21, 3) := by decide +kernel
theorem dX11_rate_41 : decode cX11_rate 41 = .ok (.iload_n 1, 1) := by decide +kernel
theorem dX11_rate_42 : decode cX11_rate 42 = .ok (.iload_n 2, 1) := by decide +kernel
theorem dX11_rate_43 : decode cX11_rate 43 = .ok (.iload_n 3, 1) := by decide +kernel
theorem dX11_rate_44 : decode cX11_rate 44 = .ok (.invokevirtual 181, 3) := by decide +kernel
theorem dX11_rate_47 : decode cX11_rate 47 = .ok (.iload 4, 2) := by decide +kernel
theorem dX11_rate_49 : decode cX11_rate 49 = .ok (.ifCond .ne 13, 3) := by decide +kernel
theorem dX11_rate_52 : decode cX11_rate 52 = .ok (.aload_n 0, 1) := by decide +kernel
theorem dX11_rate_53 : decode cX11_rate 53 = .ok (.getfield 31, 3) := by decide +kernel
theorem dX11_rate_56 : decode cX11_rate 56 = .ok (.getfield 185, 3) := by decide +kernel
theorem dX11_rate_59 : decode cX11_rate 59 = .ok (.goto 10, 3) := by decide +kernel
theorem dX11_rate_62 : decode cX11_rate 62 = .ok (.aload_n 0, 1) := by decide +kernel
theorem dX11_rate_63 : decode cX11_rate 63 = .ok (.getfield 31, 3) := by decide +kernel
theorem dX11_rate_66 : decode cX11_rate 66 = .ok (.getfield 189, 3) := by decide +kernel
theorem dX11_rate_69 : decode cX11_rate 69 = .ok (.lreturn, 1) := by decide +kernel
theorem dX11_span_0 : decode cX11_span 0 = .ok (.aload_n 0, 1) := by decide +kernel
theorem dX11_span_1 : decode cX11_span 1 = .ok (.getfield 21, 3) := by decide +kernel
theorem dX11_span_4 : decode cX11_span 4 = .ok (.iload_n 1, 1) := by decide +kernel
theorem dX11_span_5 : decode cX11_span 5 = .ok (.invokevirtual 114, 3) := by decide +kernel
theorem dX11_span_8 : decode cX11_span 8 = .ok (.ifCond .eq 21, 3) := by decide +kernel
theorem dX11_span_11 : decode cX11_span 11 = .ok (.iload_n 2, 1) := by decide +kernel
theorem dX11_span_12 : decode cX11_span 12 = .ok (.iload_n 3, 1) := by decide +kernel
theorem dX11_span_13 : decode cX11_span 13 = .ok (.invokestatic 171, 3) := by decide +kernel
theorem dX11_span_16 : decode cX11_span 16 = .ok (.ifCond .eq 13, 3) := by decide +kernel
theorem dX11_span_19 : decode cX11_span 19 = .ok (.iload 4, 2) := by decide +kernel
theorem dX11_span_21 : decode cX11_span 21 = .ok (.iconst 0, 1) := by decide +kernel
theorem dX11_span_22 : decode cX11_span 22 = .ok (.iconst 1, 1) := by decide +kernel
theorem dX11_span_23 : decode cX11_span 23 = .ok (.invokestatic 149, 3) := by decide +kernel
theorem dX11_span_26 : decode cX11_span 26 = .ok (.ifCond .ne 5, 3) := by decide +kernel
theorem dX11_span_29 : decode cX11_span 29 = .ok (.iconst (-1), 1) := by decide +kernel
theorem dX11_span_30 : decode cX11_span 30 = .ok (.ireturn, 1) := by decide +kernel
theorem dX11_span_31 : decode cX11_span 31 = .ok (.aload_n 0, 1) := by decide +kernel
theorem dX11_span_32 : decode cX11_span 32 = .ok (.getfield 31, 3) := by decide +kernel
theorem dX11_span_35 : decode cX11_span 35 = .ok (.aload_n 0, 1) := by decide +kernel
theorem dX11_span_36 : decode cX11_span 36 = .ok (.getfield 21, 3) := by decide +kernel
theorem dX11_span_39 : decode cX11_span 39 = .ok (.iload_n 1, 1) := by decide +kernel
theorem dX11_span_40 : decode cX11_span 40 = .ok (.iload_n 2, 1) := by decide +kernel
theorem dX11_span_41 : decode cX11_span 41 = .ok (.iload_n 3, 1) := by decide +kernel
theorem dX11_span_42 : decode cX11_span 42 = .ok (.invokevirtual 192, 3) := by decide +kernel
theorem dX11_span_45 : decode cX11_span 45 = .ok (.ifCond .ne 6, 3) := by decide +kernel
theorem dX11_span_48 : decode cX11_span 48 = .ok (.bipush (-2), 2) := by decide +kernel
theorem dX11_span_50 : decode cX11_span 50 = .ok (.ireturn, 1) := by decide +kernel
theorem dX11_span_51 : decode cX11_span 51 = .ok (.iload 4, 2) := by decide +kernel
theorem dX11_span_53 : decode cX11_span 53 = .ok (.ifCond .ne 13, 3) := by decide +kernel
theorem dX11_span_56 : decode cX11_span 56 = .ok (.aload_n 0, 1) := by decide +kernel
theorem dX11_span_57 : decode cX11_span 57 = .ok (.getfield 31, 3) := by decide +kernel
theorem dX11_span_60 : decode cX11_span 60 = .ok (.getfield 196, 3) := by decide +kernel
theorem dX11_span_63 : decode cX11_span 63 = .ok (.goto 10, 3) := by decide +kernel
theorem dX11_span_66 : decode cX11_span 66 = .ok (.aload_n 0, 1) := by decide +kernel
theorem dX11_span_67 : decode cX11_span 67 = .ok (.getfield 31, 3) := by decide +kernel
theorem dX11_span_70 : decode cX11_span 70 = .ok (.getfield 199, 3) := by decide +kernel
theorem dX11_span_73 : decode cX11_span 73 = .ok (.ireturn, 1) := by decide +kernel
theorem dX11_worse_0 : decode cX11_worse 0 = .ok (.aload_n 0, 1) := by decide +kernel
theorem dX11_worse_1 : decode cX11_worse 1 = .ok (.getfield 21, 3) := by decide +kernel
theorem dX11_worse_4 : decode cX11_worse 4 = .ok (.iload_n 1, 1) := by decide +kernel
theorem dX11_worse_5 : decode cX11_worse 5 = .ok (.invokevirtual 114, 3) := by decide +kernel
theorem dX11_worse_8 : decode cX11_worse 8 = .ok (.ifCond .eq 38, 3) := by decide +kernel
theorem dX11_worse_11 : decode cX11_worse 11 = .ok (.aload_n 0, 1) := by decide +kernel
theorem dX11_worse_12 : decode cX11_worse 12 = .ok (.getfield 21, 3) := by decide +kernel
theorem dX11_worse_15 : decode cX11_worse 15 = .ok (.iload_n 2, 1) := by decide +kernel
theorem dX11_worse_16 : decode cX11_worse 16 = .ok (.invokevirtual 114, 3) := by decide +kernel
theorem dX11_worse_19 : decode cX11_worse 19 = .ok (.ifCond .eq 27, 3) := by decide +kernel
theorem dX11_worse_22 : decode cX11_worse 22 = .ok (.iload_n 1, 1) := by decide +kernel
theorem dX11_worse_23 : decode cX11_worse 23 = .ok (.iload_n 2, 1) := by decide +kernel
theorem dX11_worse_24 : decode cX11_worse 24 = .ok (.if_icmp .eq 22, 3) := by decide +kernel
theorem dX11_worse_27 : decode cX11_worse 27 = .ok (.iload_n 3, 1) := by decide +kernel
theorem dX11_worse_28 : decode cX11_worse 28 = .ok (.iload 4, 2) := by decide +kernel
theorem dX11_worse_30 : decode cX11_worse 30 = .ok (.invokestatic 171, 3) := by decide +kernel
theorem dX11_worse_33 : decode cX11_worse 33 = .ok (.ifCond .eq 13, 3) := by decide +kernel
theorem dX11_worse_36 : decode cX11_worse 36 = .ok (.iload 5, 2) := by decide +kernel
theorem dX11_worse_38 : decode cX11_worse 38 = .ok (.iconst 0, 1) := by decide +kernel
theorem dX11_worse_39 : decode cX11_worse 39 = .ok (.iconst 1, 1) := by decide +kernel
theorem dX11_worse_40 : decode cX11_worse 40 = .ok (.invokestatic 149, 3) := by decide +kernel
theorem dX11_worse_43 : decode cX11_worse 43 = .ok (.ifCond .ne 7, 3) := by decide +kernel
theorem dX11_worse_46 : decode cX11_worse 46 = .ok (.ldc2_w 175, 3) := by decide +kernel
theorem dX11_worse_49 : decode cX11_worse 49 = .ok (.lreturn, 1) := by decide +kernel
theorem dX11_worse_50 : decode cX11_worse 50 = .ok (.aload_n 0, 1) := by decide +kernel
theorem dX11_worse_51 : decode cX11_worse 51 = .ok (.getfield 31, 3) := by decide +kernel
theorem dX11_worse_54 : decode cX11_worse 54 = .ok (.aload_n 0, 1) := by decide +kernel
theorem dX11_worse_55 : decode cX11_worse 55 = .ok (.getfield 21, 3) := by decide +kernel
theorem dX11_worse_58 : decode cX11_worse 58 = .ok (.iload_n 1, 1) := by decide +kernel
theorem dX11_worse_59 : decode cX11_worse 59 = .ok (.iload_n 2, 1) := by decide +kernel
theorem dX11_worse_60 : decode cX11_worse 60 = .ok (.iload_n 3, 1) := by decide +kernel
theorem dX11_worse_61 : decode cX11_worse 61 = .ok (.iload 4, 2) := by decide +kernel
theorem dX11_worse_63 : decode cX11_worse 63 = .ok (.invokevirtual 202, 3) := by decide +kernel
theorem dX11_worse_66 : decode cX11_worse 66 = .ok (.iload 5, 2) := by decide +kernel
theorem dX11_worse_68 : decode cX11_worse 68 = .ok (.ifCond .ne 13, 3) := by decide +kernel
theorem dX11_worse_71 : decode cX11_worse 71 = .ok (.aload_n 0, 1) := by decide +kernel
theorem dX11_worse_72 : decode cX11_worse 72 = .ok (.getfield 31, 3) := by decide +kernel
theorem dX11_worse_75 : decode cX11_worse 75 = .ok (.getfield 185, 3) := by decide +kernel
theorem dX11_worse_78 : decode cX11_worse 78 = .ok (.goto 10, 3) := by decide +kernel
theorem dX11_worse_81 : decode cX11_worse 81 = .ok (.aload_n 0, 1) := by decide +kernel
theorem dX11_worse_82 : decode cX11_worse 82 = .ok (.getfield 31, 3) := by decide +kernel
theorem dX11_worse_85 : decode cX11_worse 85 = .ok (.getfield 189, 3) := by decide +kernel
theorem dX11_worse_88 : decode cX11_worse 88 = .ok (.lreturn, 1) := by decide +kernel
theorem dX11_taken_0 : decode cX11_taken 0 = .ok (.iload_n 1, 1) := by decide +kernel
theorem dX11_taken_1 : decode cX11_taken 1 = .ok (.iconst 3, 1) := by decide +kernel
theorem dX11_taken_2 : decode cX11_taken 2 = .ok (.bipush 9, 2) := by decide +kernel
theorem dX11_taken_4 : decode cX11_taken 4 = .ok (.invokestatic 149, 3) := by decide +kernel
theorem dX11_taken_7 : decode cX11_taken 7 = .ok (.ifCond .eq 14, 3) := by decide +kernel
theorem dX11_taken_10 : decode cX11_taken 10 = .ok (.aload_n 0, 1) := by decide +kernel
theorem dX11_taken_11 : decode cX11_taken 11 = .ok (.getfield 21, 3) := by decide +kernel
theorem dX11_taken_14 : decode cX11_taken 14 = .ok (.iload_n 1, 1) := by decide +kernel
theorem dX11_taken_15 : decode cX11_taken 15 = .ok (.invokevirtual 206, 3) := by decide +kernel
theorem dX11_taken_18 : decode cX11_taken 18 = .ok (.goto 4, 3) := by decide +kernel
theorem dX11_taken_21 : decode cX11_taken 21 = .ok (.iconst (-1), 1) := by decide +kernel
theorem dX11_taken_22 : decode cX11_taken 22 = .ok (.ireturn, 1) := by decide +kernel
theorem dX11_law_0 : decode cX11_law 0 = .ok (.iload_n 1, 1) := by decide +kernel
theorem dX11_law_1 : decode cX11_law 1 = .ok (.iconst 0, 1) := by decide +kernel
theorem dX11_law_2 : decode cX11_law 2 = .ok (.bipush 9, 2) := by decide +kernel
theorem dX11_law_4 : decode cX11_law 4 = .ok (.invokestatic 149, 3) := by decide +kernel
theorem dX11_law_7 : decode cX11_law 7 = .ok (.ifCond .ne 7, 3) := by decide +kernel
theorem dX11_law_10 : decode cX11_law 10 = .ok (.ldc2_w 175, 3) := by decide +kernel
theorem dX11_law_13 : decode cX11_law 13 = .ok (.lreturn, 1) := by decide +kernel
theorem dX11_law_14 : decode cX11_law 14 = .ok (.aload_n 0, 1) := by decide +kernel
theorem dX11_law_15 : decode cX11_law 15 = .ok (.getfield 38, 3) := by decide +kernel
theorem dX11_law_18 : decode cX11_law 18 = .ok (.aload_n 0, 1) := by decide +kernel
theorem dX11_law_19 : decode cX11_law 19 = .ok (.getfield 21, 3) := by decide +kernel
theorem dX11_law_22 : decode cX11_law 22 = .ok (.iload_n 1, 1) := by decide +kernel
theorem dX11_law_23 : decode cX11_law 23 = .ok (.invokevirtual 210, 3) := by decide +kernel
theorem dX11_law_26 : decode cX11_law 26 = .ok (.iload_n 2, 1) := by decide +kernel
theorem dX11_law_27 : decode cX11_law 27 = .ok (.tableswitch 81 0 4 #[33, 41, 57, 65, 73], 33) := by decide +kernel
theorem dX11_law_60 : decode cX11_law 60 = .ok (.aload_n 0, 1) := by decide +kernel
theorem dX11_law_61 : decode cX11_law 61 = .ok (.getfield 38, 3) := by decide +kernel
theorem dX11_law_64 : decode cX11_law 64 = .ok (.getfield 214, 3) := by decide +kernel
theorem dX11_law_67 : decode cX11_law 67 = .ok (.lreturn, 1) := by decide +kernel
theorem dX11_law_68 : decode cX11_law 68 = .ok (.ldc2_w 217, 3) := by decide +kernel
theorem dX11_law_71 : decode cX11_law 71 = .ok (.aload_n 0, 1) := by decide +kernel
theorem dX11_law_72 : decode cX11_law 72 = .ok (.getfield 21, 3) := by decide +kernel
theorem dX11_law_75 : decode cX11_law 75 = .ok (.getfield 93, 3) := by decide +kernel
theorem dX11_law_78 : decode cX11_law 78 = .ok (.getfield 219, 3) := by decide +kernel
theorem dX11_law_81 : decode cX11_law 81 = .ok (.i2l, 1) := by decide +kernel
theorem dX11_law_82 : decode cX11_law 82 = .ok (.lmul, 1) := by decide +kernel
theorem dX11_law_83 : decode cX11_law 83 = .ok (.lreturn, 1) := by decide +kernel
theorem dX11_law_84 : decode cX11_law 84 = .ok (.aload_n 0, 1) := by decide +kernel
theorem dX11_law_85 : decode cX11_law 85 = .ok (.getfield 38, 3) := by decide +kernel
theorem dX11_law_88 : decode cX11_law 88 = .ok (.getfield 222, 3) := by decide +kernel
theorem dX11_law_91 : decode cX11_law 91 = .ok (.lreturn, 1) := by decide +kernel
theorem dX11_law_92 : decode cX11_law 92 = .ok (.aload_n 0, 1) := by decide +kernel
theorem dX11_law_93 : decode cX11_law 93 = .ok (.getfield 38, 3) := by decide +kernel
theorem dX11_law_96 : decode cX11_law 96 = .ok (.getfield 225, 3) := by decide +kernel
theorem dX11_law_99 : decode cX11_law 99 = .ok (.lreturn, 1) := by decide +kernel
theorem dX11_law_100 : decode cX11_law 100 = .ok (.aload_n 0, 1) := by decide +kernel
theorem dX11_law_101 : decode cX11_law 101 = .ok (.getfield 38, 3) := by decide +kernel
theorem dX11_law_104 : decode cX11_law 104 = .ok (.invokevirtual 228, 3) := by decide +kernel
theorem dX11_law_107 : decode cX11_law 107 = .ok (.lreturn, 1) := by decide +kernel
theorem dX11_law_108 : decode cX11_law 108 = .ok (.ldc2_w 175, 3) := by decide +kernel
theorem dX11_law_111 : decode cX11_law 111 = .ok (.lreturn, 1) := by decide +kernel
theorem dX11_fall_0 : decode cX11_fall 0 = .ok (.aload_n 0, 1) := by decide +kernel
theorem dX11_fall_1 : decode cX11_fall 1 = .ok (.getfield 21, 3) := by decide +kernel
theorem dX11_fall_4 : decode cX11_fall 4 = .ok (.iload_n 1, 1) := by decide +kernel
theorem dX11_fall_5 : decode cX11_fall 5 = .ok (.invokevirtual 114, 3) := by decide +kernel
theorem dX11_fall_8 : decode cX11_fall 8 = .ok (.ifCond .eq 18, 3) := by decide +kernel
theorem dX11_fall_11 : decode cX11_fall 11 = .ok (.aload_n 0, 1) := by decide +kernel
theorem dX11_fall_12 : decode cX11_fall 12 = .ok (.getfield 45, 3) := by decide +kernel
theorem dX11_fall_15 : decode cX11_fall 15 = .ok (.aload_n 0, 1) := by decide +kernel
theorem dX11_fall_16 : decode cX11_fall 16 = .ok (.getfield 21, 3) := by decide +kernel
theorem dX11_fall_19 : decode cX11_fall 19 = .ok (.iload_n 1, 1) := by decide +kernel
theorem dX11_fall_20 : decode cX11_fall 20 = .ok (.invokevirtual 232, 3) := by decide +kernel
theorem dX11_fall_23 : decode cX11_fall 23 = .ok (.ifCond .ne 6, 3) := by decide +kernel
theorem dX11_fall_26 : decode cX11_fall 26 = .ok (.ldc 236, 2) := by decide +kernel
theorem dX11_fall_28 : decode cX11_fall 28 = .ok (.ireturn, 1) := by decide +kernel
theorem dX11_fall_29 : decode cX11_fall 29 = .ok (.iload_n 2, 1) := by decide +kernel
theorem dX11_fall_30 : decode cX11_fall 30 = .ok (.tableswitch 130 0 8 #[50, 58, 66, 74, 82, 90, 98, 106, 122], 50) := by decide +kernel
theorem dX11_fall_80 : decode cX11_fall 80 = .ok (.aload_n 0, 1) := by decide +kernel
theorem dX11_fall_81 : decode cX11_fall 81 = .ok (.getfield 45, 3) := by decide +kernel
theorem dX11_fall_84 : decode cX11_fall 84 = .ok (.getfield 237, 3) := by decide +kernel
theorem dX11_fall_87 : decode cX11_fall 87 = .ok (.ireturn, 1) := by decide +kernel
theorem dX11_fall_88 : decode cX11_fall 88 = .ok (.aload_n 0, 1) := by decide +kernel
theorem dX11_fall_89 : decode cX11_fall 89 = .ok (.getfield 45, 3) := by decide +kernel
theorem dX11_fall_92 : decode cX11_fall 92 = .ok (.getfield 240, 3) := by decide +kernel
theorem dX11_fall_95 : decode cX11_fall 95 = .ok (.ireturn, 1) := by decide +kernel
theorem dX11_fall_96 : decode cX11_fall 96 = .ok (.aload_n 0, 1) := by decide +kernel
theorem dX11_fall_97 : decode cX11_fall 97 = .ok (.getfield 45, 3) := by decide +kernel
theorem dX11_fall_100 : decode cX11_fall 100 = .ok (.getfield 243, 3) := by decide +kernel
theorem dX11_fall_103 : decode cX11_fall 103 = .ok (.ireturn, 1) := by decide +kernel
theorem dX11_fall_104 : decode cX11_fall 104 = .ok (.aload_n 0, 1) := by decide +kernel
theorem dX11_fall_105 : decode cX11_fall 105 = .ok (.getfield 45, 3) := by decide +kernel
theorem dX11_fall_108 : decode cX11_fall 108 = .ok (.getfield 245, 3) := by decide +kernel
theorem dX11_fall_111 : decode cX11_fall 111 = .ok (.ireturn, 1) := by decide +kernel
theorem dX11_fall_112 : decode cX11_fall 112 = .ok (.aload_n 0, 1) := by decide +kernel
theorem dX11_fall_113 : decode cX11_fall 113 = .ok (.getfield 45, 3) := by decide +kernel
theorem dX11_fall_116 : decode cX11_fall 116 = .ok (.getfield 248, 3) := by decide +kernel
theorem dX11_fall_119 : decode cX11_fall 119 = .ok (.ireturn, 1) := by decide +kernel
theorem dX11_fall_120 : decode cX11_fall 120 = .ok (.aload_n 0, 1) := by decide +kernel
theorem dX11_fall_121 : decode cX11_fall 121 = .ok (.getfield 45, 3) := by decide +kernel
theorem dX11_fall_124 : decode cX11_fall 124 = .ok (.getfield 251, 3) := by decide +kernel
theorem dX11_fall_127 : decode cX11_fall 127 = .ok (.ireturn, 1) := by decide +kernel
theorem dX11_fall_128 : decode cX11_fall 128 = .ok (.aload_n 0, 1) := by decide +kernel
theorem dX11_fall_129 : decode cX11_fall 129 = .ok (.getfield 45, 3) := by decide +kernel
theorem dX11_fall_132 : decode cX11_fall 132 = .ok (.getfield 254, 3) := by decide +kernel
theorem dX11_fall_135 : decode cX11_fall 135 = .ok (.ireturn, 1) := by decide +kernel
theorem dX11_fall_136 : decode cX11_fall 136 = .ok (.aload_n 0, 1) := by decide +kernel
theorem dX11_fall_137 : decode cX11_fall 137 = .ok (.getfield 45, 3) := by decide +kernel
theorem dX11_fall_140 : decode cX11_fall 140 = .ok (.getfield 251, 3) := by decide +kernel
theorem dX11_fall_143 : decode cX11_fall 143 = .ok (.aload_n 0, 1) := by decide +kernel
theorem dX11_fall_144 : decode cX11_fall 144 = .ok (.getfield 45, 3) := by decide +kernel
theorem dX11_fall_147 : decode cX11_fall 147 = .ok (.getfield 254, 3) := by decide +kernel
theorem dX11_fall_150 : decode cX11_fall 150 = .ok (.isub, 1) := by decide +kernel
theorem dX11_fall_151 : decode cX11_fall 151 = .ok (.ireturn, 1) := by decide +kernel
theorem dX11_fall_152 : decode cX11_fall 152 = .ok (.aload_n 0, 1) := by decide +kernel
theorem dX11_fall_153 : decode cX11_fall 153 = .ok (.getfield 45, 3) := by decide +kernel
theorem dX11_fall_156 : decode cX11_fall 156 = .ok (.getfield 257, 3) := by decide +kernel
theorem dX11_fall_159 : decode cX11_fall 159 = .ok (.ireturn, 1) := by decide +kernel
theorem dX11_fall_160 : decode cX11_fall 160 = .ok (.ldc 236, 2) := by decide +kernel
theorem dX11_fall_162 : decode cX11_fall 162 = .ok (.ireturn, 1) := by decide +kernel
theorem dX11_lot_0 : decode cX11_lot 0 = .ok (.iload_n 1, 1) := by decide +kernel
theorem dX11_lot_1 : decode cX11_lot 1 = .ok (.iconst 0, 1) := by decide +kernel
theorem dX11_lot_2 : decode cX11_lot 2 = .ok (.bipush 9, 2) := by decide +kernel
theorem dX11_lot_4 : decode cX11_lot 4 = .ok (.invokestatic 149, 3) := by decide +kernel
theorem dX11_lot_7 : decode cX11_lot 7 = .ok (.ifCond .eq 13, 3) := by decide +kernel
theorem dX11_lot_10 : decode cX11_lot 10 = .ok (.iload_n 2, 1) := by decide +kernel
theorem dX11_lot_11 : decode cX11_lot 11 = .ok (.iconst 3, 1) := by decide +kernel
theorem dX11_lot_12 : decode cX11_lot 12 = .ok (.bipush 6, 2) := by decide +kernel
theorem dX11_lot_14 : decode cX11_lot 14 = .ok (.invokestatic 149, 3) := by decide +kernel
theorem dX11_lot_17 : decode cX11_lot 17 = .ok (.ifCond .ne 6, 3) := by decide +kernel
theorem dX11_lot_20 : decode cX11_lot 20 = .ok (.ldc 236, 2) := by decide +kernel
theorem dX11_lot_22 : decode cX11_lot 22 = .ok (.ireturn, 1) := by decide +kernel
theorem dX11_lot_23 : decode cX11_lot 23 = .ok (.aload_n 0, 1) := by decide +kernel
theorem dX11_lot_24 : decode cX11_lot 24 = .ok (.getfield 45, 3) := by decide +kernel
theorem dX11_lot_27 : decode cX11_lot 27 = .ok (.aload_n 0, 1) := by decide +kernel
theorem dX11_lot_28 : decode cX11_lot 28 = .ok (.getfield 21, 3) := by decide +kernel
theorem dX11_lot_31 : decode cX11_lot 31 = .ok (.iload_n 1, 1) := by decide +kernel
theorem dX11_lot_32 : decode cX11_lot 32 = .ok (.iload_n 2, 1) := by decide +kernel
theorem dX11_lot_33 : decode cX11_lot 33 = .ok (.invokevirtual 260, 3) := by decide +kernel
theorem dX11_lot_36 : decode cX11_lot 36 = .ok (.iload_n 3, 1) := by decide +kernel
theorem dX11_lot_37 : decode cX11_lot 37 = .ok (.tableswitch 71 0 3 #[31, 43, 55, 63], 31) := by decide +kernel
theorem dX11_lot_68 : decode cX11_lot 68 = .ok (.aload_n 0, 1) := by decide +kernel
theorem dX11_lot_69 : decode cX11_lot 69 = .ok (.getfield 45, 3) := by decide +kernel
theorem dX11_lot_72 : decode cX11_lot 72 = .ok (.getfield 264, 3) := by decide +kernel
theorem dX11_lot_75 : decode cX11_lot 75 = .ok (.getfield 185, 3) := by decide +kernel
theorem dX11_lot_78 : decode cX11_lot 78 = .ok (.l2i, 1) := by decide +kernel
theorem dX11_lot_79 : decode cX11_lot 79 = .ok (.ireturn, 1) := by decide +kernel
theorem dX11_lot_80 : decode cX11_lot 80 = .ok (.aload_n 0, 1) := by decide +kernel
theorem dX11_lot_81 : decode cX11_lot 81 = .ok (.getfield 45, 3) := by decide +kernel
theorem dX11_lot_84 : decode cX11_lot 84 = .ok (.getfield 264, 3) := by decide +kernel
theorem dX11_lot_87 : decode cX11_lot 87 = .ok (.getfield 189, 3) := by decide +kernel
theorem dX11_lot_90 : decode cX11_lot 90 = .ok (.l2i, 1) := by decide +kernel
theorem dX11_lot_91 : decode cX11_lot 91 = .ok (.ireturn, 1) := by decide +kernel
theorem dX11_lot_92 : decode cX11_lot 92 = .ok (.aload_n 0, 1) := by decide +kernel
theorem dX11_lot_93 : decode cX11_lot 93 = .ok (.getfield 45, 3) := by decide +kernel
theorem dX11_lot_96 : decode cX11_lot 96 = .ok (.getfield 265, 3) := by decide +kernel
theorem dX11_lot_99 : decode cX11_lot 99 = .ok (.ireturn, 1) := by decide +kernel
theorem dX11_lot_100 : decode cX11_lot 100 = .ok (.aload_n 0, 1) := by decide +kernel
theorem dX11_lot_101 : decode cX11_lot 101 = .ok (.getfield 45, 3) := by decide +kernel
theorem dX11_lot_104 : decode cX11_lot 104 = .ok (.getfield 268, 3) := by decide +kernel
theorem dX11_lot_107 : decode cX11_lot 107 = .ok (.ireturn, 1) := by decide +kernel
theorem dX11_lot_108 : decode cX11_lot 108 = .ok (.ldc 236, 2) := by decide +kernel
theorem dX11_lot_110 : decode cX11_lot 110 = .ok (.ireturn, 1) := by decide +kernel
theorem dX11_chose_0 : decode cX11_chose 0 = .ok (.iload_n 1, 1) := by decide +kernel
theorem dX11_chose_1 : decode cX11_chose 1 = .ok (.iconst 3, 1) := by decide +kernel
theorem dX11_chose_2 : decode cX11_chose 2 = .ok (.bipush 6, 2) := by decide +kernel
theorem dX11_chose_4 : decode cX11_chose 4 = .ok (.invokestatic 149, 3) := by decide +kernel
theorem dX11_chose_7 : decode cX11_chose 7 = .ok (.ifCond .eq 12, 3) := by decide +kernel
theorem dX11_chose_10 : decode cX11_chose 10 = .ok (.iload_n 2, 1) := by decide +kernel
theorem dX11_chose_11 : decode cX11_chose 11 = .ok (.iconst 0, 1) := by decide +kernel
theorem dX11_chose_12 : decode cX11_chose 12 = .ok (.iconst 1, 1) := by decide +kernel
theorem dX11_chose_13 : decode cX11_chose 13 = .ok (.invokestatic 149, 3) := by decide +kernel
theorem dX11_chose_16 : decode cX11_chose 16 = .ok (.ifCond .ne 6, 3) := by decide +kernel
theorem dX11_chose_19 : decode cX11_chose 19 = .ok (.ldc 236, 2) := by decide +kernel
theorem dX11_chose_21 : decode cX11_chose 21 = .ok (.ireturn, 1) := by decide +kernel
theorem dX11_chose_22 : decode cX11_chose 22 = .ok (.aload_n 0, 1) := by decide +kernel
theorem dX11_chose_23 : decode cX11_chose 23 = .ok (.getfield 45, 3) := by decide +kernel
theorem dX11_chose_26 : decode cX11_chose 26 = .ok (.aload_n 0, 1) := by decide +kernel
theorem dX11_chose_27 : decode cX11_chose 27 = .ok (.getfield 21, 3) := by decide +kernel
theorem dX11_chose_30 : decode cX11_chose 30 = .ok (.iload_n 1, 1) := by decide +kernel
theorem dX11_chose_31 : decode cX11_chose 31 = .ok (.invokevirtual 271, 3) := by decide +kernel
theorem dX11_chose_34 : decode cX11_chose 34 = .ok (.iload_n 2, 1) := by decide +kernel
theorem dX11_chose_35 : decode cX11_chose 35 = .ok (.ifCond .ne 16, 3) := by decide +kernel
theorem dX11_chose_38 : decode cX11_chose 38 = .ok (.aload_n 0, 1) := by decide +kernel
theorem dX11_chose_39 : decode cX11_chose 39 = .ok (.getfield 45, 3) := by decide +kernel
theorem dX11_chose_42 : decode cX11_chose 42 = .ok (.getfield 264, 3) := by decide +kernel
theorem dX11_chose_45 : decode cX11_chose 45 = .ok (.getfield 185, 3) := by decide +kernel
theorem dX11_chose_48 : decode cX11_chose 48 = .ok (.goto 13, 3) := by decide +kernel
theorem dX11_chose_51 : decode cX11_chose 51 = .ok (.aload_n 0, 1) := by decide +kernel
theorem dX11_chose_52 : decode cX11_chose 52 = .ok (.getfield 45, 3) := by decide +kernel
theorem dX11_chose_55 : decode cX11_chose 55 = .ok (.getfield 264, 3) := by decide +kernel
theorem dX11_chose_58 : decode cX11_chose 58 = .ok (.getfield 189, 3) := by decide +kernel
theorem dX11_chose_61 : decode cX11_chose 61 = .ok (.l2i, 1) := by decide +kernel
theorem dX11_chose_62 : decode cX11_chose 62 = .ok (.ireturn, 1) := by decide +kernel
theorem dX11_house_0 : decode cX11_house 0 = .ok (.aload_n 0, 1) := by decide +kernel
theorem dX11_house_1 : decode cX11_house 1 = .ok (.getfield 21, 3) := by decide +kernel
theorem dX11_house_4 : decode cX11_house 4 = .ok (.iload_n 1, 1) := by decide +kernel
theorem dX11_house_5 : decode cX11_house 5 = .ok (.invokevirtual 114, 3) := by decide +kernel
theorem dX11_house_8 : decode cX11_house 8 = .ok (.ifCond .eq 30, 3) := by decide +kernel
theorem dX11_house_11 : decode cX11_house 11 = .ok (.aload_n 0, 1) := by decide +kernel
theorem dX11_house_12 : decode cX11_house 12 = .ok (.getfield 52, 3) := by decide +kernel
theorem dX11_house_15 : decode cX11_house 15 = .ok (.aload_n 0, 1) := by decide +kernel
theorem dX11_house_16 : decode cX11_house 16 = .ok (.getfield 21, 3) := by decide +kernel
theorem dX11_house_19 : decode cX11_house 19 = .ok (.getfield 153, 3) := by decide +kernel
theorem dX11_house_22 : decode cX11_house 22 = .ok (.iload_n 1, 1) := by decide +kernel
theorem dX11_house_23 : decode cX11_house 23 = .ok (.aload_n 0, 1) := by decide +kernel
theorem dX11_house_24 : decode cX11_house 24 = .ok (.getfield 21, 3) := by decide +kernel
theorem dX11_house_27 : decode cX11_house 27 = .ok (.getfield 132, 3) := by decide +kernel
theorem dX11_house_30 : decode cX11_house 30 = .ok (.iload_n 1, 1) := by decide +kernel
theorem dX11_house_31 : decode cX11_house 31 = .ok (.iaload, 1) := by decide +kernel
theorem dX11_house_32 : decode cX11_house 32 = .ok (.invokevirtual 274, 3) := by decide +kernel
theorem dX11_house_35 : decode cX11_house 35 = .ok (.ifCond .ne 6, 3) := by decide +kernel
theorem dX11_house_38 : decode cX11_house 38 = .ok (.ldc 236, 2) := by decide +kernel
theorem dX11_house_40 : decode cX11_house 40 = .ok (.ireturn, 1) := by decide +kernel
theorem dX11_house_41 : decode cX11_house 41 = .ok (.iload_n 2, 1) := by decide +kernel
theorem dX11_house_42 : decode cX11_house 42 = .ok (.tableswitch 74 0 4 #[34, 42, 50, 58, 66], 34) := by decide +kernel
theorem dX11_house_76 : decode cX11_house 76 = .ok (.aload_n 0, 1) := by decide +kernel
theorem dX11_house_77 : decode cX11_house 77 = .ok (.getfield 52, 3) := by decide +kernel
theorem dX11_house_80 : decode cX11_house 80 = .ok (.getfield 278, 3) := by decide +kernel
theorem dX11_house_83 : decode cX11_house 83 = .ok (.ireturn, 1) := by decide +kernel
theorem dX11_house_84 : decode cX11_house 84 = .ok (.aload_n 0, 1) := by decide +kernel
theorem dX11_house_85 : decode cX11_house 85 = .ok (.getfield 52, 3) := by decide +kernel
theorem dX11_house_88 : decode cX11_house 88 = .ok (.getfield 281, 3) := by decide +kernel
theorem dX11_house_91 : decode cX11_house 91 = .ok (.ireturn, 1) := by decide +kernel
theorem dX11_house_92 : decode cX11_house 92 = .ok (.aload_n 0, 1) := by decide +kernel
theorem dX11_house_93 : decode cX11_house 93 = .ok (.getfield 52, 3) := by decide +kernel
theorem dX11_house_96 : decode cX11_house 96 = .ok (.getfield 284, 3) := by decide +kernel
theorem dX11_house_99 : decode cX11_house 99 = .ok (.ireturn, 1) := by decide +kernel
theorem dX11_house_100 : decode cX11_house 100 = .ok (.aload_n 0, 1) := by decide +kernel
theorem dX11_house_101 : decode cX11_house 101 = .ok (.getfield 52, 3) := by decide +kernel
theorem dX11_house_104 : decode cX11_house 104 = .ok (.getfield 287, 3) := by decide +kernel
theorem dX11_house_107 : decode cX11_house 107 = .ok (.ireturn, 1) := by decide +kernel
theorem dX11_house_108 : decode cX11_house 108 = .ok (.aload_n 0, 1) := by decide +kernel
theorem dX11_house_109 : decode cX11_house 109 = .ok (.getfield 52, 3) := by decide +kernel
theorem dX11_house_112 : decode cX11_house 112 = .ok (.getfield 290, 3) := by decide +kernel
theorem dX11_house_115 : decode cX11_house 115 = .ok (.ireturn, 1) := by decide +kernel
theorem dX11_house_116 : decode cX11_house 116 = .ok (.ldc 236, 2) := by decide +kernel
theorem dX11_house_118 : decode cX11_house 118 = .ok (.ireturn, 1) := by decide +kernel
theorem dX11_coin_0 : decode cX11_coin 0 = .ok (.aload_n 0, 1) := by decide +kernel
theorem dX11_coin_1 : decode cX11_coin 1 = .ok (.getfield 21, 3) := by decide +kernel
theorem dX11_coin_4 : decode cX11_coin 4 = .ok (.iload_n 1, 1) := by decide +kernel
theorem dX11_coin_5 : decode cX11_coin 5 = .ok (.invokevirtual 114, 3) := by decide +kernel
theorem dX11_coin_8 : decode cX11_coin 8 = .ok (.ifCond .eq 13, 3) := by decide +kernel
theorem dX11_coin_11 : decode cX11_coin 11 = .ok (.iload_n 2, 1) := by decide +kernel
theorem dX11_coin_12 : decode cX11_coin 12 = .ok (.iconst 0, 1) := by decide +kernel
theorem dX11_coin_13 : decode cX11_coin 13 = .ok (.bipush 99, 2) := by decide +kernel
theorem dX11_coin_15 : decode cX11_coin 15 = .ok (.invokestatic 149, 3) := by decide +kernel
theorem dX11_coin_18 : decode cX11_coin 18 = .ok (.ifCond .ne 5, 3) := by decide +kernel
theorem dX11_coin_21 : decode cX11_coin 21 = .ok (.iconst 0, 1) := by decide +kernel
theorem dX11_coin_22 : decode cX11_coin 22 = .ok (.ireturn, 1) := by decide +kernel
theorem dX11_coin_23 : decode cX11_coin 23 = .ok (.aload_n 0, 1) := by decide +kernel
theorem dX11_coin_24 : decode cX11_coin 24 = .ok (.getfield 21, 3) := by decide +kernel
theorem dX11_coin_27 : decode cX11_coin 27 = .ok (.getfield 141, 3) := by decide +kernel
theorem dX11_coin_30 : decode cX11_coin 30 = .ok (.iload_n 1, 1) := by decide +kernel
theorem dX11_coin_31 : decode cX11_coin 31 = .ok (.iload_n 2, 1) := by decide +kernel
theorem dX11_coin_32 : decode cX11_coin 32 = .ok (.iastore, 1) := by decide +kernel
theorem dX11_coin_33 : decode cX11_coin 33 = .ok (.iconst 1, 1) := by decide +kernel
theorem dX11_coin_34 : decode cX11_coin 34 = .ok (.ireturn, 1) := by decide +kernel
theorem dX11_poles_0 : decode cX11_poles 0 = .ok (.iload_n 1, 1) := by decide +kernel
theorem dX11_poles_1 : decode cX11_poles 1 = .ok (.iconst 0, 1) := by decide +kernel
theorem dX11_poles_2 : decode cX11_poles 2 = .ok (.aload_n 0, 1) := by decide +kernel
theorem dX11_poles_3 : decode cX11_poles 3 = .ok (.getfield 21, 3) := by decide +kernel
theorem dX11_poles_6 : decode cX11_poles 6 = .ok (.getfield 111, 3) := by decide +kernel
theorem dX11_poles_9 : decode cX11_poles 9 = .ok (.invokestatic 149, 3) := by decide +kernel
theorem dX11_poles_12 : decode cX11_poles 12 = .ok (.ifCond .eq 21, 3) := by decide +kernel
theorem dX11_poles_15 : decode cX11_poles 15 = .ok (.iload_n 2, 1) := by decide +kernel
theorem dX11_poles_16 : decode cX11_poles 16 = .ok (.iconst 0, 1) := by decide +kernel
theorem dX11_poles_17 : decode cX11_poles 17 = .ok (.iconst 1, 1) := by decide +kernel
theorem dX11_poles_18 : decode cX11_poles 18 = .ok (.invokestatic 149, 3) := by decide +kernel
theorem dX11_poles_21 : decode cX11_poles 21 = .ok (.ifCond .eq 12, 3) := by decide +kernel
theorem dX11_poles_24 : decode cX11_poles 24 = .ok (.iload_n 3, 1) := by decide +kernel
theorem dX11_poles_25 : decode cX11_poles 25 = .ok (.iconst 0, 1) := by decide +kernel
theorem dX11_poles_26 : decode cX11_poles 26 = .ok (.iconst 2, 1) := by decide +kernel
theorem dX11_poles_27 : decode cX11_poles 27 = .ok (.invokestatic 149, 3) := by decide +kernel
theorem dX11_poles_30 : decode cX11_poles 30 = .ok (.ifCond .ne 5, 3) := by decide +kernel
theorem dX11_poles_33 : decode cX11_poles 33 = .ok (.iconst (-1), 1) := by decide +kernel
theorem dX11_poles_34 : decode cX11_poles 34 = .ok (.ireturn, 1) := by decide +kernel
theorem dX11_poles_35 : decode cX11_poles 35 = .ok (.aload_n 0, 1) := by decide +kernel
theorem dX11_poles_36 : decode cX11_poles 36 = .ok (.getfield 59, 3) := by decide +kernel
theorem dX11_poles_39 : decode cX11_poles 39 = .ok (.aload_n 0, 1) := by decide +kernel
theorem dX11_poles_40 : decode cX11_poles 40 = .ok (.getfield 21, 3) := by decide +kernel
theorem dX11_poles_43 : decode cX11_poles 43 = .ok (.invokevirtual 293, 3) := by decide +kernel
theorem dX11_poles_46 : decode cX11_poles 46 = .ok (.aload_n 0, 1) := by decide +kernel
theorem dX11_poles_47 : decode cX11_poles 47 = .ok (.getfield 59, 3) := by decide +kernel
theorem dX11_poles_50 : decode cX11_poles 50 = .ok (.iload_n 1, 1) := by decide +kernel
theorem dX11_poles_51 : decode cX11_poles 51 = .ok (.iload_n 2, 1) := by decide +kernel
theorem dX11_poles_52 : decode cX11_poles 52 = .ok (.ifCond .ne 7, 3) := by decide +kernel
theorem dX11_poles_55 : decode cX11_poles 55 = .ok (.iconst 1, 1) := by decide +kernel
theorem dX11_poles_56 : decode cX11_poles 56 = .ok (.goto 4, 3) := by decide +kernel
theorem dX11_poles_59 : decode cX11_poles 59 = .ok (.iconst 0, 1) := by decide +kernel
theorem dX11_poles_60 : decode cX11_poles 60 = .ok (.invokevirtual 297, 3) := by decide +kernel
theorem dX11_poles_63 : decode cX11_poles 63 = .ok (.istore 4, 2) := by decide +kernel
theorem dX11_poles_65 : decode cX11_poles 65 = .ok (.iload_n 3, 1) := by decide +kernel
theorem dX11_poles_66 : decode cX11_poles 66 = .ok (.lookupswitch 39 #[(0, 26), (1, 29)], 26) := by decide +kernel
theorem dX11_poles_92 : decode cX11_poles 92 = .ok (.iload 4, 2) := by decide +kernel
theorem dX11_poles_94 : decode cX11_poles 94 = .ok (.ireturn, 1) := by decide +kernel
theorem dX11_poles_95 : decode cX11_poles 95 = .ok (.aload_n 0, 1) := by decide +kernel
theorem dX11_poles_96 : decode cX11_poles 96 = .ok (.getfield 59, 3) := by decide +kernel
theorem dX11_poles_99 : decode cX11_poles 99 = .ok (.iload 4, 2) := by decide +kernel
theorem dX11_poles_101 : decode cX11_poles 101 = .ok (.invokevirtual 301, 3) := by decide +kernel
theorem dX11_poles_104 : decode cX11_poles 104 = .ok (.ireturn, 1) := by decide +kernel
theorem dX11_poles_105 : decode cX11_poles 105 = .ok (.aload_n 0, 1) := by decide +kernel
theorem dX11_poles_106 : decode cX11_poles 106 = .ok (.getfield 59, 3) := by decide +kernel
theorem dX11_poles_109 : decode cX11_poles 109 = .ok (.iload 4, 2) := by decide +kernel
theorem dX11_poles_111 : decode cX11_poles 111 = .ok (.invokevirtual 304, 3) := by decide +kernel
theorem dX11_poles_114 : decode cX11_poles 114 = .ok (.ireturn, 1) := by decide +kernel
theorem dX11_never_0 : decode cX11_never 0 = .ok (.iconst 0, 1) := by decide +kernel
theorem dX11_never_1 : decode cX11_never 1 = .ok (.istore_n 1, 1) := by decide +kernel
theorem dX11_never_2 : decode cX11_never 2 = .ok (.iconst 3, 1) := by decide +kernel
theorem dX11_never_3 : decode cX11_never 3 = .ok (.istore_n 2, 1) := by decide +kernel
theorem dX11_never_4 : decode cX11_never 4 = .ok (.iload_n 2, 1) := by decide +kernel
theorem dX11_never_5 : decode cX11_never 5 = .ok (.bipush 9, 2) := by decide +kernel
theorem dX11_never_7 : decode cX11_never 7 = .ok (.if_icmp .gt 20, 3) := by decide +kernel
theorem dX11_never_10 : decode cX11_never 10 = .ok (.iload_n 1, 1) := by decide +kernel
theorem dX11_never_11 : decode cX11_never 11 = .ok (.aload_n 0, 1) := by decide +kernel
theorem dX11_never_12 : decode cX11_never 12 = .ok (.getfield 21, 3) := by decide +kernel
theorem dX11_never_15 : decode cX11_never 15 = .ok (.iload_n 2, 1) := by decide +kernel
theorem dX11_never_16 : decode cX11_never 16 = .ok (.invokevirtual 206, 3) := by decide +kernel
theorem dX11_never_19 : decode cX11_never 19 = .ok (.ior, 1) := by decide +kernel
theorem dX11_never_20 : decode cX11_never 20 = .ok (.istore_n 1, 1) := by decide +kernel
theorem dX11_never_21 : decode cX11_never 21 = .ok (.iinc 2 1, 3) := by decide +kernel
theorem dX11_never_24 : decode cX11_never 24 = .ok (.goto (-20), 3) := by decide +kernel
theorem dX11_never_27 : decode cX11_never 27 = .ok (.aload_n 0, 1) := by decide +kernel
theorem dX11_never_28 : decode cX11_never 28 = .ok (.getfield 59, 3) := by decide +kernel
theorem dX11_never_31 : decode cX11_never 31 = .ok (.aload_n 0, 1) := by decide +kernel
theorem dX11_never_32 : decode cX11_never 32 = .ok (.getfield 21, 3) := by decide +kernel
theorem dX11_never_35 : decode cX11_never 35 = .ok (.invokevirtual 293, 3) := by decide +kernel
theorem dX11_never_38 : decode cX11_never 38 = .ok (.aload_n 0, 1) := by decide +kernel
theorem dX11_never_39 : decode cX11_never 39 = .ok (.getfield 59, 3) := by decide +kernel
theorem dX11_never_42 : decode cX11_never 42 = .ok (.aload_n 0, 1) := by decide +kernel
theorem dX11_never_43 : decode cX11_never 43 = .ok (.getfield 21, 3) := by decide +kernel
theorem dX11_never_46 : decode cX11_never 46 = .ok (.invokevirtual 307, 3) := by decide +kernel
theorem dX11_never_49 : decode cX11_never 49 = .ok (.iload_n 1, 1) := by decide +kernel
theorem dX11_never_50 : decode cX11_never 50 = .ok (.iconst (-1), 1) := by decide +kernel
theorem dX11_never_51 : decode cX11_never 51 = .ok (.ixor, 1) := by decide +kernel
theorem dX11_never_52 : decode cX11_never 52 = .ok (.iand, 1) := by decide +kernel
theorem dX11_never_53 : decode cX11_never 53 = .ok (.ireturn, 1) := by decide +kernel
theorem dX11_draws_0 : decode cX11_draws 0 = .ok (.iload_n 1, 1) := by decide +kernel
theorem dX11_draws_1 : decode cX11_draws 1 = .ok (.ifCond .lt 36, 3) := by decide +kernel
theorem dX11_draws_4 : decode cX11_draws 4 = .ok (.iload_n 2, 1) := by decide +kernel
theorem dX11_draws_5 : decode cX11_draws 5 = .ok (.iconst 1, 1) := by decide +kernel
theorem dX11_draws_6 : decode cX11_draws 6 = .ok (.sipush 500, 3) := by decide +kernel
theorem dX11_draws_9 : decode cX11_draws 9 = .ok (.invokestatic 149, 3) := by decide +kernel
theorem dX11_draws_12 : decode cX11_draws 12 = .ok (.ifCond .eq 25, 3) := by decide +kernel
theorem dX11_draws_15 : decode cX11_draws 15 = .ok (.iload_n 3, 1) := by decide +kernel
theorem dX11_draws_16 : decode cX11_draws 16 = .ok (.iconst 0, 1) := by decide +kernel
theorem dX11_draws_17 : decode cX11_draws 17 = .ok (.iconst 1, 1) := by decide +kernel
theorem dX11_draws_18 : decode cX11_draws 18 = .ok (.invokestatic 149, 3) := by decide +kernel
theorem dX11_draws_21 : decode cX11_draws 21 = .ok (.ifCond .eq 16, 3) := by decide +kernel
theorem dX11_draws_24 : decode cX11_draws 24 = .ok (.aload_n 0, 1) := by decide +kernel
theorem dX11_draws_25 : decode cX11_draws 25 = .ok (.getfield 21, 3) := by decide +kernel
theorem dX11_draws_28 : decode cX11_draws 28 = .ok (.getfield 93, 3) := by decide +kernel
theorem dX11_draws_31 : decode cX11_draws 31 = .ok (.getfield 103, 3) := by decide +kernel
theorem dX11_draws_34 : decode cX11_draws 34 = .ok (.ifCond .ne 6, 3) := by decide +kernel
theorem dX11_draws_37 : decode cX11_draws 37 = .ok (.ldc 236, 2) := by decide +kernel
theorem dX11_draws_39 : decode cX11_draws 39 = .ok (.ireturn, 1) := by decide +kernel
theorem dX11_draws_40 : decode cX11_draws 40 = .ok (.aload_n 0, 1) := by decide +kernel
theorem dX11_draws_41 : decode cX11_draws 41 = .ok (.getfield 38, 3) := by decide +kernel
theorem dX11_draws_44 : decode cX11_draws 44 = .ok (.aload_n 0, 1) := by decide +kernel
theorem dX11_draws_45 : decode cX11_draws 45 = .ok (.getfield 21, 3) := by decide +kernel
theorem dX11_draws_48 : decode cX11_draws 48 = .ok (.iload_n 1, 1) := by decide +kernel
theorem dX11_draws_49 : decode cX11_draws 49 = .ok (.iload_n 2, 1) := by decide +kernel
theorem dX11_draws_50 : decode cX11_draws 50 = .ok (.invokevirtual 311, 3) := by decide +kernel
theorem dX11_draws_53 : decode cX11_draws 53 = .ok (.iload_n 3, 1) := by decide +kernel
theorem dX11_draws_54 : decode cX11_draws 54 = .ok (.ifCond .ne 13, 3) := by decide +kernel
theorem dX11_draws_57 : decode cX11_draws 57 = .ok (.aload_n 0, 1) := by decide +kernel
theorem dX11_draws_58 : decode cX11_draws 58 = .ok (.getfield 38, 3) := by decide +kernel
theorem dX11_draws_61 : decode cX11_draws 61 = .ok (.getfield 314, 3) := by decide +kernel
theorem dX11_draws_64 : decode cX11_draws 64 = .ok (.goto 10, 3) := by decide +kernel
theorem dX11_draws_67 : decode cX11_draws 67 = .ok (.aload_n 0, 1) := by decide +kernel
theorem dX11_draws_68 : decode cX11_draws 68 = .ok (.getfield 38, 3) := by decide +kernel
theorem dX11_draws_71 : decode cX11_draws 71 = .ok (.getfield 317, 3) := by decide +kernel
theorem dX11_draws_74 : decode cX11_draws 74 = .ok (.ireturn, 1) := by decide +kernel
theorem dX11_number_0 : decode cX11_number 0 = .ok (.iload_n 1, 1) := by decide +kernel
theorem dX11_number_1 : decode cX11_number 1 = .ok (.tableswitch 111 0 6 #[43, 54, 62, 73, 84, 95, 103], 43) := by decide +kernel
theorem dX11_number_44 : decode cX11_number 44 = .ok (.aload_n 0, 1) := by decide +kernel
theorem dX11_number_45 : decode cX11_number 45 = .ok (.getfield 21, 3) := by decide +kernel
theorem dX11_number_48 : decode cX11_number 48 = .ok (.getfield 93, 3) := by decide +kernel
theorem dX11_number_51 : decode cX11_number 51 = .ok (.getfield 103, 3) := by decide +kernel
theorem dX11_number_54 : decode cX11_number 54 = .ok (.ireturn, 1) := by decide +kernel
theorem dX11_number_55 : decode cX11_number 55 = .ok (.aload_n 0, 1) := by decide +kernel
theorem dX11_number_56 : decode cX11_number 56 = .ok (.getfield 21, 3) := by decide +kernel
theorem dX11_number_59 : decode cX11_number 59 = .ok (.getfield 111, 3) := by decide +kernel
theorem dX11_number_62 : decode cX11_number 62 = .ok (.ireturn, 1) := by decide +kernel
theorem dX11_number_63 : decode cX11_number 63 = .ok (.aload_n 0, 1) := by decide +kernel
theorem dX11_number_64 : decode cX11_number 64 = .ok (.getfield 21, 3) := by decide +kernel
theorem dX11_number_67 : decode cX11_number 67 = .ok (.getfield 153, 3) := by decide +kernel
theorem dX11_number_70 : decode cX11_number 70 = .ok (.getfield 163, 3) := by decide +kernel
theorem dX11_number_73 : decode cX11_number 73 = .ok (.ireturn, 1) := by decide +kernel
theorem dX11_number_74 : decode cX11_number 74 = .ok (.aload_n 0, 1) := by decide +kernel
theorem dX11_number_75 : decode cX11_number 75 = .ok (.getfield 21, 3) := by decide +kernel
theorem dX11_number_78 : decode cX11_number 78 = .ok (.getfield 153, 3) := by decide +kernel
theorem dX11_number_81 : decode cX11_number 81 = .ok (.invokevirtual 320, 3) := by decide +kernel
theorem dX11_number_84 : decode cX11_number 84 = .ok (.ireturn, 1) := by decide +kernel
theorem dX11_number_85 : decode cX11_number 85 = .ok (.aload_n 0, 1) := by decide +kernel
theorem dX11_number_86 : decode cX11_number 86 = .ok (.getfield 21, 3) := by decide +kernel
theorem dX11_number_89 : decode cX11_number 89 = .ok (.getfield 324, 3) := by decide +kernel
theorem dX11_number_92 : decode cX11_number 92 = .ok (.getfield 328, 3) := by decide +kernel
theorem dX11_number_95 : decode cX11_number 95 = .ok (.ireturn, 1) := by decide +kernel
theorem dX11_number_96 : decode cX11_number 96 = .ok (.aload_n 0, 1) := by decide +kernel
theorem dX11_number_97 : decode cX11_number 97 = .ok (.getfield 21, 3) := by decide +kernel
theorem dX11_number_100 : decode cX11_number 100 = .ok (.getfield 333, 3) := by decide +kernel
theorem dX11_number_103 : decode cX11_number 103 = .ok (.ireturn, 1) := by decide +kernel
theorem dX11_number_104 : decode cX11_number 104 = .ok (.aload_n 0, 1) := by decide +kernel
theorem dX11_number_105 : decode cX11_number 105 = .ok (.getfield 21, 3) := by decide +kernel
theorem dX11_number_108 : decode cX11_number 108 = .ok (.getfield 336, 3) := by decide +kernel
theorem dX11_number_111 : decode cX11_number 111 = .ok (.ireturn, 1) := by decide +kernel
theorem dX11_number_112 : decode cX11_number 112 = .ok (.iconst (-1), 1) := by decide +kernel
theorem dX11_number_113 : decode cX11_number 113 = .ok (.ireturn, 1) := by decide +kernel
theorem dX11_areYears_0 : decode cX11_areYears 0 = .ok (.iload_n 0, 1) := by decide +kernel
theorem dX11_areYears_1 : decode cX11_areYears 1 = .ok (.ifCond .lt 26, 3) := by decide +kernel
theorem dX11_areYears_4 : decode cX11_areYears 4 = .ok (.iload_n 0, 1) := by decide +kernel
theorem dX11_areYears_5 : decode cX11_areYears 5 = .ok (.iload_n 1, 1) := by decide +kernel
theorem dX11_areYears_6 : decode cX11_areYears 6 = .ok (.if_icmp .gt 21, 3) := by decide +kernel
theorem dX11_areYears_9 : decode cX11_areYears 9 = .ok (.iload_n 1, 1) := by decide +kernel
theorem dX11_areYears_10 : decode cX11_areYears 10 = .ok (.bipush 9, 2) := by decide +kernel
theorem dX11_areYears_12 : decode cX11_areYears 12 = .ok (.if_icmp .ge 15, 3) := by decide +kernel
theorem dX11_areYears_15 : decode cX11_areYears 15 = .ok (.iload_n 1, 1) := by decide +kernel
theorem dX11_areYears_16 : decode cX11_areYears 16 = .ok (.iload_n 0, 1) := by decide +kernel
theorem dX11_areYears_17 : decode cX11_areYears 17 = .ok (.isub, 1) := by decide +kernel
theorem dX11_areYears_18 : decode cX11_areYears 18 = .ok (.bipush 6, 2) := by decide +kernel
theorem dX11_areYears_20 : decode cX11_areYears 20 = .ok (.if_icmp .ge 7, 3) := by decide +kernel
theorem dX11_areYears_23 : decode cX11_areYears 23 = .ok (.iconst 1, 1) := by decide +kernel
theorem dX11_areYears_24 : decode cX11_areYears 24 = .ok (.goto 4, 3) := by decide +kernel
theorem dX11_areYears_27 : decode cX11_areYears 27 = .ok (.iconst 0, 1) := by decide +kernel
theorem dX11_areYears_28 : decode cX11_areYears 28 = .ok (.ireturn, 1) := by decide +kernel
theorem dX11_isWithin_0 : decode cX11_isWithin 0 = .ok (.iload_n 0, 1) := by decide +kernel
theorem dX11_isWithin_1 : decode cX11_isWithin 1 = .ok (.iload_n 1, 1) := by decide +kernel
theorem dX11_isWithin_2 : decode cX11_isWithin 2 = .ok (.if_icmp .lt 12, 3) := by decide +kernel
theorem dX11_isWithin_5 : decode cX11_isWithin 5 = .ok (.iload_n 0, 1) := by decide +kernel
theorem dX11_isWithin_6 : decode cX11_isWithin 6 = .ok (.iload_n 2, 1) := by decide +kernel
theorem dX11_isWithin_7 : decode cX11_isWithin 7 = .ok (.if_icmp .gt 7, 3) := by decide +kernel
theorem dX11_isWithin_10 : decode cX11_isWithin 10 = .ok (.iconst 1, 1) := by decide +kernel
theorem dX11_isWithin_11 : decode cX11_isWithin 11 = .ok (.goto 4, 3) := by decide +kernel
theorem dX11_isWithin_14 : decode cX11_isWithin 14 = .ok (.iconst 0, 1) := by decide +kernel
theorem dX11_isWithin_15 : decode cX11_isWithin 15 = .ok (.ireturn, 1) := by decide +kernel
theorem dX11_find_0 : decode cX11_find 0 = .ok (.iconst 0, 1) := by decide +kernel
theorem dX11_find_1 : decode cX11_find 1 = .ok (.istore_n 3, 1) := by decide +kernel
theorem dX11_find_2 : decode cX11_find 2 = .ok (.iload_n 3, 1) := by decide +kernel
theorem dX11_find_3 : decode cX11_find 3 = .ok (.iload_n 1, 1) := by decide +kernel
theorem dX11_find_4 : decode cX11_find 4 = .ok (.if_icmp .ge 24, 3) := by decide +kernel
theorem dX11_find_7 : decode cX11_find 7 = .ok (.iload_n 3, 1) := by decide +kernel
theorem dX11_find_8 : decode cX11_find 8 = .ok (.aload_n 0, 1) := by decide +kernel
theorem dX11_find_9 : decode cX11_find 9 = .ok (.arraylength, 1) := by decide +kernel
theorem dX11_find_10 : decode cX11_find 10 = .ok (.if_icmp .ge 18, 3) := by decide +kernel
theorem dX11_find_13 : decode cX11_find 13 = .ok (.aload_n 0, 1) := by decide +kernel
theorem dX11_find_14 : decode cX11_find 14 = .ok (.iload_n 3, 1) := by decide +kernel
theorem dX11_find_15 : decode cX11_find 15 = .ok (.iaload, 1) := by decide +kernel
theorem dX11_find_16 : decode cX11_find 16 = .ok (.iload_n 2, 1) := by decide +kernel
theorem dX11_find_17 : decode cX11_find 17 = .ok (.if_icmp .ne 5, 3) := by decide +kernel
theorem dX11_find_20 : decode cX11_find 20 = .ok (.iload_n 3, 1) := by decide +kernel
theorem dX11_find_21 : decode cX11_find 21 = .ok (.ireturn, 1) := by decide +kernel
theorem dX11_find_22 : decode cX11_find 22 = .ok (.iinc 3 1, 3) := by decide +kernel
theorem dX11_find_25 : decode cX11_find 25 = .ok (.goto (-23), 3) := by decide +kernel
theorem dX11_find_28 : decode cX11_find 28 = .ok (.iconst (-1), 1) := by decide +kernel
theorem dX11_find_29 : decode cX11_find 29 = .ok (.ireturn, 1) := by decide +kernel
theorem dX12_init_0 : decode cX12_init 0 = .ok (.aload_n 0, 1) := by decide +kernel
theorem dX12_init_1 : decode cX12_init 1 = .ok (.invokespecial 3, 3) := by decide +kernel
theorem dX12_init_4 : decode cX12_init 4 = .ok (.aload_n 0, 1) := by decide +kernel
theorem dX12_init_5 : decode cX12_init 5 = .ok (.sipush 600, 3) := by decide +kernel
theorem dX12_init_8 : decode cX12_init 8 = .ok (.newarray .int, 2) := by decide +kernel
theorem dX12_init_10 : decode cX12_init 10 = .ok (.putfield 9, 3) := by decide +kernel
theorem dX12_init_13 : decode cX12_init 13 = .ok (.aload_n 0, 1) := by decide +kernel
theorem dX12_init_14 : decode cX12_init 14 = .ok (.bipush 10, 2) := by decide +kernel
theorem dX12_init_16 : decode cX12_init 16 = .ok (.newarray .int, 2) := by decide +kernel
theorem dX12_init_18 : decode cX12_init 18 = .ok (.putfield 15, 3) := by decide +kernel
theorem dX12_init_21 : decode cX12_init 21 = .ok (.aload_n 0, 1) := by decide +kernel
theorem dX12_init_22 : decode cX12_init 22 = .ok (.bipush 10, 2) := by decide +kernel
theorem dX12_init_24 : decode cX12_init 24 = .ok (.newarray .int, 2) := by decide +kernel
theorem dX12_init_26 : decode cX12_init 26 = .ok (.putfield 18, 3) := by decide +kernel
theorem dX12_init_29 : decode cX12_init 29 = .ok (.aload_n 0, 1) := by decide +kernel
theorem dX12_init_30 : decode cX12_init 30 = .ok (.bipush 100, 2) := by decide +kernel
theorem dX12_init_32 : decode cX12_init 32 = .ok (.newarray .int, 2) := by decide +kernel
theorem dX12_init_34 : decode cX12_init 34 = .ok (.putfield 21, 3) := by decide +kernel
theorem dX12_init_37 : decode cX12_init 37 = .ok (.aload_n 0, 1) := by decide +kernel
theorem dX12_init_38 : decode cX12_init 38 = .ok (.bipush 24, 2) := by decide +kernel
theorem dX12_init_40 : decode cX12_init 40 = .ok (.newarray .int, 2) := by decide +kernel
theorem dX12_init_42 : decode cX12_init 42 = .ok (.putfield 24, 3) := by decide +kernel
theorem dX12_init_45 : decode cX12_init 45 = .ok (.aload_n 0, 1) := by decide +kernel
theorem dX12_init_46 : decode cX12_init 46 = .ok (.bipush 24, 2) := by decide +kernel
theorem dX12_init_48 : decode cX12_init 48 = .ok (.newarray .int, 2) := by decide +kernel
theorem dX12_init_50 : decode cX12_init 50 = .ok (.putfield 27, 3) := by decide +kernel
theorem dX12_init_53 : decode cX12_init 53 = .ok (.aload_n 0, 1) := by decide +kernel
theorem dX12_init_54 : decode cX12_init 54 = .ok (.bipush 24, 2) := by decide +kernel
theorem dX12_init_56 : decode cX12_init 56 = .ok (.newarray .boolean, 2) := by decide +kernel
theorem dX12_init_58 : decode cX12_init 58 = .ok (.putfield 30, 3) := by decide +kernel
theorem dX12_init_61 : decode cX12_init 61 = .ok (.aload_n 0, 1) := by decide +kernel
theorem dX12_init_62 : decode cX12_init 62 = .ok (.bipush 24, 2) := by decide +kernel
theorem dX12_init_64 : decode cX12_init 64 = .ok (.newarray .int, 2) := by decide +kernel
theorem dX12_init_66 : decode cX12_init 66 = .ok (.putfield 34, 3) := by decide +kernel
theorem dX12_init_69 : decode cX12_init 69 = .ok (.aload_n 0, 1) := by decide +kernel
theorem dX12_init_70 : decode cX12_init 70 = .ok (.bipush 24, 2) := by decide +kernel
theorem dX12_init_72 : decode cX12_init 72 = .ok (.newarray .int, 2) := by decide +kernel
theorem dX12_init_74 : decode cX12_init 74 = .ok (.putfield 37, 3) := by decide +kernel
theorem dX12_init_77 : decode cX12_init 77 = .ok (.aload_n 0, 1) := by decide +kernel
theorem dX12_init_78 : decode cX12_init 78 = .ok (.bipush 24, 2) := by decide +kernel
theorem dX12_init_80 : decode cX12_init 80 = .ok (.newarray .int, 2) := by decide +kernel
theorem dX12_init_82 : decode cX12_init 82 = .ok (.putfield 40, 3) := by decide +kernel
theorem dX12_init_85 : decode cX12_init 85 = .ok (.aload_n 0, 1) := by decide +kernel
theorem dX12_init_86 : decode cX12_init 86 = .ok (.bipush 12, 2) := by decide +kernel
theorem dX12_init_88 : decode cX12_init 88 = .ok (.newarray .int, 2) := by decide +kernel
theorem dX12_init_90 : decode cX12_init 90 = .ok (.putfield 43, 3) := by decide +kernel
theorem dX12_init_93 : decode cX12_init 93 = .ok (.aload_n 0, 1) := by decide +kernel
theorem dX12_init_94 : decode cX12_init 94 = .ok (.sipush 128, 3) := by decide +kernel
theorem dX12_init_97 : decode cX12_init 97 = .ok (.newarray .int, 2) := by decide +kernel
theorem dX12_init_99 : decode cX12_init 99 = .ok (.putfield 46, 3) := by decide +kernel
theorem dX12_init_102 : decode cX12_init 102 = .ok (.aload_n 0, 1) := by decide +kernel
theorem dX12_init_103 : decode cX12_init 103 = .ok (.sipush 128, 3) := by decide +kernel
theorem dX12_init_106 : decode cX12_init 106 = .ok (.newarray .int, 2) := by decide +kernel
theorem dX12_init_108 : decode cX12_init 108 = .ok (.putfield 49, 3) := by decide +kernel
theorem dX12_init_111 : decode cX12_init 111 = .ok (.aload_n 0, 1) := by decide +kernel
theorem dX12_init_112 : decode cX12_init 112 = .ok (.iconst 5, 1) := by decide +kernel
theorem dX12_init_113 : decode cX12_init 113 = .ok (.putfield 52, 3) := by decide +kernel
theorem dX12_init_116 : decode cX12_init 116 = .ok (.aload_n 0, 1) := by decide +kernel
theorem dX12_init_117 : decode cX12_init 117 = .ok (.iconst (-1), 1) := by decide +kernel
theorem dX12_init_118 : decode cX12_init 118 = .ok (.putfield 56, 3) := by decide +kernel
theorem dX12_init_121 : decode cX12_init 121 = .ok (.aload_n 0, 1) := by decide +kernel
theorem dX12_init_122 : decode cX12_init 122 = .ok (.iconst (-1), 1) := by decide +kernel
theorem dX12_init_123 : decode cX12_init 123 = .ok (.putfield 59, 3) := by decide +kernel
theorem dX12_init_126 : decode cX12_init 126 = .ok (.aload_n 0, 1) := by decide +kernel
theorem dX12_init_127 : decode cX12_init 127 = .ok (.sipush 150, 3) := by decide +kernel
theorem dX12_init_130 : decode cX12_init 130 = .ok (.newarray .int, 2) := by decide +kernel
theorem dX12_init_132 : decode cX12_init 132 = .ok (.putfield 62, 3) := by decide +kernel
theorem dX12_init_135 : decode cX12_init 135 = .ok (.aload_n 0, 1) := by decide +kernel
theorem dX12_init_136 : decode cX12_init 136 = .ok (.sipush 150, 3) := by decide +kernel
theorem dX12_init_139 : decode cX12_init 139 = .ok (.newarray .int, 2) := by decide +kernel
theorem dX12_init_141 : decode cX12_init 141 = .ok (.putfield 65, 3) := by decide +kernel
theorem dX12_init_144 : decode cX12_init 144 = .ok (.aload_n 0, 1) := by decide +kernel
theorem dX12_init_145 : decode cX12_init 145 = .ok (.sipush 150, 3) := by decide +kernel
theorem dX12_init_148 : decode cX12_init 148 = .ok (.newarray .int, 2) := by decide +kernel
theorem dX12_init_150 : decode cX12_init 150 = .ok (.putfield 68, 3) := by decide +kernel
theorem dX12_init_153 : decode cX12_init 153 = .ok (.aload_n 0, 1) := by decide +kernel
theorem dX12_init_154 : decode cX12_init 154 = .ok (.sipush 150, 3) := by decide +kernel
theorem dX12_init_157 : decode cX12_init 157 = .ok (.newarray .boolean, 2) := by decide +kernel
theorem dX12_init_159 : decode cX12_init 159 = .ok (.putfield 71, 3) := by decide +kernel
theorem dX12_init_162 : decode cX12_init 162 = .ok (.aload_n 0, 1) := by decide +kernel
theorem dX12_init_163 : decode cX12_init 163 = .ok (.bipush 108, 2) := by decide +kernel
theorem dX12_init_165 : decode cX12_init 165 = .ok (.newarray .int, 2) := by decide +kernel
theorem dX12_init_167 : decode cX12_init 167 = .ok (.putfield 74, 3) := by decide +kernel
theorem dX12_init_170 : decode cX12_init 170 = .ok (.aload_n 0, 1) := by decide +kernel
theorem dX12_init_171 : decode cX12_init 171 = .ok (.bipush 64, 2) := by decide +kernel
