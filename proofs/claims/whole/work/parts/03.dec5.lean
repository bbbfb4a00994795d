theorem dX12_window_26 : decode cX12_window 26 = .ok (.if_icmp .ne 5, 3) := by decide +kernel
theorem dX12_window_29 : decode cX12_window 29 = .ok (.iconst (-1), 1) := by decide +kernel
theorem dX12_window_30 : decode cX12_window 30 = .ok (.ireturn, 1) := by decide +kernel
theorem dX12_window_31 : decode cX12_window 31 = .ok (.iload 4, 2) := by decide +kernel
theorem dX12_window_33 : decode cX12_window 33 = .ok (.iload 6, 2) := by decide +kernel
theorem dX12_window_35 : decode cX12_window 35 = .ok (.iadd, 1) := by decide +kernel
theorem dX12_window_36 : decode cX12_window 36 = .ok (.istore 4, 2) := by decide +kernel
theorem dX12_window_38 : decode cX12_window 38 = .ok (.iinc 5 1, 3) := by decide +kernel
theorem dX12_window_41 : decode cX12_window 41 = .ok (.goto (-35), 3) := by decide +kernel
theorem dX12_window_44 : decode cX12_window 44 = .ok (.iload 4, 2) := by decide +kernel
theorem dX12_window_46 : decode cX12_window 46 = .ok (.ireturn, 1) := by decide +kernel
theorem dX12_house_0 : decode cX12_house 0 = .ok (.aload_n 0, 1) := by decide +kernel
theorem dX12_house_1 : decode cX12_house 1 = .ok (.iconst 0, 1) := by decide +kernel
theorem dX12_house_2 : decode cX12_house 2 = .ok (.putfield 87, 3) := by decide +kernel
theorem dX12_house_5 : decode cX12_house 5 = .ok (.aload_n 0, 1) := by decide +kernel
theorem dX12_house_6 : decode cX12_house 6 = .ok (.iload_n 1, 1) := by decide +kernel
theorem dX12_house_7 : decode cX12_house 7 = .ok (.invokevirtual 252, 3) := by decide +kernel
theorem dX12_house_10 : decode cX12_house 10 = .ok (.ifCond .eq 21, 3) := by decide +kernel
theorem dX12_house_13 : decode cX12_house 13 = .ok (.iload_n 2, 1) := by decide +kernel
theorem dX12_house_14 : decode cX12_house 14 = .ok (.ifCond .lt 17, 3) := by decide +kernel
theorem dX12_house_17 : decode cX12_house 17 = .ok (.iload_n 2, 1) := by decide +kernel
theorem dX12_house_18 : decode cX12_house 18 = .ok (.iconst 4, 1) := by decide +kernel
theorem dX12_house_19 : decode cX12_house 19 = .ok (.if_icmp .gt 12, 3) := by decide +kernel
theorem dX12_house_22 : decode cX12_house 22 = .ok (.aload_n 0, 1) := by decide +kernel
theorem dX12_house_23 : decode cX12_house 23 = .ok (.getfield 34, 3) := by decide +kernel
theorem dX12_house_26 : decode cX12_house 26 = .ok (.iload_n 1, 1) := by decide +kernel
theorem dX12_house_27 : decode cX12_house 27 = .ok (.iaload, 1) := by decide +kernel
theorem dX12_house_28 : decode cX12_house 28 = .ok (.ifCond .ne 7, 3) := by decide +kernel
theorem dX12_house_31 : decode cX12_house 31 = .ok (.ldc_w 298, 3) := by decide +kernel
theorem dX12_house_34 : decode cX12_house 34 = .ok (.ireturn, 1) := by decide +kernel
theorem dX12_house_35 : decode cX12_house 35 = .ok (.aload_n 0, 1) := by decide +kernel
theorem dX12_house_36 : decode cX12_house 36 = .ok (.invokevirtual 255, 3) := by decide +kernel
theorem dX12_house_39 : decode cX12_house 39 = .ok (.aload_n 0, 1) := by decide +kernel
theorem dX12_house_40 : decode cX12_house 40 = .ok (.getfield 34, 3) := by decide +kernel
theorem dX12_house_43 : decode cX12_house 43 = .ok (.iload_n 1, 1) := by decide +kernel
theorem dX12_house_44 : decode cX12_house 44 = .ok (.iaload, 1) := by decide +kernel
theorem dX12_house_45 : decode cX12_house 45 = .ok (.istore_n 3, 1) := by decide +kernel
theorem dX12_house_46 : decode cX12_house 46 = .ok (.ldc_w 298, 3) := by decide +kernel
theorem dX12_house_49 : decode cX12_house 49 = .ok (.istore 4, 2) := by decide +kernel
theorem dX12_house_51 : decode cX12_house 51 = .ok (.iconst 0, 1) := by decide +kernel
theorem dX12_house_52 : decode cX12_house 52 = .ok (.istore 5, 2) := by decide +kernel
theorem dX12_house_54 : decode cX12_house 54 = .ok (.iconst 0, 1) := by decide +kernel
theorem dX12_house_55 : decode cX12_house 55 = .ok (.istore 6, 2) := by decide +kernel
theorem dX12_house_57 : decode cX12_house 57 = .ok (.iconst 0, 1) := by decide +kernel
theorem dX12_house_58 : decode cX12_house 58 = .ok (.istore 7, 2) := by decide +kernel
theorem dX12_house_60 : decode cX12_house 60 = .ok (.iconst 0, 1) := by decide +kernel
theorem dX12_house_61 : decode cX12_house 61 = .ok (.istore 8, 2) := by decide +kernel
theorem dX12_house_63 : decode cX12_house 63 = .ok (.iconst 1, 1) := by decide +kernel
theorem dX12_house_64 : decode cX12_house 64 = .ok (.istore 9, 2) := by decide +kernel
theorem dX12_house_66 : decode cX12_house 66 = .ok (.iload 9, 2) := by decide +kernel
theorem dX12_house_68 : decode cX12_house 68 = .ok (.iconst 3, 1) := by decide +kernel
theorem dX12_house_69 : decode cX12_house 69 = .ok (.if_icmp .gt 143, 3) := by decide +kernel
theorem dX12_house_72 : decode cX12_house 72 = .ok (.iconst 0, 1) := by decide +kernel
theorem dX12_house_73 : decode cX12_house 73 = .ok (.istore 10, 2) := by decide +kernel
theorem dX12_house_75 : decode cX12_house 75 = .ok (.iload 10, 2) := by decide +kernel
theorem dX12_house_77 : decode cX12_house 77 = .ok (.iload 9, 2) := by decide +kernel
theorem dX12_house_79 : decode cX12_house 79 = .ok (.iadd, 1) := by decide +kernel
theorem dX12_house_80 : decode cX12_house 80 = .ok (.iload_n 3, 1) := by decide +kernel
theorem dX12_house_81 : decode cX12_house 81 = .ok (.if_icmp .gt 125, 3) := by decide +kernel
theorem dX12_house_84 : decode cX12_house 84 = .ok (.iload_n 3, 1) := by decide +kernel
theorem dX12_house_85 : decode cX12_house 85 = .ok (.istore 11, 2) := by decide +kernel
theorem dX12_house_87 : decode cX12_house 87 = .ok (.iload 11, 2) := by decide +kernel
theorem dX12_house_89 : decode cX12_house 89 = .ok (.iload 9, 2) := by decide +kernel
theorem dX12_house_91 : decode cX12_house 91 = .ok (.iadd, 1) := by decide +kernel
theorem dX12_house_92 : decode cX12_house 92 = .ok (.bipush 9, 2) := by decide +kernel
theorem dX12_house_94 : decode cX12_house 94 = .ok (.if_icmp .gt 106, 3) := by decide +kernel
theorem dX12_house_97 : decode cX12_house 97 = .ok (.aload_n 0, 1) := by decide +kernel
theorem dX12_house_98 : decode cX12_house 98 = .ok (.iload_n 1, 1) := by decide +kernel
theorem dX12_house_99 : decode cX12_house 99 = .ok (.iload 10, 2) := by decide +kernel
theorem dX12_house_101 : decode cX12_house 101 = .ok (.iload 9, 2) := by decide +kernel
theorem dX12_house_103 : decode cX12_house 103 = .ok (.invokevirtual 378, 3) := by decide +kernel
theorem dX12_house_106 : decode cX12_house 106 = .ok (.istore 12, 2) := by decide +kernel
theorem dX12_house_108 : decode cX12_house 108 = .ok (.aload_n 0, 1) := by decide +kernel
theorem dX12_house_109 : decode cX12_house 109 = .ok (.iload_n 1, 1) := by decide +kernel
theorem dX12_house_110 : decode cX12_house 110 = .ok (.iload 11, 2) := by decide +kernel
theorem dX12_house_112 : decode cX12_house 112 = .ok (.iload 9, 2) := by decide +kernel
theorem dX12_house_114 : decode cX12_house 114 = .ok (.invokevirtual 378, 3) := by decide +kernel
theorem dX12_house_117 : decode cX12_house 117 = .ok (.istore 13, 2) := by decide +kernel
theorem dX12_house_119 : decode cX12_house 119 = .ok (.iload 12, 2) := by decide +kernel
theorem dX12_house_121 : decode cX12_house 121 = .ok (.ifCond .le 73, 3) := by decide +kernel
theorem dX12_house_124 : decode cX12_house 124 = .ok (.iload 13, 2) := by decide +kernel
theorem dX12_house_126 : decode cX12_house 126 = .ok (.iconst (-1), 1) := by decide +kernel
theorem dX12_house_127 : decode cX12_house 127 = .ok (.if_icmp .ne 6, 3) := by decide +kernel
theorem dX12_house_130 : decode cX12_house 130 = .ok (.goto 64, 3) := by decide +kernel
theorem dX12_house_133 : decode cX12_house 133 = .ok (.bipush 100, 2) := by decide +kernel
theorem dX12_house_135 : decode cX12_house 135 = .ok (.iload 12, 2) := by decide +kernel
theorem dX12_house_137 : decode cX12_house 137 = .ok (.iload 13, 2) := by decide +kernel
theorem dX12_house_139 : decode cX12_house 139 = .ok (.isub, 1) := by decide +kernel
theorem dX12_house_140 : decode cX12_house 140 = .ok (.imul, 1) := by decide +kernel
theorem dX12_house_141 : decode cX12_house 141 = .ok (.iload 12, 2) := by decide +kernel
theorem dX12_house_143 : decode cX12_house 143 = .ok (.idiv, 1) := by decide +kernel
theorem dX12_house_144 : decode cX12_house 144 = .ok (.istore 14, 2) := by decide +kernel
theorem dX12_house_146 : decode cX12_house 146 = .ok (.iload 4, 2) := by decide +kernel
theorem dX12_house_148 : decode cX12_house 148 = .ok (.ldc_w 298, 3) := by decide +kernel
theorem dX12_house_151 : decode cX12_house 151 = .ok (.if_icmp .ne 8, 3) := by decide +kernel
theorem dX12_house_154 : decode cX12_house 154 = .ok (.iload 14, 2) := by decide +kernel
theorem dX12_house_156 : decode cX12_house 156 = .ok (.goto 10, 3) := by decide +kernel
theorem dX12_house_159 : decode cX12_house 159 = .ok (.iload 5, 2) := by decide +kernel
theorem dX12_house_161 : decode cX12_house 161 = .ok (.iload 14, 2) := by decide +kernel
theorem dX12_house_163 : decode cX12_house 163 = .ok (.invokestatic 303, 3) := by decide +kernel
theorem dX12_house_166 : decode cX12_house 166 = .ok (.istore 5, 2) := by decide +kernel
theorem dX12_house_168 : decode cX12_house 168 = .ok (.iload 14, 2) := by decide +kernel
theorem dX12_house_170 : decode cX12_house 170 = .ok (.iload 4, 2) := by decide +kernel
theorem dX12_house_172 : decode cX12_house 172 = .ok (.if_icmp .gt 6, 3) := by decide +kernel
theorem dX12_house_175 : decode cX12_house 175 = .ok (.goto 19, 3) := by decide +kernel
theorem dX12_house_178 : decode cX12_house 178 = .ok (.iload 14, 2) := by decide +kernel
theorem dX12_house_180 : decode cX12_house 180 = .ok (.istore 4, 2) := by decide +kernel
theorem dX12_house_182 : decode cX12_house 182 = .ok (.iload 9, 2) := by decide +kernel
theorem dX12_house_184 : decode cX12_house 184 = .ok (.istore 6, 2) := by decide +kernel
theorem dX12_house_186 : decode cX12_house 186 = .ok (.iload 10, 2) := by decide +kernel
theorem dX12_house_188 : decode cX12_house 188 = .ok (.istore 7, 2) := by decide +kernel
theorem dX12_house_190 : decode cX12_house 190 = .ok (.iload 11, 2) := by decide +kernel
theorem dX12_house_192 : decode cX12_house 192 = .ok (.istore 8, 2) := by decide +kernel
theorem dX12_house_194 : decode cX12_house 194 = .ok (.iinc 11 1, 3) := by decide +kernel
theorem dX12_house_197 : decode cX12_house 197 = .ok (.goto (-110), 3) := by decide +kernel
theorem dX12_house_200 : decode cX12_house 200 = .ok (.iinc 10 1, 3) := by decide +kernel
theorem dX12_house_203 : decode cX12_house 203 = .ok (.goto (-128), 3) := by decide +kernel
theorem dX12_house_206 : decode cX12_house 206 = .ok (.iinc 9 1, 3) := by decide +kernel
theorem dX12_house_209 : decode cX12_house 209 = .ok (.goto (-143), 3) := by decide +kernel
theorem dX12_house_212 : decode cX12_house 212 = .ok (.iload 4, 2) := by decide +kernel
theorem dX12_house_214 : decode cX12_house 214 = .ok (.ldc_w 298, 3) := by decide +kernel
theorem dX12_house_217 : decode cX12_house 217 = .ok (.if_icmp .ne 7, 3) := by decide +kernel
theorem dX12_house_220 : decode cX12_house 220 = .ok (.ldc_w 298, 3) := by decide +kernel
theorem dX12_house_223 : decode cX12_house 223 = .ok (.ireturn, 1) := by decide +kernel
theorem dX12_house_224 : decode cX12_house 224 = .ok (.iload_n 2, 1) := by decide +kernel
theorem dX12_house_225 : decode cX12_house 225 = .ok (.tableswitch 43 0 3 #[31, 34, 37, 40], 31) := by decide +kernel
theorem dX12_house_256 : decode cX12_house 256 = .ok (.iload 4, 2) := by decide +kernel
theorem dX12_house_258 : decode cX12_house 258 = .ok (.ireturn, 1) := by decide +kernel
theorem dX12_house_259 : decode cX12_house 259 = .ok (.iload 5, 2) := by decide +kernel
theorem dX12_house_261 : decode cX12_house 261 = .ok (.ireturn, 1) := by decide +kernel
theorem dX12_house_262 : decode cX12_house 262 = .ok (.iload 6, 2) := by decide +kernel
theorem dX12_house_264 : decode cX12_house 264 = .ok (.ireturn, 1) := by decide +kernel
theorem dX12_house_265 : decode cX12_house 265 = .ok (.iload 7, 2) := by decide +kernel
theorem dX12_house_267 : decode cX12_house 267 = .ok (.ireturn, 1) := by decide +kernel
theorem dX12_house_268 : decode cX12_house 268 = .ok (.iload 8, 2) := by decide +kernel
theorem dX12_house_270 : decode cX12_house 270 = .ok (.ireturn, 1) := by decide +kernel
theorem dX12_allRates_0 : decode cX12_allRates 0 = .ok (.iconst (-1), 1) := by decide +kernel
theorem dX12_allRates_1 : decode cX12_allRates 1 = .ok (.istore_n 1, 1) := by decide +kernel
theorem dX12_allRates_2 : decode cX12_allRates 2 = .ok (.iconst 0, 1) := by decide +kernel
theorem dX12_allRates_3 : decode cX12_allRates 3 = .ok (.istore_n 2, 1) := by decide +kernel
theorem dX12_allRates_4 : decode cX12_allRates 4 = .ok (.iload_n 2, 1) := by decide +kernel
theorem dX12_allRates_5 : decode cX12_allRates 5 = .ok (.bipush 108, 2) := by decide +kernel
theorem dX12_allRates_7 : decode cX12_allRates 7 = .ok (.if_icmp .ge 28, 3) := by decide +kernel
theorem dX12_allRates_10 : decode cX12_allRates 10 = .ok (.aload_n 0, 1) := by decide +kernel
theorem dX12_allRates_11 : decode cX12_allRates 11 = .ok (.getfield 74, 3) := by decide +kernel
theorem dX12_allRates_14 : decode cX12_allRates 14 = .ok (.iload_n 2, 1) := by decide +kernel
theorem dX12_allRates_15 : decode cX12_allRates 15 = .ok (.iaload, 1) := by decide +kernel
theorem dX12_allRates_16 : decode cX12_allRates 16 = .ok (.iconst (-1), 1) := by decide +kernel
theorem dX12_allRates_17 : decode cX12_allRates 17 = .ok (.if_icmp .eq 12, 3) := by decide +kernel
theorem dX12_allRates_20 : decode cX12_allRates 20 = .ok (.iload_n 1, 1) := by decide +kernel
theorem dX12_allRates_21 : decode cX12_allRates 21 = .ok (.iload_n 2, 1) := by decide +kernel
theorem dX12_allRates_22 : decode cX12_allRates 22 = .ok (.bipush 9, 2) := by decide +kernel
theorem dX12_allRates_24 : decode cX12_allRates 24 = .ok (.irem, 1) := by decide +kernel
theorem dX12_allRates_25 : decode cX12_allRates 25 = .ok (.invokestatic 306, 3) := by decide +kernel
theorem dX12_allRates_28 : decode cX12_allRates 28 = .ok (.istore_n 1, 1) := by decide +kernel
theorem dX12_allRates_29 : decode cX12_allRates 29 = .ok (.iinc 2 1, 3) := by decide +kernel
theorem dX12_allRates_32 : decode cX12_allRates 32 = .ok (.goto (-28), 3) := by decide +kernel
theorem dX12_allRates_35 : decode cX12_allRates 35 = .ok (.iconst 0, 1) := by decide +kernel
theorem dX12_allRates_36 : decode cX12_allRates 36 = .ok (.istore_n 2, 1) := by decide +kernel
theorem dX12_allRates_37 : decode cX12_allRates 37 = .ok (.iload_n 2, 1) := by decide +kernel
theorem dX12_allRates_38 : decode cX12_allRates 38 = .ok (.aload_n 0, 1) := by decide +kernel
theorem dX12_allRates_39 : decode cX12_allRates 39 = .ok (.getfield 240, 3) := by decide +kernel
theorem dX12_allRates_42 : decode cX12_allRates 42 = .ok (.if_icmp .ge 70, 3) := by decide +kernel
theorem dX12_allRates_45 : decode cX12_allRates 45 = .ok (.aload_n 0, 1) := by decide +kernel
theorem dX12_allRates_46 : decode cX12_allRates 46 = .ok (.getfield 84, 3) := by decide +kernel
theorem dX12_allRates_49 : decode cX12_allRates 49 = .ok (.iload_n 2, 1) := by decide +kernel
theorem dX12_allRates_50 : decode cX12_allRates 50 = .ok (.iconst 0, 1) := by decide +kernel
theorem dX12_allRates_51 : decode cX12_allRates 51 = .ok (.iastore, 1) := by decide +kernel
theorem dX12_allRates_52 : decode cX12_allRates 52 = .ok (.iload_n 1, 1) := by decide +kernel
theorem dX12_allRates_53 : decode cX12_allRates 53 = .ok (.iconst (-1), 1) := by decide +kernel
theorem dX12_allRates_54 : decode cX12_allRates 54 = .ok (.if_icmp .ne 6, 3) := by decide +kernel
theorem dX12_allRates_57 : decode cX12_allRates 57 = .ok (.goto 49, 3) := by decide +kernel
theorem dX12_allRates_60 : decode cX12_allRates 60 = .ok (.aload_n 0, 1) := by decide +kernel
theorem dX12_allRates_61 : decode cX12_allRates 61 = .ok (.iload_n 2, 1) := by decide +kernel
theorem dX12_allRates_62 : decode cX12_allRates 62 = .ok (.iconst 0, 1) := by decide +kernel
theorem dX12_allRates_63 : decode cX12_allRates 63 = .ok (.iload_n 1, 1) := by decide +kernel
theorem dX12_allRates_64 : decode cX12_allRates 64 = .ok (.iconst 5, 1) := by decide +kernel
theorem dX12_allRates_65 : decode cX12_allRates 65 = .ok (.isub, 1) := by decide +kernel
theorem dX12_allRates_66 : decode cX12_allRates 66 = .ok (.invokestatic 306, 3) := by decide +kernel
theorem dX12_allRates_69 : decode cX12_allRates 69 = .ok (.iload_n 1, 1) := by decide +kernel
theorem dX12_allRates_70 : decode cX12_allRates 70 = .ok (.invokevirtual 294, 3) := by decide +kernel
theorem dX12_allRates_73 : decode cX12_allRates 73 = .ok (.aload_n 0, 1) := by decide +kernel
theorem dX12_allRates_74 : decode cX12_allRates 74 = .ok (.getfield 84, 3) := by decide +kernel
theorem dX12_allRates_77 : decode cX12_allRates 77 = .ok (.iload_n 2, 1) := by decide +kernel
theorem dX12_allRates_78 : decode cX12_allRates 78 = .ok (.aload_n 0, 1) := by decide +kernel
theorem dX12_allRates_79 : decode cX12_allRates 79 = .ok (.getfield 271, 3) := by decide +kernel
theorem dX12_allRates_82 : decode cX12_allRates 82 = .ok (.lconst 0, 1) := by decide +kernel
theorem dX12_allRates_83 : decode cX12_allRates 83 = .ok (.lcmp, 1) := by decide +kernel
theorem dX12_allRates_84 : decode cX12_allRates 84 = .ok (.ifCond .ne 7, 3) := by decide +kernel
theorem dX12_allRates_87 : decode cX12_allRates 87 = .ok (.iconst 0, 1) := by decide +kernel
theorem dX12_allRates_88 : decode cX12_allRates 88 = .ok (.goto 17, 3) := by decide +kernel
theorem dX12_allRates_91 : decode cX12_allRates 91 = .ok (.ldc2_w 382, 3) := by decide +kernel
theorem dX12_allRates_94 : decode cX12_allRates 94 = .ok (.aload_n 0, 1) := by decide +kernel
theorem dX12_allRates_95 : decode cX12_allRates 95 = .ok (.getfield 267, 3) := by decide +kernel
theorem dX12_allRates_98 : decode cX12_allRates 98 = .ok (.lmul, 1) := by decide +kernel
theorem dX12_allRates_99 : decode cX12_allRates 99 = .ok (.aload_n 0, 1) := by decide +kernel
theorem dX12_allRates_100 : decode cX12_allRates 100 = .ok (.getfield 271, 3) := by decide +kernel
theorem dX12_allRates_103 : decode cX12_allRates 103 = .ok (.ldiv, 1) := by decide +kernel
theorem dX12_allRates_104 : decode cX12_allRates 104 = .ok (.l2i, 1) := by decide +kernel
theorem dX12_allRates_105 : decode cX12_allRates 105 = .ok (.iastore, 1) := by decide +kernel
theorem dX12_allRates_106 : decode cX12_allRates 106 = .ok (.iinc 2 1, 3) := by decide +kernel
theorem dX12_allRates_109 : decode cX12_allRates 109 = .ok (.goto (-72), 3) := by decide +kernel
theorem dX12_allRates_112 : decode cX12_allRates 112 = .ok (.return_, 1) := by decide +kernel
theorem dX12_coin_0 : decode cX12_coin 0 = .ok (.aload_n 0, 1) := by decide +kernel
theorem dX12_coin_1 : decode cX12_coin 1 = .ok (.iconst 0, 1) := by decide +kernel
theorem dX12_coin_2 : decode cX12_coin 2 = .ok (.putfield 87, 3) := by decide +kernel
theorem dX12_coin_5 : decode cX12_coin 5 = .ok (.aload_n 0, 1) := by decide +kernel
theorem dX12_coin_6 : decode cX12_coin 6 = .ok (.iload_n 1, 1) := by decide +kernel
theorem dX12_coin_7 : decode cX12_coin 7 = .ok (.invokevirtual 252, 3) := by decide +kernel
theorem dX12_coin_10 : decode cX12_coin 10 = .ok (.ifCond .eq 13, 3) := by decide +kernel
theorem dX12_coin_13 : decode cX12_coin 13 = .ok (.iload_n 2, 1) := by decide +kernel
theorem dX12_coin_14 : decode cX12_coin 14 = .ok (.ifCond .lt 9, 3) := by decide +kernel
theorem dX12_coin_17 : decode cX12_coin 17 = .ok (.iload_n 2, 1) := by decide +kernel
theorem dX12_coin_18 : decode cX12_coin 18 = .ok (.bipush 99, 2) := by decide +kernel
theorem dX12_coin_20 : decode cX12_coin 20 = .ok (.if_icmp .le 5, 3) := by decide +kernel
theorem dX12_coin_23 : decode cX12_coin 23 = .ok (.iconst 0, 1) := by decide +kernel
theorem dX12_coin_24 : decode cX12_coin 24 = .ok (.ireturn, 1) := by decide +kernel
theorem dX12_coin_25 : decode cX12_coin 25 = .ok (.aload_n 0, 1) := by decide +kernel
theorem dX12_coin_26 : decode cX12_coin 26 = .ok (.getfield 43, 3) := by decide +kernel
theorem dX12_coin_29 : decode cX12_coin 29 = .ok (.iload_n 1, 1) := by decide +kernel
theorem dX12_coin_30 : decode cX12_coin 30 = .ok (.iload_n 2, 1) := by decide +kernel
theorem dX12_coin_31 : decode cX12_coin 31 = .ok (.iastore, 1) := by decide +kernel
theorem dX12_coin_32 : decode cX12_coin 32 = .ok (.iconst 1, 1) := by decide +kernel
theorem dX12_coin_33 : decode cX12_coin 33 = .ok (.ireturn, 1) := by decide +kernel
theorem dX12_bits_0 : decode cX12_bits 0 = .ok (.iconst 0, 1) := by decide +kernel
theorem dX12_bits_1 : decode cX12_bits 1 = .ok (.istore_n 1, 1) := by decide +kernel
theorem dX12_bits_2 : decode cX12_bits 2 = .ok (.iconst 0, 1) := by decide +kernel
theorem dX12_bits_3 : decode cX12_bits 3 = .ok (.istore_n 2, 1) := by decide +kernel
theorem dX12_bits_4 : decode cX12_bits 4 = .ok (.iload_n 2, 1) := by decide +kernel
theorem dX12_bits_5 : decode cX12_bits 5 = .ok (.bipush 12, 2) := by decide +kernel
theorem dX12_bits_7 : decode cX12_bits 7 = .ok (.if_icmp .ge 17, 3) := by decide +kernel
theorem dX12_bits_10 : decode cX12_bits 10 = .ok (.iload_n 1, 1) := by decide +kernel
theorem dX12_bits_11 : decode cX12_bits 11 = .ok (.iload_n 0, 1) := by decide +kernel
theorem dX12_bits_12 : decode cX12_bits 12 = .ok (.iload_n 2, 1) := by decide +kernel
theorem dX12_bits_13 : decode cX12_bits 13 = .ok (.ishr, 1) := by decide +kernel
theorem dX12_bits_14 : decode cX12_bits 14 = .ok (.iconst 1, 1) := by decide +kernel
theorem dX12_bits_15 : decode cX12_bits 15 = .ok (.iand, 1) := by decide +kernel
theorem dX12_bits_16 : decode cX12_bits 16 = .ok (.iadd, 1) := by decide +kernel
theorem dX12_bits_17 : decode cX12_bits 17 = .ok (.istore_n 1, 1) := by decide +kernel
theorem dX12_bits_18 : decode cX12_bits 18 = .ok (.iinc 2 1, 3) := by decide +kernel
theorem dX12_bits_21 : decode cX12_bits 21 = .ok (.goto (-17), 3) := by decide +kernel
theorem dX12_bits_24 : decode cX12_bits 24 = .ok (.iload_n 1, 1) := by decide +kernel
theorem dX12_bits_25 : decode cX12_bits 25 = .ok (.ireturn, 1) := by decide +kernel
theorem dX12_savedBy_0 : decode cX12_savedBy 0 = .ok (.iconst 0, 1) := by decide +kernel
theorem dX12_savedBy_1 : decode cX12_savedBy 1 = .ok (.istore_n 2, 1) := by decide +kernel
theorem dX12_savedBy_2 : decode cX12_savedBy 2 = .ok (.iconst 0, 1) := by decide +kernel
theorem dX12_savedBy_3 : decode cX12_savedBy 3 = .ok (.istore_n 3, 1) := by decide +kernel
theorem dX12_savedBy_4 : decode cX12_savedBy 4 = .ok (.iload_n 3, 1) := by decide +kernel
theorem dX12_savedBy_5 : decode cX12_savedBy 5 = .ok (.aload_n 0, 1) := by decide +kernel
theorem dX12_savedBy_6 : decode cX12_savedBy 6 = .ok (.getfield 240, 3) := by decide +kernel
theorem dX12_savedBy_9 : decode cX12_savedBy 9 = .ok (.if_icmp .ge 76, 3) := by decide +kernel
theorem dX12_savedBy_12 : decode cX12_savedBy 12 = .ok (.iload_n 1, 1) := by decide +kernel
theorem dX12_savedBy_13 : decode cX12_savedBy 13 = .ok (.iload_n 3, 1) := by decide +kernel
theorem dX12_savedBy_14 : decode cX12_savedBy 14 = .ok (.ishr, 1) := by decide +kernel
theorem dX12_savedBy_15 : decode cX12_savedBy 15 = .ok (.iconst 1, 1) := by decide +kernel
theorem dX12_savedBy_16 : decode cX12_savedBy 16 = .ok (.iand, 1) := by decide +kernel
theorem dX12_savedBy_17 : decode cX12_savedBy 17 = .ok (.ifCond .ne 6, 3) := by decide +kernel
theorem dX12_savedBy_20 : decode cX12_savedBy 20 = .ok (.goto 59, 3) := by decide +kernel
theorem dX12_savedBy_23 : decode cX12_savedBy 23 = .ok (.aload_n 0, 1) := by decide +kernel
theorem dX12_savedBy_24 : decode cX12_savedBy 24 = .ok (.getfield 84, 3) := by decide +kernel
theorem dX12_savedBy_27 : decode cX12_savedBy 27 = .ok (.iload_n 3, 1) := by decide +kernel
theorem dX12_savedBy_28 : decode cX12_savedBy 28 = .ok (.iaload, 1) := by decide +kernel
theorem dX12_savedBy_29 : decode cX12_savedBy 29 = .ok (.aload_n 0, 1) := by decide +kernel
theorem dX12_savedBy_30 : decode cX12_savedBy 30 = .ok (.getfield 52, 3) := by decide +kernel
theorem dX12_savedBy_33 : decode cX12_savedBy 33 = .ok (.imul, 1) := by decide +kernel
theorem dX12_savedBy_34 : decode cX12_savedBy 34 = .ok (.bipush 10, 2) := by decide +kernel
theorem dX12_savedBy_36 : decode cX12_savedBy 36 = .ok (.idiv, 1) := by decide +kernel
theorem dX12_savedBy_37 : decode cX12_savedBy 37 = .ok (.istore 4, 2) := by decide +kernel
theorem dX12_savedBy_39 : decode cX12_savedBy 39 = .ok (.iload_n 2, 1) := by decide +kernel
theorem dX12_savedBy_40 : decode cX12_savedBy 40 = .ok (.iload 4, 2) := by decide +kernel
theorem dX12_savedBy_42 : decode cX12_savedBy 42 = .ok (.iload_n 3, 1) := by decide +kernel
theorem dX12_savedBy_43 : decode cX12_savedBy 43 = .ok (.iconst 1, 1) := by decide +kernel
theorem dX12_savedBy_44 : decode cX12_savedBy 44 = .ok (.iadd, 1) := by decide +kernel
theorem dX12_savedBy_45 : decode cX12_savedBy 45 = .ok (.aload_n 0, 1) := by decide +kernel
theorem dX12_savedBy_46 : decode cX12_savedBy 46 = .ok (.getfield 240, 3) := by decide +kernel
theorem dX12_savedBy_49 : decode cX12_savedBy 49 = .ok (.if_icmp .ge 26, 3) := by decide +kernel
theorem dX12_savedBy_52 : decode cX12_savedBy 52 = .ok (.iload_n 1, 1) := by decide +kernel
theorem dX12_savedBy_53 : decode cX12_savedBy 53 = .ok (.iload_n 3, 1) := by decide +kernel
theorem dX12_savedBy_54 : decode cX12_savedBy 54 = .ok (.iconst 1, 1) := by decide +kernel
theorem dX12_savedBy_55 : decode cX12_savedBy 55 = .ok (.iadd, 1) := by decide +kernel
theorem dX12_savedBy_56 : decode cX12_savedBy 56 = .ok (.ishr, 1) := by decide +kernel
theorem dX12_savedBy_57 : decode cX12_savedBy 57 = .ok (.iconst 1, 1) := by decide +kernel
theorem dX12_savedBy_58 : decode cX12_savedBy 58 = .ok (.iand, 1) := by decide +kernel
theorem dX12_savedBy_59 : decode cX12_savedBy 59 = .ok (.ifCond .ne 16, 3) := by decide +kernel
theorem dX12_savedBy_62 : decode cX12_savedBy 62 = .ok (.iload 4, 2) := by decide +kernel
theorem dX12_savedBy_64 : decode cX12_savedBy 64 = .ok (.aload_n 0, 1) := by decide +kernel
theorem dX12_savedBy_65 : decode cX12_savedBy 65 = .ok (.getfield 246, 3) := by decide +kernel
theorem dX12_savedBy_68 : decode cX12_savedBy 68 = .ok (.imul, 1) := by decide +kernel
theorem dX12_savedBy_69 : decode cX12_savedBy 69 = .ok (.bipush 10, 2) := by decide +kernel
theorem dX12_savedBy_71 : decode cX12_savedBy 71 = .ok (.idiv, 1) := by decide +kernel
theorem dX12_savedBy_72 : decode cX12_savedBy 72 = .ok (.goto 4, 3) := by decide +kernel
theorem dX12_savedBy_75 : decode cX12_savedBy 75 = .ok (.iconst 0, 1) := by decide +kernel
theorem dX12_savedBy_76 : decode cX12_savedBy 76 = .ok (.isub, 1) := by decide +kernel
theorem dX12_savedBy_77 : decode cX12_savedBy 77 = .ok (.iadd, 1) := by decide +kernel
theorem dX12_savedBy_78 : decode cX12_savedBy 78 = .ok (.istore_n 2, 1) := by decide +kernel
theorem dX12_savedBy_79 : decode cX12_savedBy 79 = .ok (.iinc 3 1, 3) := by decide +kernel
theorem dX12_savedBy_82 : decode cX12_savedBy 82 = .ok (.goto (-78), 3) := by decide +kernel
theorem dX12_savedBy_85 : decode cX12_savedBy 85 = .ok (.iload_n 2, 1) := by decide +kernel
theorem dX12_savedBy_86 : decode cX12_savedBy 86 = .ok (.ireturn, 1) := by decide +kernel
theorem dX12_coinOf_0 : decode cX12_coinOf 0 = .ok (.iconst 0, 1) := by decide +kernel
theorem dX12_coinOf_1 : decode cX12_coinOf 1 = .ok (.istore_n 2, 1) := by decide +kernel
theorem dX12_coinOf_2 : decode cX12_coinOf 2 = .ok (.iconst 0, 1) := by decide +kernel
theorem dX12_coinOf_3 : decode cX12_coinOf 3 = .ok (.istore_n 3, 1) := by decide +kernel
theorem dX12_coinOf_4 : decode cX12_coinOf 4 = .ok (.iload_n 3, 1) := by decide +kernel
theorem dX12_coinOf_5 : decode cX12_coinOf 5 = .ok (.aload_n 0, 1) := by decide +kernel
theorem dX12_coinOf_6 : decode cX12_coinOf 6 = .ok (.getfield 240, 3) := by decide +kernel
theorem dX12_coinOf_9 : decode cX12_coinOf 9 = .ok (.if_icmp .ge 31, 3) := by decide +kernel
theorem dX12_coinOf_12 : decode cX12_coinOf 12 = .ok (.iload_n 2, 1) := by decide +kernel
theorem dX12_coinOf_13 : decode cX12_coinOf 13 = .ok (.iload_n 1, 1) := by decide +kernel
theorem dX12_coinOf_14 : decode cX12_coinOf 14 = .ok (.iload_n 3, 1) := by decide +kernel
theorem dX12_coinOf_15 : decode cX12_coinOf 15 = .ok (.ishr, 1) := by decide +kernel
theorem dX12_coinOf_16 : decode cX12_coinOf 16 = .ok (.iconst 1, 1) := by decide +kernel
theorem dX12_coinOf_17 : decode cX12_coinOf 17 = .ok (.iand, 1) := by decide +kernel
theorem dX12_coinOf_18 : decode cX12_coinOf 18 = .ok (.iconst 1, 1) := by decide +kernel
theorem dX12_coinOf_19 : decode cX12_coinOf 19 = .ok (.if_icmp .ne 12, 3) := by decide +kernel
theorem dX12_coinOf_22 : decode cX12_coinOf 22 = .ok (.aload_n 0, 1) := by decide +kernel
theorem dX12_coinOf_23 : decode cX12_coinOf 23 = .ok (.getfield 43, 3) := by decide +kernel
theorem dX12_coinOf_26 : decode cX12_coinOf 26 = .ok (.iload_n 3, 1) := by decide +kernel
theorem dX12_coinOf_27 : decode cX12_coinOf 27 = .ok (.iaload, 1) := by decide +kernel
theorem dX12_coinOf_28 : decode cX12_coinOf 28 = .ok (.goto 4, 3) := by decide +kernel
theorem dX12_coinOf_31 : decode cX12_coinOf 31 = .ok (.iconst 0, 1) := by decide +kernel
theorem dX12_coinOf_32 : decode cX12_coinOf 32 = .ok (.iadd, 1) := by decide +kernel
theorem dX12_coinOf_33 : decode cX12_coinOf 33 = .ok (.istore_n 2, 1) := by decide +kernel
theorem dX12_coinOf_34 : decode cX12_coinOf 34 = .ok (.iinc 3 1, 3) := by decide +kernel
theorem dX12_coinOf_37 : decode cX12_coinOf 37 = .ok (.goto (-33), 3) := by decide +kernel
theorem dX12_coinOf_40 : decode cX12_coinOf 40 = .ok (.iload_n 2, 1) := by decide +kernel
theorem dX12_coinOf_41 : decode cX12_coinOf 41 = .ok (.ireturn, 1) := by decide +kernel
theorem dX12_poles_0 : decode cX12_poles 0 = .ok (.aload_n 0, 1) := by decide +kernel
theorem dX12_poles_1 : decode cX12_poles 1 = .ok (.iconst 0, 1) := by decide +kernel
theorem dX12_poles_2 : decode cX12_poles 2 = .ok (.putfield 87, 3) := by decide +kernel
theorem dX12_poles_5 : decode cX12_poles 5 = .ok (.iload_n 1, 1) := by decide +kernel
theorem dX12_poles_6 : decode cX12_poles 6 = .ok (.ifCond .lt 29, 3) := by decide +kernel
theorem dX12_poles_9 : decode cX12_poles 9 = .ok (.iload_n 1, 1) := by decide +kernel
theorem dX12_poles_10 : decode cX12_poles 10 = .ok (.aload_n 0, 1) := by decide +kernel
theorem dX12_poles_11 : decode cX12_poles 11 = .ok (.getfield 240, 3) := by decide +kernel
theorem dX12_poles_14 : decode cX12_poles 14 = .ok (.if_icmp .gt 21, 3) := by decide +kernel
theorem dX12_poles_17 : decode cX12_poles 17 = .ok (.iload_n 2, 1) := by decide +kernel
theorem dX12_poles_18 : decode cX12_poles 18 = .ok (.ifCond .lt 17, 3) := by decide +kernel
theorem dX12_poles_21 : decode cX12_poles 21 = .ok (.iload_n 2, 1) := by decide +kernel
theorem dX12_poles_22 : decode cX12_poles 22 = .ok (.iconst 1, 1) := by decide +kernel
theorem dX12_poles_23 : decode cX12_poles 23 = .ok (.if_icmp .gt 12, 3) := by decide +kernel
theorem dX12_poles_26 : decode cX12_poles 26 = .ok (.iload_n 3, 1) := by decide +kernel
theorem dX12_poles_27 : decode cX12_poles 27 = .ok (.ifCond .lt 8, 3) := by decide +kernel
theorem dX12_poles_30 : decode cX12_poles 30 = .ok (.iload_n 3, 1) := by decide +kernel
theorem dX12_poles_31 : decode cX12_poles 31 = .ok (.iconst 2, 1) := by decide +kernel
theorem dX12_poles_32 : decode cX12_poles 32 = .ok (.if_icmp .le 5, 3) := by decide +kernel
theorem dX12_poles_35 : decode cX12_poles 35 = .ok (.iconst (-1), 1) := by decide +kernel
theorem dX12_poles_36 : decode cX12_poles 36 = .ok (.ireturn, 1) := by decide +kernel
theorem dX12_poles_37 : decode cX12_poles 37 = .ok (.aload_n 0, 1) := by decide +kernel
theorem dX12_poles_38 : decode cX12_poles 38 = .ok (.invokevirtual 255, 3) := by decide +kernel
theorem dX12_poles_41 : decode cX12_poles 41 = .ok (.aload_n 0, 1) := by decide +kernel
theorem dX12_poles_42 : decode cX12_poles 42 = .ok (.invokevirtual 384, 3) := by decide +kernel
theorem dX12_poles_45 : decode cX12_poles 45 = .ok (.iconst (-1), 1) := by decide +kernel
theorem dX12_poles_46 : decode cX12_poles 46 = .ok (.istore 4, 2) := by decide +kernel
theorem dX12_poles_48 : decode cX12_poles 48 = .ok (.iconst 0, 1) := by decide +kernel
theorem dX12_poles_49 : decode cX12_poles 49 = .ok (.istore 5, 2) := by decide +kernel
theorem dX12_poles_51 : decode cX12_poles 51 = .ok (.iconst 0, 1) := by decide +kernel
theorem dX12_poles_52 : decode cX12_poles 52 = .ok (.istore 6, 2) := by decide +kernel
theorem dX12_poles_54 : decode cX12_poles 54 = .ok (.iload 6, 2) := by decide +kernel
theorem dX12_poles_56 : decode cX12_poles 56 = .ok (.iconst 1, 1) := by decide +kernel
theorem dX12_poles_57 : decode cX12_poles 57 = .ok (.aload_n 0, 1) := by decide +kernel
theorem dX12_poles_58 : decode cX12_poles 58 = .ok (.getfield 240, 3) := by decide +kernel
theorem dX12_poles_61 : decode cX12_poles 61 = .ok (.ishl, 1) := by decide +kernel
theorem dX12_poles_62 : decode cX12_poles 62 = .ok (.if_icmp .ge 66, 3) := by decide +kernel
theorem dX12_poles_65 : decode cX12_poles 65 = .ok (.iload 6, 2) := by decide +kernel
theorem dX12_poles_67 : decode cX12_poles 67 = .ok (.invokestatic 387, 3) := by decide +kernel
theorem dX12_poles_70 : decode cX12_poles 70 = .ok (.iload_n 1, 1) := by decide +kernel
theorem dX12_poles_71 : decode cX12_poles 71 = .ok (.if_icmp .eq 6, 3) := by decide +kernel
theorem dX12_poles_74 : decode cX12_poles 74 = .ok (.goto 48, 3) := by decide +kernel
theorem dX12_poles_77 : decode cX12_poles 77 = .ok (.iload_n 2, 1) := by decide +kernel
theorem dX12_poles_78 : decode cX12_poles 78 = .ok (.ifCond .ne 12, 3) := by decide +kernel
theorem dX12_poles_81 : decode cX12_poles 81 = .ok (.aload_n 0, 1) := by decide +kernel
theorem dX12_poles_82 : decode cX12_poles 82 = .ok (.iload 6, 2) := by decide +kernel
theorem dX12_poles_84 : decode cX12_poles 84 = .ok (.invokevirtual 390, 3) := by decide +kernel
theorem dX12_poles_87 : decode cX12_poles 87 = .ok (.goto 9, 3) := by decide +kernel
theorem dX12_poles_90 : decode cX12_poles 90 = .ok (.aload_n 0, 1) := by decide +kernel
theorem dX12_poles_91 : decode cX12_poles 91 = .ok (.iload 6, 2) := by decide +kernel
theorem dX12_poles_93 : decode cX12_poles 93 = .ok (.invokevirtual 393, 3) := by decide +kernel
theorem dX12_poles_96 : decode cX12_poles 96 = .ok (.istore 7, 2) := by decide +kernel
theorem dX12_poles_98 : decode cX12_poles 98 = .ok (.iload 4, 2) := by decide +kernel
theorem dX12_poles_100 : decode cX12_poles 100 = .ok (.iconst (-1), 1) := by decide +kernel
theorem dX12_poles_101 : decode cX12_poles 101 = .ok (.if_icmp .eq 13, 3) := by decide +kernel
theorem dX12_poles_104 : decode cX12_poles 104 = .ok (.iload 7, 2) := by decide +kernel
theorem dX12_poles_106 : decode cX12_poles 106 = .ok (.iload 5, 2) := by decide +kernel
theorem dX12_poles_108 : decode cX12_poles 108 = .ok (.if_icmp .gt 6, 3) := by decide +kernel
theorem dX12_poles_111 : decode cX12_poles 111 = .ok (.goto 11, 3) := by decide +kernel
theorem dX12_poles_114 : decode cX12_poles 114 = .ok (.iload 6, 2) := by decide +kernel
theorem dX12_poles_116 : decode cX12_poles 116 = .ok (.istore 4, 2) := by decide +kernel
theorem dX12_poles_118 : decode cX12_poles 118 = .ok (.iload 7, 2) := by decide +kernel
theorem dX12_poles_120 : decode cX12_poles 120 = .ok (.istore 5, 2) := by decide +kernel
theorem dX12_poles_122 : decode cX12_poles 122 = .ok (.iinc 6 1, 3) := by decide +kernel
theorem dX12_poles_125 : decode cX12_poles 125 = .ok (.goto (-71), 3) := by decide +kernel
theorem dX12_poles_128 : decode cX12_poles 128 = .ok (.iload_n 3, 1) := by decide +kernel
theorem dX12_poles_129 : decode cX12_poles 129 = .ok (.ifCond .ne 8, 3) := by decide +kernel
theorem dX12_poles_132 : decode cX12_poles 132 = .ok (.iload 4, 2) := by decide +kernel
theorem dX12_poles_134 : decode cX12_poles 134 = .ok (.goto 23, 3) := by decide +kernel
theorem dX12_poles_137 : decode cX12_poles 137 = .ok (.iload_n 3, 1) := by decide +kernel
theorem dX12_poles_138 : decode cX12_poles 138 = .ok (.iconst 1, 1) := by decide +kernel
theorem dX12_poles_139 : decode cX12_poles 139 = .ok (.if_icmp .ne 12, 3) := by decide +kernel
theorem dX12_poles_142 : decode cX12_poles 142 = .ok (.aload_n 0, 1) := by decide +kernel
theorem dX12_poles_143 : decode cX12_poles 143 = .ok (.iload 4, 2) := by decide +kernel
theorem dX12_poles_145 : decode cX12_poles 145 = .ok (.invokevirtual 390, 3) := by decide +kernel
theorem dX12_poles_148 : decode cX12_poles 148 = .ok (.goto 9, 3) := by decide +kernel
theorem dX12_poles_151 : decode cX12_poles 151 = .ok (.aload_n 0, 1) := by decide +kernel
theorem dX12_poles_152 : decode cX12_poles 152 = .ok (.iload 4, 2) := by decide +kernel
theorem dX12_poles_154 : decode cX12_poles 154 = .ok (.invokevirtual 393, 3) := by decide +kernel
theorem dX12_poles_157 : decode cX12_poles 157 = .ok (.ireturn, 1) := by decide +kernel
theorem dX12_never_0 : decode cX12_never 0 = .ok (.aload_n 0, 1) := by decide +kernel
theorem dX12_never_1 : decode cX12_never 1 = .ok (.iconst 0, 1) := by decide +kernel
theorem dX12_never_2 : decode cX12_never 2 = .ok (.putfield 87, 3) := by decide +kernel
theorem dX12_never_5 : decode cX12_never 5 = .ok (.aload_n 0, 1) := by decide +kernel
theorem dX12_never_6 : decode cX12_never 6 = .ok (.invokevirtual 255, 3) := by decide +kernel
theorem dX12_never_9 : decode cX12_never 9 = .ok (.aload_n 0, 1) := by decide +kernel
theorem dX12_never_10 : decode cX12_never 10 = .ok (.invokevirtual 384, 3) := by decide +kernel
theorem dX12_never_13 : decode cX12_never 13 = .ok (.iconst (-1), 1) := by decide +kernel
theorem dX12_never_14 : decode cX12_never 14 = .ok (.istore_n 1, 1) := by decide +kernel
theorem dX12_never_15 : decode cX12_never 15 = .ok (.iconst 0, 1) := by decide +kernel
theorem dX12_never_16 : decode cX12_never 16 = .ok (.istore_n 2, 1) := by decide +kernel
theorem dX12_never_17 : decode cX12_never 17 = .ok (.iload_n 2, 1) := by decide +kernel
theorem dX12_never_18 : decode cX12_never 18 = .ok (.aload_n 0, 1) := by decide +kernel
theorem dX12_never_19 : decode cX12_never 19 = .ok (.getfield 240, 3) := by decide +kernel
theorem dX12_never_22 : decode cX12_never 22 = .ok (.if_icmp .ge 40, 3) := by decide +kernel
theorem dX12_never_25 : decode cX12_never 25 = .ok (.aload_n 0, 1) := by decide +kernel
theorem dX12_never_26 : decode cX12_never 26 = .ok (.getfield 34, 3) := by decide +kernel
theorem dX12_never_29 : decode cX12_never 29 = .ok (.iload_n 2, 1) := by decide +kernel
theorem dX12_never_30 : decode cX12_never 30 = .ok (.iaload, 1) := by decide +kernel
theorem dX12_never_31 : decode cX12_never 31 = .ok (.ifCond .eq 25, 3) := by decide +kernel
theorem dX12_never_34 : decode cX12_never 34 = .ok (.iload_n 1, 1) := by decide +kernel
theorem dX12_never_35 : decode cX12_never 35 = .ok (.iconst (-1), 1) := by decide +kernel
theorem dX12_never_36 : decode cX12_never 36 = .ok (.if_icmp .eq 13, 3) := by decide +kernel
theorem dX12_never_39 : decode cX12_never 39 = .ok (.aload_n 0, 1) := by decide +kernel
theorem dX12_never_40 : decode cX12_never 40 = .ok (.getfield 84, 3) := by decide +kernel
theorem dX12_never_43 : decode cX12_never 43 = .ok (.iload_n 2, 1) := by decide +kernel
theorem dX12_never_44 : decode cX12_never 44 = .ok (.iaload, 1) := by decide +kernel
theorem dX12_never_45 : decode cX12_never 45 = .ok (.iload_n 1, 1) := by decide +kernel
theorem dX12_never_46 : decode cX12_never 46 = .ok (.if_icmp .ge 10, 3) := by decide +kernel
theorem dX12_never_49 : decode cX12_never 49 = .ok (.aload_n 0, 1) := by decide +kernel
theorem dX12_never_50 : decode cX12_never 50 = .ok (.getfield 84, 3) := by decide +kernel
theorem dX12_never_53 : decode cX12_never 53 = .ok (.iload_n 2, 1) := by decide +kernel
theorem dX12_never_54 : decode cX12_never 54 = .ok (.iaload, 1) := by decide +kernel
theorem dX12_never_55 : decode cX12_never 55 = .ok (.istore_n 1, 1) := by decide +kernel
theorem dX12_never_56 : decode cX12_never 56 = .ok (.iinc 2 1, 3) := by decide +kernel
theorem dX12_never_59 : decode cX12_never 59 = .ok (.goto (-42), 3) := by decide +kernel
theorem dX12_never_62 : decode cX12_never 62 = .ok (.iconst 0, 1) := by decide +kernel
theorem dX12_never_63 : decode cX12_never 63 = .ok (.istore_n 2, 1) := by decide +kernel
theorem dX12_never_64 : decode cX12_never 64 = .ok (.iconst 0, 1) := by decide +kernel
theorem dX12_never_65 : decode cX12_never 65 = .ok (.istore_n 3, 1) := by decide +kernel
theorem dX12_never_66 : decode cX12_never 66 = .ok (.iload_n 3, 1) := by decide +kernel
theorem dX12_never_67 : decode cX12_never 67 = .ok (.aload_n 0, 1) := by decide +kernel
theorem dX12_never_68 : decode cX12_never 68 = .ok (.getfield 240, 3) := by decide +kernel
theorem dX12_never_71 : decode cX12_never 71 = .ok (.if_icmp .ge 89, 3) := by decide +kernel
theorem dX12_never_74 : decode cX12_never 74 = .ok (.iload_n 1, 1) := by decide +kernel
theorem dX12_never_75 : decode cX12_never 75 = .ok (.iconst (-1), 1) := by decide +kernel
theorem dX12_never_76 : decode cX12_never 76 = .ok (.if_icmp .eq 26, 3) := by decide +kernel
theorem dX12_never_79 : decode cX12_never 79 = .ok (.aload_n 0, 1) := by decide +kernel
theorem dX12_never_80 : decode cX12_never 80 = .ok (.getfield 34, 3) := by decide +kernel
theorem dX12_never_83 : decode cX12_never 83 = .ok (.iload_n 3, 1) := by decide +kernel
theorem dX12_never_84 : decode cX12_never 84 = .ok (.iaload, 1) := by decide +kernel
theorem dX12_never_85 : decode cX12_never 85 = .ok (.ifCond .ne 17, 3) := by decide +kernel
theorem dX12_never_88 : decode cX12_never 88 = .ok (.aload_n 0, 1) := by decide +kernel
theorem dX12_never_89 : decode cX12_never 89 = .ok (.getfield 84, 3) := by decide +kernel
theorem dX12_never_92 : decode cX12_never 92 = .ok (.iload_n 3, 1) := by decide +kernel
theorem dX12_never_93 : decode cX12_never 93 = .ok (.iaload, 1) := by decide +kernel
theorem dX12_never_94 : decode cX12_never 94 = .ok (.iload_n 1, 1) := by decide +kernel
theorem dX12_never_95 : decode cX12_never 95 = .ok (.if_icmp .le 7, 3) := by decide +kernel
theorem dX12_never_98 : decode cX12_never 98 = .ok (.iconst 1, 1) := by decide +kernel
theorem dX12_never_99 : decode cX12_never 99 = .ok (.goto 4, 3) := by decide +kernel
theorem dX12_never_102 : decode cX12_never 102 = .ok (.iconst 0, 1) := by decide +kernel
theorem dX12_never_103 : decode cX12_never 103 = .ok (.istore 4, 2) := by decide +kernel
theorem dX12_never_105 : decode cX12_never 105 = .ok (.iconst 3, 1) := by decide +kernel
theorem dX12_never_106 : decode cX12_never 106 = .ok (.istore 5, 2) := by decide +kernel
theorem dX12_never_108 : decode cX12_never 108 = .ok (.iload 5, 2) := by decide +kernel
theorem dX12_never_110 : decode cX12_never 110 = .ok (.bipush 9, 2) := by decide +kernel
theorem dX12_never_112 : decode cX12_never 112 = .ok (.if_icmp .gt 31, 3) := by decide +kernel
theorem dX12_never_115 : decode cX12_never 115 = .ok (.iload 4, 2) := by decide +kernel
theorem dX12_never_117 : decode cX12_never 117 = .ok (.ifCond .eq 26, 3) := by decide +kernel
theorem dX12_never_120 : decode cX12_never 120 = .ok (.aload_n 0, 1) := by decide +kernel
theorem dX12_never_121 : decode cX12_never 121 = .ok (.iload_n 3, 1) := by decide +kernel
theorem dX12_never_122 : decode cX12_never 122 = .ok (.iload 5, 2) := by decide +kernel
theorem dX12_never_124 : decode cX12_never 124 = .ok (.invokevirtual 330, 3) := by decide +kernel
theorem dX12_never_127 : decode cX12_never 127 = .ok (.ifCond .ne 7, 3) := by decide +kernel
theorem dX12_never_130 : decode cX12_never 130 = .ok (.iconst 1, 1) := by decide +kernel
theorem dX12_never_131 : decode cX12_never 131 = .ok (.goto 4, 3) := by decide +kernel
theorem dX12_never_134 : decode cX12_never 134 = .ok (.iconst 0, 1) := by decide +kernel
theorem dX12_never_135 : decode cX12_never 135 = .ok (.istore 4, 2) := by decide +kernel
theorem dX12_never_137 : decode cX12_never 137 = .ok (.iinc 5 1, 3) := by decide +kernel
theorem dX12_never_140 : decode cX12_never 140 = .ok (.goto (-32), 3) := by decide +kernel
theorem dX12_never_143 : decode cX12_never 143 = .ok (.iload 4, 2) := by decide +kernel
theorem dX12_never_145 : decode cX12_never 145 = .ok (.ifCond .eq 9, 3) := by decide +kernel
theorem dX12_never_148 : decode cX12_never 148 = .ok (.iload_n 2, 1) := by decide +kernel
theorem dX12_never_149 : decode cX12_never 149 = .ok (.iconst 1, 1) := by decide +kernel
theorem dX12_never_150 : decode cX12_never 150 = .ok (.iload_n 3, 1) := by decide +kernel
theorem dX12_never_151 : decode cX12_never 151 = .ok (.ishl, 1) := by decide +kernel
theorem dX12_never_152 : decode cX12_never 152 = .ok (.ior, 1) := by decide +kernel
theorem dX12_never_153 : decode cX12_never 153 = .ok (.istore_n 2, 1) := by decide +kernel
theorem dX12_never_154 : decode cX12_never 154 = .ok (.iinc 3 1, 3) := by decide +kernel
theorem dX12_never_157 : decode cX12_never 157 = .ok (.goto (-91), 3) := by decide +kernel
theorem dX12_never_160 : decode cX12_never 160 = .ok (.iload_n 2, 1) := by decide +kernel
theorem dX12_never_161 : decode cX12_never 161 = .ok (.ireturn, 1) := by decide +kernel
theorem dX12_draw_0 : decode cX12_draw 0 = .ok (.aload_n 0, 1) := by decide +kernel
theorem dX12_draw_1 : decode cX12_draw 1 = .ok (.aload_n 0, 1) := by decide +kernel
theorem dX12_draw_2 : decode cX12_draw 2 = .ok (.getfield 396, 3) := by decide +kernel
theorem dX12_draw_5 : decode cX12_draw 5 = .ok (.ldc_w 399, 3) := by decide +kernel
theorem dX12_draw_8 : decode cX12_draw 8 = .ok (.imul, 1) := by decide +kernel
theorem dX12_draw_9 : decode cX12_draw 9 = .ok (.sipush 12345, 3) := by decide +kernel
theorem dX12_draw_12 : decode cX12_draw 12 = .ok (.iadd, 1) := by decide +kernel
theorem dX12_draw_13 : decode cX12_draw 13 = .ok (.ldc_w 400, 3) := by decide +kernel
theorem dX12_draw_16 : decode cX12_draw 16 = .ok (.iand, 1) := by decide +kernel
theorem dX12_draw_17 : decode cX12_draw 17 = .ok (.putfield 396, 3) := by decide +kernel
theorem dX12_draw_20 : decode cX12_draw 20 = .ok (.aload_n 0, 1) := by decide +kernel
theorem dX12_draw_21 : decode cX12_draw 21 = .ok (.getfield 396, 3) := by decide +kernel
theorem dX12_draw_24 : decode cX12_draw 24 = .ok (.bipush 16, 2) := by decide +kernel
theorem dX12_draw_26 : decode cX12_draw 26 = .ok (.ishr, 1) := by decide +kernel
theorem dX12_draw_27 : decode cX12_draw 27 = .ok (.iload_n 1, 1) := by decide +kernel
theorem dX12_draw_28 : decode cX12_draw 28 = .ok (.irem, 1) := by decide +kernel
theorem dX12_draw_29 : decode cX12_draw 29 = .ok (.ireturn, 1) := by decide +kernel
theorem dX12_draws_0 : decode cX12_draws 0 = .ok (.aload_n 0, 1) := by decide +kernel
theorem dX12_draws_1 : decode cX12_draws 1 = .ok (.iconst 0, 1) := by decide +kernel
theorem dX12_draws_2 : decode cX12_draws 2 = .ok (.putfield 87, 3) := by decide +kernel
theorem dX12_draws_5 : decode cX12_draws 5 = .ok (.iload_n 1, 1) := by decide +kernel
theorem dX12_draws_6 : decode cX12_draws 6 = .ok (.ifCond .lt 31, 3) := by decide +kernel
theorem dX12_draws_9 : decode cX12_draws 9 = .ok (.iload_n 2, 1) := by decide +kernel
theorem dX12_draws_10 : decode cX12_draws 10 = .ok (.iconst 1, 1) := by decide +kernel
theorem dX12_draws_11 : decode cX12_draws 11 = .ok (.if_icmp .lt 26, 3) := by decide +kernel
theorem dX12_draws_14 : decode cX12_draws 14 = .ok (.iload_n 2, 1) := by decide +kernel
theorem dX12_draws_15 : decode cX12_draws 15 = .ok (.sipush 500, 3) := by decide +kernel
theorem dX12_draws_18 : decode cX12_draws 18 = .ok (.if_icmp .gt 19, 3) := by decide +kernel
theorem dX12_draws_21 : decode cX12_draws 21 = .ok (.iload_n 3, 1) := by decide +kernel
theorem dX12_draws_22 : decode cX12_draws 22 = .ok (.ifCond .lt 15, 3) := by decide +kernel
theorem dX12_draws_25 : decode cX12_draws 25 = .ok (.iload_n 3, 1) := by decide +kernel
theorem dX12_draws_26 : decode cX12_draws 26 = .ok (.iconst 1, 1) := by decide +kernel
theorem dX12_draws_27 : decode cX12_draws 27 = .ok (.if_icmp .gt 10, 3) := by decide +kernel
theorem dX12_draws_30 : decode cX12_draws 30 = .ok (.aload_n 0, 1) := by decide +kernel
theorem dX12_draws_31 : decode cX12_draws 31 = .ok (.getfield 237, 3) := by decide +kernel
theorem dX12_draws_34 : decode cX12_draws 34 = .ok (.ifCond .ne 7, 3) := by decide +kernel
theorem dX12_draws_37 : decode cX12_draws 37 = .ok (.ldc_w 298, 3) := by decide +kernel
theorem dX12_draws_40 : decode cX12_draws 40 = .ok (.ireturn, 1) := by decide +kernel
theorem dX12_draws_41 : decode cX12_draws 41 = .ok (.iconst 0, 1) := by decide +kernel
theorem dX12_draws_42 : decode cX12_draws 42 = .ok (.istore 4, 2) := by decide +kernel
theorem dX12_draws_44 : decode cX12_draws 44 = .ok (.iconst 0, 1) := by decide +kernel
theorem dX12_draws_45 : decode cX12_draws 45 = .ok (.istore 5, 2) := by decide +kernel
theorem dX12_draws_47 : decode cX12_draws 47 = .ok (.iload 5, 2) := by decide +kernel
theorem dX12_draws_49 : decode cX12_draws 49 = .ok (.aload_n 0, 1) := by decide +kernel
theorem dX12_draws_50 : decode cX12_draws 50 = .ok (.getfield 237, 3) := by decide +kernel
theorem dX12_draws_53 : decode cX12_draws 53 = .ok (.if_icmp .ge 21, 3) := by decide +kernel
theorem dX12_draws_56 : decode cX12_draws 56 = .ok (.iload 4, 2) := by decide +kernel
theorem dX12_draws_58 : decode cX12_draws 58 = .ok (.aload_n 0, 1) := by decide +kernel
theorem dX12_draws_59 : decode cX12_draws 59 = .ok (.getfield 18, 3) := by decide +kernel
theorem dX12_draws_62 : decode cX12_draws 62 = .ok (.iload 5, 2) := by decide +kernel
theorem dX12_draws_64 : decode cX12_draws 64 = .ok (.iaload, 1) := by decide +kernel
theorem dX12_draws_65 : decode cX12_draws 65 = .ok (.iadd, 1) := by decide +kernel
theorem dX12_draws_66 : decode cX12_draws 66 = .ok (.istore 4, 2) := by decide +kernel
theorem dX12_draws_68 : decode cX12_draws 68 = .ok (.iinc 5 1, 3) := by decide +kernel
theorem dX12_draws_71 : decode cX12_draws 71 = .ok (.goto (-24), 3) := by decide +kernel
theorem dX12_draws_74 : decode cX12_draws 74 = .ok (.aload_n 0, 1) := by decide +kernel
theorem dX12_draws_75 : decode cX12_draws 75 = .ok (.iload_n 1, 1) := by decide +kernel
theorem dX12_draws_76 : decode cX12_draws 76 = .ok (.putfield 396, 3) := by decide +kernel
theorem dX12_draws_79 : decode cX12_draws 79 = .ok (.iconst 0, 1) := by decide +kernel
theorem dX12_draws_80 : decode cX12_draws 80 = .ok (.istore 5, 2) := by decide +kernel
theorem dX12_draws_82 : decode cX12_draws 82 = .ok (.iconst 0, 1) := by decide +kernel
theorem dX12_draws_83 : decode cX12_draws 83 = .ok (.istore 6, 2) := by decide +kernel
theorem dX12_draws_85 : decode cX12_draws 85 = .ok (.iconst 0, 1) := by decide +kernel
theorem dX12_draws_86 : decode cX12_draws 86 = .ok (.istore 7, 2) := by decide +kernel
theorem dX12_draws_88 : decode cX12_draws 88 = .ok (.iload 7, 2) := by decide +kernel
theorem dX12_draws_90 : decode cX12_draws 90 = .ok (.iload_n 2, 1) := by decide +kernel
theorem dX12_draws_91 : decode cX12_draws 91 = .ok (.if_icmp .ge 143, 3) := by decide +kernel
theorem dX12_draws_94 : decode cX12_draws 94 = .ok (.aload_n 0, 1) := by decide +kernel
theorem dX12_draws_95 : decode cX12_draws 95 = .ok (.iload 4, 2) := by decide +kernel
theorem dX12_draws_97 : decode cX12_draws 97 = .ok (.invokevirtual 401, 3) := by decide +kernel
theorem dX12_draws_100 : decode cX12_draws 100 = .ok (.istore 8, 2) := by decide +kernel
theorem dX12_draws_102 : decode cX12_draws 102 = .ok (.iconst 0, 1) := by decide +kernel
theorem dX12_draws_103 : decode cX12_draws 103 = .ok (.istore 9, 2) := by decide +kernel
theorem dX12_draws_105 : decode cX12_draws 105 = .ok (.iload 8, 2) := by decide +kernel
theorem dX12_draws_107 : decode cX12_draws 107 = .ok (.aload_n 0, 1) := by decide +kernel
theorem dX12_draws_108 : decode cX12_draws 108 = .ok (.getfield 18, 3) := by decide +kernel
theorem dX12_draws_111 : decode cX12_draws 111 = .ok (.iload 9, 2) := by decide +kernel
theorem dX12_draws_113 : decode cX12_draws 113 = .ok (.iaload, 1) := by decide +kernel
theorem dX12_draws_114 : decode cX12_draws 114 = .ok (.if_icmp .lt 21, 3) := by decide +kernel
theorem dX12_draws_117 : decode cX12_draws 117 = .ok (.iload 8, 2) := by decide +kernel
theorem dX12_draws_119 : decode cX12_draws 119 = .ok (.aload_n 0, 1) := by decide +kernel
theorem dX12_draws_120 : decode cX12_draws 120 = .ok (.getfield 18, 3) := by decide +kernel
theorem dX12_draws_123 : decode cX12_draws 123 = .ok (.iload 9, 2) := by decide +kernel
theorem dX12_draws_125 : decode cX12_draws 125 = .ok (.iaload, 1) := by decide +kernel
theorem dX12_draws_126 : decode cX12_draws 126 = .ok (.isub, 1) := by decide +kernel
theorem dX12_draws_127 : decode cX12_draws 127 = .ok (.istore 8, 2) := by decide +kernel
theorem dX12_draws_129 : decode cX12_draws 129 = .ok (.iinc 9 1, 3) := by decide +kernel
theorem dX12_draws_132 : decode cX12_draws 132 = .ok (.goto (-27), 3) := by decide +kernel
theorem dX12_draws_135 : decode cX12_draws 135 = .ok (.iconst 0, 1) := by decide +kernel
theorem dX12_draws_136 : decode cX12_draws 136 = .ok (.istore 10, 2) := by decide +kernel
theorem dX12_draws_138 : decode cX12_draws 138 = .ok (.iconst 0, 1) := by decide +kernel
theorem dX12_draws_139 : decode cX12_draws 139 = .ok (.istore 11, 2) := by decide +kernel
theorem dX12_draws_141 : decode cX12_draws 141 = .ok (.iload 11, 2) := by decide +kernel
theorem dX12_draws_143 : decode cX12_draws 143 = .ok (.bipush 6, 2) := by decide +kernel
theorem dX12_draws_145 : decode cX12_draws 145 = .ok (.if_icmp .ge 62, 3) := by decide +kernel
theorem dX12_draws_148 : decode cX12_draws 148 = .ok (.aload_n 0, 1) := by decide +kernel
theorem dX12_draws_149 : decode cX12_draws 149 = .ok (.getfield 21, 3) := by decide +kernel
theorem dX12_draws_152 : decode cX12_draws 152 = .ok (.bipush 10, 2) := by decide +kernel
theorem dX12_draws_154 : decode cX12_draws 154 = .ok (.iload 9, 2) := by decide +kernel
theorem dX12_draws_156 : decode cX12_draws 156 = .ok (.imul, 1) := by decide +kernel
theorem dX12_draws_157 : decode cX12_draws 157 = .ok (.aload_n 0, 1) := by decide +kernel
theorem dX12_draws_158 : decode cX12_draws 158 = .ok (.bipush 10, 2) := by decide +kernel
theorem dX12_draws_160 : decode cX12_draws 160 = .ok (.invokevirtual 401, 3) := by decide +kernel
theorem dX12_draws_163 : decode cX12_draws 163 = .ok (.iadd, 1) := by decide +kernel
theorem dX12_draws_164 : decode cX12_draws 164 = .ok (.iaload, 1) := by decide +kernel
theorem dX12_draws_165 : decode cX12_draws 165 = .ok (.istore 12, 2) := by decide +kernel
theorem dX12_draws_167 : decode cX12_draws 167 = .ok (.iload 11, 2) := by decide +kernel
theorem dX12_draws_169 : decode cX12_draws 169 = .ok (.iconst 3, 1) := by decide +kernel
theorem dX12_draws_170 : decode cX12_draws 170 = .ok (.if_icmp .ge 12, 3) := by decide +kernel
theorem dX12_draws_173 : decode cX12_draws 173 = .ok (.aload_n 0, 1) := by decide +kernel
theorem dX12_draws_174 : decode cX12_draws 174 = .ok (.getfield 81, 3) := by decide +kernel
theorem dX12_draws_177 : decode cX12_draws 177 = .ok (.iload 11, 2) := by decide +kernel
theorem dX12_draws_179 : decode cX12_draws 179 = .ok (.iload 12, 2) := by decide +kernel
theorem dX12_draws_181 : decode cX12_draws 181 = .ok (.iastore, 1) := by decide +kernel
theorem dX12_draws_182 : decode cX12_draws 182 = .ok (.iload 10, 2) := by decide +kernel
theorem dX12_draws_184 : decode cX12_draws 184 = .ok (.iload 11, 2) := by decide +kernel
theorem dX12_draws_186 : decode cX12_draws 186 = .ok (.iconst 3, 1) := by decide +kernel
theorem dX12_draws_187 : decode cX12_draws 187 = .ok (.if_icmp .ge 8, 3) := by decide +kernel
theorem dX12_draws_190 : decode cX12_draws 190 = .ok (.iload 12, 2) := by decide +kernel
theorem dX12_draws_192 : decode cX12_draws 192 = .ok (.goto 6, 3) := by decide +kernel
theorem dX12_draws_195 : decode cX12_draws 195 = .ok (.iload 12, 2) := by decide +kernel
theorem dX12_draws_197 : decode cX12_draws 197 = .ok (.ineg, 1) := by decide +kernel
theorem dX12_draws_198 : decode cX12_draws 198 = .ok (.iadd, 1) := by decide +kernel
theorem dX12_draws_199 : decode cX12_draws 199 = .ok (.istore 10, 2) := by decide +kernel
theorem dX12_draws_201 : decode cX12_draws 201 = .ok (.iinc 11 1, 3) := by decide +kernel
theorem dX12_draws_204 : decode cX12_draws 204 = .ok (.goto (-63), 3) := by decide +kernel
theorem dX12_draws_207 : decode cX12_draws 207 = .ok (.aload_n 0, 1) := by decide +kernel
theorem dX12_draws_208 : decode cX12_draws 208 = .ok (.iconst 0, 1) := by decide +kernel
theorem dX12_draws_209 : decode cX12_draws 209 = .ok (.invokevirtual 327, 3) := by decide +kernel
theorem dX12_draws_212 : decode cX12_draws 212 = .ok (.ifCond .ne 6, 3) := by decide +kernel
theorem dX12_draws_215 : decode cX12_draws 215 = .ok (.goto 13, 3) := by decide +kernel
theorem dX12_draws_218 : decode cX12_draws 218 = .ok (.iinc 5 1, 3) := by decide +kernel
theorem dX12_draws_221 : decode cX12_draws 221 = .ok (.iload 6, 2) := by decide +kernel
theorem dX12_draws_223 : decode cX12_draws 223 = .ok (.iload 10, 2) := by decide +kernel
theorem dX12_draws_225 : decode cX12_draws 225 = .ok (.iadd, 1) := by decide +kernel
theorem dX12_draws_226 : decode cX12_draws 226 = .ok (.istore 6, 2) := by decide +kernel
theorem dX12_draws_228 : decode cX12_draws 228 = .ok (.iinc 7 1, 3) := by decide +kernel
theorem dX12_draws_231 : decode cX12_draws 231 = .ok (.goto (-143), 3) := by decide +kernel
theorem dX12_draws_234 : decode cX12_draws 234 = .ok (.iload_n 3, 1) := by decide +kernel
theorem dX12_draws_235 : decode cX12_draws 235 = .ok (.ifCond .ne 8, 3) := by decide +kernel
theorem dX12_draws_238 : decode cX12_draws 238 = .ok (.iload 5, 2) := by decide +kernel
theorem dX12_draws_240 : decode cX12_draws 240 = .ok (.goto 5, 3) := by decide +kernel
theorem dX12_draws_243 : decode cX12_draws 243 = .ok (.iload 6, 2) := by decide +kernel
theorem dX12_draws_245 : decode cX12_draws 245 = .ok (.ireturn, 1) := by decide +kernel
theorem dX12_number_0 : decode cX12_number 0 = .ok (.aload_n 0, 1) := by decide +kernel
theorem dX12_number_1 : decode cX12_number 1 = .ok (.iconst 0, 1) := by decide +kernel
theorem dX12_number_2 : decode cX12_number 2 = .ok (.putfield 87, 3) := by decide +kernel
theorem dX12_number_5 : decode cX12_number 5 = .ok (.iload_n 1, 1) := by decide +kernel
theorem dX12_number_6 : decode cX12_number 6 = .ok (.tableswitch 92 0 6 #[42, 47, 52, 57, 77, 82, 87], 42) := by decide +kernel
theorem dX12_number_48 : decode cX12_number 48 = .ok (.aload_n 0, 1) := by decide +kernel
theorem dX12_number_49 : decode cX12_number 49 = .ok (.getfield 237, 3) := by decide +kernel
theorem dX12_number_52 : decode cX12_number 52 = .ok (.ireturn, 1) := by decide +kernel
theorem dX12_number_53 : decode cX12_number 53 = .ok (.aload_n 0, 1) := by decide +kernel
theorem dX12_number_54 : decode cX12_number 54 = .ok (.getfield 240, 3) := by decide +kernel
theorem dX12_number_57 : decode cX12_number 57 = .ok (.ireturn, 1) := by decide +kernel
theorem dX12_number_58 : decode cX12_number 58 = .ok (.aload_n 0, 1) := by decide +kernel
theorem dX12_number_59 : decode cX12_number 59 = .ok (.getfield 249, 3) := by decide +kernel
theorem dX12_number_62 : decode cX12_number 62 = .ok (.ireturn, 1) := by decide +kernel
theorem dX12_number_63 : decode cX12_number 63 = .ok (.aload_n 0, 1) := by decide +kernel
theorem dX12_number_64 : decode cX12_number 64 = .ok (.getfield 59, 3) := by decide +kernel
theorem dX12_number_67 : decode cX12_number 67 = .ok (.iconst (-1), 1) := by decide +kernel
theorem dX12_number_68 : decode cX12_number 68 = .ok (.if_icmp .ne 10, 3) := by decide +kernel
theorem dX12_number_71 : decode cX12_number 71 = .ok (.aload_n 0, 1) := by decide +kernel
theorem dX12_number_72 : decode cX12_number 72 = .ok (.getfield 249, 3) := by decide +kernel
theorem dX12_number_75 : decode cX12_number 75 = .ok (.goto 7, 3) := by decide +kernel
theorem dX12_number_78 : decode cX12_number 78 = .ok (.aload_n 0, 1) := by decide +kernel
theorem dX12_number_79 : decode cX12_number 79 = .ok (.getfield 59, 3) := by decide +kernel
theorem dX12_number_82 : decode cX12_number 82 = .ok (.ireturn, 1) := by decide +kernel
theorem dX12_number_83 : decode cX12_number 83 = .ok (.aload_n 0, 1) := by decide +kernel
theorem dX12_number_84 : decode cX12_number 84 = .ok (.getfield 243, 3) := by decide +kernel
theorem dX12_number_87 : decode cX12_number 87 = .ok (.ireturn, 1) := by decide +kernel
theorem dX12_number_88 : decode cX12_number 88 = .ok (.aload_n 0, 1) := by decide +kernel
theorem dX12_number_89 : decode cX12_number 89 = .ok (.getfield 52, 3) := by decide +kernel
theorem dX12_number_92 : decode cX12_number 92 = .ok (.ireturn, 1) := by decide +kernel
theorem dX12_number_93 : decode cX12_number 93 = .ok (.aload_n 0, 1) := by decide +kernel
theorem dX12_number_94 : decode cX12_number 94 = .ok (.getfield 246, 3) := by decide +kernel
theorem dX12_number_97 : decode cX12_number 97 = .ok (.ireturn, 1) := by decide +kernel
theorem dX12_number_98 : decode cX12_number 98 = .ok (.iconst (-1), 1) := by decide +kernel
theorem dX12_number_99 : decode cX12_number 99 = .ok (.ireturn, 1) := by decide +kernel
theorem dL_look_0 : decode cL_look 0 = .ok (.aload_n 3, 1) := by decide +kernel
theorem dL_look_1 : decode cL_look 1 = .ok (.iconst 0, 1) := by decide +kernel
theorem dL_look_2 : decode cL_look 2 = .ok (.aload_n 0, 1) := by decide +kernel
theorem dL_look_3 : decode cL_look 3 = .ok (.iload_n 1, 1) := by decide +kernel
theorem dL_look_4 : decode cL_look 4 = .ok (.iload_n 2, 1) := by decide +kernel
theorem dL_look_5 : decode cL_look 5 = .ok (.invokevirtual 7, 3) := by decide +kernel
theorem dL_look_8 : decode cL_look 8 = .ok (.i2l, 1) := by decide +kernel
theorem dL_look_9 : decode cL_look 9 = .ok (.lastore, 1) := by decide +kernel
theorem dL_look_10 : decode cL_look 10 = .ok (.goto 11, 3) := by decide +kernel
theorem dL_look_13 : decode cL_look 13 = .ok (.astore 4, 2) := by decide +kernel
theorem dL_look_15 : decode cL_look 15 = .ok (.iconst 1, 1) := by decide +kernel
theorem dL_look_16 : decode cL_look 16 = .ok (.ireturn, 1) := by decide +kernel
theorem dL_look_17 : decode cL_look 17 = .ok (.astore 4, 2) := by decide +kernel
theorem dL_look_19 : decode cL_look 19 = .ok (.iconst 2, 1) := by decide +kernel
theorem dL_look_20 : decode cL_look 20 = .ok (.ireturn, 1) := by decide +kernel
theorem dL_look_21 : decode cL_look 21 = .ok (.iconst 0, 1) := by decide +kernel
theorem dL_look_22 : decode cL_look 22 = .ok (.ireturn, 1) := by decide +kernel
theorem dL_law_0 : decode cL_law 0 = .ok (.new 8, 3) := by decide +kernel
theorem dL_law_3 : decode cL_law 3 = .ok (.dup, 1) := by decide +kernel
theorem dL_law_4 : decode cL_law 4 = .ok (.invokespecial 17, 3) := by decide +kernel
theorem dL_law_7 : decode cL_law 7 = .ok (.astore_n 1, 1) := by decide +kernel
theorem dL_law_8 : decode cL_law 8 = .ok (.new 18, 3) := by decide +kernel
theorem dL_law_11 : decode cL_law 11 = .ok (.dup, 1) := by decide +kernel
theorem dL_law_12 : decode cL_law 12 = .ok (.invokespecial 20, 3) := by decide +kernel
theorem dL_law_15 : decode cL_law 15 = .ok (.astore_n 2, 1) := by decide +kernel
theorem dL_law_16 : decode cL_law 16 = .ok (.iconst 1, 1) := by decide +kernel
theorem dL_law_17 : decode cL_law 17 = .ok (.newarray .long, 2) := by decide +kernel
theorem dL_law_19 : decode cL_law 19 = .ok (.astore_n 3, 1) := by decide +kernel
theorem dL_law_20 : decode cL_law 20 = .ok (.iconst 0, 1) := by decide +kernel
theorem dL_law_21 : decode cL_law 21 = .ok (.istore 4, 2) := by decide +kernel
theorem dL_law_23 : decode cL_law 23 = .ok (.iload 4, 2) := by decide +kernel
theorem dL_law_25 : decode cL_law 25 = .ok (.aload_n 0, 1) := by decide +kernel
theorem dL_law_26 : decode cL_law 26 = .ok (.arraylength, 1) := by decide +kernel
theorem dL_law_27 : decode cL_law 27 = .ok (.bipush 6, 2) := by decide +kernel
theorem dL_law_29 : decode cL_law 29 = .ok (.isub, 1) := by decide +kernel
theorem dL_law_30 : decode cL_law 30 = .ok (.if_icmp .gt 1147, 3) := by decide +kernel
theorem dL_law_33 : decode cL_law 33 = .ok (.aload_n 0, 1) := by decide +kernel
theorem dL_law_34 : decode cL_law 34 = .ok (.iload 4, 2) := by decide +kernel
theorem dL_law_36 : decode cL_law 36 = .ok (.iaload, 1) := by decide +kernel
theorem dL_law_37 : decode cL_law 37 = .ok (.bipush 31, 2) := by decide +kernel
theorem dL_law_39 : decode cL_law 39 = .ok (.iand, 1) := by decide +kernel
theorem dL_law_40 : decode cL_law 40 = .ok (.tableswitch 1131 0 23 #[112, 185, 210, 235, 272, 340, 389, 414, 439, 476, 538, 600, 661, 735, 760, 798, 835, 884, 921, 958, 995, 1044, 1057, 1106], 112) := by decide +kernel
theorem dL_law_152 : decode cL_law 152 = .ok (.aload_n 1, 1) := by decide +kernel
theorem dL_law_153 : decode cL_law 153 = .ok (.aload_n 0, 1) := by decide +kernel
theorem dL_law_154 : decode cL_law 154 = .ok (.iload 4, 2) := by decide +kernel
theorem dL_law_156 : decode cL_law 156 = .ok (.iconst 1, 1) := by decide +kernel
theorem dL_law_157 : decode cL_law 157 = .ok (.iadd, 1) := by decide +kernel
theorem dL_law_158 : decode cL_law 158 = .ok (.iaload, 1) := by decide +kernel
theorem dL_law_159 : decode cL_law 159 = .ok (.aload_n 0, 1) := by decide +kernel
theorem dL_law_160 : decode cL_law 160 = .ok (.iload 4, 2) := by decide +kernel
theorem dL_law_162 : decode cL_law 162 = .ok (.iconst 2, 1) := by decide +kernel
theorem dL_law_163 : decode cL_law 163 = .ok (.iadd, 1) := by decide +kernel
theorem dL_law_164 : decode cL_law 164 = .ok (.iaload, 1) := by decide +kernel
theorem dL_law_165 : decode cL_law 165 = .ok (.aload_n 0, 1) := by decide +kernel
theorem dL_law_166 : decode cL_law 166 = .ok (.iload 4, 2) := by decide +kernel
theorem dL_law_168 : decode cL_law 168 = .ok (.iconst 3, 1) := by decide +kernel
theorem dL_law_169 : decode cL_law 169 = .ok (.iadd, 1) := by decide +kernel
theorem dL_law_170 : decode cL_law 170 = .ok (.iaload, 1) := by decide +kernel
theorem dL_law_171 : decode cL_law 171 = .ok (.aload_n 0, 1) := by decide +kernel
theorem dL_law_172 : decode cL_law 172 = .ok (.iload 4, 2) := by decide +kernel
theorem dL_law_174 : decode cL_law 174 = .ok (.iconst 4, 1) := by decide +kernel
theorem dL_law_175 : decode cL_law 175 = .ok (.iadd, 1) := by decide +kernel
theorem dL_law_176 : decode cL_law 176 = .ok (.iaload, 1) := by decide +kernel
theorem dL_law_177 : decode cL_law 177 = .ok (.aload_n 0, 1) := by decide +kernel
theorem dL_law_178 : decode cL_law 178 = .ok (.iload 4, 2) := by decide +kernel
theorem dL_law_180 : decode cL_law 180 = .ok (.iconst 5, 1) := by decide +kernel
theorem dL_law_181 : decode cL_law 181 = .ok (.iadd, 1) := by decide +kernel
theorem dL_law_182 : decode cL_law 182 = .ok (.iaload, 1) := by decide +kernel
theorem dL_law_183 : decode cL_law 183 = .ok (.invokevirtual 21, 3) := by decide +kernel
theorem dL_law_186 : decode cL_law 186 = .ok (.aload_n 2, 1) := by decide +kernel
theorem dL_law_187 : decode cL_law 187 = .ok (.aload_n 0, 1) := by decide +kernel
theorem dL_law_188 : decode cL_law 188 = .ok (.iload 4, 2) := by decide +kernel
theorem dL_law_190 : decode cL_law 190 = .ok (.iconst 1, 1) := by decide +kernel
theorem dL_law_191 : decode cL_law 191 = .ok (.iadd, 1) := by decide +kernel
theorem dL_law_192 : decode cL_law 192 = .ok (.iaload, 1) := by decide +kernel
theorem dL_law_193 : decode cL_law 193 = .ok (.aload_n 0, 1) := by decide +kernel
theorem dL_law_194 : decode cL_law 194 = .ok (.iload 4, 2) := by decide +kernel
theorem dL_law_196 : decode cL_law 196 = .ok (.iconst 2, 1) := by decide +kernel
theorem dL_law_197 : decode cL_law 197 = .ok (.iadd, 1) := by decide +kernel
theorem dL_law_198 : decode cL_law 198 = .ok (.iaload, 1) := by decide +kernel
theorem dL_law_199 : decode cL_law 199 = .ok (.aload_n 0, 1) := by decide +kernel
theorem dL_law_200 : decode cL_law 200 = .ok (.iload 4, 2) := by decide +kernel
theorem dL_law_202 : decode cL_law 202 = .ok (.iconst 3, 1) := by decide +kernel
theorem dL_law_203 : decode cL_law 203 = .ok (.iadd, 1) := by decide +kernel
theorem dL_law_204 : decode cL_law 204 = .ok (.iaload, 1) := by decide +kernel
theorem dL_law_205 : decode cL_law 205 = .ok (.aload_n 0, 1) := by decide +kernel
theorem dL_law_206 : decode cL_law 206 = .ok (.iload 4, 2) := by decide +kernel
theorem dL_law_208 : decode cL_law 208 = .ok (.iconst 4, 1) := by decide +kernel
theorem dL_law_209 : decode cL_law 209 = .ok (.iadd, 1) := by decide +kernel
theorem dL_law_210 : decode cL_law 210 = .ok (.iaload, 1) := by decide +kernel
theorem dL_law_211 : decode cL_law 211 = .ok (.aload_n 0, 1) := by decide +kernel
theorem dL_law_212 : decode cL_law 212 = .ok (.iload 4, 2) := by decide +kernel
theorem dL_law_214 : decode cL_law 214 = .ok (.iconst 5, 1) := by decide +kernel
theorem dL_law_215 : decode cL_law 215 = .ok (.iadd, 1) := by decide +kernel
theorem dL_law_216 : decode cL_law 216 = .ok (.iaload, 1) := by decide +kernel
theorem dL_law_217 : decode cL_law 217 = .ok (.invokevirtual 25, 3) := by decide +kernel
theorem dL_law_220 : decode cL_law 220 = .ok (.if_icmp .eq 951, 3) := by decide +kernel
theorem dL_law_223 : decode cL_law 223 = .ok (.iconst 0, 1) := by decide +kernel
theorem dL_law_224 : decode cL_law 224 = .ok (.ireturn, 1) := by decide +kernel
theorem dL_law_225 : decode cL_law 225 = .ok (.aload_n 1, 1) := by decide +kernel
theorem dL_law_226 : decode cL_law 226 = .ok (.aload_n 0, 1) := by decide +kernel
theorem dL_law_227 : decode cL_law 227 = .ok (.iload 4, 2) := by decide +kernel
theorem dL_law_229 : decode cL_law 229 = .ok (.iconst 1, 1) := by decide +kernel
theorem dL_law_230 : decode cL_law 230 = .ok (.iadd, 1) := by decide +kernel
theorem dL_law_231 : decode cL_law 231 = .ok (.iaload, 1) := by decide +kernel
theorem dL_law_232 : decode cL_law 232 = .ok (.invokevirtual 26, 3) := by decide +kernel
theorem dL_law_235 : decode cL_law 235 = .ok (.aload_n 2, 1) := by decide +kernel
theorem dL_law_236 : decode cL_law 236 = .ok (.aload_n 0, 1) := by decide +kernel
theorem dL_law_237 : decode cL_law 237 = .ok (.iload 4, 2) := by decide +kernel
theorem dL_law_239 : decode cL_law 239 = .ok (.iconst 1, 1) := by decide +kernel
theorem dL_law_240 : decode cL_law 240 = .ok (.iadd, 1) := by decide +kernel
theorem dL_law_241 : decode cL_law 241 = .ok (.iaload, 1) := by decide +kernel
theorem dL_law_242 : decode cL_law 242 = .ok (.invokevirtual 30, 3) := by decide +kernel
theorem dL_law_245 : decode cL_law 245 = .ok (.if_icmp .eq 926, 3) := by decide +kernel
theorem dL_law_248 : decode cL_law 248 = .ok (.iconst 0, 1) := by decide +kernel
theorem dL_law_249 : decode cL_law 249 = .ok (.ireturn, 1) := by decide +kernel
theorem dL_law_250 : decode cL_law 250 = .ok (.aload_n 1, 1) := by decide +kernel
theorem dL_law_251 : decode cL_law 251 = .ok (.aload_n 0, 1) := by decide +kernel
theorem dL_law_252 : decode cL_law 252 = .ok (.iload 4, 2) := by decide +kernel
theorem dL_law_254 : decode cL_law 254 = .ok (.iconst 1, 1) := by decide +kernel
theorem dL_law_255 : decode cL_law 255 = .ok (.iadd, 1) := by decide +kernel
theorem dL_law_256 : decode cL_law 256 = .ok (.iaload, 1) := by decide +kernel
theorem dL_law_257 : decode cL_law 257 = .ok (.invokevirtual 31, 3) := by decide +kernel
theorem dL_law_260 : decode cL_law 260 = .ok (.aload_n 2, 1) := by decide +kernel
theorem dL_law_261 : decode cL_law 261 = .ok (.aload_n 0, 1) := by decide +kernel
theorem dL_law_262 : decode cL_law 262 = .ok (.iload 4, 2) := by decide +kernel
theorem dL_law_264 : decode cL_law 264 = .ok (.iconst 1, 1) := by decide +kernel
theorem dL_law_265 : decode cL_law 265 = .ok (.iadd, 1) := by decide +kernel
theorem dL_law_266 : decode cL_law 266 = .ok (.iaload, 1) := by decide +kernel
theorem dL_law_267 : decode cL_law 267 = .ok (.invokevirtual 34, 3) := by decide +kernel
theorem dL_law_270 : decode cL_law 270 = .ok (.if_icmp .eq 901, 3) := by decide +kernel
theorem dL_law_273 : decode cL_law 273 = .ok (.iconst 0, 1) := by decide +kernel
theorem dL_law_274 : decode cL_law 274 = .ok (.ireturn, 1) := by decide +kernel
theorem dL_law_275 : decode cL_law 275 = .ok (.aload_n 1, 1) := by decide +kernel
theorem dL_law_276 : decode cL_law 276 = .ok (.aload_n 0, 1) := by decide +kernel
theorem dL_law_277 : decode cL_law 277 = .ok (.iload 4, 2) := by decide +kernel
theorem dL_law_279 : decode cL_law 279 = .ok (.iconst 1, 1) := by decide +kernel
theorem dL_law_280 : decode cL_law 280 = .ok (.iadd, 1) := by decide +kernel
theorem dL_law_281 : decode cL_law 281 = .ok (.iaload, 1) := by decide +kernel
theorem dL_law_282 : decode cL_law 282 = .ok (.aload_n 0, 1) := by decide +kernel
theorem dL_law_283 : decode cL_law 283 = .ok (.iload 4, 2) := by decide +kernel
theorem dL_law_285 : decode cL_law 285 = .ok (.iconst 2, 1) := by decide +kernel
theorem dL_law_286 : decode cL_law 286 = .ok (.iadd, 1) := by decide +kernel
theorem dL_law_287 : decode cL_law 287 = .ok (.iaload, 1) := by decide +kernel
theorem dL_law_288 : decode cL_law 288 = .ok (.invokevirtual 35, 3) := by decide +kernel
theorem dL_law_291 : decode cL_law 291 = .ok (.aload_n 2, 1) := by decide +kernel
theorem dL_law_292 : decode cL_law 292 = .ok (.aload_n 0, 1) := by decide +kernel
theorem dL_law_293 : decode cL_law 293 = .ok (.iload 4, 2) := by decide +kernel
theorem dL_law_295 : decode cL_law 295 = .ok (.iconst 1, 1) := by decide +kernel
theorem dL_law_296 : decode cL_law 296 = .ok (.iadd, 1) := by decide +kernel
theorem dL_law_297 : decode cL_law 297 = .ok (.iaload, 1) := by decide +kernel
theorem dL_law_298 : decode cL_law 298 = .ok (.aload_n 0, 1) := by decide +kernel
theorem dL_law_299 : decode cL_law 299 = .ok (.iload 4, 2) := by decide +kernel
theorem dL_law_301 : decode cL_law 301 = .ok (.iconst 2, 1) := by decide +kernel
theorem dL_law_302 : decode cL_law 302 = .ok (.iadd, 1) := by decide +kernel
theorem dL_law_303 : decode cL_law 303 = .ok (.iaload, 1) := by decide +kernel
theorem dL_law_304 : decode cL_law 304 = .ok (.invokevirtual 38, 3) := by decide +kernel
theorem dL_law_307 : decode cL_law 307 = .ok (.if_icmp .eq 864, 3) := by decide +kernel
theorem dL_law_310 : decode cL_law 310 = .ok (.iconst 0, 1) := by decide +kernel
theorem dL_law_311 : decode cL_law 311 = .ok (.ireturn, 1) := by decide +kernel
theorem dL_law_312 : decode cL_law 312 = .ok (.aload_n 1, 1) := by decide +kernel
theorem dL_law_313 : decode cL_law 313 = .ok (.aload_n 0, 1) := by decide +kernel
theorem dL_law_314 : decode cL_law 314 = .ok (.iload 4, 2) := by decide +kernel
theorem dL_law_316 : decode cL_law 316 = .ok (.iconst 1, 1) := by decide +kernel
theorem dL_law_317 : decode cL_law 317 = .ok (.iadd, 1) := by decide +kernel
theorem dL_law_318 : decode cL_law 318 = .ok (.iaload, 1) := by decide +kernel
theorem dL_law_319 : decode cL_law 319 = .ok (.aload_n 0, 1) := by decide +kernel
theorem dL_law_320 : decode cL_law 320 = .ok (.iload 4, 2) := by decide +kernel
theorem dL_law_322 : decode cL_law 322 = .ok (.iconst 2, 1) := by decide +kernel
theorem dL_law_323 : decode cL_law 323 = .ok (.iadd, 1) := by decide +kernel
theorem dL_law_324 : decode cL_law 324 = .ok (.iaload, 1) := by decide +kernel
theorem dL_law_325 : decode cL_law 325 = .ok (.aload_n 3, 1) := by decide +kernel
theorem dL_law_326 : decode cL_law 326 = .ok (.invokestatic 39, 3) := by decide +kernel
theorem dL_law_329 : decode cL_law 329 = .ok (.istore 5, 2) := by decide +kernel
theorem dL_law_331 : decode cL_law 331 = .ok (.aload_n 2, 1) := by decide +kernel
theorem dL_law_332 : decode cL_law 332 = .ok (.aload_n 0, 1) := by decide +kernel
theorem dL_law_333 : decode cL_law 333 = .ok (.iload 4, 2) := by decide +kernel
theorem dL_law_335 : decode cL_law 335 = .ok (.iconst 1, 1) := by decide +kernel
theorem dL_law_336 : decode cL_law 336 = .ok (.iadd, 1) := by decide +kernel
theorem dL_law_337 : decode cL_law 337 = .ok (.iaload, 1) := by decide +kernel
theorem dL_law_338 : decode cL_law 338 = .ok (.aload_n 0, 1) := by decide +kernel
theorem dL_law_339 : decode cL_law 339 = .ok (.iload 4, 2) := by decide +kernel
theorem dL_law_341 : decode cL_law 341 = .ok (.iconst 2, 1) := by decide +kernel
theorem dL_law_342 : decode cL_law 342 = .ok (.iadd, 1) := by decide +kernel
theorem dL_law_343 : decode cL_law 343 = .ok (.iaload, 1) := by decide +kernel
theorem dL_law_344 : decode cL_law 344 = .ok (.invokevirtual 44, 3) := by decide +kernel
theorem dL_law_347 : decode cL_law 347 = .ok (.istore 6, 2) := by decide +kernel
theorem dL_law_349 : decode cL_law 349 = .ok (.aload_n 2, 1) := by decide +kernel
theorem dL_law_350 : decode cL_law 350 = .ok (.invokevirtual 45, 3) := by decide +kernel
theorem dL_law_353 : decode cL_law 353 = .ok (.iload 5, 2) := by decide +kernel
theorem dL_law_355 : decode cL_law 355 = .ok (.if_icmp .eq 5, 3) := by decide +kernel
theorem dL_law_358 : decode cL_law 358 = .ok (.iconst 0, 1) := by decide +kernel
theorem dL_law_359 : decode cL_law 359 = .ok (.ireturn, 1) := by decide +kernel
theorem dL_law_360 : decode cL_law 360 = .ok (.iload 5, 2) := by decide +kernel
theorem dL_law_362 : decode cL_law 362 = .ok (.ifCond .ne 15, 3) := by decide +kernel
theorem dL_law_365 : decode cL_law 365 = .ok (.aload_n 3, 1) := by decide +kernel
theorem dL_law_366 : decode cL_law 366 = .ok (.iconst 0, 1) := by decide +kernel
theorem dL_law_367 : decode cL_law 367 = .ok (.laload, 1) := by decide +kernel
theorem dL_law_368 : decode cL_law 368 = .ok (.iload 6, 2) := by decide +kernel
theorem dL_law_370 : decode cL_law 370 = .ok (.i2l, 1) := by decide +kernel
theorem dL_law_371 : decode cL_law 371 = .ok (.lcmp, 1) := by decide +kernel
theorem dL_law_372 : decode cL_law 372 = .ok (.ifCond .eq 5, 3) := by decide +kernel
theorem dL_law_375 : decode cL_law 375 = .ok (.iconst 0, 1) := by decide +kernel
theorem dL_law_376 : decode cL_law 376 = .ok (.ireturn, 1) := by decide +kernel
theorem dL_law_377 : decode cL_law 377 = .ok (.goto 794, 3) := by decide +kernel
theorem dL_law_380 : decode cL_law 380 = .ok (.aload_n 1, 1) := by decide +kernel
theorem dL_law_381 : decode cL_law 381 = .ok (.aload_n 0, 1) := by decide +kernel
theorem dL_law_382 : decode cL_law 382 = .ok (.iload 4, 2) := by decide +kernel
theorem dL_law_384 : decode cL_law 384 = .ok (.iconst 1, 1) := by decide +kernel
theorem dL_law_385 : decode cL_law 385 = .ok (.iadd, 1) := by decide +kernel
theorem dL_law_386 : decode cL_law 386 = .ok (.iaload, 1) := by decide +kernel
theorem dL_law_387 : decode cL_law 387 = .ok (.aload_n 0, 1) := by decide +kernel
theorem dL_law_388 : decode cL_law 388 = .ok (.iload 4, 2) := by decide +kernel
theorem dL_law_390 : decode cL_law 390 = .ok (.iconst 2, 1) := by decide +kernel
theorem dL_law_391 : decode cL_law 391 = .ok (.iadd, 1) := by decide +kernel
theorem dL_law_392 : decode cL_law 392 = .ok (.iaload, 1) := by decide +kernel
theorem dL_law_393 : decode cL_law 393 = .ok (.aload_n 0, 1) := by decide +kernel
theorem dL_law_394 : decode cL_law 394 = .ok (.iload 4, 2) := by decide +kernel
theorem dL_law_396 : decode cL_law 396 = .ok (.iconst 3, 1) := by decide +kernel
theorem dL_law_397 : decode cL_law 397 = .ok (.iadd, 1) := by decide +kernel
theorem dL_law_398 : decode cL_law 398 = .ok (.iaload, 1) := by decide +kernel
theorem dL_law_399 : decode cL_law 399 = .ok (.invokevirtual 49, 3) := by decide +kernel
theorem dL_law_402 : decode cL_law 402 = .ok (.aload_n 2, 1) := by decide +kernel
theorem dL_law_403 : decode cL_law 403 = .ok (.aload_n 0, 1) := by decide +kernel
theorem dL_law_404 : decode cL_law 404 = .ok (.iload 4, 2) := by decide +kernel
theorem dL_law_406 : decode cL_law 406 = .ok (.iconst 1, 1) := by decide +kernel
theorem dL_law_407 : decode cL_law 407 = .ok (.iadd, 1) := by decide +kernel
theorem dL_law_408 : decode cL_law 408 = .ok (.iaload, 1) := by decide +kernel
theorem dL_law_409 : decode cL_law 409 = .ok (.aload_n 0, 1) := by decide +kernel
theorem dL_law_410 : decode cL_law 410 = .ok (.iload 4, 2) := by decide +kernel
theorem dL_law_412 : decode cL_law 412 = .ok (.iconst 2, 1) := by decide +kernel
theorem dL_law_413 : decode cL_law 413 = .ok (.iadd, 1) := by decide +kernel
theorem dL_law_414 : decode cL_law 414 = .ok (.iaload, 1) := by decide +kernel
theorem dL_law_415 : decode cL_law 415 = .ok (.aload_n 0, 1) := by decide +kernel
theorem dL_law_416 : decode cL_law 416 = .ok (.iload 4, 2) := by decide +kernel
theorem dL_law_418 : decode cL_law 418 = .ok (.iconst 3, 1) := by decide +kernel
theorem dL_law_419 : decode cL_law 419 = .ok (.iadd, 1) := by decide +kernel
theorem dL_law_420 : decode cL_law 420 = .ok (.iaload, 1) := by decide +kernel
theorem dL_law_421 : decode cL_law 421 = .ok (.invokevirtual 53, 3) := by decide +kernel
theorem dL_law_424 : decode cL_law 424 = .ok (.if_icmp .eq 747, 3) := by decide +kernel
theorem dL_law_427 : decode cL_law 427 = .ok (.iconst 0, 1) := by decide +kernel
theorem dL_law_428 : decode cL_law 428 = .ok (.ireturn, 1) := by decide +kernel
theorem dL_law_429 : decode cL_law 429 = .ok (.aload_n 1, 1) := by decide +kernel
theorem dL_law_430 : decode cL_law 430 = .ok (.aload_n 0, 1) := by decide +kernel
theorem dL_law_431 : decode cL_law 431 = .ok (.iload 4, 2) := by decide +kernel
theorem dL_law_433 : decode cL_law 433 = .ok (.iconst 1, 1) := by decide +kernel
theorem dL_law_434 : decode cL_law 434 = .ok (.iadd, 1) := by decide +kernel
theorem dL_law_435 : decode cL_law 435 = .ok (.iaload, 1) := by decide +kernel
theorem dL_law_436 : decode cL_law 436 = .ok (.invokevirtual 54, 3) := by decide +kernel
theorem dL_law_439 : decode cL_law 439 = .ok (.aload_n 2, 1) := by decide +kernel
theorem dL_law_440 : decode cL_law 440 = .ok (.aload_n 0, 1) := by decide +kernel
theorem dL_law_441 : decode cL_law 441 = .ok (.iload 4, 2) := by decide +kernel
theorem dL_law_443 : decode cL_law 443 = .ok (.iconst 1, 1) := by decide +kernel
theorem dL_law_444 : decode cL_law 444 = .ok (.iadd, 1) := by decide +kernel
theorem dL_law_445 : decode cL_law 445 = .ok (.iaload, 1) := by decide +kernel
theorem dL_law_446 : decode cL_law 446 = .ok (.invokevirtual 57, 3) := by decide +kernel
theorem dL_law_449 : decode cL_law 449 = .ok (.if_icmp .eq 722, 3) := by decide +kernel
theorem dL_law_452 : decode cL_law 452 = .ok (.iconst 0, 1) := by decide +kernel
theorem dL_law_453 : decode cL_law 453 = .ok (.ireturn, 1) := by decide +kernel
theorem dL_law_454 : decode cL_law 454 = .ok (.aload_n 1, 1) := by decide +kernel
theorem dL_law_455 : decode cL_law 455 = .ok (.aload_n 0, 1) := by decide +kernel
theorem dL_law_456 : decode cL_law 456 = .ok (.iload 4, 2) := by decide +kernel
theorem dL_law_458 : decode cL_law 458 = .ok (.iconst 1, 1) := by decide +kernel
theorem dL_law_459 : decode cL_law 459 = .ok (.iadd, 1) := by decide +kernel
theorem dL_law_460 : decode cL_law 460 = .ok (.iaload, 1) := by decide +kernel
theorem dL_law_461 : decode cL_law 461 = .ok (.invokevirtual 58, 3) := by decide +kernel
theorem dL_law_464 : decode cL_law 464 = .ok (.aload_n 2, 1) := by decide +kernel
theorem dL_law_465 : decode cL_law 465 = .ok (.aload_n 0, 1) := by decide +kernel
theorem dL_law_466 : decode cL_law 466 = .ok (.iload 4, 2) := by decide +kernel
theorem dL_law_468 : decode cL_law 468 = .ok (.iconst 1, 1) := by decide +kernel
theorem dL_law_469 : decode cL_law 469 = .ok (.iadd, 1) := by decide +kernel
theorem dL_law_470 : decode cL_law 470 = .ok (.iaload, 1) := by decide +kernel
theorem dL_law_471 : decode cL_law 471 = .ok (.invokevirtual 62, 3) := by decide +kernel
theorem dL_law_474 : decode cL_law 474 = .ok (.if_icmp .eq 697, 3) := by decide +kernel
theorem dL_law_477 : decode cL_law 477 = .ok (.iconst 0, 1) := by decide +kernel
theorem dL_law_478 : decode cL_law 478 = .ok (.ireturn, 1) := by decide +kernel
theorem dL_law_479 : decode cL_law 479 = .ok (.aload_n 1, 1) := by decide +kernel
theorem dL_law_480 : decode cL_law 480 = .ok (.aload_n 0, 1) := by decide +kernel
theorem dL_law_481 : decode cL_law 481 = .ok (.iload 4, 2) := by decide +kernel
theorem dL_law_483 : decode cL_law 483 = .ok (.iconst 1, 1) := by decide +kernel
theorem dL_law_484 : decode cL_law 484 = .ok (.iadd, 1) := by decide +kernel
theorem dL_law_485 : decode cL_law 485 = .ok (.iaload, 1) := by decide +kernel
theorem dL_law_486 : decode cL_law 486 = .ok (.aload_n 0, 1) := by decide +kernel
theorem dL_law_487 : decode cL_law 487 = .ok (.iload 4, 2) := by decide +kernel
theorem dL_law_489 : decode cL_law 489 = .ok (.iconst 2, 1) := by decide +kernel
theorem dL_law_490 : decode cL_law 490 = .ok (.iadd, 1) := by decide +kernel
theorem dL_law_491 : decode cL_law 491 = .ok (.iaload, 1) := by decide +kernel
theorem dL_law_492 : decode cL_law 492 = .ok (.invokevirtual 63, 3) := by decide +kernel
theorem dL_law_495 : decode cL_law 495 = .ok (.aload_n 2, 1) := by decide +kernel
theorem dL_law_496 : decode cL_law 496 = .ok (.aload_n 0, 1) := by decide +kernel
theorem dL_law_497 : decode cL_law 497 = .ok (.iload 4, 2) := by decide +kernel
theorem dL_law_499 : decode cL_law 499 = .ok (.iconst 1, 1) := by decide +kernel
theorem dL_law_500 : decode cL_law 500 = .ok (.iadd, 1) := by decide +kernel
theorem dL_law_501 : decode cL_law 501 = .ok (.iaload, 1) := by decide +kernel
theorem dL_law_502 : decode cL_law 502 = .ok (.aload_n 0, 1) := by decide +kernel
theorem dL_law_503 : decode cL_law 503 = .ok (.iload 4, 2) := by decide +kernel
theorem dL_law_505 : decode cL_law 505 = .ok (.iconst 2, 1) := by decide +kernel
theorem dL_law_506 : decode cL_law 506 = .ok (.iadd, 1) := by decide +kernel
theorem dL_law_507 : decode cL_law 507 = .ok (.iaload, 1) := by decide +kernel
theorem dL_law_508 : decode cL_law 508 = .ok (.invokevirtual 66, 3) := by decide +kernel
theorem dL_law_511 : decode cL_law 511 = .ok (.if_icmp .eq 660, 3) := by decide +kernel
theorem dL_law_514 : decode cL_law 514 = .ok (.iconst 0, 1) := by decide +kernel
theorem dL_law_515 : decode cL_law 515 = .ok (.ireturn, 1) := by decide +kernel
theorem dL_law_516 : decode cL_law 516 = .ok (.aload_n 1, 1) := by decide +kernel
theorem dL_law_517 : decode cL_law 517 = .ok (.aload_n 0, 1) := by decide +kernel
theorem dL_law_518 : decode cL_law 518 = .ok (.iload 4, 2) := by decide +kernel
theorem dL_law_520 : decode cL_law 520 = .ok (.iconst 1, 1) := by decide +kernel
theorem dL_law_521 : decode cL_law 521 = .ok (.iadd, 1) := by decide +kernel
theorem dL_law_522 : decode cL_law 522 = .ok (.iaload, 1) := by decide +kernel
theorem dL_law_523 : decode cL_law 523 = .ok (.aload_n 0, 1) := by decide +kernel
theorem dL_law_524 : decode cL_law 524 = .ok (.iload 4, 2) := by decide +kernel
theorem dL_law_526 : decode cL_law 526 = .ok (.iconst 2, 1) := by decide +kernel
theorem dL_law_527 : decode cL_law 527 = .ok (.iadd, 1) := by decide +kernel
theorem dL_law_528 : decode cL_law 528 = .ok (.iaload, 1) := by decide +kernel
theorem dL_law_529 : decode cL_law 529 = .ok (.aload_n 0, 1) := by decide +kernel
theorem dL_law_530 : decode cL_law 530 = .ok (.iload 4, 2) := by decide +kernel
theorem dL_law_532 : decode cL_law 532 = .ok (.iconst 3, 1) := by decide +kernel
theorem dL_law_533 : decode cL_law 533 = .ok (.iadd, 1) := by decide +kernel
theorem dL_law_534 : decode cL_law 534 = .ok (.iaload, 1) := by decide +kernel
theorem dL_law_535 : decode cL_law 535 = .ok (.aload_n 0, 1) := by decide +kernel
theorem dL_law_536 : decode cL_law 536 = .ok (.iload 4, 2) := by decide +kernel
theorem dL_law_538 : decode cL_law 538 = .ok (.iconst 4, 1) := by decide +kernel
theorem dL_law_539 : decode cL_law 539 = .ok (.iadd, 1) := by decide +kernel
theorem dL_law_540 : decode cL_law 540 = .ok (.iaload, 1) := by decide +kernel
theorem dL_law_541 : decode cL_law 541 = .ok (.invokevirtual 67, 3) := by decide +kernel
theorem dL_law_544 : decode cL_law 544 = .ok (.aload_n 2, 1) := by decide +kernel
theorem dL_law_545 : decode cL_law 545 = .ok (.aload_n 0, 1) := by decide +kernel
theorem dL_law_546 : decode cL_law 546 = .ok (.iload 4, 2) := by decide +kernel
theorem dL_law_548 : decode cL_law 548 = .ok (.iconst 1, 1) := by decide +kernel
theorem dL_law_549 : decode cL_law 549 = .ok (.iadd, 1) := by decide +kernel
theorem dL_law_550 : decode cL_law 550 = .ok (.iaload, 1) := by decide +kernel
theorem dL_law_551 : decode cL_law 551 = .ok (.aload_n 0, 1) := by decide +kernel
theorem dL_law_552 : decode cL_law 552 = .ok (.iload 4, 2) := by decide +kernel
theorem dL_law_554 : decode cL_law 554 = .ok (.iconst 2, 1) := by decide +kernel
theorem dL_law_555 : decode cL_law 555 = .ok (.iadd, 1) := by decide +kernel
theorem dL_law_556 : decode cL_law 556 = .ok (.iaload, 1) := by decide +kernel
theorem dL_law_557 : decode cL_law 557 = .ok (.aload_n 0, 1) := by decide +kernel
theorem dL_law_558 : decode cL_law 558 = .ok (.iload 4, 2) := by decide +kernel
theorem dL_law_560 : decode cL_law 560 = .ok (.iconst 3, 1) := by decide +kernel
theorem dL_law_561 : decode cL_law 561 = .ok (.iadd, 1) := by decide +kernel
theorem dL_law_562 : decode cL_law 562 = .ok (.iaload, 1) := by decide +kernel
theorem dL_law_563 : decode cL_law 563 = .ok (.aload_n 0, 1) := by decide +kernel
theorem dL_law_564 : decode cL_law 564 = .ok (.iload 4, 2) := by decide +kernel
theorem dL_law_566 : decode cL_law 566 = .ok (.iconst 4, 1) := by decide +kernel
theorem dL_law_567 : decode cL_law 567 = .ok (.iadd, 1) := by decide +kernel
theorem dL_law_568 : decode cL_law 568 = .ok (.iaload, 1) := by decide +kernel
theorem dL_law_569 : decode cL_law 569 = .ok (.invokevirtual 71, 3) := by decide +kernel
theorem dL_law_572 : decode cL_law 572 = .ok (.lcmp, 1) := by decide +kernel
theorem dL_law_573 : decode cL_law 573 = .ok (.ifCond .eq 598, 3) := by decide +kernel
theorem dL_law_576 : decode cL_law 576 = .ok (.iconst 0, 1) := by decide +kernel
theorem dL_law_577 : decode cL_law 577 = .ok (.ireturn, 1) := by decide +kernel
theorem dL_law_578 : decode cL_law 578 = .ok (.aload_n 1, 1) := by decide +kernel
theorem dL_law_579 : decode cL_law 579 = .ok (.aload_n 0, 1) := by decide +kernel
theorem dL_law_580 : decode cL_law 580 = .ok (.iload 4, 2) := by decide +kernel
theorem dL_law_582 : decode cL_law 582 = .ok (.iconst 1, 1) := by decide +kernel
theorem dL_law_583 : decode cL_law 583 = .ok (.iadd, 1) := by decide +kernel
theorem dL_law_584 : decode cL_law 584 = .ok (.iaload, 1) := by decide +kernel
theorem dL_law_585 : decode cL_law 585 = .ok (.aload_n 0, 1) := by decide +kernel
theorem dL_law_586 : decode cL_law 586 = .ok (.iload 4, 2) := by decide +kernel
theorem dL_law_588 : decode cL_law 588 = .ok (.iconst 2, 1) := by decide +kernel
theorem dL_law_589 : decode cL_law 589 = .ok (.iadd, 1) := by decide +kernel
theorem dL_law_590 : decode cL_law 590 = .ok (.iaload, 1) := by decide +kernel
theorem dL_law_591 : decode cL_law 591 = .ok (.aload_n 0, 1) := by decide +kernel
theorem dL_law_592 : decode cL_law 592 = .ok (.iload 4, 2) := by decide +kernel
theorem dL_law_594 : decode cL_law 594 = .ok (.iconst 3, 1) := by decide +kernel
theorem dL_law_595 : decode cL_law 595 = .ok (.iadd, 1) := by decide +kernel
theorem dL_law_596 : decode cL_law 596 = .ok (.iaload, 1) := by decide +kernel
theorem dL_law_597 : decode cL_law 597 = .ok (.aload_n 0, 1) := by decide +kernel
theorem dL_law_598 : decode cL_law 598 = .ok (.iload 4, 2) := by decide +kernel
theorem dL_law_600 : decode cL_law 600 = .ok (.iconst 4, 1) := by decide +kernel
theorem dL_law_601 : decode cL_law 601 = .ok (.iadd, 1) := by decide +kernel
theorem dL_law_602 : decode cL_law 602 = .ok (.iaload, 1) := by decide +kernel
theorem dL_law_603 : decode cL_law 603 = .ok (.invokevirtual 72, 3) := by decide +kernel
theorem dL_law_606 : decode cL_law 606 = .ok (.aload_n 2, 1) := by decide +kernel
theorem dL_law_607 : decode cL_law 607 = .ok (.aload_n 0, 1) := by decide +kernel
theorem dL_law_608 : decode cL_law 608 = .ok (.iload 4, 2) := by decide +kernel
theorem dL_law_610 : decode cL_law 610 = .ok (.iconst 1, 1) := by decide +kernel
theorem dL_law_611 : decode cL_law 611 = .ok (.iadd, 1) := by decide +kernel
theorem dL_law_612 : decode cL_law 612 = .ok (.iaload, 1) := by decide +kernel
theorem dL_law_613 : decode cL_law 613 = .ok (.aload_n 0, 1) := by decide +kernel
theorem dL_law_614 : decode cL_law 614 = .ok (.iload 4, 2) := by decide +kernel
theorem dL_law_616 : decode cL_law 616 = .ok (.iconst 2, 1) := by decide +kernel
theorem dL_law_617 : decode cL_law 617 = .ok (.iadd, 1) := by decide +kernel
theorem dL_law_618 : decode cL_law 618 = .ok (.iaload, 1) := by decide +kernel
theorem dL_law_619 : decode cL_law 619 = .ok (.aload_n 0, 1) := by decide +kernel
theorem dL_law_620 : decode cL_law 620 = .ok (.iload 4, 2) := by decide +kernel
theorem dL_law_622 : decode cL_law 622 = .ok (.iconst 3, 1) := by decide +kernel
theorem dL_law_623 : decode cL_law 623 = .ok (.iadd, 1) := by decide +kernel
theorem dL_law_624 : decode cL_law 624 = .ok (.iaload, 1) := by decide +kernel
theorem dL_law_625 : decode cL_law 625 = .ok (.aload_n 0, 1) := by decide +kernel
theorem dL_law_626 : decode cL_law 626 = .ok (.iload 4, 2) := by decide +kernel
theorem dL_law_628 : decode cL_law 628 = .ok (.iconst 4, 1) := by decide +kernel
theorem dL_law_629 : decode cL_law 629 = .ok (.iadd, 1) := by decide +kernel
theorem dL_law_630 : decode cL_law 630 = .ok (.iaload, 1) := by decide +kernel
theorem dL_law_631 : decode cL_law 631 = .ok (.invokevirtual 75, 3) := by decide +kernel
theorem dL_law_634 : decode cL_law 634 = .ok (.lcmp, 1) := by decide +kernel
theorem dL_law_635 : decode cL_law 635 = .ok (.ifCond .eq 536, 3) := by decide +kernel
theorem dL_law_638 : decode cL_law 638 = .ok (.iconst 0, 1) := by decide +kernel
theorem dL_law_639 : decode cL_law 639 = .ok (.ireturn, 1) := by decide +kernel
theorem dL_law_640 : decode cL_law 640 = .ok (.aload_n 1, 1) := by decide +kernel
theorem dL_law_641 : decode cL_law 641 = .ok (.aload_n 0, 1) := by decide +kernel
theorem dL_law_642 : decode cL_law 642 = .ok (.iload 4, 2) := by decide +kernel
theorem dL_law_644 : decode cL_law 644 = .ok (.iconst 1, 1) := by decide +kernel
theorem dL_law_645 : decode cL_law 645 = .ok (.iadd, 1) := by decide +kernel
theorem dL_law_646 : decode cL_law 646 = .ok (.iaload, 1) := by decide +kernel
theorem dL_law_647 : decode cL_law 647 = .ok (.aload_n 0, 1) := by decide +kernel
theorem dL_law_648 : decode cL_law 648 = .ok (.iload 4, 2) := by decide +kernel
theorem dL_law_650 : decode cL_law 650 = .ok (.iconst 2, 1) := by decide +kernel
theorem dL_law_651 : decode cL_law 651 = .ok (.iadd, 1) := by decide +kernel
theorem dL_law_652 : decode cL_law 652 = .ok (.iaload, 1) := by decide +kernel
theorem dL_law_653 : decode cL_law 653 = .ok (.aload_n 0, 1) := by decide +kernel
theorem dL_law_654 : decode cL_law 654 = .ok (.iload 4, 2) := by decide +kernel
theorem dL_law_656 : decode cL_law 656 = .ok (.iconst 3, 1) := by decide +kernel
theorem dL_law_657 : decode cL_law 657 = .ok (.iadd, 1) := by decide +kernel
theorem dL_law_658 : decode cL_law 658 = .ok (.iaload, 1) := by decide +kernel
theorem dL_law_659 : decode cL_law 659 = .ok (.aload_n 0, 1) := by decide +kernel
theorem dL_law_660 : decode cL_law 660 = .ok (.iload 4, 2) := by decide +kernel
theorem dL_law_662 : decode cL_law 662 = .ok (.iconst 4, 1) := by decide +kernel
theorem dL_law_663 : decode cL_law 663 = .ok (.iadd, 1) := by decide +kernel
theorem dL_law_664 : decode cL_law 664 = .ok (.iaload, 1) := by decide +kernel
theorem dL_law_665 : decode cL_law 665 = .ok (.invokevirtual 76, 3) := by decide +kernel
theorem dL_law_668 : decode cL_law 668 = .ok (.aload_n 2, 1) := by decide +kernel
theorem dL_law_669 : decode cL_law 669 = .ok (.aload_n 0, 1) := by decide +kernel
theorem dL_law_670 : decode cL_law 670 = .ok (.iload 4, 2) := by decide +kernel
theorem dL_law_672 : decode cL_law 672 = .ok (.iconst 1, 1) := by decide +kernel
theorem dL_law_673 : decode cL_law 673 = .ok (.iadd, 1) := by decide +kernel
theorem dL_law_674 : decode cL_law 674 = .ok (.iaload, 1) := by decide +kernel
theorem dL_law_675 : decode cL_law 675 = .ok (.aload_n 0, 1) := by decide +kernel
theorem dL_law_676 : decode cL_law 676 = .ok (.iload 4, 2) := by decide +kernel
theorem dL_law_678 : decode cL_law 678 = .ok (.iconst 2, 1) := by decide +kernel
theorem dL_law_679 : decode cL_law 679 = .ok (.iadd, 1) := by decide +kernel
theorem dL_law_680 : decode cL_law 680 = .ok (.iaload, 1) := by decide +kernel
theorem dL_law_681 : decode cL_law 681 = .ok (.aload_n 0, 1) := by decide +kernel
theorem dL_law_682 : decode cL_law 682 = .ok (.iload 4, 2) := by decide +kernel
theorem dL_law_684 : decode cL_law 684 = .ok (.iconst 3, 1) := by decide +kernel
theorem dL_law_685 : decode cL_law 685 = .ok (.iadd, 1) := by decide +kernel
theorem dL_law_686 : decode cL_law 686 = .ok (.iaload, 1) := by decide +kernel
theorem dL_law_687 : decode cL_law 687 = .ok (.aload_n 0, 1) := by decide +kernel
theorem dL_law_688 : decode cL_law 688 = .ok (.iload 4, 2) := by decide +kernel
theorem dL_law_690 : decode cL_law 690 = .ok (.iconst 4, 1) := by decide +kernel
theorem dL_law_691 : decode cL_law 691 = .ok (.iadd, 1) := by decide +kernel
theorem dL_law_692 : decode cL_law 692 = .ok (.iaload, 1) := by decide +kernel
theorem dL_law_693 : decode cL_law 693 = .ok (.invokevirtual 80, 3) := by decide +kernel
theorem dL_law_696 : decode cL_law 696 = .ok (.if_icmp .eq 475, 3) := by decide +kernel
theorem dL_law_699 : decode cL_law 699 = .ok (.iconst 0, 1) := by decide +kernel
theorem dL_law_700 : decode cL_law 700 = .ok (.ireturn, 1) := by decide +kernel
theorem dL_law_701 : decode cL_law 701 = .ok (.aload_n 1, 1) := by decide +kernel
theorem dL_law_702 : decode cL_law 702 = .ok (.aload_n 0, 1) := by decide +kernel
theorem dL_law_703 : decode cL_law 703 = .ok (.iload 4, 2) := by decide +kernel
theorem dL_law_705 : decode cL_law 705 = .ok (.iconst 1, 1) := by decide +kernel
theorem dL_law_706 : decode cL_law 706 = .ok (.iadd, 1) := by decide +kernel
theorem dL_law_707 : decode cL_law 707 = .ok (.iaload, 1) := by decide +kernel
theorem dL_law_708 : decode cL_law 708 = .ok (.aload_n 0, 1) := by decide +kernel
theorem dL_law_709 : decode cL_law 709 = .ok (.iload 4, 2) := by decide +kernel
theorem dL_law_711 : decode cL_law 711 = .ok (.iconst 2, 1) := by decide +kernel
theorem dL_law_712 : decode cL_law 712 = .ok (.iadd, 1) := by decide +kernel
theorem dL_law_713 : decode cL_law 713 = .ok (.iaload, 1) := by decide +kernel
theorem dL_law_714 : decode cL_law 714 = .ok (.aload_n 0, 1) := by decide +kernel
theorem dL_law_715 : decode cL_law 715 = .ok (.iload 4, 2) := by decide +kernel
theorem dL_law_717 : decode cL_law 717 = .ok (.iconst 3, 1) := by decide +kernel
theorem dL_law_718 : decode cL_law 718 = .ok (.iadd, 1) := by decide +kernel
theorem dL_law_719 : decode cL_law 719 = .ok (.iaload, 1) := by decide +kernel
theorem dL_law_720 : decode cL_law 720 = .ok (.aload_n 0, 1) := by decide +kernel
theorem dL_law_721 : decode cL_law 721 = .ok (.iload 4, 2) := by decide +kernel
theorem dL_law_723 : decode cL_law 723 = .ok (.iconst 4, 1) := by decide +kernel
theorem dL_law_724 : decode cL_law 724 = .ok (.iadd, 1) := by decide +kernel
theorem dL_law_725 : decode cL_law 725 = .ok (.iaload, 1) := by decide +kernel
theorem dL_law_726 : decode cL_law 726 = .ok (.aload_n 0, 1) := by decide +kernel
theorem dL_law_727 : decode cL_law 727 = .ok (.iload 4, 2) := by decide +kernel
theorem dL_law_729 : decode cL_law 729 = .ok (.iconst 5, 1) := by decide +kernel
theorem dL_law_730 : decode cL_law 730 = .ok (.iadd, 1) := by decide +kernel
theorem dL_law_731 : decode cL_law 731 = .ok (.iaload, 1) := by decide +kernel
theorem dL_law_732 : decode cL_law 732 = .ok (.invokevirtual 81, 3) := by decide +kernel
theorem dL_law_735 : decode cL_law 735 = .ok (.aload_n 2, 1) := by decide +kernel
theorem dL_law_736 : decode cL_law 736 = .ok (.aload_n 0, 1) := by decide +kernel
theorem dL_law_737 : decode cL_law 737 = .ok (.iload 4, 2) := by decide +kernel
theorem dL_law_739 : decode cL_law 739 = .ok (.iconst 1, 1) := by decide +kernel
theorem dL_law_740 : decode cL_law 740 = .ok (.iadd, 1) := by decide +kernel
theorem dL_law_741 : decode cL_law 741 = .ok (.iaload, 1) := by decide +kernel
theorem dL_law_742 : decode cL_law 742 = .ok (.aload_n 0, 1) := by decide +kernel
theorem dL_law_743 : decode cL_law 743 = .ok (.iload 4, 2) := by decide +kernel
theorem dL_law_745 : decode cL_law 745 = .ok (.iconst 2, 1) := by decide +kernel
theorem dL_law_746 : decode cL_law 746 = .ok (.iadd, 1) := by decide +kernel
theorem dL_law_747 : decode cL_law 747 = .ok (.iaload, 1) := by decide +kernel
theorem dL_law_748 : decode cL_law 748 = .ok (.aload_n 0, 1) := by decide +kernel
theorem dL_law_749 : decode cL_law 749 = .ok (.iload 4, 2) := by decide +kernel
theorem dL_law_751 : decode cL_law 751 = .ok (.iconst 3, 1) := by decide +kernel
theorem dL_law_752 : decode cL_law 752 = .ok (.iadd, 1) := by decide +kernel
theorem dL_law_753 : decode cL_law 753 = .ok (.iaload, 1) := by decide +kernel
theorem dL_law_754 : decode cL_law 754 = .ok (.aload_n 0, 1) := by decide +kernel
theorem dL_law_755 : decode cL_law 755 = .ok (.iload 4, 2) := by decide +kernel
theorem dL_law_757 : decode cL_law 757 = .ok (.iconst 4, 1) := by decide +kernel
theorem dL_law_758 : decode cL_law 758 = .ok (.iadd, 1) := by decide +kernel
theorem dL_law_759 : decode cL_law 759 = .ok (.iaload, 1) := by decide +kernel
theorem dL_law_760 : decode cL_law 760 = .ok (.aload_n 0, 1) := by decide +kernel
theorem dL_law_761 : decode cL_law 761 = .ok (.iload 4, 2) := by decide +kernel
theorem dL_law_763 : decode cL_law 763 = .ok (.iconst 5, 1) := by decide +kernel
theorem dL_law_764 : decode cL_law 764 = .ok (.iadd, 1) := by decide +kernel
theorem dL_law_765 : decode cL_law 765 = .ok (.iaload, 1) := by decide +kernel
theorem dL_law_766 : decode cL_law 766 = .ok (.invokevirtual 85, 3) := by decide +kernel
theorem dL_law_769 : decode cL_law 769 = .ok (.lcmp, 1) := by decide +kernel
theorem dL_law_770 : decode cL_law 770 = .ok (.ifCond .eq 401, 3) := by decide +kernel
theorem dL_law_773 : decode cL_law 773 = .ok (.iconst 0, 1) := by decide +kernel
theorem dL_law_774 : decode cL_law 774 = .ok (.ireturn, 1) := by decide +kernel
theorem dL_law_775 : decode cL_law 775 = .ok (.aload_n 1, 1) := by decide +kernel
theorem dL_law_776 : decode cL_law 776 = .ok (.aload_n 0, 1) := by decide +kernel
theorem dL_law_777 : decode cL_law 777 = .ok (.iload 4, 2) := by decide +kernel
theorem dL_law_779 : decode cL_law 779 = .ok (.iconst 1, 1) := by decide +kernel
theorem dL_law_780 : decode cL_law 780 = .ok (.iadd, 1) := by decide +kernel
theorem dL_law_781 : decode cL_law 781 = .ok (.iaload, 1) := by decide +kernel
theorem dL_law_782 : decode cL_law 782 = .ok (.invokevirtual 86, 3) := by decide +kernel
theorem dL_law_785 : decode cL_law 785 = .ok (.aload_n 2, 1) := by decide +kernel
theorem dL_law_786 : decode cL_law 786 = .ok (.aload_n 0, 1) := by decide +kernel
theorem dL_law_787 : decode cL_law 787 = .ok (.iload 4, 2) := by decide +kernel
theorem dL_law_789 : decode cL_law 789 = .ok (.iconst 1, 1) := by decide +kernel
theorem dL_law_790 : decode cL_law 790 = .ok (.iadd, 1) := by decide +kernel
theorem dL_law_791 : decode cL_law 791 = .ok (.iaload, 1) := by decide +kernel
theorem dL_law_792 : decode cL_law 792 = .ok (.invokevirtual 89, 3) := by decide +kernel
theorem dL_law_795 : decode cL_law 795 = .ok (.if_icmp .eq 376, 3) := by decide +kernel
theorem dL_law_798 : decode cL_law 798 = .ok (.iconst 0, 1) := by decide +kernel
theorem dL_law_799 : decode cL_law 799 = .ok (.ireturn, 1) := by decide +kernel
theorem dL_law_800 : decode cL_law 800 = .ok (.aload_n 1, 1) := by decide +kernel
theorem dL_law_801 : decode cL_law 801 = .ok (.aload_n 0, 1) := by decide +kernel
theorem dL_law_802 : decode cL_law 802 = .ok (.iload 4, 2) := by decide +kernel
theorem dL_law_804 : decode cL_law 804 = .ok (.iconst 1, 1) := by decide +kernel
theorem dL_law_805 : decode cL_law 805 = .ok (.iadd, 1) := by decide +kernel
theorem dL_law_806 : decode cL_law 806 = .ok (.iaload, 1) := by decide +kernel
theorem dL_law_807 : decode cL_law 807 = .ok (.aload_n 0, 1) := by decide +kernel
theorem dL_law_808 : decode cL_law 808 = .ok (.iload 4, 2) := by decide +kernel
theorem dL_law_810 : decode cL_law 810 = .ok (.iconst 2, 1) := by decide +kernel
theorem dL_law_811 : decode cL_law 811 = .ok (.iadd, 1) := by decide +kernel
theorem dL_law_812 : decode cL_law 812 = .ok (.iaload, 1) := by decide +kernel
theorem dL_law_813 : decode cL_law 813 = .ok (.invokevirtual 90, 3) := by decide +kernel
theorem dL_law_816 : decode cL_law 816 = .ok (.aload_n 2, 1) := by decide +kernel
theorem dL_law_817 : decode cL_law 817 = .ok (.aload_n 0, 1) := by decide +kernel
theorem dL_law_818 : decode cL_law 818 = .ok (.iload 4, 2) := by decide +kernel
theorem dL_law_820 : decode cL_law 820 = .ok (.iconst 1, 1) := by decide +kernel
theorem dL_law_821 : decode cL_law 821 = .ok (.iadd, 1) := by decide +kernel
theorem dL_law_822 : decode cL_law 822 = .ok (.iaload, 1) := by decide +kernel
theorem dL_law_823 : decode cL_law 823 = .ok (.aload_n 0, 1) := by decide +kernel
theorem dL_law_824 : decode cL_law 824 = .ok (.iload 4, 2) := by decide +kernel
theorem dL_law_826 : decode cL_law 826 = .ok (.iconst 2, 1) := by decide +kernel
theorem dL_law_827 : decode cL_law 827 = .ok (.iadd, 1) := by decide +kernel
theorem dL_law_828 : decode cL_law 828 = .ok (.iaload, 1) := by decide +kernel
theorem dL_law_829 : decode cL_law 829 = .ok (.invokevirtual 94, 3) := by decide +kernel
theorem dL_law_832 : decode cL_law 832 = .ok (.lcmp, 1) := by decide +kernel
theorem dL_law_833 : decode cL_law 833 = .ok (.ifCond .eq 338, 3) := by decide +kernel
theorem dL_law_836 : decode cL_law 836 = .ok (.iconst 0, 1) := by decide +kernel
theorem dL_law_837 : decode cL_law 837 = .ok (.ireturn, 1) := by decide +kernel
theorem dL_law_838 : decode cL_law 838 = .ok (.aload_n 1, 1) := by decide +kernel
theorem dL_law_839 : decode cL_law 839 = .ok (.aload_n 0, 1) := by decide +kernel
theorem dL_law_840 : decode cL_law 840 = .ok (.iload 4, 2) := by decide +kernel
theorem dL_law_842 : decode cL_law 842 = .ok (.iconst 1, 1) := by decide +kernel
theorem dL_law_843 : decode cL_law 843 = .ok (.iadd, 1) := by decide +kernel
theorem dL_law_844 : decode cL_law 844 = .ok (.iaload, 1) := by decide +kernel
theorem dL_law_845 : decode cL_law 845 = .ok (.aload_n 0, 1) := by decide +kernel
theorem dL_law_846 : decode cL_law 846 = .ok (.iload 4, 2) := by decide +kernel
theorem dL_law_848 : decode cL_law 848 = .ok (.iconst 2, 1) := by decide +kernel
theorem dL_law_849 : decode cL_law 849 = .ok (.iadd, 1) := by decide +kernel
theorem dL_law_850 : decode cL_law 850 = .ok (.iaload, 1) := by decide +kernel
theorem dL_law_851 : decode cL_law 851 = .ok (.invokevirtual 95, 3) := by decide +kernel
theorem dL_law_854 : decode cL_law 854 = .ok (.aload_n 2, 1) := by decide +kernel
theorem dL_law_855 : decode cL_law 855 = .ok (.aload_n 0, 1) := by decide +kernel
theorem dL_law_856 : decode cL_law 856 = .ok (.iload 4, 2) := by decide +kernel
theorem dL_law_858 : decode cL_law 858 = .ok (.iconst 1, 1) := by decide +kernel
theorem dL_law_859 : decode cL_law 859 = .ok (.iadd, 1) := by decide +kernel
theorem dL_law_860 : decode cL_law 860 = .ok (.iaload, 1) := by decide +kernel
theorem dL_law_861 : decode cL_law 861 = .ok (.aload_n 0, 1) := by decide +kernel
theorem dL_law_862 : decode cL_law 862 = .ok (.iload 4, 2) := by decide +kernel
theorem dL_law_864 : decode cL_law 864 = .ok (.iconst 2, 1) := by decide +kernel
theorem dL_law_865 : decode cL_law 865 = .ok (.iadd, 1) := by decide +kernel
theorem dL_law_866 : decode cL_law 866 = .ok (.iaload, 1) := by decide +kernel
theorem dL_law_867 : decode cL_law 867 = .ok (.invokevirtual 98, 3) := by decide +kernel
theorem dL_law_870 : decode cL_law 870 = .ok (.if_icmp .eq 301, 3) := by decide +kernel
theorem dL_law_873 : decode cL_law 873 = .ok (.iconst 0, 1) := by decide +kernel
theorem dL_law_874 : decode cL_law 874 = .ok (.ireturn, 1) := by decide +kernel
theorem dL_law_875 : decode cL_law 875 = .ok (.aload_n 1, 1) := by decide +kernel
theorem dL_law_876 : decode cL_law 876 = .ok (.aload_n 0, 1) := by decide +kernel
theorem dL_law_877 : decode cL_law 877 = .ok (.iload 4, 2) := by decide +kernel
theorem dL_law_879 : decode cL_law 879 = .ok (.iconst 1, 1) := by decide +kernel
theorem dL_law_880 : decode cL_law 880 = .ok (.iadd, 1) := by decide +kernel
theorem dL_law_881 : decode cL_law 881 = .ok (.iaload, 1) := by decide +kernel
theorem dL_law_882 : decode cL_law 882 = .ok (.aload_n 0, 1) := by decide +kernel
theorem dL_law_883 : decode cL_law 883 = .ok (.iload 4, 2) := by decide +kernel
theorem dL_law_885 : decode cL_law 885 = .ok (.iconst 2, 1) := by decide +kernel
theorem dL_law_886 : decode cL_law 886 = .ok (.iadd, 1) := by decide +kernel
theorem dL_law_887 : decode cL_law 887 = .ok (.iaload, 1) := by decide +kernel
theorem dL_law_888 : decode cL_law 888 = .ok (.aload_n 0, 1) := by decide +kernel
theorem dL_law_889 : decode cL_law 889 = .ok (.iload 4, 2) := by decide +kernel
theorem dL_law_891 : decode cL_law 891 = .ok (.iconst 3, 1) := by decide +kernel
theorem dL_law_892 : decode cL_law 892 = .ok (.iadd, 1) := by decide +kernel
theorem dL_law_893 : decode cL_law 893 = .ok (.iaload, 1) := by decide +kernel
theorem dL_law_894 : decode cL_law 894 = .ok (.invokevirtual 99, 3) := by decide +kernel
theorem dL_law_897 : decode cL_law 897 = .ok (.aload_n 2, 1) := by decide +kernel
theorem dL_law_898 : decode cL_law 898 = .ok (.aload_n 0, 1) := by decide +kernel
theorem dL_law_899 : decode cL_law 899 = .ok (.iload 4, 2) := by decide +kernel
theorem dL_law_901 : decode cL_law 901 = .ok (.iconst 1, 1) := by decide +kernel
theorem dL_law_902 : decode cL_law 902 = .ok (.iadd, 1) := by decide +kernel
theorem dL_law_903 : decode cL_law 903 = .ok (.iaload, 1) := by decide +kernel
theorem dL_law_904 : decode cL_law 904 = .ok (.aload_n 0, 1) := by decide +kernel
theorem dL_law_905 : decode cL_law 905 = .ok (.iload 4, 2) := by decide +kernel
theorem dL_law_907 : decode cL_law 907 = .ok (.iconst 2, 1) := by decide +kernel
theorem dL_law_908 : decode cL_law 908 = .ok (.iadd, 1) := by decide +kernel
theorem dL_law_909 : decode cL_law 909 = .ok (.iaload, 1) := by decide +kernel
theorem dL_law_910 : decode cL_law 910 = .ok (.aload_n 0, 1) := by decide +kernel
theorem dL_law_911 : decode cL_law 911 = .ok (.iload 4, 2) := by decide +kernel
theorem dL_law_913 : decode cL_law 913 = .ok (.iconst 3, 1) := by decide +kernel
theorem dL_law_914 : decode cL_law 914 = .ok (.iadd, 1) := by decide +kernel
theorem dL_law_915 : decode cL_law 915 = .ok (.iaload, 1) := by decide +kernel
theorem dL_law_916 : decode cL_law 916 = .ok (.invokevirtual 102, 3) := by decide +kernel
theorem dL_law_919 : decode cL_law 919 = .ok (.if_icmp .eq 252, 3) := by decide +kernel
theorem dL_law_922 : decode cL_law 922 = .ok (.iconst 0, 1) := by decide +kernel
theorem dL_law_923 : decode cL_law 923 = .ok (.ireturn, 1) := by decide +kernel
theorem dL_law_924 : decode cL_law 924 = .ok (.aload_n 1, 1) := by decide +kernel
theorem dL_law_925 : decode cL_law 925 = .ok (.aload_n 0, 1) := by decide +kernel
theorem dL_law_926 : decode cL_law 926 = .ok (.iload 4, 2) := by decide +kernel
theorem dL_law_928 : decode cL_law 928 = .ok (.iconst 1, 1) := by decide +kernel
theorem dL_law_929 : decode cL_law 929 = .ok (.iadd, 1) := by decide +kernel
theorem dL_law_930 : decode cL_law 930 = .ok (.iaload, 1) := by decide +kernel
theorem dL_law_931 : decode cL_law 931 = .ok (.aload_n 0, 1) := by decide +kernel
theorem dL_law_932 : decode cL_law 932 = .ok (.iload 4, 2) := by decide +kernel
theorem dL_law_934 : decode cL_law 934 = .ok (.iconst 2, 1) := by decide +kernel
theorem dL_law_935 : decode cL_law 935 = .ok (.iadd, 1) := by decide +kernel
theorem dL_law_936 : decode cL_law 936 = .ok (.iaload, 1) := by decide +kernel
theorem dL_law_937 : decode cL_law 937 = .ok (.invokevirtual 103, 3) := by decide +kernel
theorem dL_law_940 : decode cL_law 940 = .ok (.aload_n 2, 1) := by decide +kernel
theorem dL_law_941 : decode cL_law 941 = .ok (.aload_n 0, 1) := by decide +kernel
theorem dL_law_942 : decode cL_law 942 = .ok (.iload 4, 2) := by decide +kernel
theorem dL_law_944 : decode cL_law 944 = .ok (.iconst 1, 1) := by decide +kernel
theorem dL_law_945 : decode cL_law 945 = .ok (.iadd, 1) := by decide +kernel
theorem dL_law_946 : decode cL_law 946 = .ok (.iaload, 1) := by decide +kernel
theorem dL_law_947 : decode cL_law 947 = .ok (.aload_n 0, 1) := by decide +kernel
theorem dL_law_948 : decode cL_law 948 = .ok (.iload 4, 2) := by decide +kernel
theorem dL_law_950 : decode cL_law 950 = .ok (.iconst 2, 1) := by decide +kernel
theorem dL_law_951 : decode cL_law 951 = .ok (.iadd, 1) := by decide +kernel
theorem dL_law_952 : decode cL_law 952 = .ok (.iaload, 1) := by decide +kernel
theorem dL_law_953 : decode cL_law 953 = .ok (.invokevirtual 106, 3) := by decide +kernel
theorem dL_law_956 : decode cL_law 956 = .ok (.if_icmp .eq 215, 3) := by decide +kernel
theorem dL_law_959 : decode cL_law 959 = .ok (.iconst 0, 1) := by decide +kernel
theorem dL_law_960 : decode cL_law 960 = .ok (.ireturn, 1) := by decide +kernel
theorem dL_law_961 : decode cL_law 961 = .ok (.aload_n 1, 1) := by decide +kernel
theorem dL_law_962 : decode cL_law 962 = .ok (.aload_n 0, 1) := by decide +kernel
theorem dL_law_963 : decode cL_law 963 = .ok (.iload 4, 2) := by decide +kernel
theorem dL_law_965 : decode cL_law 965 = .ok (.iconst 1, 1) := by decide +kernel
theorem dL_law_966 : decode cL_law 966 = .ok (.iadd, 1) := by decide +kernel
theorem dL_law_967 : decode cL_law 967 = .ok (.iaload, 1) := by decide +kernel
theorem dL_law_968 : decode cL_law 968 = .ok (.aload_n 0, 1) := by decide +kernel
theorem dL_law_969 : decode cL_law 969 = .ok (.iload 4, 2) := by decide +kernel
theorem dL_law_971 : decode cL_law 971 = .ok (.iconst 2, 1) := by decide +kernel
theorem dL_law_972 : decode cL_law 972 = .ok (.iadd, 1) := by decide +kernel
theorem dL_law_973 : decode cL_law 973 = .ok (.iaload, 1) := by decide +kernel
theorem dL_law_974 : decode cL_law 974 = .ok (.invokevirtual 107, 3) := by decide +kernel
theorem dL_law_977 : decode cL_law 977 = .ok (.aload_n 2, 1) := by decide +kernel
theorem dL_law_978 : decode cL_law 978 = .ok (.aload_n 0, 1) := by decide +kernel
theorem dL_law_979 : decode cL_law 979 = .ok (.iload 4, 2) := by decide +kernel
theorem dL_law_981 : decode cL_law 981 = .ok (.iconst 1, 1) := by decide +kernel
theorem dL_law_982 : decode cL_law 982 = .ok (.iadd, 1) := by decide +kernel
theorem dL_law_983 : decode cL_law 983 = .ok (.iaload, 1) := by decide +kernel
theorem dL_law_984 : decode cL_law 984 = .ok (.aload_n 0, 1) := by decide +kernel
theorem dL_law_985 : decode cL_law 985 = .ok (.iload 4, 2) := by decide +kernel
theorem dL_law_987 : decode cL_law 987 = .ok (.iconst 2, 1) := by decide +kernel
theorem dL_law_988 : decode cL_law 988 = .ok (.iadd, 1) := by decide +kernel
theorem dL_law_989 : decode cL_law 989 = .ok (.iaload, 1) := by decide +kernel
theorem dL_law_990 : decode cL_law 990 = .ok (.invokevirtual 110, 3) := by decide +kernel
theorem dL_law_993 : decode cL_law 993 = .ok (.if_icmp .eq 178, 3) := by decide +kernel
theorem dL_law_996 : decode cL_law 996 = .ok (.iconst 0, 1) := by decide +kernel
theorem dL_law_997 : decode cL_law 997 = .ok (.ireturn, 1) := by decide +kernel
theorem dL_law_998 : decode cL_law 998 = .ok (.aload_n 1, 1) := by decide +kernel
theorem dL_law_999 : decode cL_law 999 = .ok (.aload_n 0, 1) := by decide +kernel
theorem dL_law_1000 : decode cL_law 1000 = .ok (.iload 4, 2) := by decide +kernel
theorem dL_law_1002 : decode cL_law 1002 = .ok (.iconst 1, 1) := by decide +kernel
theorem dL_law_1003 : decode cL_law 1003 = .ok (.iadd, 1) := by decide +kernel
theorem dL_law_1004 : decode cL_law 1004 = .ok (.iaload, 1) := by decide +kernel
theorem dL_law_1005 : decode cL_law 1005 = .ok (.aload_n 0, 1) := by decide +kernel
theorem dL_law_1006 : decode cL_law 1006 = .ok (.iload 4, 2) := by decide +kernel
theorem dL_law_1008 : decode cL_law 1008 = .ok (.iconst 2, 1) := by decide +kernel
theorem dL_law_1009 : decode cL_law 1009 = .ok (.iadd, 1) := by decide +kernel
theorem dL_law_1010 : decode cL_law 1010 = .ok (.iaload, 1) := by decide +kernel
theorem dL_law_1011 : decode cL_law 1011 = .ok (.invokevirtual 111, 3) := by decide +kernel
theorem dL_law_1014 : decode cL_law 1014 = .ok (.aload_n 2, 1) := by decide +kernel
theorem dL_law_1015 : decode cL_law 1015 = .ok (.aload_n 0, 1) := by decide +kernel
theorem dL_law_1016 : decode cL_law 1016 = .ok (.iload 4, 2) := by decide +kernel
theorem dL_law_1018 : decode cL_law 1018 = .ok (.iconst 1, 1) := by decide +kernel
theorem dL_law_1019 : decode cL_law 1019 = .ok (.iadd, 1) := by decide +kernel
theorem dL_law_1020 : decode cL_law 1020 = .ok (.iaload, 1) := by decide +kernel
theorem dL_law_1021 : decode cL_law 1021 = .ok (.aload_n 0, 1) := by decide +kernel
theorem dL_law_1022 : decode cL_law 1022 = .ok (.iload 4, 2) := by decide +kernel
theorem dL_law_1024 : decode cL_law 1024 = .ok (.iconst 2, 1) := by decide +kernel
theorem dL_law_1025 : decode cL_law 1025 = .ok (.iadd, 1) := by decide +kernel
theorem dL_law_1026 : decode cL_law 1026 = .ok (.iaload, 1) := by decide +kernel
theorem dL_law_1027 : decode cL_law 1027 = .ok (.invokevirtual 115, 3) := by decide +kernel
theorem dL_law_1030 : decode cL_law 1030 = .ok (.if_icmp .eq 141, 3) := by decide +kernel
theorem dL_law_1033 : decode cL_law 1033 = .ok (.iconst 0, 1) := by decide +kernel
theorem dL_law_1034 : decode cL_law 1034 = .ok (.ireturn, 1) := by decide +kernel
theorem dL_law_1035 : decode cL_law 1035 = .ok (.aload_n 1, 1) := by decide +kernel
theorem dL_law_1036 : decode cL_law 1036 = .ok (.aload_n 0, 1) := by decide +kernel
theorem dL_law_1037 : decode cL_law 1037 = .ok (.iload 4, 2) := by decide +kernel
theorem dL_law_1039 : decode cL_law 1039 = .ok (.iconst 1, 1) := by decide +kernel
theorem dL_law_1040 : decode cL_law 1040 = .ok (.iadd, 1) := by decide +kernel
theorem dL_law_1041 : decode cL_law 1041 = .ok (.iaload, 1) := by decide +kernel
theorem dL_law_1042 : decode cL_law 1042 = .ok (.aload_n 0, 1) := by decide +kernel
theorem dL_law_1043 : decode cL_law 1043 = .ok (.iload 4, 2) := by decide +kernel
theorem dL_law_1045 : decode cL_law 1045 = .ok (.iconst 2, 1) := by decide +kernel
theorem dL_law_1046 : decode cL_law 1046 = .ok (.iadd, 1) := by decide +kernel
theorem dL_law_1047 : decode cL_law 1047 = .ok (.iaload, 1) := by decide +kernel
theorem dL_law_1048 : decode cL_law 1048 = .ok (.aload_n 0, 1) := by decide +kernel
theorem dL_law_1049 : decode cL_law 1049 = .ok (.iload 4, 2) := by decide +kernel
theorem dL_law_1051 : decode cL_law 1051 = .ok (.iconst 3, 1) := by decide +kernel
theorem dL_law_1052 : decode cL_law 1052 = .ok (.iadd, 1) := by decide +kernel
theorem dL_law_1053 : decode cL_law 1053 = .ok (.iaload, 1) := by decide +kernel
theorem dL_law_1054 : decode cL_law 1054 = .ok (.invokevirtual 116, 3) := by decide +kernel
theorem dL_law_1057 : decode cL_law 1057 = .ok (.aload_n 2, 1) := by decide +kernel
theorem dL_law_1058 : decode cL_law 1058 = .ok (.aload_n 0, 1) := by decide +kernel
theorem dL_law_1059 : decode cL_law 1059 = .ok (.iload 4, 2) := by decide +kernel
theorem dL_law_1061 : decode cL_law 1061 = .ok (.iconst 1, 1) := by decide +kernel
theorem dL_law_1062 : decode cL_law 1062 = .ok (.iadd, 1) := by decide +kernel
theorem dL_law_1063 : decode cL_law 1063 = .ok (.iaload, 1) := by decide +kernel
theorem dL_law_1064 : decode cL_law 1064 = .ok (.aload_n 0, 1) := by decide +kernel
theorem dL_law_1065 : decode cL_law 1065 = .ok (.iload 4, 2) := by decide +kernel
theorem dL_law_1067 : decode cL_law 1067 = .ok (.iconst 2, 1) := by decide +kernel
theorem dL_law_1068 : decode cL_law 1068 = .ok (.iadd, 1) := by decide +kernel
theorem dL_law_1069 : decode cL_law 1069 = .ok (.iaload, 1) := by decide +kernel
theorem dL_law_1070 : decode cL_law 1070 = .ok (.aload_n 0, 1) := by decide +kernel
theorem dL_law_1071 : decode cL_law 1071 = .ok (.iload 4, 2) := by decide +kernel
theorem dL_law_1073 : decode cL_law 1073 = .ok (.iconst 3, 1) := by decide +kernel
theorem dL_law_1074 : decode cL_law 1074 = .ok (.iadd, 1) := by decide +kernel
theorem dL_law_1075 : decode cL_law 1075 = .ok (.iaload, 1) := by decide +kernel
theorem dL_law_1076 : decode cL_law 1076 = .ok (.invokevirtual 119, 3) := by decide +kernel
theorem dL_law_1079 : decode cL_law 1079 = .ok (.if_icmp .eq 92, 3) := by decide +kernel
theorem dL_law_1082 : decode cL_law 1082 = .ok (.iconst 0, 1) := by decide +kernel
theorem dL_law_1083 : decode cL_law 1083 = .ok (.ireturn, 1) := by decide +kernel
theorem dL_law_1084 : decode cL_law 1084 = .ok (.aload_n 1, 1) := by decide +kernel
theorem dL_law_1085 : decode cL_law 1085 = .ok (.invokevirtual 120, 3) := by decide +kernel
theorem dL_law_1088 : decode cL_law 1088 = .ok (.aload_n 2, 1) := by decide +kernel
theorem dL_law_1089 : decode cL_law 1089 = .ok (.invokevirtual 123, 3) := by decide +kernel
theorem dL_law_1092 : decode cL_law 1092 = .ok (.if_icmp .eq 79, 3) := by decide +kernel
theorem dL_law_1095 : decode cL_law 1095 = .ok (.iconst 0, 1) := by decide +kernel
theorem dL_law_1096 : decode cL_law 1096 = .ok (.ireturn, 1) := by decide +kernel
theorem dL_law_1097 : decode cL_law 1097 = .ok (.aload_n 1, 1) := by decide +kernel
theorem dL_law_1098 : decode cL_law 1098 = .ok (.aload_n 0, 1) := by decide +kernel
theorem dL_law_1099 : decode cL_law 1099 = .ok (.iload 4, 2) := by decide +kernel
theorem dL_law_1101 : decode cL_law 1101 = .ok (.iconst 1, 1) := by decide +kernel
theorem dL_law_1102 : decode cL_law 1102 = .ok (.iadd, 1) := by decide +kernel
theorem dL_law_1103 : decode cL_law 1103 = .ok (.iaload, 1) := by decide +kernel
theorem dL_law_1104 : decode cL_law 1104 = .ok (.aload_n 0, 1) := by decide +kernel
theorem dL_law_1105 : decode cL_law 1105 = .ok (.iload 4, 2) := by decide +kernel
theorem dL_law_1107 : decode cL_law 1107 = .ok (.iconst 2, 1) := by decide +kernel
theorem dL_law_1108 : decode cL_law 1108 = .ok (.iadd, 1) := by decide +kernel
theorem dL_law_1109 : decode cL_law 1109 = .ok (.iaload, 1) := by decide +kernel
theorem dL_law_1110 : decode cL_law 1110 = .ok (.aload_n 0, 1) := by decide +kernel
theorem dL_law_1111 : decode cL_law 1111 = .ok (.iload 4, 2) := by decide +kernel
theorem dL_law_1113 : decode cL_law 1113 = .ok (.iconst 3, 1) := by decide +kernel
theorem dL_law_1114 : decode cL_law 1114 = .ok (.iadd, 1) := by decide +kernel
theorem dL_law_1115 : decode cL_law 1115 = .ok (.iaload, 1) := by decide +kernel
theorem dL_law_1116 : decode cL_law 1116 = .ok (.invokevirtual 124, 3) := by decide +kernel
theorem dL_law_1119 : decode cL_law 1119 = .ok (.aload_n 2, 1) := by decide +kernel
theorem dL_law_1120 : decode cL_law 1120 = .ok (.aload_n 0, 1) := by decide +kernel
theorem dL_law_1121 : decode cL_law 1121 = .ok (.iload 4, 2) := by decide +kernel
theorem dL_law_1123 : decode cL_law 1123 = .ok (.iconst 1, 1) := by decide +kernel
theorem dL_law_1124 : decode cL_law 1124 = .ok (.iadd, 1) := by decide +kernel
theorem dL_law_1125 : decode cL_law 1125 = .ok (.iaload, 1) := by decide +kernel
theorem dL_law_1126 : decode cL_law 1126 = .ok (.aload_n 0, 1) := by decide +kernel
theorem dL_law_1127 : decode cL_law 1127 = .ok (.iload 4, 2) := by decide +kernel
theorem dL_law_1129 : decode cL_law 1129 = .ok (.iconst 2, 1) := by decide +kernel
theorem dL_law_1130 : decode cL_law 1130 = .ok (.iadd, 1) := by decide +kernel
theorem dL_law_1131 : decode cL_law 1131 = .ok (.iaload, 1) := by decide +kernel
theorem dL_law_1132 : decode cL_law 1132 = .ok (.aload_n 0, 1) := by decide +kernel
theorem dL_law_1133 : decode cL_law 1133 = .ok (.iload 4, 2) := by decide +kernel
theorem dL_law_1135 : decode cL_law 1135 = .ok (.iconst 3, 1) := by decide +kernel
theorem dL_law_1136 : decode cL_law 1136 = .ok (.iadd, 1) := by decide +kernel
theorem dL_law_1137 : decode cL_law 1137 = .ok (.iaload, 1) := by decide +kernel
theorem dL_law_1138 : decode cL_law 1138 = .ok (.invokevirtual 127, 3) := by decide +kernel
theorem dL_law_1141 : decode cL_law 1141 = .ok (.if_icmp .eq 30, 3) := by decide +kernel
theorem dL_law_1144 : decode cL_law 1144 = .ok (.iconst 0, 1) := by decide +kernel
theorem dL_law_1145 : decode cL_law 1145 = .ok (.ireturn, 1) := by decide +kernel
theorem dL_law_1146 : decode cL_law 1146 = .ok (.aload_n 1, 1) := by decide +kernel
theorem dL_law_1147 : decode cL_law 1147 = .ok (.aload_n 0, 1) := by decide +kernel
theorem dL_law_1148 : decode cL_law 1148 = .ok (.iload 4, 2) := by decide +kernel
theorem dL_law_1150 : decode cL_law 1150 = .ok (.iconst 1, 1) := by decide +kernel
theorem dL_law_1151 : decode cL_law 1151 = .ok (.iadd, 1) := by decide +kernel
theorem dL_law_1152 : decode cL_law 1152 = .ok (.iaload, 1) := by decide +kernel
theorem dL_law_1153 : decode cL_law 1153 = .ok (.invokevirtual 128, 3) := by decide +kernel
theorem dL_law_1156 : decode cL_law 1156 = .ok (.aload_n 2, 1) := by decide +kernel
theorem dL_law_1157 : decode cL_law 1157 = .ok (.aload_n 0, 1) := by decide +kernel
theorem dL_law_1158 : decode cL_law 1158 = .ok (.iload 4, 2) := by decide +kernel
theorem dL_law_1160 : decode cL_law 1160 = .ok (.iconst 1, 1) := by decide +kernel
theorem dL_law_1161 : decode cL_law 1161 = .ok (.iadd, 1) := by decide +kernel
theorem dL_law_1162 : decode cL_law 1162 = .ok (.iaload, 1) := by decide +kernel
theorem dL_law_1163 : decode cL_law 1163 = .ok (.invokevirtual 131, 3) := by decide +kernel
theorem dL_law_1166 : decode cL_law 1166 = .ok (.if_icmp .eq 5, 3) := by decide +kernel
theorem dL_law_1169 : decode cL_law 1169 = .ok (.iconst 0, 1) := by decide +kernel
theorem dL_law_1170 : decode cL_law 1170 = .ok (.ireturn, 1) := by decide +kernel
theorem dL_law_1171 : decode cL_law 1171 = .ok (.iinc 4 6, 3) := by decide +kernel
theorem dL_law_1174 : decode cL_law 1174 = .ok (.goto (-1151), 3) := by decide +kernel
theorem dL_law_1177 : decode cL_law 1177 = .ok (.iconst 1, 1) := by decide +kernel
theorem dL_law_1178 : decode cL_law 1178 = .ok (.ireturn, 1) := by decide +kernel
