theorem dX12_knows_117 : decode cX12_knows 117 = .ok (.getfield 71, 3) := by decide +kernel
theorem dX12_knows_120 : decode cX12_knows 120 = .ok (.iload_n 2, 1) := by decide +kernel
theorem dX12_knows_121 : decode cX12_knows 121 = .ok (.baload, 1) := by decide +kernel
theorem dX12_knows_122 : decode cX12_knows 122 = .ok (.ifCond .ne 40, 3) := by decide +kernel
theorem dX12_knows_125 : decode cX12_knows 125 = .ok (.aload_n 0, 1) := by decide +kernel
theorem dX12_knows_126 : decode cX12_knows 126 = .ok (.getfield 62, 3) := by decide +kernel
theorem dX12_knows_129 : decode cX12_knows 129 = .ok (.iload_n 2, 1) := by decide +kernel
theorem dX12_knows_130 : decode cX12_knows 130 = .ok (.iaload, 1) := by decide +kernel
theorem dX12_knows_131 : decode cX12_knows 131 = .ok (.iconst (-1), 1) := by decide +kernel
theorem dX12_knows_132 : decode cX12_knows 132 = .ok (.if_icmp .eq 30, 3) := by decide +kernel
theorem dX12_knows_135 : decode cX12_knows 135 = .ok (.aload_n 0, 1) := by decide +kernel
theorem dX12_knows_136 : decode cX12_knows 136 = .ok (.getfield 74, 3) := by decide +kernel
theorem dX12_knows_139 : decode cX12_knows 139 = .ok (.bipush 9, 2) := by decide +kernel
theorem dX12_knows_141 : decode cX12_knows 141 = .ok (.aload_n 0, 1) := by decide +kernel
theorem dX12_knows_142 : decode cX12_knows 142 = .ok (.getfield 62, 3) := by decide +kernel
theorem dX12_knows_145 : decode cX12_knows 145 = .ok (.iload_n 2, 1) := by decide +kernel
theorem dX12_knows_146 : decode cX12_knows 146 = .ok (.iaload, 1) := by decide +kernel
theorem dX12_knows_147 : decode cX12_knows 147 = .ok (.imul, 1) := by decide +kernel
theorem dX12_knows_148 : decode cX12_knows 148 = .ok (.aload_n 0, 1) := by decide +kernel
theorem dX12_knows_149 : decode cX12_knows 149 = .ok (.getfield 65, 3) := by decide +kernel
theorem dX12_knows_152 : decode cX12_knows 152 = .ok (.iload_n 2, 1) := by decide +kernel
theorem dX12_knows_153 : decode cX12_knows 153 = .ok (.iaload, 1) := by decide +kernel
theorem dX12_knows_154 : decode cX12_knows 154 = .ok (.iadd, 1) := by decide +kernel
theorem dX12_knows_155 : decode cX12_knows 155 = .ok (.aload_n 0, 1) := by decide +kernel
theorem dX12_knows_156 : decode cX12_knows 156 = .ok (.getfield 68, 3) := by decide +kernel
theorem dX12_knows_159 : decode cX12_knows 159 = .ok (.iload_n 2, 1) := by decide +kernel
theorem dX12_knows_160 : decode cX12_knows 160 = .ok (.iaload, 1) := by decide +kernel
theorem dX12_knows_161 : decode cX12_knows 161 = .ok (.iastore, 1) := by decide +kernel
theorem dX12_knows_162 : decode cX12_knows 162 = .ok (.iinc 2 1, 3) := by decide +kernel
theorem dX12_knows_165 : decode cX12_knows 165 = .ok (.goto (-54), 3) := by decide +kernel
theorem dX12_knows_168 : decode cX12_knows 168 = .ok (.return_, 1) := by decide +kernel
theorem dX12_countOf_0 : decode cX12_countOf 0 = .ok (.iload_n 2, 1) := by decide +kernel
theorem dX12_countOf_1 : decode cX12_countOf 1 = .ok (.ifCond .lt 9, 3) := by decide +kernel
theorem dX12_countOf_4 : decode cX12_countOf 4 = .ok (.iload_n 2, 1) := by decide +kernel
theorem dX12_countOf_5 : decode cX12_countOf 5 = .ok (.bipush 9, 2) := by decide +kernel
theorem dX12_countOf_7 : decode cX12_countOf 7 = .ok (.if_icmp .lt 7, 3) := by decide +kernel
theorem dX12_countOf_10 : decode cX12_countOf 10 = .ok (.iconst (-1), 1) := by decide +kernel
theorem dX12_countOf_11 : decode cX12_countOf 11 = .ok (.goto 14, 3) := by decide +kernel
theorem dX12_countOf_14 : decode cX12_countOf 14 = .ok (.aload_n 0, 1) := by decide +kernel
theorem dX12_countOf_15 : decode cX12_countOf 15 = .ok (.getfield 74, 3) := by decide +kernel
theorem dX12_countOf_18 : decode cX12_countOf 18 = .ok (.bipush 9, 2) := by decide +kernel
theorem dX12_countOf_20 : decode cX12_countOf 20 = .ok (.iload_n 1, 1) := by decide +kernel
theorem dX12_countOf_21 : decode cX12_countOf 21 = .ok (.imul, 1) := by decide +kernel
theorem dX12_countOf_22 : decode cX12_countOf 22 = .ok (.iload_n 2, 1) := by decide +kernel
theorem dX12_countOf_23 : decode cX12_countOf 23 = .ok (.iadd, 1) := by decide +kernel
theorem dX12_countOf_24 : decode cX12_countOf 24 = .ok (.iaload, 1) := by decide +kernel
theorem dX12_countOf_25 : decode cX12_countOf 25 = .ok (.ireturn, 1) := by decide +kernel
theorem dX12_count_0 : decode cX12_count 0 = .ok (.aload_n 0, 1) := by decide +kernel
theorem dX12_count_1 : decode cX12_count 1 = .ok (.iconst 0, 1) := by decide +kernel
theorem dX12_count_2 : decode cX12_count 2 = .ok (.putfield 87, 3) := by decide +kernel
theorem dX12_count_5 : decode cX12_count 5 = .ok (.aload_n 0, 1) := by decide +kernel
theorem dX12_count_6 : decode cX12_count 6 = .ok (.invokevirtual 255, 3) := by decide +kernel
theorem dX12_count_9 : decode cX12_count 9 = .ok (.aload_n 0, 1) := by decide +kernel
theorem dX12_count_10 : decode cX12_count 10 = .ok (.iload_n 1, 1) := by decide +kernel
theorem dX12_count_11 : decode cX12_count 11 = .ok (.invokevirtual 252, 3) := by decide +kernel
theorem dX12_count_14 : decode cX12_count 14 = .ok (.ifCond .eq 12, 3) := by decide +kernel
theorem dX12_count_17 : decode cX12_count 17 = .ok (.aload_n 0, 1) := by decide +kernel
theorem dX12_count_18 : decode cX12_count 18 = .ok (.iload_n 1, 1) := by decide +kernel
theorem dX12_count_19 : decode cX12_count 19 = .ok (.iload_n 2, 1) := by decide +kernel
theorem dX12_count_20 : decode cX12_count 20 = .ok (.invokevirtual 258, 3) := by decide +kernel
theorem dX12_count_23 : decode cX12_count 23 = .ok (.goto 4, 3) := by decide +kernel
theorem dX12_count_26 : decode cX12_count 26 = .ok (.iconst (-1), 1) := by decide +kernel
theorem dX12_count_27 : decode cX12_count 27 = .ok (.ireturn, 1) := by decide +kernel
theorem dX12_areYears_0 : decode cX12_areYears 0 = .ok (.iload_n 0, 1) := by decide +kernel
theorem dX12_areYears_1 : decode cX12_areYears 1 = .ok (.ifCond .lt 26, 3) := by decide +kernel
theorem dX12_areYears_4 : decode cX12_areYears 4 = .ok (.iload_n 1, 1) := by decide +kernel
theorem dX12_areYears_5 : decode cX12_areYears 5 = .ok (.iload_n 0, 1) := by decide +kernel
theorem dX12_areYears_6 : decode cX12_areYears 6 = .ok (.if_icmp .lt 21, 3) := by decide +kernel
theorem dX12_areYears_9 : decode cX12_areYears 9 = .ok (.iload_n 1, 1) := by decide +kernel
theorem dX12_areYears_10 : decode cX12_areYears 10 = .ok (.bipush 9, 2) := by decide +kernel
theorem dX12_areYears_12 : decode cX12_areYears 12 = .ok (.if_icmp .ge 15, 3) := by decide +kernel
theorem dX12_areYears_15 : decode cX12_areYears 15 = .ok (.iload_n 1, 1) := by decide +kernel
theorem dX12_areYears_16 : decode cX12_areYears 16 = .ok (.iload_n 0, 1) := by decide +kernel
theorem dX12_areYears_17 : decode cX12_areYears 17 = .ok (.isub, 1) := by decide +kernel
theorem dX12_areYears_18 : decode cX12_areYears 18 = .ok (.bipush 6, 2) := by decide +kernel
theorem dX12_areYears_20 : decode cX12_areYears 20 = .ok (.if_icmp .ge 7, 3) := by decide +kernel
theorem dX12_areYears_23 : decode cX12_areYears 23 = .ok (.iconst 1, 1) := by decide +kernel
theorem dX12_areYears_24 : decode cX12_areYears 24 = .ok (.goto 4, 3) := by decide +kernel
theorem dX12_areYears_27 : decode cX12_areYears 27 = .ok (.iconst 0, 1) := by decide +kernel
theorem dX12_areYears_28 : decode cX12_areYears 28 = .ok (.ireturn, 1) := by decide +kernel
theorem dX12_meanOf_0 : decode cX12_meanOf 0 = .ok (.iconst 0, 1) := by decide +kernel
theorem dX12_meanOf_1 : decode cX12_meanOf 1 = .ok (.istore_n 2, 1) := by decide +kernel
theorem dX12_meanOf_2 : decode cX12_meanOf 2 = .ok (.iconst 0, 1) := by decide +kernel
theorem dX12_meanOf_3 : decode cX12_meanOf 3 = .ok (.istore_n 3, 1) := by decide +kernel
theorem dX12_meanOf_4 : decode cX12_meanOf 4 = .ok (.iload_n 3, 1) := by decide +kernel
theorem dX12_meanOf_5 : decode cX12_meanOf 5 = .ok (.bipush 10, 2) := by decide +kernel
theorem dX12_meanOf_7 : decode cX12_meanOf 7 = .ok (.if_icmp .ge 23, 3) := by decide +kernel
theorem dX12_meanOf_10 : decode cX12_meanOf 10 = .ok (.iload_n 2, 1) := by decide +kernel
theorem dX12_meanOf_11 : decode cX12_meanOf 11 = .ok (.aload_n 0, 1) := by decide +kernel
theorem dX12_meanOf_12 : decode cX12_meanOf 12 = .ok (.getfield 21, 3) := by decide +kernel
theorem dX12_meanOf_15 : decode cX12_meanOf 15 = .ok (.bipush 10, 2) := by decide +kernel
theorem dX12_meanOf_17 : decode cX12_meanOf 17 = .ok (.iload_n 1, 1) := by decide +kernel
theorem dX12_meanOf_18 : decode cX12_meanOf 18 = .ok (.imul, 1) := by decide +kernel
theorem dX12_meanOf_19 : decode cX12_meanOf 19 = .ok (.iload_n 3, 1) := by decide +kernel
theorem dX12_meanOf_20 : decode cX12_meanOf 20 = .ok (.iadd, 1) := by decide +kernel
theorem dX12_meanOf_21 : decode cX12_meanOf 21 = .ok (.iaload, 1) := by decide +kernel
theorem dX12_meanOf_22 : decode cX12_meanOf 22 = .ok (.iadd, 1) := by decide +kernel
theorem dX12_meanOf_23 : decode cX12_meanOf 23 = .ok (.istore_n 2, 1) := by decide +kernel
theorem dX12_meanOf_24 : decode cX12_meanOf 24 = .ok (.iinc 3 1, 3) := by decide +kernel
theorem dX12_meanOf_27 : decode cX12_meanOf 27 = .ok (.goto (-23), 3) := by decide +kernel
theorem dX12_meanOf_30 : decode cX12_meanOf 30 = .ok (.iload_n 2, 1) := by decide +kernel
theorem dX12_meanOf_31 : decode cX12_meanOf 31 = .ok (.ireturn, 1) := by decide +kernel
theorem dX12_likelyOf_0 : decode cX12_likelyOf 0 = .ok (.aload_n 0, 1) := by decide +kernel
theorem dX12_likelyOf_1 : decode cX12_likelyOf 1 = .ok (.getfield 18, 3) := by decide +kernel
theorem dX12_likelyOf_4 : decode cX12_likelyOf 4 = .ok (.iload_n 1, 1) := by decide +kernel
theorem dX12_likelyOf_5 : decode cX12_likelyOf 5 = .ok (.iaload, 1) := by decide +kernel
theorem dX12_likelyOf_6 : decode cX12_likelyOf 6 = .ok (.i2l, 1) := by decide +kernel
theorem dX12_likelyOf_7 : decode cX12_likelyOf 7 = .ok (.lstore 5, 2) := by decide +kernel
theorem dX12_likelyOf_9 : decode cX12_likelyOf 9 = .ok (.iload_n 3, 1) := by decide +kernel
theorem dX12_likelyOf_10 : decode cX12_likelyOf 10 = .ok (.istore 7, 2) := by decide +kernel
theorem dX12_likelyOf_12 : decode cX12_likelyOf 12 = .ok (.iload 7, 2) := by decide +kernel
theorem dX12_likelyOf_14 : decode cX12_likelyOf 14 = .ok (.iload 4, 2) := by decide +kernel
theorem dX12_likelyOf_16 : decode cX12_likelyOf 16 = .ok (.if_icmp .gt 81, 3) := by decide +kernel
theorem dX12_likelyOf_19 : decode cX12_likelyOf 19 = .ok (.aload_n 0, 1) := by decide +kernel
theorem dX12_likelyOf_20 : decode cX12_likelyOf 20 = .ok (.iload_n 2, 1) := by decide +kernel
theorem dX12_likelyOf_21 : decode cX12_likelyOf 21 = .ok (.iload 7, 2) := by decide +kernel
theorem dX12_likelyOf_23 : decode cX12_likelyOf 23 = .ok (.invokevirtual 258, 3) := by decide +kernel
theorem dX12_likelyOf_26 : decode cX12_likelyOf 26 = .ok (.istore 8, 2) := by decide +kernel
theorem dX12_likelyOf_28 : decode cX12_likelyOf 28 = .ok (.iload 8, 2) := by decide +kernel
theorem dX12_likelyOf_30 : decode cX12_likelyOf 30 = .ok (.iconst (-1), 1) := by decide +kernel
theorem dX12_likelyOf_31 : decode cX12_likelyOf 31 = .ok (.if_icmp .ne 6, 3) := by decide +kernel
theorem dX12_likelyOf_34 : decode cX12_likelyOf 34 = .ok (.goto 57, 3) := by decide +kernel
theorem dX12_likelyOf_37 : decode cX12_likelyOf 37 = .ok (.iconst 0, 1) := by decide +kernel
theorem dX12_likelyOf_38 : decode cX12_likelyOf 38 = .ok (.istore 9, 2) := by decide +kernel
theorem dX12_likelyOf_40 : decode cX12_likelyOf 40 = .ok (.iconst 0, 1) := by decide +kernel
theorem dX12_likelyOf_41 : decode cX12_likelyOf 41 = .ok (.istore 10, 2) := by decide +kernel
theorem dX12_likelyOf_43 : decode cX12_likelyOf 43 = .ok (.iload 10, 2) := by decide +kernel
theorem dX12_likelyOf_45 : decode cX12_likelyOf 45 = .ok (.bipush 10, 2) := by decide +kernel
theorem dX12_likelyOf_47 : decode cX12_likelyOf 47 = .ok (.if_icmp .ge 36, 3) := by decide +kernel
theorem dX12_likelyOf_50 : decode cX12_likelyOf 50 = .ok (.iload 9, 2) := by decide +kernel
theorem dX12_likelyOf_52 : decode cX12_likelyOf 52 = .ok (.aload_n 0, 1) := by decide +kernel
theorem dX12_likelyOf_53 : decode cX12_likelyOf 53 = .ok (.getfield 21, 3) := by decide +kernel
theorem dX12_likelyOf_56 : decode cX12_likelyOf 56 = .ok (.bipush 10, 2) := by decide +kernel
theorem dX12_likelyOf_58 : decode cX12_likelyOf 58 = .ok (.iload_n 1, 1) := by decide +kernel
theorem dX12_likelyOf_59 : decode cX12_likelyOf 59 = .ok (.imul, 1) := by decide +kernel
theorem dX12_likelyOf_60 : decode cX12_likelyOf 60 = .ok (.iload 10, 2) := by decide +kernel
theorem dX12_likelyOf_62 : decode cX12_likelyOf 62 = .ok (.iadd, 1) := by decide +kernel
theorem dX12_likelyOf_63 : decode cX12_likelyOf 63 = .ok (.iaload, 1) := by decide +kernel
theorem dX12_likelyOf_64 : decode cX12_likelyOf 64 = .ok (.iload 8, 2) := by decide +kernel
theorem dX12_likelyOf_66 : decode cX12_likelyOf 66 = .ok (.if_icmp .ne 7, 3) := by decide +kernel
theorem dX12_likelyOf_69 : decode cX12_likelyOf 69 = .ok (.iconst 1, 1) := by decide +kernel
theorem dX12_likelyOf_70 : decode cX12_likelyOf 70 = .ok (.goto 4, 3) := by decide +kernel
theorem dX12_likelyOf_73 : decode cX12_likelyOf 73 = .ok (.iconst 0, 1) := by decide +kernel
theorem dX12_likelyOf_74 : decode cX12_likelyOf 74 = .ok (.iadd, 1) := by decide +kernel
theorem dX12_likelyOf_75 : decode cX12_likelyOf 75 = .ok (.istore 9, 2) := by decide +kernel
theorem dX12_likelyOf_77 : decode cX12_likelyOf 77 = .ok (.iinc 10 1, 3) := by decide +kernel
theorem dX12_likelyOf_80 : decode cX12_likelyOf 80 = .ok (.goto (-37), 3) := by decide +kernel
theorem dX12_likelyOf_83 : decode cX12_likelyOf 83 = .ok (.lload 5, 2) := by decide +kernel
theorem dX12_likelyOf_85 : decode cX12_likelyOf 85 = .ok (.iload 9, 2) := by decide +kernel
theorem dX12_likelyOf_87 : decode cX12_likelyOf 87 = .ok (.i2l, 1) := by decide +kernel
theorem dX12_likelyOf_88 : decode cX12_likelyOf 88 = .ok (.lmul, 1) := by decide +kernel
theorem dX12_likelyOf_89 : decode cX12_likelyOf 89 = .ok (.lstore 5, 2) := by decide +kernel
theorem dX12_likelyOf_91 : decode cX12_likelyOf 91 = .ok (.iinc 7 1, 3) := by decide +kernel
theorem dX12_likelyOf_94 : decode cX12_likelyOf 94 = .ok (.goto (-82), 3) := by decide +kernel
theorem dX12_likelyOf_97 : decode cX12_likelyOf 97 = .ok (.lload 5, 2) := by decide +kernel
theorem dX12_likelyOf_99 : decode cX12_likelyOf 99 = .ok (.lreturn, 1) := by decide +kernel
theorem dX12_terms_0 : decode cX12_terms 0 = .ok (.lload_n 1, 1) := by decide +kernel
theorem dX12_terms_1 : decode cX12_terms 1 = .ok (.invokestatic 261, 3) := by decide +kernel
theorem dX12_terms_4 : decode cX12_terms 4 = .ok (.lstore 5, 2) := by decide +kernel
theorem dX12_terms_6 : decode cX12_terms 6 = .ok (.lload_n 3, 1) := by decide +kernel
theorem dX12_terms_7 : decode cX12_terms 7 = .ok (.lstore 7, 2) := by decide +kernel
theorem dX12_terms_9 : decode cX12_terms 9 = .ok (.lload 7, 2) := by decide +kernel
theorem dX12_terms_11 : decode cX12_terms 11 = .ok (.lconst 0, 1) := by decide +kernel
theorem dX12_terms_12 : decode cX12_terms 12 = .ok (.lcmp, 1) := by decide +kernel
theorem dX12_terms_13 : decode cX12_terms 13 = .ok (.ifCond .eq 21, 3) := by decide +kernel
theorem dX12_terms_16 : decode cX12_terms 16 = .ok (.lload 5, 2) := by decide +kernel
theorem dX12_terms_18 : decode cX12_terms 18 = .ok (.lload 7, 2) := by decide +kernel
theorem dX12_terms_20 : decode cX12_terms 20 = .ok (.lrem, 1) := by decide +kernel
theorem dX12_terms_21 : decode cX12_terms 21 = .ok (.lstore 9, 2) := by decide +kernel
theorem dX12_terms_23 : decode cX12_terms 23 = .ok (.lload 7, 2) := by decide +kernel
theorem dX12_terms_25 : decode cX12_terms 25 = .ok (.lstore 5, 2) := by decide +kernel
theorem dX12_terms_27 : decode cX12_terms 27 = .ok (.lload 9, 2) := by decide +kernel
theorem dX12_terms_29 : decode cX12_terms 29 = .ok (.lstore 7, 2) := by decide +kernel
theorem dX12_terms_31 : decode cX12_terms 31 = .ok (.goto (-22), 3) := by decide +kernel
theorem dX12_terms_34 : decode cX12_terms 34 = .ok (.aload_n 0, 1) := by decide +kernel
theorem dX12_terms_35 : decode cX12_terms 35 = .ok (.lload_n 3, 1) := by decide +kernel
theorem dX12_terms_36 : decode cX12_terms 36 = .ok (.lconst 0, 1) := by decide +kernel
theorem dX12_terms_37 : decode cX12_terms 37 = .ok (.lcmp, 1) := by decide +kernel
theorem dX12_terms_38 : decode cX12_terms 38 = .ok (.ifCond .ne 7, 3) := by decide +kernel
theorem dX12_terms_41 : decode cX12_terms 41 = .ok (.lconst 0, 1) := by decide +kernel
theorem dX12_terms_42 : decode cX12_terms 42 = .ok (.goto 7, 3) := by decide +kernel
theorem dX12_terms_45 : decode cX12_terms 45 = .ok (.lload_n 1, 1) := by decide +kernel
theorem dX12_terms_46 : decode cX12_terms 46 = .ok (.lload 5, 2) := by decide +kernel
theorem dX12_terms_48 : decode cX12_terms 48 = .ok (.ldiv, 1) := by decide +kernel
theorem dX12_terms_49 : decode cX12_terms 49 = .ok (.putfield 267, 3) := by decide +kernel
theorem dX12_terms_52 : decode cX12_terms 52 = .ok (.aload_n 0, 1) := by decide +kernel
theorem dX12_terms_53 : decode cX12_terms 53 = .ok (.lload_n 3, 1) := by decide +kernel
theorem dX12_terms_54 : decode cX12_terms 54 = .ok (.lconst 0, 1) := by decide +kernel
theorem dX12_terms_55 : decode cX12_terms 55 = .ok (.lcmp, 1) := by decide +kernel
theorem dX12_terms_56 : decode cX12_terms 56 = .ok (.ifCond .ne 7, 3) := by decide +kernel
theorem dX12_terms_59 : decode cX12_terms 59 = .ok (.lconst 0, 1) := by decide +kernel
theorem dX12_terms_60 : decode cX12_terms 60 = .ok (.goto 7, 3) := by decide +kernel
theorem dX12_terms_63 : decode cX12_terms 63 = .ok (.lload_n 3, 1) := by decide +kernel
theorem dX12_terms_64 : decode cX12_terms 64 = .ok (.lload 5, 2) := by decide +kernel
theorem dX12_terms_66 : decode cX12_terms 66 = .ok (.ldiv, 1) := by decide +kernel
theorem dX12_terms_67 : decode cX12_terms 67 = .ok (.putfield 271, 3) := by decide +kernel
theorem dX12_terms_70 : decode cX12_terms 70 = .ok (.return_, 1) := by decide +kernel
theorem dX12_rates_0 : decode cX12_rates 0 = .ok (.lconst 0, 1) := by decide +kernel
theorem dX12_rates_1 : decode cX12_rates 1 = .ok (.lstore 4, 2) := by decide +kernel
theorem dX12_rates_3 : decode cX12_rates 3 = .ok (.lconst 0, 1) := by decide +kernel
theorem dX12_rates_4 : decode cX12_rates 4 = .ok (.lstore 6, 2) := by decide +kernel
theorem dX12_rates_6 : decode cX12_rates 6 = .ok (.iconst 0, 1) := by decide +kernel
theorem dX12_rates_7 : decode cX12_rates 7 = .ok (.istore 8, 2) := by decide +kernel
theorem dX12_rates_9 : decode cX12_rates 9 = .ok (.iload 8, 2) := by decide +kernel
theorem dX12_rates_11 : decode cX12_rates 11 = .ok (.aload_n 0, 1) := by decide +kernel
theorem dX12_rates_12 : decode cX12_rates 12 = .ok (.getfield 237, 3) := by decide +kernel
theorem dX12_rates_15 : decode cX12_rates 15 = .ok (.if_icmp .ge 42, 3) := by decide +kernel
theorem dX12_rates_18 : decode cX12_rates 18 = .ok (.aload_n 0, 1) := by decide +kernel
theorem dX12_rates_19 : decode cX12_rates 19 = .ok (.iload 8, 2) := by decide +kernel
theorem dX12_rates_21 : decode cX12_rates 21 = .ok (.iload_n 1, 1) := by decide +kernel
theorem dX12_rates_22 : decode cX12_rates 22 = .ok (.iload_n 2, 1) := by decide +kernel
theorem dX12_rates_23 : decode cX12_rates 23 = .ok (.iload_n 3, 1) := by decide +kernel
theorem dX12_rates_24 : decode cX12_rates 24 = .ok (.invokevirtual 274, 3) := by decide +kernel
theorem dX12_rates_27 : decode cX12_rates 27 = .ok (.lstore 9, 2) := by decide +kernel
theorem dX12_rates_29 : decode cX12_rates 29 = .ok (.lload 4, 2) := by decide +kernel
theorem dX12_rates_31 : decode cX12_rates 31 = .ok (.lload 9, 2) := by decide +kernel
theorem dX12_rates_33 : decode cX12_rates 33 = .ok (.aload_n 0, 1) := by decide +kernel
theorem dX12_rates_34 : decode cX12_rates 34 = .ok (.iload 8, 2) := by decide +kernel
theorem dX12_rates_36 : decode cX12_rates 36 = .ok (.invokevirtual 278, 3) := by decide +kernel
theorem dX12_rates_39 : decode cX12_rates 39 = .ok (.i2l, 1) := by decide +kernel
theorem dX12_rates_40 : decode cX12_rates 40 = .ok (.lmul, 1) := by decide +kernel
theorem dX12_rates_41 : decode cX12_rates 41 = .ok (.ladd, 1) := by decide +kernel
theorem dX12_rates_42 : decode cX12_rates 42 = .ok (.lstore 4, 2) := by decide +kernel
theorem dX12_rates_44 : decode cX12_rates 44 = .ok (.lload 6, 2) := by decide +kernel
theorem dX12_rates_46 : decode cX12_rates 46 = .ok (.lload 9, 2) := by decide +kernel
theorem dX12_rates_48 : decode cX12_rates 48 = .ok (.ladd, 1) := by decide +kernel
theorem dX12_rates_49 : decode cX12_rates 49 = .ok (.lstore 6, 2) := by decide +kernel
theorem dX12_rates_51 : decode cX12_rates 51 = .ok (.iinc 8 1, 3) := by decide +kernel
theorem dX12_rates_54 : decode cX12_rates 54 = .ok (.goto (-45), 3) := by decide +kernel
theorem dX12_rates_57 : decode cX12_rates 57 = .ok (.aload_n 0, 1) := by decide +kernel
theorem dX12_rates_58 : decode cX12_rates 58 = .ok (.lload 4, 2) := by decide +kernel
theorem dX12_rates_60 : decode cX12_rates 60 = .ok (.ldc2_w 282, 3) := by decide +kernel
theorem dX12_rates_63 : decode cX12_rates 63 = .ok (.lload 6, 2) := by decide +kernel
theorem dX12_rates_65 : decode cX12_rates 65 = .ok (.lmul, 1) := by decide +kernel
theorem dX12_rates_66 : decode cX12_rates 66 = .ok (.invokevirtual 284, 3) := by decide +kernel
theorem dX12_rates_69 : decode cX12_rates 69 = .ok (.return_, 1) := by decide +kernel
theorem dX12_likely_0 : decode cX12_likely 0 = .ok (.aload_n 0, 1) := by decide +kernel
theorem dX12_likely_1 : decode cX12_likely 1 = .ok (.iconst 0, 1) := by decide +kernel
theorem dX12_likely_2 : decode cX12_likely 2 = .ok (.putfield 87, 3) := by decide +kernel
theorem dX12_likely_5 : decode cX12_likely 5 = .ok (.iload_n 1, 1) := by decide +kernel
theorem dX12_likely_6 : decode cX12_likely 6 = .ok (.ifCond .lt 28, 3) := by decide +kernel
theorem dX12_likely_9 : decode cX12_likely 9 = .ok (.iload_n 1, 1) := by decide +kernel
theorem dX12_likely_10 : decode cX12_likely 10 = .ok (.aload_n 0, 1) := by decide +kernel
theorem dX12_likely_11 : decode cX12_likely 11 = .ok (.getfield 237, 3) := by decide +kernel
theorem dX12_likely_14 : decode cX12_likely 14 = .ok (.if_icmp .ge 20, 3) := by decide +kernel
theorem dX12_likely_17 : decode cX12_likely 17 = .ok (.aload_n 0, 1) := by decide +kernel
theorem dX12_likely_18 : decode cX12_likely 18 = .ok (.iload_n 2, 1) := by decide +kernel
theorem dX12_likely_19 : decode cX12_likely 19 = .ok (.invokevirtual 252, 3) := by decide +kernel
theorem dX12_likely_22 : decode cX12_likely 22 = .ok (.ifCond .eq 12, 3) := by decide +kernel
theorem dX12_likely_25 : decode cX12_likely 25 = .ok (.iload_n 3, 1) := by decide +kernel
theorem dX12_likely_26 : decode cX12_likely 26 = .ok (.iload 4, 2) := by decide +kernel
theorem dX12_likely_28 : decode cX12_likely 28 = .ok (.invokestatic 288, 3) := by decide +kernel
theorem dX12_likely_31 : decode cX12_likely 31 = .ok (.ifCond .ne 7, 3) := by decide +kernel
theorem dX12_likely_34 : decode cX12_likely 34 = .ok (.ldc2_w 292, 3) := by decide +kernel
theorem dX12_likely_37 : decode cX12_likely 37 = .ok (.lreturn, 1) := by decide +kernel
theorem dX12_likely_38 : decode cX12_likely 38 = .ok (.aload_n 0, 1) := by decide +kernel
theorem dX12_likely_39 : decode cX12_likely 39 = .ok (.invokevirtual 255, 3) := by decide +kernel
theorem dX12_likely_42 : decode cX12_likely 42 = .ok (.aload_n 0, 1) := by decide +kernel
theorem dX12_likely_43 : decode cX12_likely 43 = .ok (.iload_n 1, 1) := by decide +kernel
theorem dX12_likely_44 : decode cX12_likely 44 = .ok (.iload_n 2, 1) := by decide +kernel
theorem dX12_likely_45 : decode cX12_likely 45 = .ok (.iload_n 3, 1) := by decide +kernel
theorem dX12_likely_46 : decode cX12_likely 46 = .ok (.iload 4, 2) := by decide +kernel
theorem dX12_likely_48 : decode cX12_likely 48 = .ok (.invokevirtual 274, 3) := by decide +kernel
theorem dX12_likely_51 : decode cX12_likely 51 = .ok (.lreturn, 1) := by decide +kernel
theorem dX12_rate_0 : decode cX12_rate 0 = .ok (.aload_n 0, 1) := by decide +kernel
theorem dX12_rate_1 : decode cX12_rate 1 = .ok (.iconst 0, 1) := by decide +kernel
theorem dX12_rate_2 : decode cX12_rate 2 = .ok (.putfield 87, 3) := by decide +kernel
theorem dX12_rate_5 : decode cX12_rate 5 = .ok (.aload_n 0, 1) := by decide +kernel
theorem dX12_rate_6 : decode cX12_rate 6 = .ok (.iload_n 1, 1) := by decide +kernel
theorem dX12_rate_7 : decode cX12_rate 7 = .ok (.invokevirtual 252, 3) := by decide +kernel
theorem dX12_rate_10 : decode cX12_rate 10 = .ok (.ifCond .eq 22, 3) := by decide +kernel
theorem dX12_rate_13 : decode cX12_rate 13 = .ok (.iload_n 2, 1) := by decide +kernel
theorem dX12_rate_14 : decode cX12_rate 14 = .ok (.iload_n 3, 1) := by decide +kernel
theorem dX12_rate_15 : decode cX12_rate 15 = .ok (.invokestatic 288, 3) := by decide +kernel
theorem dX12_rate_18 : decode cX12_rate 18 = .ok (.ifCond .eq 14, 3) := by decide +kernel
theorem dX12_rate_21 : decode cX12_rate 21 = .ok (.iload 4, 2) := by decide +kernel
theorem dX12_rate_23 : decode cX12_rate 23 = .ok (.ifCond .lt 9, 3) := by decide +kernel
theorem dX12_rate_26 : decode cX12_rate 26 = .ok (.iload 4, 2) := by decide +kernel
theorem dX12_rate_28 : decode cX12_rate 28 = .ok (.iconst 1, 1) := by decide +kernel
theorem dX12_rate_29 : decode cX12_rate 29 = .ok (.if_icmp .le 7, 3) := by decide +kernel
theorem dX12_rate_32 : decode cX12_rate 32 = .ok (.ldc2_w 292, 3) := by decide +kernel
theorem dX12_rate_35 : decode cX12_rate 35 = .ok (.lreturn, 1) := by decide +kernel
theorem dX12_rate_36 : decode cX12_rate 36 = .ok (.aload_n 0, 1) := by decide +kernel
theorem dX12_rate_37 : decode cX12_rate 37 = .ok (.invokevirtual 255, 3) := by decide +kernel
theorem dX12_rate_40 : decode cX12_rate 40 = .ok (.aload_n 0, 1) := by decide +kernel
theorem dX12_rate_41 : decode cX12_rate 41 = .ok (.iload_n 1, 1) := by decide +kernel
theorem dX12_rate_42 : decode cX12_rate 42 = .ok (.iload_n 2, 1) := by decide +kernel
theorem dX12_rate_43 : decode cX12_rate 43 = .ok (.iload_n 3, 1) := by decide +kernel
theorem dX12_rate_44 : decode cX12_rate 44 = .ok (.invokevirtual 294, 3) := by decide +kernel
theorem dX12_rate_47 : decode cX12_rate 47 = .ok (.iload 4, 2) := by decide +kernel
theorem dX12_rate_49 : decode cX12_rate 49 = .ok (.ifCond .ne 10, 3) := by decide +kernel
theorem dX12_rate_52 : decode cX12_rate 52 = .ok (.aload_n 0, 1) := by decide +kernel
theorem dX12_rate_53 : decode cX12_rate 53 = .ok (.getfield 267, 3) := by decide +kernel
theorem dX12_rate_56 : decode cX12_rate 56 = .ok (.goto 7, 3) := by decide +kernel
theorem dX12_rate_59 : decode cX12_rate 59 = .ok (.aload_n 0, 1) := by decide +kernel
theorem dX12_rate_60 : decode cX12_rate 60 = .ok (.getfield 271, 3) := by decide +kernel
theorem dX12_rate_63 : decode cX12_rate 63 = .ok (.lreturn, 1) := by decide +kernel
theorem dX12_span_0 : decode cX12_span 0 = .ok (.aload_n 0, 1) := by decide +kernel
theorem dX12_span_1 : decode cX12_span 1 = .ok (.iconst 0, 1) := by decide +kernel
theorem dX12_span_2 : decode cX12_span 2 = .ok (.putfield 87, 3) := by decide +kernel
theorem dX12_span_5 : decode cX12_span 5 = .ok (.aload_n 0, 1) := by decide +kernel
theorem dX12_span_6 : decode cX12_span 6 = .ok (.iload_n 1, 1) := by decide +kernel
theorem dX12_span_7 : decode cX12_span 7 = .ok (.invokevirtual 252, 3) := by decide +kernel
theorem dX12_span_10 : decode cX12_span 10 = .ok (.ifCond .eq 22, 3) := by decide +kernel
theorem dX12_span_13 : decode cX12_span 13 = .ok (.iload_n 2, 1) := by decide +kernel
theorem dX12_span_14 : decode cX12_span 14 = .ok (.iload_n 3, 1) := by decide +kernel
theorem dX12_span_15 : decode cX12_span 15 = .ok (.invokestatic 288, 3) := by decide +kernel
theorem dX12_span_18 : decode cX12_span 18 = .ok (.ifCond .eq 14, 3) := by decide +kernel
theorem dX12_span_21 : decode cX12_span 21 = .ok (.iload 4, 2) := by decide +kernel
theorem dX12_span_23 : decode cX12_span 23 = .ok (.ifCond .lt 9, 3) := by decide +kernel
theorem dX12_span_26 : decode cX12_span 26 = .ok (.iload 4, 2) := by decide +kernel
theorem dX12_span_28 : decode cX12_span 28 = .ok (.iconst 1, 1) := by decide +kernel
theorem dX12_span_29 : decode cX12_span 29 = .ok (.if_icmp .le 5, 3) := by decide +kernel
theorem dX12_span_32 : decode cX12_span 32 = .ok (.iconst (-1), 1) := by decide +kernel
theorem dX12_span_33 : decode cX12_span 33 = .ok (.ireturn, 1) := by decide +kernel
theorem dX12_span_34 : decode cX12_span 34 = .ok (.aload_n 0, 1) := by decide +kernel
theorem dX12_span_35 : decode cX12_span 35 = .ok (.invokevirtual 255, 3) := by decide +kernel
theorem dX12_span_38 : decode cX12_span 38 = .ok (.lconst 0, 1) := by decide +kernel
theorem dX12_span_39 : decode cX12_span 39 = .ok (.lstore 5, 2) := by decide +kernel
theorem dX12_span_41 : decode cX12_span 41 = .ok (.iconst 0, 1) := by decide +kernel
theorem dX12_span_42 : decode cX12_span 42 = .ok (.istore 7, 2) := by decide +kernel
theorem dX12_span_44 : decode cX12_span 44 = .ok (.iload 7, 2) := by decide +kernel
theorem dX12_span_46 : decode cX12_span 46 = .ok (.aload_n 0, 1) := by decide +kernel
theorem dX12_span_47 : decode cX12_span 47 = .ok (.getfield 237, 3) := by decide +kernel
theorem dX12_span_50 : decode cX12_span 50 = .ok (.if_icmp .ge 23, 3) := by decide +kernel
theorem dX12_span_53 : decode cX12_span 53 = .ok (.lload 5, 2) := by decide +kernel
theorem dX12_span_55 : decode cX12_span 55 = .ok (.aload_n 0, 1) := by decide +kernel
theorem dX12_span_56 : decode cX12_span 56 = .ok (.iload 7, 2) := by decide +kernel
theorem dX12_span_58 : decode cX12_span 58 = .ok (.iload_n 1, 1) := by decide +kernel
theorem dX12_span_59 : decode cX12_span 59 = .ok (.iload_n 2, 1) := by decide +kernel
theorem dX12_span_60 : decode cX12_span 60 = .ok (.iload_n 3, 1) := by decide +kernel
theorem dX12_span_61 : decode cX12_span 61 = .ok (.invokevirtual 274, 3) := by decide +kernel
theorem dX12_span_64 : decode cX12_span 64 = .ok (.ladd, 1) := by decide +kernel
theorem dX12_span_65 : decode cX12_span 65 = .ok (.lstore 5, 2) := by decide +kernel
theorem dX12_span_67 : decode cX12_span 67 = .ok (.iinc 7 1, 3) := by decide +kernel
theorem dX12_span_70 : decode cX12_span 70 = .ok (.goto (-26), 3) := by decide +kernel
theorem dX12_span_73 : decode cX12_span 73 = .ok (.lload 5, 2) := by decide +kernel
theorem dX12_span_75 : decode cX12_span 75 = .ok (.lconst 0, 1) := by decide +kernel
theorem dX12_span_76 : decode cX12_span 76 = .ok (.lcmp, 1) := by decide +kernel
theorem dX12_span_77 : decode cX12_span 77 = .ok (.ifCond .ne 6, 3) := by decide +kernel
theorem dX12_span_80 : decode cX12_span 80 = .ok (.bipush (-2), 2) := by decide +kernel
theorem dX12_span_82 : decode cX12_span 82 = .ok (.ireturn, 1) := by decide +kernel
theorem dX12_span_83 : decode cX12_span 83 = .ok (.lconst 0, 1) := by decide +kernel
theorem dX12_span_84 : decode cX12_span 84 = .ok (.lstore 7, 2) := by decide +kernel
theorem dX12_span_86 : decode cX12_span 86 = .ok (.iconst 0, 1) := by decide +kernel
theorem dX12_span_87 : decode cX12_span 87 = .ok (.istore 9, 2) := by decide +kernel
theorem dX12_span_89 : decode cX12_span 89 = .ok (.ldc_w 298, 3) := by decide +kernel
theorem dX12_span_92 : decode cX12_span 92 = .ok (.istore 10, 2) := by decide +kernel
theorem dX12_span_94 : decode cX12_span 94 = .ok (.iconst 0, 1) := by decide +kernel
theorem dX12_span_95 : decode cX12_span 95 = .ok (.istore 11, 2) := by decide +kernel
theorem dX12_span_97 : decode cX12_span 97 = .ok (.ldc2_w 299, 3) := by decide +kernel
theorem dX12_span_100 : decode cX12_span 100 = .ok (.lload 7, 2) := by decide +kernel
theorem dX12_span_102 : decode cX12_span 102 = .ok (.lmul, 1) := by decide +kernel
theorem dX12_span_103 : decode cX12_span 103 = .ok (.ldc2_w 301, 3) := by decide +kernel
theorem dX12_span_106 : decode cX12_span 106 = .ok (.lload 5, 2) := by decide +kernel
theorem dX12_span_108 : decode cX12_span 108 = .ok (.lmul, 1) := by decide +kernel
theorem dX12_span_109 : decode cX12_span 109 = .ok (.lcmp, 1) := by decide +kernel
theorem dX12_span_110 : decode cX12_span 110 = .ok (.ifCond .ge 135, 3) := by decide +kernel
theorem dX12_span_113 : decode cX12_span 113 = .ok (.iconst (-1), 1) := by decide +kernel
theorem dX12_span_114 : decode cX12_span 114 = .ok (.istore 12, 2) := by decide +kernel
theorem dX12_span_116 : decode cX12_span 116 = .ok (.iconst 0, 1) := by decide +kernel
theorem dX12_span_117 : decode cX12_span 117 = .ok (.istore 13, 2) := by decide +kernel
theorem dX12_span_119 : decode cX12_span 119 = .ok (.iload 13, 2) := by decide +kernel
theorem dX12_span_121 : decode cX12_span 121 = .ok (.aload_n 0, 1) := by decide +kernel
theorem dX12_span_122 : decode cX12_span 122 = .ok (.getfield 237, 3) := by decide +kernel
theorem dX12_span_125 : decode cX12_span 125 = .ok (.if_icmp .ge 51, 3) := by decide +kernel
theorem dX12_span_128 : decode cX12_span 128 = .ok (.iload 9, 2) := by decide +kernel
theorem dX12_span_130 : decode cX12_span 130 = .ok (.iload 13, 2) := by decide +kernel
theorem dX12_span_132 : decode cX12_span 132 = .ok (.ishr, 1) := by decide +kernel
theorem dX12_span_133 : decode cX12_span 133 = .ok (.iconst 1, 1) := by decide +kernel
theorem dX12_span_134 : decode cX12_span 134 = .ok (.iand, 1) := by decide +kernel
theorem dX12_span_135 : decode cX12_span 135 = .ok (.ifCond .ne 35, 3) := by decide +kernel
theorem dX12_span_138 : decode cX12_span 138 = .ok (.iload 12, 2) := by decide +kernel
theorem dX12_span_140 : decode cX12_span 140 = .ok (.iconst (-1), 1) := by decide +kernel
theorem dX12_span_141 : decode cX12_span 141 = .ok (.if_icmp .eq 25, 3) := by decide +kernel
theorem dX12_span_144 : decode cX12_span 144 = .ok (.aload_n 0, 1) := by decide +kernel
theorem dX12_span_145 : decode cX12_span 145 = .ok (.iload 13, 2) := by decide +kernel
theorem dX12_span_147 : decode cX12_span 147 = .ok (.iload_n 1, 1) := by decide +kernel
theorem dX12_span_148 : decode cX12_span 148 = .ok (.iload_n 2, 1) := by decide +kernel
theorem dX12_span_149 : decode cX12_span 149 = .ok (.iload_n 3, 1) := by decide +kernel
theorem dX12_span_150 : decode cX12_span 150 = .ok (.invokevirtual 274, 3) := by decide +kernel
theorem dX12_span_153 : decode cX12_span 153 = .ok (.aload_n 0, 1) := by decide +kernel
theorem dX12_span_154 : decode cX12_span 154 = .ok (.iload 12, 2) := by decide +kernel
theorem dX12_span_156 : decode cX12_span 156 = .ok (.iload_n 1, 1) := by decide +kernel
theorem dX12_span_157 : decode cX12_span 157 = .ok (.iload_n 2, 1) := by decide +kernel
theorem dX12_span_158 : decode cX12_span 158 = .ok (.iload_n 3, 1) := by decide +kernel
theorem dX12_span_159 : decode cX12_span 159 = .ok (.invokevirtual 274, 3) := by decide +kernel
theorem dX12_span_162 : decode cX12_span 162 = .ok (.lcmp, 1) := by decide +kernel
theorem dX12_span_163 : decode cX12_span 163 = .ok (.ifCond .le 7, 3) := by decide +kernel
theorem dX12_span_166 : decode cX12_span 166 = .ok (.iload 13, 2) := by decide +kernel
theorem dX12_span_168 : decode cX12_span 168 = .ok (.istore 12, 2) := by decide +kernel
theorem dX12_span_170 : decode cX12_span 170 = .ok (.iinc 13 1, 3) := by decide +kernel
theorem dX12_span_173 : decode cX12_span 173 = .ok (.goto (-54), 3) := by decide +kernel
theorem dX12_span_176 : decode cX12_span 176 = .ok (.iload 9, 2) := by decide +kernel
theorem dX12_span_178 : decode cX12_span 178 = .ok (.iconst 1, 1) := by decide +kernel
theorem dX12_span_179 : decode cX12_span 179 = .ok (.iload 12, 2) := by decide +kernel
theorem dX12_span_181 : decode cX12_span 181 = .ok (.ishl, 1) := by decide +kernel
theorem dX12_span_182 : decode cX12_span 182 = .ok (.ior, 1) := by decide +kernel
theorem dX12_span_183 : decode cX12_span 183 = .ok (.istore 9, 2) := by decide +kernel
theorem dX12_span_185 : decode cX12_span 185 = .ok (.lload 7, 2) := by decide +kernel
theorem dX12_span_187 : decode cX12_span 187 = .ok (.aload_n 0, 1) := by decide +kernel
theorem dX12_span_188 : decode cX12_span 188 = .ok (.iload 12, 2) := by decide +kernel
theorem dX12_span_190 : decode cX12_span 190 = .ok (.iload_n 1, 1) := by decide +kernel
theorem dX12_span_191 : decode cX12_span 191 = .ok (.iload_n 2, 1) := by decide +kernel
theorem dX12_span_192 : decode cX12_span 192 = .ok (.iload_n 3, 1) := by decide +kernel
theorem dX12_span_193 : decode cX12_span 193 = .ok (.invokevirtual 274, 3) := by decide +kernel
theorem dX12_span_196 : decode cX12_span 196 = .ok (.ladd, 1) := by decide +kernel
theorem dX12_span_197 : decode cX12_span 197 = .ok (.lstore 7, 2) := by decide +kernel
theorem dX12_span_199 : decode cX12_span 199 = .ok (.iload 10, 2) := by decide +kernel
theorem dX12_span_201 : decode cX12_span 201 = .ok (.ldc_w 298, 3) := by decide +kernel
theorem dX12_span_204 : decode cX12_span 204 = .ok (.if_icmp .ne 12, 3) := by decide +kernel
theorem dX12_span_207 : decode cX12_span 207 = .ok (.aload_n 0, 1) := by decide +kernel
theorem dX12_span_208 : decode cX12_span 208 = .ok (.iload 12, 2) := by decide +kernel
theorem dX12_span_210 : decode cX12_span 210 = .ok (.invokevirtual 278, 3) := by decide +kernel
theorem dX12_span_213 : decode cX12_span 213 = .ok (.goto 14, 3) := by decide +kernel
theorem dX12_span_216 : decode cX12_span 216 = .ok (.iload 10, 2) := by decide +kernel
theorem dX12_span_218 : decode cX12_span 218 = .ok (.aload_n 0, 1) := by decide +kernel
theorem dX12_span_219 : decode cX12_span 219 = .ok (.iload 12, 2) := by decide +kernel
theorem dX12_span_221 : decode cX12_span 221 = .ok (.invokevirtual 278, 3) := by decide +kernel
theorem dX12_span_224 : decode cX12_span 224 = .ok (.invokestatic 303, 3) := by decide +kernel
theorem dX12_span_227 : decode cX12_span 227 = .ok (.istore 10, 2) := by decide +kernel
theorem dX12_span_229 : decode cX12_span 229 = .ok (.iload 11, 2) := by decide +kernel
theorem dX12_span_231 : decode cX12_span 231 = .ok (.aload_n 0, 1) := by decide +kernel
theorem dX12_span_232 : decode cX12_span 232 = .ok (.iload 12, 2) := by decide +kernel
theorem dX12_span_234 : decode cX12_span 234 = .ok (.invokevirtual 278, 3) := by decide +kernel
theorem dX12_span_237 : decode cX12_span 237 = .ok (.invokestatic 306, 3) := by decide +kernel
theorem dX12_span_240 : decode cX12_span 240 = .ok (.istore 11, 2) := by decide +kernel
theorem dX12_span_242 : decode cX12_span 242 = .ok (.goto (-145), 3) := by decide +kernel
theorem dX12_span_245 : decode cX12_span 245 = .ok (.iload 4, 2) := by decide +kernel
theorem dX12_span_247 : decode cX12_span 247 = .ok (.ifCond .ne 8, 3) := by decide +kernel
theorem dX12_span_250 : decode cX12_span 250 = .ok (.iload 10, 2) := by decide +kernel
theorem dX12_span_252 : decode cX12_span 252 = .ok (.goto 5, 3) := by decide +kernel
theorem dX12_span_255 : decode cX12_span 255 = .ok (.iload 11, 2) := by decide +kernel
theorem dX12_span_257 : decode cX12_span 257 = .ok (.ireturn, 1) := by decide +kernel
theorem dX12_worse_0 : decode cX12_worse 0 = .ok (.aload_n 0, 1) := by decide +kernel
theorem dX12_worse_1 : decode cX12_worse 1 = .ok (.iconst 0, 1) := by decide +kernel
theorem dX12_worse_2 : decode cX12_worse 2 = .ok (.putfield 87, 3) := by decide +kernel
theorem dX12_worse_5 : decode cX12_worse 5 = .ok (.aload_n 0, 1) := by decide +kernel
theorem dX12_worse_6 : decode cX12_worse 6 = .ok (.iload_n 1, 1) := by decide +kernel
theorem dX12_worse_7 : decode cX12_worse 7 = .ok (.invokevirtual 252, 3) := by decide +kernel
theorem dX12_worse_10 : decode cX12_worse 10 = .ok (.ifCond .eq 36, 3) := by decide +kernel
theorem dX12_worse_13 : decode cX12_worse 13 = .ok (.aload_n 0, 1) := by decide +kernel
theorem dX12_worse_14 : decode cX12_worse 14 = .ok (.iload_n 2, 1) := by decide +kernel
theorem dX12_worse_15 : decode cX12_worse 15 = .ok (.invokevirtual 252, 3) := by decide +kernel
theorem dX12_worse_18 : decode cX12_worse 18 = .ok (.ifCond .eq 28, 3) := by decide +kernel
theorem dX12_worse_21 : decode cX12_worse 21 = .ok (.iload_n 1, 1) := by decide +kernel
theorem dX12_worse_22 : decode cX12_worse 22 = .ok (.iload_n 2, 1) := by decide +kernel
theorem dX12_worse_23 : decode cX12_worse 23 = .ok (.if_icmp .eq 23, 3) := by decide +kernel
theorem dX12_worse_26 : decode cX12_worse 26 = .ok (.iload_n 3, 1) := by decide +kernel
theorem dX12_worse_27 : decode cX12_worse 27 = .ok (.iload 4, 2) := by decide +kernel
theorem dX12_worse_29 : decode cX12_worse 29 = .ok (.invokestatic 288, 3) := by decide +kernel
theorem dX12_worse_32 : decode cX12_worse 32 = .ok (.ifCond .eq 14, 3) := by decide +kernel
theorem dX12_worse_35 : decode cX12_worse 35 = .ok (.iload 5, 2) := by decide +kernel
theorem dX12_worse_37 : decode cX12_worse 37 = .ok (.ifCond .lt 9, 3) := by decide +kernel
theorem dX12_worse_40 : decode cX12_worse 40 = .ok (.iload 5, 2) := by decide +kernel
theorem dX12_worse_42 : decode cX12_worse 42 = .ok (.iconst 1, 1) := by decide +kernel
theorem dX12_worse_43 : decode cX12_worse 43 = .ok (.if_icmp .le 7, 3) := by decide +kernel
theorem dX12_worse_46 : decode cX12_worse 46 = .ok (.ldc2_w 292, 3) := by decide +kernel
theorem dX12_worse_49 : decode cX12_worse 49 = .ok (.lreturn, 1) := by decide +kernel
theorem dX12_worse_50 : decode cX12_worse 50 = .ok (.aload_n 0, 1) := by decide +kernel
theorem dX12_worse_51 : decode cX12_worse 51 = .ok (.invokevirtual 255, 3) := by decide +kernel
theorem dX12_worse_54 : decode cX12_worse 54 = .ok (.lconst 0, 1) := by decide +kernel
theorem dX12_worse_55 : decode cX12_worse 55 = .ok (.lstore 6, 2) := by decide +kernel
theorem dX12_worse_57 : decode cX12_worse 57 = .ok (.lconst 0, 1) := by decide +kernel
theorem dX12_worse_58 : decode cX12_worse 58 = .ok (.lstore 8, 2) := by decide +kernel
theorem dX12_worse_60 : decode cX12_worse 60 = .ok (.iconst 0, 1) := by decide +kernel
theorem dX12_worse_61 : decode cX12_worse 61 = .ok (.istore 10, 2) := by decide +kernel
theorem dX12_worse_63 : decode cX12_worse 63 = .ok (.iload 10, 2) := by decide +kernel
theorem dX12_worse_65 : decode cX12_worse 65 = .ok (.aload_n 0, 1) := by decide +kernel
theorem dX12_worse_66 : decode cX12_worse 66 = .ok (.getfield 237, 3) := by decide +kernel
theorem dX12_worse_69 : decode cX12_worse 69 = .ok (.if_icmp .ge 83, 3) := by decide +kernel
theorem dX12_worse_72 : decode cX12_worse 72 = .ok (.iconst 0, 1) := by decide +kernel
theorem dX12_worse_73 : decode cX12_worse 73 = .ok (.istore 11, 2) := by decide +kernel
theorem dX12_worse_75 : decode cX12_worse 75 = .ok (.iload 11, 2) := by decide +kernel
theorem dX12_worse_77 : decode cX12_worse 77 = .ok (.aload_n 0, 1) := by decide +kernel
theorem dX12_worse_78 : decode cX12_worse 78 = .ok (.getfield 237, 3) := by decide +kernel
theorem dX12_worse_81 : decode cX12_worse 81 = .ok (.if_icmp .ge 65, 3) := by decide +kernel
theorem dX12_worse_84 : decode cX12_worse 84 = .ok (.aload_n 0, 1) := by decide +kernel
theorem dX12_worse_85 : decode cX12_worse 85 = .ok (.iload 10, 2) := by decide +kernel
theorem dX12_worse_87 : decode cX12_worse 87 = .ok (.iload_n 1, 1) := by decide +kernel
theorem dX12_worse_88 : decode cX12_worse 88 = .ok (.iload_n 3, 1) := by decide +kernel
theorem dX12_worse_89 : decode cX12_worse 89 = .ok (.iload 4, 2) := by decide +kernel
theorem dX12_worse_91 : decode cX12_worse 91 = .ok (.invokevirtual 274, 3) := by decide +kernel
theorem dX12_worse_94 : decode cX12_worse 94 = .ok (.aload_n 0, 1) := by decide +kernel
theorem dX12_worse_95 : decode cX12_worse 95 = .ok (.iload 11, 2) := by decide +kernel
theorem dX12_worse_97 : decode cX12_worse 97 = .ok (.iload_n 2, 1) := by decide +kernel
theorem dX12_worse_98 : decode cX12_worse 98 = .ok (.iload_n 3, 1) := by decide +kernel
theorem dX12_worse_99 : decode cX12_worse 99 = .ok (.iload 4, 2) := by decide +kernel
theorem dX12_worse_101 : decode cX12_worse 101 = .ok (.invokevirtual 274, 3) := by decide +kernel
theorem dX12_worse_104 : decode cX12_worse 104 = .ok (.lmul, 1) := by decide +kernel
theorem dX12_worse_105 : decode cX12_worse 105 = .ok (.lstore 12, 2) := by decide +kernel
theorem dX12_worse_107 : decode cX12_worse 107 = .ok (.lload 8, 2) := by decide +kernel
theorem dX12_worse_109 : decode cX12_worse 109 = .ok (.lload 12, 2) := by decide +kernel
theorem dX12_worse_111 : decode cX12_worse 111 = .ok (.ladd, 1) := by decide +kernel
theorem dX12_worse_112 : decode cX12_worse 112 = .ok (.lstore 8, 2) := by decide +kernel
theorem dX12_worse_114 : decode cX12_worse 114 = .ok (.lload 6, 2) := by decide +kernel
theorem dX12_worse_116 : decode cX12_worse 116 = .ok (.aload_n 0, 1) := by decide +kernel
theorem dX12_worse_117 : decode cX12_worse 117 = .ok (.iload 10, 2) := by decide +kernel
theorem dX12_worse_119 : decode cX12_worse 119 = .ok (.invokevirtual 278, 3) := by decide +kernel
theorem dX12_worse_122 : decode cX12_worse 122 = .ok (.aload_n 0, 1) := by decide +kernel
theorem dX12_worse_123 : decode cX12_worse 123 = .ok (.iload 11, 2) := by decide +kernel
theorem dX12_worse_125 : decode cX12_worse 125 = .ok (.invokevirtual 278, 3) := by decide +kernel
theorem dX12_worse_128 : decode cX12_worse 128 = .ok (.if_icmp .le 8, 3) := by decide +kernel
theorem dX12_worse_131 : decode cX12_worse 131 = .ok (.lload 12, 2) := by decide +kernel
theorem dX12_worse_133 : decode cX12_worse 133 = .ok (.goto 4, 3) := by decide +kernel
theorem dX12_worse_136 : decode cX12_worse 136 = .ok (.lconst 0, 1) := by decide +kernel
theorem dX12_worse_137 : decode cX12_worse 137 = .ok (.ladd, 1) := by decide +kernel
theorem dX12_worse_138 : decode cX12_worse 138 = .ok (.lstore 6, 2) := by decide +kernel
theorem dX12_worse_140 : decode cX12_worse 140 = .ok (.iinc 11 1, 3) := by decide +kernel
theorem dX12_worse_143 : decode cX12_worse 143 = .ok (.goto (-68), 3) := by decide +kernel
theorem dX12_worse_146 : decode cX12_worse 146 = .ok (.iinc 10 1, 3) := by decide +kernel
theorem dX12_worse_149 : decode cX12_worse 149 = .ok (.goto (-86), 3) := by decide +kernel
theorem dX12_worse_152 : decode cX12_worse 152 = .ok (.aload_n 0, 1) := by decide +kernel
theorem dX12_worse_153 : decode cX12_worse 153 = .ok (.lload 6, 2) := by decide +kernel
theorem dX12_worse_155 : decode cX12_worse 155 = .ok (.lload 8, 2) := by decide +kernel
theorem dX12_worse_157 : decode cX12_worse 157 = .ok (.invokevirtual 284, 3) := by decide +kernel
theorem dX12_worse_160 : decode cX12_worse 160 = .ok (.iload 5, 2) := by decide +kernel
theorem dX12_worse_162 : decode cX12_worse 162 = .ok (.ifCond .ne 10, 3) := by decide +kernel
theorem dX12_worse_165 : decode cX12_worse 165 = .ok (.aload_n 0, 1) := by decide +kernel
theorem dX12_worse_166 : decode cX12_worse 166 = .ok (.getfield 267, 3) := by decide +kernel
theorem dX12_worse_169 : decode cX12_worse 169 = .ok (.goto 7, 3) := by decide +kernel
theorem dX12_worse_172 : decode cX12_worse 172 = .ok (.aload_n 0, 1) := by decide +kernel
theorem dX12_worse_173 : decode cX12_worse 173 = .ok (.getfield 271, 3) := by decide +kernel
theorem dX12_worse_176 : decode cX12_worse 176 = .ok (.lreturn, 1) := by decide +kernel
theorem dX12_nameOf_0 : decode cX12_nameOf 0 = .ok (.iload_n 1, 1) := by decide +kernel
theorem dX12_nameOf_1 : decode cX12_nameOf 1 = .ok (.tableswitch 137 0 5 #[39, 47, 55, 63, 85, 111], 39) := by decide +kernel
theorem dX12_nameOf_40 : decode cX12_nameOf 40 = .ok (.aload_n 0, 1) := by decide +kernel
theorem dX12_nameOf_41 : decode cX12_nameOf 41 = .ok (.getfield 81, 3) := by decide +kernel
theorem dX12_nameOf_44 : decode cX12_nameOf 44 = .ok (.iconst 0, 1) := by decide +kernel
theorem dX12_nameOf_45 : decode cX12_nameOf 45 = .ok (.iaload, 1) := by decide +kernel
theorem dX12_nameOf_46 : decode cX12_nameOf 46 = .ok (.i2l, 1) := by decide +kernel
theorem dX12_nameOf_47 : decode cX12_nameOf 47 = .ok (.lreturn, 1) := by decide +kernel
theorem dX12_nameOf_48 : decode cX12_nameOf 48 = .ok (.aload_n 0, 1) := by decide +kernel
theorem dX12_nameOf_49 : decode cX12_nameOf 49 = .ok (.getfield 81, 3) := by decide +kernel
theorem dX12_nameOf_52 : decode cX12_nameOf 52 = .ok (.iconst 1, 1) := by decide +kernel
theorem dX12_nameOf_53 : decode cX12_nameOf 53 = .ok (.iaload, 1) := by decide +kernel
theorem dX12_nameOf_54 : decode cX12_nameOf 54 = .ok (.i2l, 1) := by decide +kernel
theorem dX12_nameOf_55 : decode cX12_nameOf 55 = .ok (.lreturn, 1) := by decide +kernel
theorem dX12_nameOf_56 : decode cX12_nameOf 56 = .ok (.aload_n 0, 1) := by decide +kernel
theorem dX12_nameOf_57 : decode cX12_nameOf 57 = .ok (.getfield 81, 3) := by decide +kernel
theorem dX12_nameOf_60 : decode cX12_nameOf 60 = .ok (.iconst 2, 1) := by decide +kernel
theorem dX12_nameOf_61 : decode cX12_nameOf 61 = .ok (.iaload, 1) := by decide +kernel
theorem dX12_nameOf_62 : decode cX12_nameOf 62 = .ok (.i2l, 1) := by decide +kernel
theorem dX12_nameOf_63 : decode cX12_nameOf 63 = .ok (.lreturn, 1) := by decide +kernel
theorem dX12_nameOf_64 : decode cX12_nameOf 64 = .ok (.aload_n 0, 1) := by decide +kernel
theorem dX12_nameOf_65 : decode cX12_nameOf 65 = .ok (.getfield 81, 3) := by decide +kernel
theorem dX12_nameOf_68 : decode cX12_nameOf 68 = .ok (.iconst 0, 1) := by decide +kernel
theorem dX12_nameOf_69 : decode cX12_nameOf 69 = .ok (.iaload, 1) := by decide +kernel
theorem dX12_nameOf_70 : decode cX12_nameOf 70 = .ok (.aload_n 0, 1) := by decide +kernel
theorem dX12_nameOf_71 : decode cX12_nameOf 71 = .ok (.getfield 81, 3) := by decide +kernel
theorem dX12_nameOf_74 : decode cX12_nameOf 74 = .ok (.iconst 1, 1) := by decide +kernel
theorem dX12_nameOf_75 : decode cX12_nameOf 75 = .ok (.iaload, 1) := by decide +kernel
theorem dX12_nameOf_76 : decode cX12_nameOf 76 = .ok (.iadd, 1) := by decide +kernel
theorem dX12_nameOf_77 : decode cX12_nameOf 77 = .ok (.aload_n 0, 1) := by decide +kernel
theorem dX12_nameOf_78 : decode cX12_nameOf 78 = .ok (.getfield 81, 3) := by decide +kernel
theorem dX12_nameOf_81 : decode cX12_nameOf 81 = .ok (.iconst 2, 1) := by decide +kernel
theorem dX12_nameOf_82 : decode cX12_nameOf 82 = .ok (.iaload, 1) := by decide +kernel
theorem dX12_nameOf_83 : decode cX12_nameOf 83 = .ok (.iadd, 1) := by decide +kernel
theorem dX12_nameOf_84 : decode cX12_nameOf 84 = .ok (.i2l, 1) := by decide +kernel
theorem dX12_nameOf_85 : decode cX12_nameOf 85 = .ok (.lreturn, 1) := by decide +kernel
theorem dX12_nameOf_86 : decode cX12_nameOf 86 = .ok (.aload_n 0, 1) := by decide +kernel
theorem dX12_nameOf_87 : decode cX12_nameOf 87 = .ok (.getfield 81, 3) := by decide +kernel
theorem dX12_nameOf_90 : decode cX12_nameOf 90 = .ok (.iconst 0, 1) := by decide +kernel
theorem dX12_nameOf_91 : decode cX12_nameOf 91 = .ok (.iaload, 1) := by decide +kernel
theorem dX12_nameOf_92 : decode cX12_nameOf 92 = .ok (.aload_n 0, 1) := by decide +kernel
theorem dX12_nameOf_93 : decode cX12_nameOf 93 = .ok (.getfield 81, 3) := by decide +kernel
theorem dX12_nameOf_96 : decode cX12_nameOf 96 = .ok (.iconst 1, 1) := by decide +kernel
theorem dX12_nameOf_97 : decode cX12_nameOf 97 = .ok (.iaload, 1) := by decide +kernel
theorem dX12_nameOf_98 : decode cX12_nameOf 98 = .ok (.aload_n 0, 1) := by decide +kernel
theorem dX12_nameOf_99 : decode cX12_nameOf 99 = .ok (.getfield 81, 3) := by decide +kernel
theorem dX12_nameOf_102 : decode cX12_nameOf 102 = .ok (.iconst 2, 1) := by decide +kernel
theorem dX12_nameOf_103 : decode cX12_nameOf 103 = .ok (.iaload, 1) := by decide +kernel
theorem dX12_nameOf_104 : decode cX12_nameOf 104 = .ok (.invokestatic 306, 3) := by decide +kernel
theorem dX12_nameOf_107 : decode cX12_nameOf 107 = .ok (.invokestatic 306, 3) := by decide +kernel
theorem dX12_nameOf_110 : decode cX12_nameOf 110 = .ok (.i2l, 1) := by decide +kernel
theorem dX12_nameOf_111 : decode cX12_nameOf 111 = .ok (.lreturn, 1) := by decide +kernel
theorem dX12_nameOf_112 : decode cX12_nameOf 112 = .ok (.aload_n 0, 1) := by decide +kernel
theorem dX12_nameOf_113 : decode cX12_nameOf 113 = .ok (.getfield 81, 3) := by decide +kernel
theorem dX12_nameOf_116 : decode cX12_nameOf 116 = .ok (.iconst 0, 1) := by decide +kernel
theorem dX12_nameOf_117 : decode cX12_nameOf 117 = .ok (.iaload, 1) := by decide +kernel
theorem dX12_nameOf_118 : decode cX12_nameOf 118 = .ok (.aload_n 0, 1) := by decide +kernel
theorem dX12_nameOf_119 : decode cX12_nameOf 119 = .ok (.getfield 81, 3) := by decide +kernel
theorem dX12_nameOf_122 : decode cX12_nameOf 122 = .ok (.iconst 1, 1) := by decide +kernel
theorem dX12_nameOf_123 : decode cX12_nameOf 123 = .ok (.iaload, 1) := by decide +kernel
theorem dX12_nameOf_124 : decode cX12_nameOf 124 = .ok (.aload_n 0, 1) := by decide +kernel
theorem dX12_nameOf_125 : decode cX12_nameOf 125 = .ok (.getfield 81, 3) := by decide +kernel
theorem dX12_nameOf_128 : decode cX12_nameOf 128 = .ok (.iconst 2, 1) := by decide +kernel
theorem dX12_nameOf_129 : decode cX12_nameOf 129 = .ok (.iaload, 1) := by decide +kernel
theorem dX12_nameOf_130 : decode cX12_nameOf 130 = .ok (.invokestatic 303, 3) := by decide +kernel
theorem dX12_nameOf_133 : decode cX12_nameOf 133 = .ok (.invokestatic 303, 3) := by decide +kernel
theorem dX12_nameOf_136 : decode cX12_nameOf 136 = .ok (.i2l, 1) := by decide +kernel
theorem dX12_nameOf_137 : decode cX12_nameOf 137 = .ok (.lreturn, 1) := by decide +kernel
theorem dX12_nameOf_138 : decode cX12_nameOf 138 = .ok (.iload_n 2, 1) := by decide +kernel
theorem dX12_nameOf_139 : decode cX12_nameOf 139 = .ok (.i2l, 1) := by decide +kernel
theorem dX12_nameOf_140 : decode cX12_nameOf 140 = .ok (.lreturn, 1) := by decide +kernel
theorem dX12_is_0 : decode cX12_is 0 = .ok (.iload_n 0, 1) := by decide +kernel
theorem dX12_is_1 : decode cX12_is 1 = .ok (.ifCond .eq 7, 3) := by decide +kernel
theorem dX12_is_4 : decode cX12_is 4 = .ok (.lconst 1, 1) := by decide +kernel
theorem dX12_is_5 : decode cX12_is 5 = .ok (.goto 4, 3) := by decide +kernel
theorem dX12_is_8 : decode cX12_is 8 = .ok (.lconst 0, 1) := by decide +kernel
theorem dX12_is_9 : decode cX12_is 9 = .ok (.lreturn, 1) := by decide +kernel
theorem dX12_works_0 : decode cX12_works 0 = .ok (.aload_n 0, 1) := by decide +kernel
theorem dX12_works_1 : decode cX12_works 1 = .ok (.getfield 77, 3) := by decide +kernel
theorem dX12_works_4 : decode cX12_works 4 = .ok (.aload_n 0, 1) := by decide +kernel
theorem dX12_works_5 : decode cX12_works 5 = .ok (.getfield 309, 3) := by decide +kernel
theorem dX12_works_8 : decode cX12_works 8 = .ok (.iconst 1, 1) := by decide +kernel
theorem dX12_works_9 : decode cX12_works 9 = .ok (.isub, 1) := by decide +kernel
theorem dX12_works_10 : decode cX12_works 10 = .ok (.laload, 1) := by decide +kernel
theorem dX12_works_11 : decode cX12_works 11 = .ok (.lstore_n 2, 1) := by decide +kernel
theorem dX12_works_12 : decode cX12_works 12 = .ok (.iload_n 1, 1) := by decide +kernel
theorem dX12_works_13 : decode cX12_works 13 = .ok (.sipush 260, 3) := by decide +kernel
theorem dX12_works_16 : decode cX12_works 16 = .ok (.if_icmp .ne 30, 3) := by decide +kernel
theorem dX12_works_19 : decode cX12_works 19 = .ok (.aload_n 0, 1) := by decide +kernel
theorem dX12_works_20 : decode cX12_works 20 = .ok (.getfield 77, 3) := by decide +kernel
theorem dX12_works_23 : decode cX12_works 23 = .ok (.aload_n 0, 1) := by decide +kernel
theorem dX12_works_24 : decode cX12_works 24 = .ok (.getfield 309, 3) := by decide +kernel
theorem dX12_works_27 : decode cX12_works 27 = .ok (.iconst 1, 1) := by decide +kernel
theorem dX12_works_28 : decode cX12_works 28 = .ok (.isub, 1) := by decide +kernel
theorem dX12_works_29 : decode cX12_works 29 = .ok (.lload_n 2, 1) := by decide +kernel
theorem dX12_works_30 : decode cX12_works 30 = .ok (.lconst 0, 1) := by decide +kernel
theorem dX12_works_31 : decode cX12_works 31 = .ok (.lcmp, 1) := by decide +kernel
theorem dX12_works_32 : decode cX12_works 32 = .ok (.ifCond .ne 7, 3) := by decide +kernel
theorem dX12_works_35 : decode cX12_works 35 = .ok (.iconst 1, 1) := by decide +kernel
theorem dX12_works_36 : decode cX12_works 36 = .ok (.goto 4, 3) := by decide +kernel
theorem dX12_works_39 : decode cX12_works 39 = .ok (.iconst 0, 1) := by decide +kernel
theorem dX12_works_40 : decode cX12_works 40 = .ok (.invokestatic 312, 3) := by decide +kernel
theorem dX12_works_43 : decode cX12_works 43 = .ok (.lastore, 1) := by decide +kernel
theorem dX12_works_44 : decode cX12_works 44 = .ok (.iconst 1, 1) := by decide +kernel
theorem dX12_works_45 : decode cX12_works 45 = .ok (.ireturn, 1) := by decide +kernel
theorem dX12_works_46 : decode cX12_works 46 = .ok (.aload_n 0, 1) := by decide +kernel
theorem dX12_works_47 : decode cX12_works 47 = .ok (.getfield 77, 3) := by decide +kernel
theorem dX12_works_50 : decode cX12_works 50 = .ok (.aload_n 0, 1) := by decide +kernel
theorem dX12_works_51 : decode cX12_works 51 = .ok (.getfield 309, 3) := by decide +kernel
theorem dX12_works_54 : decode cX12_works 54 = .ok (.iconst 2, 1) := by decide +kernel
theorem dX12_works_55 : decode cX12_works 55 = .ok (.isub, 1) := by decide +kernel
theorem dX12_works_56 : decode cX12_works 56 = .ok (.laload, 1) := by decide +kernel
theorem dX12_works_57 : decode cX12_works 57 = .ok (.lstore 4, 2) := by decide +kernel
theorem dX12_works_59 : decode cX12_works 59 = .ok (.aload_n 0, 1) := by decide +kernel
theorem dX12_works_60 : decode cX12_works 60 = .ok (.dup, 1) := by decide +kernel
theorem dX12_works_61 : decode cX12_works 61 = .ok (.getfield 309, 3) := by decide +kernel
theorem dX12_works_64 : decode cX12_works 64 = .ok (.iconst 1, 1) := by decide +kernel
theorem dX12_works_65 : decode cX12_works 65 = .ok (.isub, 1) := by decide +kernel
theorem dX12_works_66 : decode cX12_works 66 = .ok (.putfield 309, 3) := by decide +kernel
theorem dX12_works_69 : decode cX12_works 69 = .ok (.iload_n 1, 1) := by decide +kernel
theorem dX12_works_70 : decode cX12_works 70 = .ok (.lookupswitch 314 #[(42, 116), (43, 98), (45, 107), (47, 151), (60, 168), (61, 208), (62, 188), (256, 228), (257, 268), (258, 248), (261, 288)], 98) := by decide +kernel
theorem dX12_works_168 : decode cX12_works 168 = .ok (.lload 4, 2) := by decide +kernel
theorem dX12_works_170 : decode cX12_works 170 = .ok (.lload_n 2, 1) := by decide +kernel
theorem dX12_works_171 : decode cX12_works 171 = .ok (.ladd, 1) := by decide +kernel
theorem dX12_works_172 : decode cX12_works 172 = .ok (.lstore 6, 2) := by decide +kernel
theorem dX12_works_174 : decode cX12_works 174 = .ok (.goto 233, 3) := by decide +kernel
theorem dX12_works_177 : decode cX12_works 177 = .ok (.lload 4, 2) := by decide +kernel
theorem dX12_works_179 : decode cX12_works 179 = .ok (.lload_n 2, 1) := by decide +kernel
theorem dX12_works_180 : decode cX12_works 180 = .ok (.lsub, 1) := by decide +kernel
theorem dX12_works_181 : decode cX12_works 181 = .ok (.lstore 6, 2) := by decide +kernel
theorem dX12_works_183 : decode cX12_works 183 = .ok (.goto 224, 3) := by decide +kernel
theorem dX12_works_186 : decode cX12_works 186 = .ok (.lload 4, 2) := by decide +kernel
theorem dX12_works_188 : decode cX12_works 188 = .ok (.lconst 0, 1) := by decide +kernel
theorem dX12_works_189 : decode cX12_works 189 = .ok (.lcmp, 1) := by decide +kernel
theorem dX12_works_190 : decode cX12_works 190 = .ok (.ifCond .eq 22, 3) := by decide +kernel
theorem dX12_works_193 : decode cX12_works 193 = .ok (.lload_n 2, 1) := by decide +kernel
theorem dX12_works_194 : decode cX12_works 194 = .ok (.invokestatic 261, 3) := by decide +kernel
theorem dX12_works_197 : decode cX12_works 197 = .ok (.ldc2_w 316, 3) := by decide +kernel
theorem dX12_works_200 : decode cX12_works 200 = .ok (.lload 4, 2) := by decide +kernel
theorem dX12_works_202 : decode cX12_works 202 = .ok (.invokestatic 261, 3) := by decide +kernel
theorem dX12_works_205 : decode cX12_works 205 = .ok (.ldiv, 1) := by decide +kernel
theorem dX12_works_206 : decode cX12_works 206 = .ok (.lcmp, 1) := by decide +kernel
theorem dX12_works_207 : decode cX12_works 207 = .ok (.ifCond .le 5, 3) := by decide +kernel
theorem dX12_works_210 : decode cX12_works 210 = .ok (.iconst 0, 1) := by decide +kernel
theorem dX12_works_211 : decode cX12_works 211 = .ok (.ireturn, 1) := by decide +kernel
theorem dX12_works_212 : decode cX12_works 212 = .ok (.lload 4, 2) := by decide +kernel
theorem dX12_works_214 : decode cX12_works 214 = .ok (.lload_n 2, 1) := by decide +kernel
theorem dX12_works_215 : decode cX12_works 215 = .ok (.lmul, 1) := by decide +kernel
theorem dX12_works_216 : decode cX12_works 216 = .ok (.lstore 6, 2) := by decide +kernel
theorem dX12_works_218 : decode cX12_works 218 = .ok (.goto 189, 3) := by decide +kernel
theorem dX12_works_221 : decode cX12_works 221 = .ok (.lload_n 2, 1) := by decide +kernel
theorem dX12_works_222 : decode cX12_works 222 = .ok (.lconst 0, 1) := by decide +kernel
theorem dX12_works_223 : decode cX12_works 223 = .ok (.lcmp, 1) := by decide +kernel
theorem dX12_works_224 : decode cX12_works 224 = .ok (.ifCond .ne 5, 3) := by decide +kernel
theorem dX12_works_227 : decode cX12_works 227 = .ok (.iconst 0, 1) := by decide +kernel
theorem dX12_works_228 : decode cX12_works 228 = .ok (.ireturn, 1) := by decide +kernel
theorem dX12_works_229 : decode cX12_works 229 = .ok (.lload 4, 2) := by decide +kernel
theorem dX12_works_231 : decode cX12_works 231 = .ok (.lload_n 2, 1) := by decide +kernel
theorem dX12_works_232 : decode cX12_works 232 = .ok (.ldiv, 1) := by decide +kernel
theorem dX12_works_233 : decode cX12_works 233 = .ok (.lstore 6, 2) := by decide +kernel
theorem dX12_works_235 : decode cX12_works 235 = .ok (.goto 172, 3) := by decide +kernel
theorem dX12_works_238 : decode cX12_works 238 = .ok (.lload 4, 2) := by decide +kernel
theorem dX12_works_240 : decode cX12_works 240 = .ok (.lload_n 2, 1) := by decide +kernel
theorem dX12_works_241 : decode cX12_works 241 = .ok (.lcmp, 1) := by decide +kernel
theorem dX12_works_242 : decode cX12_works 242 = .ok (.ifCond .ge 7, 3) := by decide +kernel
theorem dX12_works_245 : decode cX12_works 245 = .ok (.iconst 1, 1) := by decide +kernel
theorem dX12_works_246 : decode cX12_works 246 = .ok (.goto 4, 3) := by decide +kernel
theorem dX12_works_249 : decode cX12_works 249 = .ok (.iconst 0, 1) := by decide +kernel
theorem dX12_works_250 : decode cX12_works 250 = .ok (.invokestatic 312, 3) := by decide +kernel
theorem dX12_works_253 : decode cX12_works 253 = .ok (.lstore 6, 2) := by decide +kernel
theorem dX12_works_255 : decode cX12_works 255 = .ok (.goto 152, 3) := by decide +kernel
theorem dX12_works_258 : decode cX12_works 258 = .ok (.lload 4, 2) := by decide +kernel
theorem dX12_works_260 : decode cX12_works 260 = .ok (.lload_n 2, 1) := by decide +kernel
theorem dX12_works_261 : decode cX12_works 261 = .ok (.lcmp, 1) := by decide +kernel
theorem dX12_works_262 : decode cX12_works 262 = .ok (.ifCond .le 7, 3) := by decide +kernel
theorem dX12_works_265 : decode cX12_works 265 = .ok (.iconst 1, 1) := by decide +kernel
theorem dX12_works_266 : decode cX12_works 266 = .ok (.goto 4, 3) := by decide +kernel
theorem dX12_works_269 : decode cX12_works 269 = .ok (.iconst 0, 1) := by decide +kernel
theorem dX12_works_270 : decode cX12_works 270 = .ok (.invokestatic 312, 3) := by decide +kernel
theorem dX12_works_273 : decode cX12_works 273 = .ok (.lstore 6, 2) := by decide +kernel
theorem dX12_works_275 : decode cX12_works 275 = .ok (.goto 132, 3) := by decide +kernel
theorem dX12_works_278 : decode cX12_works 278 = .ok (.lload 4, 2) := by decide +kernel
theorem dX12_works_280 : decode cX12_works 280 = .ok (.lload_n 2, 1) := by decide +kernel
theorem dX12_works_281 : decode cX12_works 281 = .ok (.lcmp, 1) := by decide +kernel
theorem dX12_works_282 : decode cX12_works 282 = .ok (.ifCond .ne 7, 3) := by decide +kernel
theorem dX12_works_285 : decode cX12_works 285 = .ok (.iconst 1, 1) := by decide +kernel
theorem dX12_works_286 : decode cX12_works 286 = .ok (.goto 4, 3) := by decide +kernel
theorem dX12_works_289 : decode cX12_works 289 = .ok (.iconst 0, 1) := by decide +kernel
theorem dX12_works_290 : decode cX12_works 290 = .ok (.invokestatic 312, 3) := by decide +kernel
theorem dX12_works_293 : decode cX12_works 293 = .ok (.lstore 6, 2) := by decide +kernel
theorem dX12_works_295 : decode cX12_works 295 = .ok (.goto 112, 3) := by decide +kernel
theorem dX12_works_298 : decode cX12_works 298 = .ok (.lload 4, 2) := by decide +kernel
theorem dX12_works_300 : decode cX12_works 300 = .ok (.lload_n 2, 1) := by decide +kernel
theorem dX12_works_301 : decode cX12_works 301 = .ok (.lcmp, 1) := by decide +kernel
theorem dX12_works_302 : decode cX12_works 302 = .ok (.ifCond .gt 7, 3) := by decide +kernel
theorem dX12_works_305 : decode cX12_works 305 = .ok (.iconst 1, 1) := by decide +kernel
theorem dX12_works_306 : decode cX12_works 306 = .ok (.goto 4, 3) := by decide +kernel
theorem dX12_works_309 : decode cX12_works 309 = .ok (.iconst 0, 1) := by decide +kernel
theorem dX12_works_310 : decode cX12_works 310 = .ok (.invokestatic 312, 3) := by decide +kernel
theorem dX12_works_313 : decode cX12_works 313 = .ok (.lstore 6, 2) := by decide +kernel
theorem dX12_works_315 : decode cX12_works 315 = .ok (.goto 92, 3) := by decide +kernel
theorem dX12_works_318 : decode cX12_works 318 = .ok (.lload 4, 2) := by decide +kernel
theorem dX12_works_320 : decode cX12_works 320 = .ok (.lload_n 2, 1) := by decide +kernel
theorem dX12_works_321 : decode cX12_works 321 = .ok (.lcmp, 1) := by decide +kernel
theorem dX12_works_322 : decode cX12_works 322 = .ok (.ifCond .lt 7, 3) := by decide +kernel
theorem dX12_works_325 : decode cX12_works 325 = .ok (.iconst 1, 1) := by decide +kernel
theorem dX12_works_326 : decode cX12_works 326 = .ok (.goto 4, 3) := by decide +kernel
theorem dX12_works_329 : decode cX12_works 329 = .ok (.iconst 0, 1) := by decide +kernel
theorem dX12_works_330 : decode cX12_works 330 = .ok (.invokestatic 312, 3) := by decide +kernel
theorem dX12_works_333 : decode cX12_works 333 = .ok (.lstore 6, 2) := by decide +kernel
theorem dX12_works_335 : decode cX12_works 335 = .ok (.goto 72, 3) := by decide +kernel
theorem dX12_works_338 : decode cX12_works 338 = .ok (.lload 4, 2) := by decide +kernel
theorem dX12_works_340 : decode cX12_works 340 = .ok (.lload_n 2, 1) := by decide +kernel
theorem dX12_works_341 : decode cX12_works 341 = .ok (.lcmp, 1) := by decide +kernel
theorem dX12_works_342 : decode cX12_works 342 = .ok (.ifCond .eq 7, 3) := by decide +kernel
theorem dX12_works_345 : decode cX12_works 345 = .ok (.iconst 1, 1) := by decide +kernel
theorem dX12_works_346 : decode cX12_works 346 = .ok (.goto 4, 3) := by decide +kernel
theorem dX12_works_349 : decode cX12_works 349 = .ok (.iconst 0, 1) := by decide +kernel
theorem dX12_works_350 : decode cX12_works 350 = .ok (.invokestatic 312, 3) := by decide +kernel
theorem dX12_works_353 : decode cX12_works 353 = .ok (.lstore 6, 2) := by decide +kernel
theorem dX12_works_355 : decode cX12_works 355 = .ok (.goto 52, 3) := by decide +kernel
theorem dX12_works_358 : decode cX12_works 358 = .ok (.lload 4, 2) := by decide +kernel
theorem dX12_works_360 : decode cX12_works 360 = .ok (.lconst 0, 1) := by decide +kernel
theorem dX12_works_361 : decode cX12_works 361 = .ok (.lcmp, 1) := by decide +kernel
theorem dX12_works_362 : decode cX12_works 362 = .ok (.ifCond .eq 13, 3) := by decide +kernel
theorem dX12_works_365 : decode cX12_works 365 = .ok (.lload_n 2, 1) := by decide +kernel
theorem dX12_works_366 : decode cX12_works 366 = .ok (.lconst 0, 1) := by decide +kernel
theorem dX12_works_367 : decode cX12_works 367 = .ok (.lcmp, 1) := by decide +kernel
theorem dX12_works_368 : decode cX12_works 368 = .ok (.ifCond .eq 7, 3) := by decide +kernel
theorem dX12_works_371 : decode cX12_works 371 = .ok (.iconst 1, 1) := by decide +kernel
theorem dX12_works_372 : decode cX12_works 372 = .ok (.goto 4, 3) := by decide +kernel
theorem dX12_works_375 : decode cX12_works 375 = .ok (.iconst 0, 1) := by decide +kernel
theorem dX12_works_376 : decode cX12_works 376 = .ok (.invokestatic 312, 3) := by decide +kernel
theorem dX12_works_379 : decode cX12_works 379 = .ok (.lstore 6, 2) := by decide +kernel
theorem dX12_works_381 : decode cX12_works 381 = .ok (.goto 26, 3) := by decide +kernel
theorem dX12_works_384 : decode cX12_works 384 = .ok (.lload 4, 2) := by decide +kernel
theorem dX12_works_386 : decode cX12_works 386 = .ok (.lconst 0, 1) := by decide +kernel
theorem dX12_works_387 : decode cX12_works 387 = .ok (.lcmp, 1) := by decide +kernel
theorem dX12_works_388 : decode cX12_works 388 = .ok (.ifCond .ne 9, 3) := by decide +kernel
theorem dX12_works_391 : decode cX12_works 391 = .ok (.lload_n 2, 1) := by decide +kernel
theorem dX12_works_392 : decode cX12_works 392 = .ok (.lconst 0, 1) := by decide +kernel
theorem dX12_works_393 : decode cX12_works 393 = .ok (.lcmp, 1) := by decide +kernel
theorem dX12_works_394 : decode cX12_works 394 = .ok (.ifCond .eq 7, 3) := by decide +kernel
theorem dX12_works_397 : decode cX12_works 397 = .ok (.iconst 1, 1) := by decide +kernel
theorem dX12_works_398 : decode cX12_works 398 = .ok (.goto 4, 3) := by decide +kernel
theorem dX12_works_401 : decode cX12_works 401 = .ok (.iconst 0, 1) := by decide +kernel
theorem dX12_works_402 : decode cX12_works 402 = .ok (.invokestatic 312, 3) := by decide +kernel
theorem dX12_works_405 : decode cX12_works 405 = .ok (.lstore 6, 2) := by decide +kernel
theorem dX12_works_407 : decode cX12_works 407 = .ok (.aload_n 0, 1) := by decide +kernel
theorem dX12_works_408 : decode cX12_works 408 = .ok (.getfield 77, 3) := by decide +kernel
theorem dX12_works_411 : decode cX12_works 411 = .ok (.aload_n 0, 1) := by decide +kernel
theorem dX12_works_412 : decode cX12_works 412 = .ok (.getfield 309, 3) := by decide +kernel
theorem dX12_works_415 : decode cX12_works 415 = .ok (.iconst 1, 1) := by decide +kernel
theorem dX12_works_416 : decode cX12_works 416 = .ok (.isub, 1) := by decide +kernel
theorem dX12_works_417 : decode cX12_works 417 = .ok (.lload 6, 2) := by decide +kernel
theorem dX12_works_419 : decode cX12_works 419 = .ok (.lastore, 1) := by decide +kernel
theorem dX12_works_420 : decode cX12_works 420 = .ok (.lload 6, 2) := by decide +kernel
theorem dX12_works_422 : decode cX12_works 422 = .ok (.ldc2_w 316, 3) := by decide +kernel
theorem dX12_works_425 : decode cX12_works 425 = .ok (.lcmp, 1) := by decide +kernel
theorem dX12_works_426 : decode cX12_works 426 = .ok (.ifCond .gt 16, 3) := by decide +kernel
theorem dX12_works_429 : decode cX12_works 429 = .ok (.lload 6, 2) := by decide +kernel
theorem dX12_works_431 : decode cX12_works 431 = .ok (.ldc2_w 318, 3) := by decide +kernel
theorem dX12_works_434 : decode cX12_works 434 = .ok (.lcmp, 1) := by decide +kernel
theorem dX12_works_435 : decode cX12_works 435 = .ok (.ifCond .lt 7, 3) := by decide +kernel
theorem dX12_works_438 : decode cX12_works 438 = .ok (.iconst 1, 1) := by decide +kernel
theorem dX12_works_439 : decode cX12_works 439 = .ok (.goto 4, 3) := by decide +kernel
theorem dX12_works_442 : decode cX12_works 442 = .ok (.iconst 0, 1) := by decide +kernel
theorem dX12_works_443 : decode cX12_works 443 = .ok (.ireturn, 1) := by decide +kernel
theorem dX12_takes_0 : decode cX12_takes 0 = .ok (.aload_n 0, 1) := by decide +kernel
theorem dX12_takes_1 : decode cX12_takes 1 = .ok (.getfield 243, 3) := by decide +kernel
theorem dX12_takes_4 : decode cX12_takes 4 = .ok (.ifCond .ne 5, 3) := by decide +kernel
theorem dX12_takes_7 : decode cX12_takes 7 = .ok (.iconst 0, 1) := by decide +kernel
theorem dX12_takes_8 : decode cX12_takes 8 = .ok (.ireturn, 1) := by decide +kernel
theorem dX12_takes_9 : decode cX12_takes 9 = .ok (.aload_n 0, 1) := by decide +kernel
theorem dX12_takes_10 : decode cX12_takes 10 = .ok (.iconst 0, 1) := by decide +kernel
theorem dX12_takes_11 : decode cX12_takes 11 = .ok (.putfield 309, 3) := by decide +kernel
theorem dX12_takes_14 : decode cX12_takes 14 = .ok (.iconst 0, 1) := by decide +kernel
theorem dX12_takes_15 : decode cX12_takes 15 = .ok (.istore_n 2, 1) := by decide +kernel
theorem dX12_takes_16 : decode cX12_takes 16 = .ok (.iload_n 2, 1) := by decide +kernel
theorem dX12_takes_17 : decode cX12_takes 17 = .ok (.aload_n 0, 1) := by decide +kernel
theorem dX12_takes_18 : decode cX12_takes 18 = .ok (.getfield 243, 3) := by decide +kernel
theorem dX12_takes_21 : decode cX12_takes 21 = .ok (.if_icmp .ge 83, 3) := by decide +kernel
theorem dX12_takes_24 : decode cX12_takes 24 = .ok (.aload_n 0, 1) := by decide +kernel
theorem dX12_takes_25 : decode cX12_takes 25 = .ok (.getfield 46, 3) := by decide +kernel
theorem dX12_takes_28 : decode cX12_takes 28 = .ok (.iload_n 2, 1) := by decide +kernel
theorem dX12_takes_29 : decode cX12_takes 29 = .ok (.iaload, 1) := by decide +kernel
theorem dX12_takes_30 : decode cX12_takes 30 = .ok (.iconst 2, 1) := by decide +kernel
theorem dX12_takes_31 : decode cX12_takes 31 = .ok (.if_icmp .ne 18, 3) := by decide +kernel
theorem dX12_takes_34 : decode cX12_takes 34 = .ok (.aload_n 0, 1) := by decide +kernel
theorem dX12_takes_35 : decode cX12_takes 35 = .ok (.aload_n 0, 1) := by decide +kernel
theorem dX12_takes_36 : decode cX12_takes 36 = .ok (.getfield 49, 3) := by decide +kernel
theorem dX12_takes_39 : decode cX12_takes 39 = .ok (.iload_n 2, 1) := by decide +kernel
theorem dX12_takes_40 : decode cX12_takes 40 = .ok (.iaload, 1) := by decide +kernel
theorem dX12_takes_41 : decode cX12_takes 41 = .ok (.invokevirtual 320, 3) := by decide +kernel
theorem dX12_takes_44 : decode cX12_takes 44 = .ok (.ifCond .ne 54, 3) := by decide +kernel
theorem dX12_takes_47 : decode cX12_takes 47 = .ok (.iconst 0, 1) := by decide +kernel
theorem dX12_takes_48 : decode cX12_takes 48 = .ok (.ireturn, 1) := by decide +kernel
theorem dX12_takes_49 : decode cX12_takes 49 = .ok (.aload_n 0, 1) := by decide +kernel
theorem dX12_takes_50 : decode cX12_takes 50 = .ok (.getfield 77, 3) := by decide +kernel
theorem dX12_takes_53 : decode cX12_takes 53 = .ok (.aload_n 0, 1) := by decide +kernel
theorem dX12_takes_54 : decode cX12_takes 54 = .ok (.getfield 309, 3) := by decide +kernel
theorem dX12_takes_57 : decode cX12_takes 57 = .ok (.aload_n 0, 1) := by decide +kernel
theorem dX12_takes_58 : decode cX12_takes 58 = .ok (.getfield 46, 3) := by decide +kernel
theorem dX12_takes_61 : decode cX12_takes 61 = .ok (.iload_n 2, 1) := by decide +kernel
theorem dX12_takes_62 : decode cX12_takes 62 = .ok (.iaload, 1) := by decide +kernel
theorem dX12_takes_63 : decode cX12_takes 63 = .ok (.ifCond .ne 13, 3) := by decide +kernel
theorem dX12_takes_66 : decode cX12_takes 66 = .ok (.aload_n 0, 1) := by decide +kernel
theorem dX12_takes_67 : decode cX12_takes 67 = .ok (.getfield 49, 3) := by decide +kernel
theorem dX12_takes_70 : decode cX12_takes 70 = .ok (.iload_n 2, 1) := by decide +kernel
theorem dX12_takes_71 : decode cX12_takes 71 = .ok (.iaload, 1) := by decide +kernel
theorem dX12_takes_72 : decode cX12_takes 72 = .ok (.i2l, 1) := by decide +kernel
theorem dX12_takes_73 : decode cX12_takes 73 = .ok (.goto 14, 3) := by decide +kernel
theorem dX12_takes_76 : decode cX12_takes 76 = .ok (.aload_n 0, 1) := by decide +kernel
theorem dX12_takes_77 : decode cX12_takes 77 = .ok (.aload_n 0, 1) := by decide +kernel
theorem dX12_takes_78 : decode cX12_takes 78 = .ok (.getfield 49, 3) := by decide +kernel
theorem dX12_takes_81 : decode cX12_takes 81 = .ok (.iload_n 2, 1) := by decide +kernel
theorem dX12_takes_82 : decode cX12_takes 82 = .ok (.iaload, 1) := by decide +kernel
theorem dX12_takes_83 : decode cX12_takes 83 = .ok (.iload_n 1, 1) := by decide +kernel
theorem dX12_takes_84 : decode cX12_takes 84 = .ok (.invokevirtual 323, 3) := by decide +kernel
theorem dX12_takes_87 : decode cX12_takes 87 = .ok (.lastore, 1) := by decide +kernel
theorem dX12_takes_88 : decode cX12_takes 88 = .ok (.aload_n 0, 1) := by decide +kernel
theorem dX12_takes_89 : decode cX12_takes 89 = .ok (.dup, 1) := by decide +kernel
theorem dX12_takes_90 : decode cX12_takes 90 = .ok (.getfield 309, 3) := by decide +kernel
theorem dX12_takes_93 : decode cX12_takes 93 = .ok (.iconst 1, 1) := by decide +kernel
theorem dX12_takes_94 : decode cX12_takes 94 = .ok (.iadd, 1) := by decide +kernel
theorem dX12_takes_95 : decode cX12_takes 95 = .ok (.putfield 309, 3) := by decide +kernel
theorem dX12_takes_98 : decode cX12_takes 98 = .ok (.iinc 2 1, 3) := by decide +kernel
theorem dX12_takes_101 : decode cX12_takes 101 = .ok (.goto (-85), 3) := by decide +kernel
theorem dX12_takes_104 : decode cX12_takes 104 = .ok (.aload_n 0, 1) := by decide +kernel
theorem dX12_takes_105 : decode cX12_takes 105 = .ok (.getfield 77, 3) := by decide +kernel
theorem dX12_takes_108 : decode cX12_takes 108 = .ok (.iconst 0, 1) := by decide +kernel
theorem dX12_takes_109 : decode cX12_takes 109 = .ok (.laload, 1) := by decide +kernel
theorem dX12_takes_110 : decode cX12_takes 110 = .ok (.lconst 0, 1) := by decide +kernel
theorem dX12_takes_111 : decode cX12_takes 111 = .ok (.lcmp, 1) := by decide +kernel
theorem dX12_takes_112 : decode cX12_takes 112 = .ok (.ifCond .eq 7, 3) := by decide +kernel
theorem dX12_takes_115 : decode cX12_takes 115 = .ok (.iconst 1, 1) := by decide +kernel
theorem dX12_takes_116 : decode cX12_takes 116 = .ok (.goto 4, 3) := by decide +kernel
theorem dX12_takes_119 : decode cX12_takes 119 = .ok (.iconst 0, 1) := by decide +kernel
theorem dX12_takes_120 : decode cX12_takes 120 = .ok (.ireturn, 1) := by decide +kernel
theorem dX12_isTaken_0 : decode cX12_isTaken 0 = .ok (.iconst 0, 1) := by decide +kernel
theorem dX12_isTaken_1 : decode cX12_isTaken 1 = .ok (.istore_n 3, 1) := by decide +kernel
theorem dX12_isTaken_2 : decode cX12_isTaken 2 = .ok (.iload_n 3, 1) := by decide +kernel
theorem dX12_isTaken_3 : decode cX12_isTaken 3 = .ok (.iconst 3, 1) := by decide +kernel
theorem dX12_isTaken_4 : decode cX12_isTaken 4 = .ok (.if_icmp .ge 37, 3) := by decide +kernel
theorem dX12_isTaken_7 : decode cX12_isTaken 7 = .ok (.aload_n 0, 1) := by decide +kernel
theorem dX12_isTaken_8 : decode cX12_isTaken 8 = .ok (.getfield 81, 3) := by decide +kernel
theorem dX12_isTaken_11 : decode cX12_isTaken 11 = .ok (.iload_n 3, 1) := by decide +kernel
theorem dX12_isTaken_12 : decode cX12_isTaken 12 = .ok (.aload_n 0, 1) := by decide +kernel
theorem dX12_isTaken_13 : decode cX12_isTaken 13 = .ok (.iload_n 1, 1) := by decide +kernel
theorem dX12_isTaken_14 : decode cX12_isTaken 14 = .ok (.iload_n 2, 1) := by decide +kernel
theorem dX12_isTaken_15 : decode cX12_isTaken 15 = .ok (.iconst 3, 1) := by decide +kernel
theorem dX12_isTaken_16 : decode cX12_isTaken 16 = .ok (.isub, 1) := by decide +kernel
theorem dX12_isTaken_17 : decode cX12_isTaken 17 = .ok (.iload_n 3, 1) := by decide +kernel
theorem dX12_isTaken_18 : decode cX12_isTaken 18 = .ok (.iadd, 1) := by decide +kernel
theorem dX12_isTaken_19 : decode cX12_isTaken 19 = .ok (.invokevirtual 258, 3) := by decide +kernel
theorem dX12_isTaken_22 : decode cX12_isTaken 22 = .ok (.iastore, 1) := by decide +kernel
theorem dX12_isTaken_23 : decode cX12_isTaken 23 = .ok (.aload_n 0, 1) := by decide +kernel
theorem dX12_isTaken_24 : decode cX12_isTaken 24 = .ok (.getfield 81, 3) := by decide +kernel
theorem dX12_isTaken_27 : decode cX12_isTaken 27 = .ok (.iload_n 3, 1) := by decide +kernel
theorem dX12_isTaken_28 : decode cX12_isTaken 28 = .ok (.iaload, 1) := by decide +kernel
theorem dX12_isTaken_29 : decode cX12_isTaken 29 = .ok (.iconst (-1), 1) := by decide +kernel
theorem dX12_isTaken_30 : decode cX12_isTaken 30 = .ok (.if_icmp .ne 5, 3) := by decide +kernel
theorem dX12_isTaken_33 : decode cX12_isTaken 33 = .ok (.iconst 0, 1) := by decide +kernel
theorem dX12_isTaken_34 : decode cX12_isTaken 34 = .ok (.ireturn, 1) := by decide +kernel
theorem dX12_isTaken_35 : decode cX12_isTaken 35 = .ok (.iinc 3 1, 3) := by decide +kernel
theorem dX12_isTaken_38 : decode cX12_isTaken 38 = .ok (.goto (-36), 3) := by decide +kernel
theorem dX12_isTaken_41 : decode cX12_isTaken 41 = .ok (.aload_n 0, 1) := by decide +kernel
theorem dX12_isTaken_42 : decode cX12_isTaken 42 = .ok (.aload_n 0, 1) := by decide +kernel
theorem dX12_isTaken_43 : decode cX12_isTaken 43 = .ok (.getfield 27, 3) := by decide +kernel
theorem dX12_isTaken_46 : decode cX12_isTaken 46 = .ok (.iload_n 1, 1) := by decide +kernel
theorem dX12_isTaken_47 : decode cX12_isTaken 47 = .ok (.iaload, 1) := by decide +kernel
theorem dX12_isTaken_48 : decode cX12_isTaken 48 = .ok (.invokevirtual 327, 3) := by decide +kernel
theorem dX12_isTaken_51 : decode cX12_isTaken 51 = .ok (.ireturn, 1) := by decide +kernel
theorem dX12_taken_0 : decode cX12_taken 0 = .ok (.aload_n 0, 1) := by decide +kernel
theorem dX12_taken_1 : decode cX12_taken 1 = .ok (.iconst 0, 1) := by decide +kernel
theorem dX12_taken_2 : decode cX12_taken 2 = .ok (.putfield 87, 3) := by decide +kernel
theorem dX12_taken_5 : decode cX12_taken 5 = .ok (.iload_n 1, 1) := by decide +kernel
theorem dX12_taken_6 : decode cX12_taken 6 = .ok (.iconst 3, 1) := by decide +kernel
theorem dX12_taken_7 : decode cX12_taken 7 = .ok (.if_icmp .lt 9, 3) := by decide +kernel
theorem dX12_taken_10 : decode cX12_taken 10 = .ok (.iload_n 1, 1) := by decide +kernel
theorem dX12_taken_11 : decode cX12_taken 11 = .ok (.bipush 9, 2) := by decide +kernel
theorem dX12_taken_13 : decode cX12_taken 13 = .ok (.if_icmp .le 5, 3) := by decide +kernel
theorem dX12_taken_16 : decode cX12_taken 16 = .ok (.iconst (-1), 1) := by decide +kernel
theorem dX12_taken_17 : decode cX12_taken 17 = .ok (.ireturn, 1) := by decide +kernel
theorem dX12_taken_18 : decode cX12_taken 18 = .ok (.aload_n 0, 1) := by decide +kernel
theorem dX12_taken_19 : decode cX12_taken 19 = .ok (.invokevirtual 255, 3) := by decide +kernel
theorem dX12_taken_22 : decode cX12_taken 22 = .ok (.iconst 0, 1) := by decide +kernel
theorem dX12_taken_23 : decode cX12_taken 23 = .ok (.istore_n 2, 1) := by decide +kernel
theorem dX12_taken_24 : decode cX12_taken 24 = .ok (.iconst 0, 1) := by decide +kernel
theorem dX12_taken_25 : decode cX12_taken 25 = .ok (.istore_n 3, 1) := by decide +kernel
theorem dX12_taken_26 : decode cX12_taken 26 = .ok (.iload_n 3, 1) := by decide +kernel
theorem dX12_taken_27 : decode cX12_taken 27 = .ok (.aload_n 0, 1) := by decide +kernel
theorem dX12_taken_28 : decode cX12_taken 28 = .ok (.getfield 240, 3) := by decide +kernel
theorem dX12_taken_31 : decode cX12_taken 31 = .ok (.if_icmp .ge 24, 3) := by decide +kernel
theorem dX12_taken_34 : decode cX12_taken 34 = .ok (.aload_n 0, 1) := by decide +kernel
theorem dX12_taken_35 : decode cX12_taken 35 = .ok (.iload_n 3, 1) := by decide +kernel
theorem dX12_taken_36 : decode cX12_taken 36 = .ok (.iload_n 1, 1) := by decide +kernel
theorem dX12_taken_37 : decode cX12_taken 37 = .ok (.invokevirtual 330, 3) := by decide +kernel
theorem dX12_taken_40 : decode cX12_taken 40 = .ok (.ifCond .eq 9, 3) := by decide +kernel
theorem dX12_taken_43 : decode cX12_taken 43 = .ok (.iload_n 2, 1) := by decide +kernel
theorem dX12_taken_44 : decode cX12_taken 44 = .ok (.iconst 1, 1) := by decide +kernel
theorem dX12_taken_45 : decode cX12_taken 45 = .ok (.iload_n 3, 1) := by decide +kernel
theorem dX12_taken_46 : decode cX12_taken 46 = .ok (.ishl, 1) := by decide +kernel
theorem dX12_taken_47 : decode cX12_taken 47 = .ok (.ior, 1) := by decide +kernel
theorem dX12_taken_48 : decode cX12_taken 48 = .ok (.istore_n 2, 1) := by decide +kernel
theorem dX12_taken_49 : decode cX12_taken 49 = .ok (.iinc 3 1, 3) := by decide +kernel
theorem dX12_taken_52 : decode cX12_taken 52 = .ok (.goto (-26), 3) := by decide +kernel
theorem dX12_taken_55 : decode cX12_taken 55 = .ok (.iload_n 2, 1) := by decide +kernel
theorem dX12_taken_56 : decode cX12_taken 56 = .ok (.ireturn, 1) := by decide +kernel
theorem dX12_law_0 : decode cX12_law 0 = .ok (.aload_n 0, 1) := by decide +kernel
theorem dX12_law_1 : decode cX12_law 1 = .ok (.iconst 0, 1) := by decide +kernel
theorem dX12_law_2 : decode cX12_law 2 = .ok (.putfield 87, 3) := by decide +kernel
theorem dX12_law_5 : decode cX12_law 5 = .ok (.iload_n 1, 1) := by decide +kernel
theorem dX12_law_6 : decode cX12_law 6 = .ok (.ifCond .lt 18, 3) := by decide +kernel
theorem dX12_law_9 : decode cX12_law 9 = .ok (.iload_n 1, 1) := by decide +kernel
theorem dX12_law_10 : decode cX12_law 10 = .ok (.bipush 9, 2) := by decide +kernel
theorem dX12_law_12 : decode cX12_law 12 = .ok (.if_icmp .gt 12, 3) := by decide +kernel
theorem dX12_law_15 : decode cX12_law 15 = .ok (.iload_n 2, 1) := by decide +kernel
theorem dX12_law_16 : decode cX12_law 16 = .ok (.ifCond .lt 8, 3) := by decide +kernel
theorem dX12_law_19 : decode cX12_law 19 = .ok (.iload_n 2, 1) := by decide +kernel
theorem dX12_law_20 : decode cX12_law 20 = .ok (.iconst 4, 1) := by decide +kernel
theorem dX12_law_21 : decode cX12_law 21 = .ok (.if_icmp .le 7, 3) := by decide +kernel
theorem dX12_law_24 : decode cX12_law 24 = .ok (.ldc2_w 292, 3) := by decide +kernel
theorem dX12_law_27 : decode cX12_law 27 = .ok (.lreturn, 1) := by decide +kernel
theorem dX12_law_28 : decode cX12_law 28 = .ok (.lconst 0, 1) := by decide +kernel
theorem dX12_law_29 : decode cX12_law 29 = .ok (.lstore_n 3, 1) := by decide +kernel
theorem dX12_law_30 : decode cX12_law 30 = .ok (.lconst 0, 1) := by decide +kernel
theorem dX12_law_31 : decode cX12_law 31 = .ok (.lstore 5, 2) := by decide +kernel
theorem dX12_law_33 : decode cX12_law 33 = .ok (.lconst 0, 1) := by decide +kernel
theorem dX12_law_34 : decode cX12_law 34 = .ok (.lstore 7, 2) := by decide +kernel
theorem dX12_law_36 : decode cX12_law 36 = .ok (.lconst 0, 1) := by decide +kernel
theorem dX12_law_37 : decode cX12_law 37 = .ok (.lstore 9, 2) := by decide +kernel
theorem dX12_law_39 : decode cX12_law 39 = .ok (.iconst 0, 1) := by decide +kernel
theorem dX12_law_40 : decode cX12_law 40 = .ok (.istore 11, 2) := by decide +kernel
theorem dX12_law_42 : decode cX12_law 42 = .ok (.iload 11, 2) := by decide +kernel
theorem dX12_law_44 : decode cX12_law 44 = .ok (.aload_n 0, 1) := by decide +kernel
theorem dX12_law_45 : decode cX12_law 45 = .ok (.getfield 237, 3) := by decide +kernel
theorem dX12_law_48 : decode cX12_law 48 = .ok (.if_icmp .ge 189, 3) := by decide +kernel
theorem dX12_law_51 : decode cX12_law 51 = .ok (.iconst 0, 1) := by decide +kernel
theorem dX12_law_52 : decode cX12_law 52 = .ok (.istore 12, 2) := by decide +kernel
theorem dX12_law_54 : decode cX12_law 54 = .ok (.iload 12, 2) := by decide +kernel
theorem dX12_law_56 : decode cX12_law 56 = .ok (.sipush 1000, 3) := by decide +kernel
theorem dX12_law_59 : decode cX12_law 59 = .ok (.if_icmp .ge 172, 3) := by decide +kernel
theorem dX12_law_62 : decode cX12_law 62 = .ok (.aload_n 0, 1) := by decide +kernel
theorem dX12_law_63 : decode cX12_law 63 = .ok (.getfield 81, 3) := by decide +kernel
theorem dX12_law_66 : decode cX12_law 66 = .ok (.iconst 0, 1) := by decide +kernel
theorem dX12_law_67 : decode cX12_law 67 = .ok (.aload_n 0, 1) := by decide +kernel
theorem dX12_law_68 : decode cX12_law 68 = .ok (.getfield 21, 3) := by decide +kernel
theorem dX12_law_71 : decode cX12_law 71 = .ok (.bipush 10, 2) := by decide +kernel
theorem dX12_law_73 : decode cX12_law 73 = .ok (.iload 11, 2) := by decide +kernel
theorem dX12_law_75 : decode cX12_law 75 = .ok (.imul, 1) := by decide +kernel
theorem dX12_law_76 : decode cX12_law 76 = .ok (.iload 12, 2) := by decide +kernel
theorem dX12_law_78 : decode cX12_law 78 = .ok (.bipush 100, 2) := by decide +kernel
theorem dX12_law_80 : decode cX12_law 80 = .ok (.idiv, 1) := by decide +kernel
theorem dX12_law_81 : decode cX12_law 81 = .ok (.iadd, 1) := by decide +kernel
theorem dX12_law_82 : decode cX12_law 82 = .ok (.iaload, 1) := by decide +kernel
theorem dX12_law_83 : decode cX12_law 83 = .ok (.iastore, 1) := by decide +kernel
theorem dX12_law_84 : decode cX12_law 84 = .ok (.aload_n 0, 1) := by decide +kernel
theorem dX12_law_85 : decode cX12_law 85 = .ok (.getfield 81, 3) := by decide +kernel
theorem dX12_law_88 : decode cX12_law 88 = .ok (.iconst 1, 1) := by decide +kernel
theorem dX12_law_89 : decode cX12_law 89 = .ok (.aload_n 0, 1) := by decide +kernel
theorem dX12_law_90 : decode cX12_law 90 = .ok (.getfield 21, 3) := by decide +kernel
theorem dX12_law_93 : decode cX12_law 93 = .ok (.bipush 10, 2) := by decide +kernel
theorem dX12_law_95 : decode cX12_law 95 = .ok (.iload 11, 2) := by decide +kernel
theorem dX12_law_97 : decode cX12_law 97 = .ok (.imul, 1) := by decide +kernel
theorem dX12_law_98 : decode cX12_law 98 = .ok (.iload 12, 2) := by decide +kernel
theorem dX12_law_100 : decode cX12_law 100 = .ok (.bipush 10, 2) := by decide +kernel
theorem dX12_law_102 : decode cX12_law 102 = .ok (.idiv, 1) := by decide +kernel
theorem dX12_law_103 : decode cX12_law 103 = .ok (.bipush 10, 2) := by decide +kernel
theorem dX12_law_105 : decode cX12_law 105 = .ok (.irem, 1) := by decide +kernel
theorem dX12_law_106 : decode cX12_law 106 = .ok (.iadd, 1) := by decide +kernel
theorem dX12_law_107 : decode cX12_law 107 = .ok (.iaload, 1) := by decide +kernel
theorem dX12_law_108 : decode cX12_law 108 = .ok (.iastore, 1) := by decide +kernel
theorem dX12_law_109 : decode cX12_law 109 = .ok (.aload_n 0, 1) := by decide +kernel
theorem dX12_law_110 : decode cX12_law 110 = .ok (.getfield 81, 3) := by decide +kernel
theorem dX12_law_113 : decode cX12_law 113 = .ok (.iconst 2, 1) := by decide +kernel
theorem dX12_law_114 : decode cX12_law 114 = .ok (.aload_n 0, 1) := by decide +kernel
theorem dX12_law_115 : decode cX12_law 115 = .ok (.getfield 21, 3) := by decide +kernel
theorem dX12_law_118 : decode cX12_law 118 = .ok (.bipush 10, 2) := by decide +kernel
theorem dX12_law_120 : decode cX12_law 120 = .ok (.iload 11, 2) := by decide +kernel
theorem dX12_law_122 : decode cX12_law 122 = .ok (.imul, 1) := by decide +kernel
theorem dX12_law_123 : decode cX12_law 123 = .ok (.iload 12, 2) := by decide +kernel
theorem dX12_law_125 : decode cX12_law 125 = .ok (.bipush 10, 2) := by decide +kernel
theorem dX12_law_127 : decode cX12_law 127 = .ok (.irem, 1) := by decide +kernel
theorem dX12_law_128 : decode cX12_law 128 = .ok (.iadd, 1) := by decide +kernel
theorem dX12_law_129 : decode cX12_law 129 = .ok (.iaload, 1) := by decide +kernel
theorem dX12_law_130 : decode cX12_law 130 = .ok (.iastore, 1) := by decide +kernel
theorem dX12_law_131 : decode cX12_law 131 = .ok (.lload 5, 2) := by decide +kernel
theorem dX12_law_133 : decode cX12_law 133 = .ok (.aload_n 0, 1) := by decide +kernel
theorem dX12_law_134 : decode cX12_law 134 = .ok (.getfield 18, 3) := by decide +kernel
theorem dX12_law_137 : decode cX12_law 137 = .ok (.iload 11, 2) := by decide +kernel
theorem dX12_law_139 : decode cX12_law 139 = .ok (.iaload, 1) := by decide +kernel
theorem dX12_law_140 : decode cX12_law 140 = .ok (.i2l, 1) := by decide +kernel
theorem dX12_law_141 : decode cX12_law 141 = .ok (.ladd, 1) := by decide +kernel
theorem dX12_law_142 : decode cX12_law 142 = .ok (.lstore 5, 2) := by decide +kernel
theorem dX12_law_144 : decode cX12_law 144 = .ok (.aload_n 0, 1) := by decide +kernel
theorem dX12_law_145 : decode cX12_law 145 = .ok (.iload_n 1, 1) := by decide +kernel
theorem dX12_law_146 : decode cX12_law 146 = .ok (.invokevirtual 327, 3) := by decide +kernel
theorem dX12_law_149 : decode cX12_law 149 = .ok (.ifCond .ne 6, 3) := by decide +kernel
theorem dX12_law_152 : decode cX12_law 152 = .ok (.goto 73, 3) := by decide +kernel
theorem dX12_law_155 : decode cX12_law 155 = .ok (.lload_n 3, 1) := by decide +kernel
theorem dX12_law_156 : decode cX12_law 156 = .ok (.aload_n 0, 1) := by decide +kernel
theorem dX12_law_157 : decode cX12_law 157 = .ok (.getfield 18, 3) := by decide +kernel
theorem dX12_law_160 : decode cX12_law 160 = .ok (.iload 11, 2) := by decide +kernel
theorem dX12_law_162 : decode cX12_law 162 = .ok (.iaload, 1) := by decide +kernel
theorem dX12_law_163 : decode cX12_law 163 = .ok (.i2l, 1) := by decide +kernel
theorem dX12_law_164 : decode cX12_law 164 = .ok (.ladd, 1) := by decide +kernel
theorem dX12_law_165 : decode cX12_law 165 = .ok (.lstore_n 3, 1) := by decide +kernel
theorem dX12_law_166 : decode cX12_law 166 = .ok (.lload 7, 2) := by decide +kernel
theorem dX12_law_168 : decode cX12_law 168 = .ok (.aload_n 0, 1) := by decide +kernel
theorem dX12_law_169 : decode cX12_law 169 = .ok (.getfield 18, 3) := by decide +kernel
theorem dX12_law_172 : decode cX12_law 172 = .ok (.iload 11, 2) := by decide +kernel
theorem dX12_law_174 : decode cX12_law 174 = .ok (.iaload, 1) := by decide +kernel
theorem dX12_law_175 : decode cX12_law 175 = .ok (.aload_n 0, 1) := by decide +kernel
theorem dX12_law_176 : decode cX12_law 176 = .ok (.getfield 81, 3) := by decide +kernel
theorem dX12_law_179 : decode cX12_law 179 = .ok (.iconst 0, 1) := by decide +kernel
theorem dX12_law_180 : decode cX12_law 180 = .ok (.iaload, 1) := by decide +kernel
theorem dX12_law_181 : decode cX12_law 181 = .ok (.aload_n 0, 1) := by decide +kernel
theorem dX12_law_182 : decode cX12_law 182 = .ok (.getfield 81, 3) := by decide +kernel
theorem dX12_law_185 : decode cX12_law 185 = .ok (.iconst 1, 1) := by decide +kernel
theorem dX12_law_186 : decode cX12_law 186 = .ok (.iaload, 1) := by decide +kernel
theorem dX12_law_187 : decode cX12_law 187 = .ok (.iadd, 1) := by decide +kernel
theorem dX12_law_188 : decode cX12_law 188 = .ok (.aload_n 0, 1) := by decide +kernel
theorem dX12_law_189 : decode cX12_law 189 = .ok (.getfield 81, 3) := by decide +kernel
theorem dX12_law_192 : decode cX12_law 192 = .ok (.iconst 2, 1) := by decide +kernel
theorem dX12_law_193 : decode cX12_law 193 = .ok (.iaload, 1) := by decide +kernel
theorem dX12_law_194 : decode cX12_law 194 = .ok (.iadd, 1) := by decide +kernel
theorem dX12_law_195 : decode cX12_law 195 = .ok (.imul, 1) := by decide +kernel
theorem dX12_law_196 : decode cX12_law 196 = .ok (.i2l, 1) := by decide +kernel
theorem dX12_law_197 : decode cX12_law 197 = .ok (.ladd, 1) := by decide +kernel
theorem dX12_law_198 : decode cX12_law 198 = .ok (.lstore 7, 2) := by decide +kernel
theorem dX12_law_200 : decode cX12_law 200 = .ok (.lload 9, 2) := by decide +kernel
theorem dX12_law_202 : decode cX12_law 202 = .ok (.ldc2_w 333, 3) := by decide +kernel
theorem dX12_law_205 : decode cX12_law 205 = .ok (.aload_n 0, 1) := by decide +kernel
theorem dX12_law_206 : decode cX12_law 206 = .ok (.getfield 18, 3) := by decide +kernel
theorem dX12_law_209 : decode cX12_law 209 = .ok (.iload 11, 2) := by decide +kernel
theorem dX12_law_211 : decode cX12_law 211 = .ok (.iaload, 1) := by decide +kernel
theorem dX12_law_212 : decode cX12_law 212 = .ok (.i2l, 1) := by decide +kernel
theorem dX12_law_213 : decode cX12_law 213 = .ok (.lmul, 1) := by decide +kernel
theorem dX12_law_214 : decode cX12_law 214 = .ok (.aload_n 0, 1) := by decide +kernel
theorem dX12_law_215 : decode cX12_law 215 = .ok (.iload 11, 2) := by decide +kernel
theorem dX12_law_217 : decode cX12_law 217 = .ok (.invokevirtual 278, 3) := by decide +kernel
theorem dX12_law_220 : decode cX12_law 220 = .ok (.i2l, 1) := by decide +kernel
theorem dX12_law_221 : decode cX12_law 221 = .ok (.lmul, 1) := by decide +kernel
theorem dX12_law_222 : decode cX12_law 222 = .ok (.ladd, 1) := by decide +kernel
theorem dX12_law_223 : decode cX12_law 223 = .ok (.lstore 9, 2) := by decide +kernel
theorem dX12_law_225 : decode cX12_law 225 = .ok (.iinc 12 1, 3) := by decide +kernel
theorem dX12_law_228 : decode cX12_law 228 = .ok (.goto (-174), 3) := by decide +kernel
theorem dX12_law_231 : decode cX12_law 231 = .ok (.iinc 11 1, 3) := by decide +kernel
theorem dX12_law_234 : decode cX12_law 234 = .ok (.goto (-192), 3) := by decide +kernel
theorem dX12_law_237 : decode cX12_law 237 = .ok (.iload_n 2, 1) := by decide +kernel
theorem dX12_law_238 : decode cX12_law 238 = .ok (.tableswitch 41 0 3 #[30, 32, 35, 38], 30) := by decide +kernel
theorem dX12_law_268 : decode cX12_law 268 = .ok (.lload_n 3, 1) := by decide +kernel
theorem dX12_law_269 : decode cX12_law 269 = .ok (.lreturn, 1) := by decide +kernel
theorem dX12_law_270 : decode cX12_law 270 = .ok (.lload 5, 2) := by decide +kernel
theorem dX12_law_272 : decode cX12_law 272 = .ok (.lreturn, 1) := by decide +kernel
theorem dX12_law_273 : decode cX12_law 273 = .ok (.lload 7, 2) := by decide +kernel
theorem dX12_law_275 : decode cX12_law 275 = .ok (.lreturn, 1) := by decide +kernel
theorem dX12_law_276 : decode cX12_law 276 = .ok (.lload 9, 2) := by decide +kernel
theorem dX12_law_278 : decode cX12_law 278 = .ok (.lreturn, 1) := by decide +kernel
theorem dX12_law_279 : decode cX12_law 279 = .ok (.lload 7, 2) := by decide +kernel
theorem dX12_law_281 : decode cX12_law 281 = .ok (.lconst 0, 1) := by decide +kernel
theorem dX12_law_282 : decode cX12_law 282 = .ok (.lcmp, 1) := by decide +kernel
theorem dX12_law_283 : decode cX12_law 283 = .ok (.ifCond .ne 7, 3) := by decide +kernel
theorem dX12_law_286 : decode cX12_law 286 = .ok (.lconst 0, 1) := by decide +kernel
theorem dX12_law_287 : decode cX12_law 287 = .ok (.goto 23, 3) := by decide +kernel
theorem dX12_law_290 : decode cX12_law 290 = .ok (.ldc2_w 335, 3) := by decide +kernel
theorem dX12_law_293 : decode cX12_law 293 = .ok (.ldc2_w 282, 3) := by decide +kernel
theorem dX12_law_296 : decode cX12_law 296 = .ok (.lload 7, 2) := by decide +kernel
theorem dX12_law_298 : decode cX12_law 298 = .ok (.lmul, 1) := by decide +kernel
theorem dX12_law_299 : decode cX12_law 299 = .ok (.lload 9, 2) := by decide +kernel
theorem dX12_law_301 : decode cX12_law 301 = .ok (.lsub, 1) := by decide +kernel
theorem dX12_law_302 : decode cX12_law 302 = .ok (.lmul, 1) := by decide +kernel
theorem dX12_law_303 : decode cX12_law 303 = .ok (.ldc2_w 282, 3) := by decide +kernel
theorem dX12_law_306 : decode cX12_law 306 = .ok (.lload 7, 2) := by decide +kernel
theorem dX12_law_308 : decode cX12_law 308 = .ok (.lmul, 1) := by decide +kernel
theorem dX12_law_309 : decode cX12_law 309 = .ok (.ldiv, 1) := by decide +kernel
theorem dX12_law_310 : decode cX12_law 310 = .ok (.lreturn, 1) := by decide +kernel
theorem dX12_sumOf_0 : decode cX12_sumOf 0 = .ok (.iconst 0, 1) := by decide +kernel
theorem dX12_sumOf_1 : decode cX12_sumOf 1 = .ok (.istore_n 3, 1) := by decide +kernel
theorem dX12_sumOf_2 : decode cX12_sumOf 2 = .ok (.iconst 0, 1) := by decide +kernel
theorem dX12_sumOf_3 : decode cX12_sumOf 3 = .ok (.istore 4, 2) := by decide +kernel
theorem dX12_sumOf_5 : decode cX12_sumOf 5 = .ok (.iload 4, 2) := by decide +kernel
theorem dX12_sumOf_7 : decode cX12_sumOf 7 = .ok (.iconst 3, 1) := by decide +kernel
theorem dX12_sumOf_8 : decode cX12_sumOf 8 = .ok (.if_icmp .ge 33, 3) := by decide +kernel
theorem dX12_sumOf_11 : decode cX12_sumOf 11 = .ok (.aload_n 0, 1) := by decide +kernel
theorem dX12_sumOf_12 : decode cX12_sumOf 12 = .ok (.iload_n 1, 1) := by decide +kernel
theorem dX12_sumOf_13 : decode cX12_sumOf 13 = .ok (.iload_n 2, 1) := by decide +kernel
theorem dX12_sumOf_14 : decode cX12_sumOf 14 = .ok (.iload 4, 2) := by decide +kernel
theorem dX12_sumOf_16 : decode cX12_sumOf 16 = .ok (.iadd, 1) := by decide +kernel
theorem dX12_sumOf_17 : decode cX12_sumOf 17 = .ok (.invokevirtual 258, 3) := by decide +kernel
theorem dX12_sumOf_20 : decode cX12_sumOf 20 = .ok (.istore 5, 2) := by decide +kernel
theorem dX12_sumOf_22 : decode cX12_sumOf 22 = .ok (.iload 5, 2) := by decide +kernel
theorem dX12_sumOf_24 : decode cX12_sumOf 24 = .ok (.iconst (-1), 1) := by decide +kernel
theorem dX12_sumOf_25 : decode cX12_sumOf 25 = .ok (.if_icmp .ne 5, 3) := by decide +kernel
theorem dX12_sumOf_28 : decode cX12_sumOf 28 = .ok (.iconst (-1), 1) := by decide +kernel
theorem dX12_sumOf_29 : decode cX12_sumOf 29 = .ok (.ireturn, 1) := by decide +kernel
theorem dX12_sumOf_30 : decode cX12_sumOf 30 = .ok (.iload_n 3, 1) := by decide +kernel
theorem dX12_sumOf_31 : decode cX12_sumOf 31 = .ok (.iload 5, 2) := by decide +kernel
theorem dX12_sumOf_33 : decode cX12_sumOf 33 = .ok (.iadd, 1) := by decide +kernel
theorem dX12_sumOf_34 : decode cX12_sumOf 34 = .ok (.istore_n 3, 1) := by decide +kernel
theorem dX12_sumOf_35 : decode cX12_sumOf 35 = .ok (.iinc 4 1, 3) := by decide +kernel
theorem dX12_sumOf_38 : decode cX12_sumOf 38 = .ok (.goto (-33), 3) := by decide +kernel
theorem dX12_sumOf_41 : decode cX12_sumOf 41 = .ok (.iload_n 3, 1) := by decide +kernel
theorem dX12_sumOf_42 : decode cX12_sumOf 42 = .ok (.ireturn, 1) := by decide +kernel
theorem dX12_isSix_0 : decode cX12_isSix 0 = .ok (.aload_n 0, 1) := by decide +kernel
theorem dX12_isSix_1 : decode cX12_isSix 1 = .ok (.iload_n 1, 1) := by decide +kernel
theorem dX12_isSix_2 : decode cX12_isSix 2 = .ok (.iload_n 2, 1) := by decide +kernel
theorem dX12_isSix_3 : decode cX12_isSix 3 = .ok (.iconst 3, 1) := by decide +kernel
theorem dX12_isSix_4 : decode cX12_isSix 4 = .ok (.isub, 1) := by decide +kernel
theorem dX12_isSix_5 : decode cX12_isSix 5 = .ok (.invokevirtual 337, 3) := by decide +kernel
theorem dX12_isSix_8 : decode cX12_isSix 8 = .ok (.iconst (-1), 1) := by decide +kernel
theorem dX12_isSix_9 : decode cX12_isSix 9 = .ok (.if_icmp .eq 17, 3) := by decide +kernel
theorem dX12_isSix_12 : decode cX12_isSix 12 = .ok (.aload_n 0, 1) := by decide +kernel
theorem dX12_isSix_13 : decode cX12_isSix 13 = .ok (.iload_n 1, 1) := by decide +kernel
theorem dX12_isSix_14 : decode cX12_isSix 14 = .ok (.iload_n 2, 1) := by decide +kernel
theorem dX12_isSix_15 : decode cX12_isSix 15 = .ok (.invokevirtual 337, 3) := by decide +kernel
theorem dX12_isSix_18 : decode cX12_isSix 18 = .ok (.iconst (-1), 1) := by decide +kernel
theorem dX12_isSix_19 : decode cX12_isSix 19 = .ok (.if_icmp .eq 7, 3) := by decide +kernel
theorem dX12_isSix_22 : decode cX12_isSix 22 = .ok (.iconst 1, 1) := by decide +kernel
theorem dX12_isSix_23 : decode cX12_isSix 23 = .ok (.goto 4, 3) := by decide +kernel
theorem dX12_isSix_26 : decode cX12_isSix 26 = .ok (.iconst 0, 1) := by decide +kernel
theorem dX12_isSix_27 : decode cX12_isSix 27 = .ok (.ireturn, 1) := by decide +kernel
theorem dX12_lands_0 : decode cX12_lands 0 = .ok (.aload_n 0, 1) := by decide +kernel
theorem dX12_lands_1 : decode cX12_lands 1 = .ok (.iconst 0, 1) := by decide +kernel
theorem dX12_lands_2 : decode cX12_lands 2 = .ok (.putfield 340, 3) := by decide +kernel
theorem dX12_lands_5 : decode cX12_lands 5 = .ok (.aload_n 0, 1) := by decide +kernel
theorem dX12_lands_6 : decode cX12_lands 6 = .ok (.iconst 0, 1) := by decide +kernel
theorem dX12_lands_7 : decode cX12_lands 7 = .ok (.putfield 343, 3) := by decide +kernel
theorem dX12_lands_10 : decode cX12_lands 10 = .ok (.iconst 0, 1) := by decide +kernel
theorem dX12_lands_11 : decode cX12_lands 11 = .ok (.istore_n 2, 1) := by decide +kernel
theorem dX12_lands_12 : decode cX12_lands 12 = .ok (.iload_n 2, 1) := by decide +kernel
theorem dX12_lands_13 : decode cX12_lands 13 = .ok (.aload_n 0, 1) := by decide +kernel
theorem dX12_lands_14 : decode cX12_lands 14 = .ok (.getfield 240, 3) := by decide +kernel
theorem dX12_lands_17 : decode cX12_lands 17 = .ok (.if_icmp .ge 62, 3) := by decide +kernel
theorem dX12_lands_20 : decode cX12_lands 20 = .ok (.aload_n 0, 1) := by decide +kernel
theorem dX12_lands_21 : decode cX12_lands 21 = .ok (.getfield 34, 3) := by decide +kernel
theorem dX12_lands_24 : decode cX12_lands 24 = .ok (.iload_n 2, 1) := by decide +kernel
theorem dX12_lands_25 : decode cX12_lands 25 = .ok (.iaload, 1) := by decide +kernel
theorem dX12_lands_26 : decode cX12_lands 26 = .ok (.ifCond .ne 47, 3) := by decide +kernel
theorem dX12_lands_29 : decode cX12_lands 29 = .ok (.aload_n 0, 1) := by decide +kernel
theorem dX12_lands_30 : decode cX12_lands 30 = .ok (.iload_n 2, 1) := by decide +kernel
theorem dX12_lands_31 : decode cX12_lands 31 = .ok (.iload_n 1, 1) := by decide +kernel
theorem dX12_lands_32 : decode cX12_lands 32 = .ok (.invokevirtual 346, 3) := by decide +kernel
theorem dX12_lands_35 : decode cX12_lands 35 = .ok (.ifCond .ne 6, 3) := by decide +kernel
theorem dX12_lands_38 : decode cX12_lands 38 = .ok (.goto 35, 3) := by decide +kernel
theorem dX12_lands_41 : decode cX12_lands 41 = .ok (.aload_n 0, 1) := by decide +kernel
theorem dX12_lands_42 : decode cX12_lands 42 = .ok (.dup, 1) := by decide +kernel
theorem dX12_lands_43 : decode cX12_lands 43 = .ok (.getfield 340, 3) := by decide +kernel
theorem dX12_lands_46 : decode cX12_lands 46 = .ok (.aload_n 0, 1) := by decide +kernel
theorem dX12_lands_47 : decode cX12_lands 47 = .ok (.iload_n 2, 1) := by decide +kernel
theorem dX12_lands_48 : decode cX12_lands 48 = .ok (.iload_n 1, 1) := by decide +kernel
theorem dX12_lands_49 : decode cX12_lands 49 = .ok (.iconst 3, 1) := by decide +kernel
theorem dX12_lands_50 : decode cX12_lands 50 = .ok (.isub, 1) := by decide +kernel
theorem dX12_lands_51 : decode cX12_lands 51 = .ok (.invokevirtual 337, 3) := by decide +kernel
theorem dX12_lands_54 : decode cX12_lands 54 = .ok (.iadd, 1) := by decide +kernel
theorem dX12_lands_55 : decode cX12_lands 55 = .ok (.putfield 340, 3) := by decide +kernel
theorem dX12_lands_58 : decode cX12_lands 58 = .ok (.aload_n 0, 1) := by decide +kernel
theorem dX12_lands_59 : decode cX12_lands 59 = .ok (.dup, 1) := by decide +kernel
theorem dX12_lands_60 : decode cX12_lands 60 = .ok (.getfield 343, 3) := by decide +kernel
theorem dX12_lands_63 : decode cX12_lands 63 = .ok (.aload_n 0, 1) := by decide +kernel
theorem dX12_lands_64 : decode cX12_lands 64 = .ok (.iload_n 2, 1) := by decide +kernel
theorem dX12_lands_65 : decode cX12_lands 65 = .ok (.iload_n 1, 1) := by decide +kernel
theorem dX12_lands_66 : decode cX12_lands 66 = .ok (.invokevirtual 337, 3) := by decide +kernel
theorem dX12_lands_69 : decode cX12_lands 69 = .ok (.iadd, 1) := by decide +kernel
theorem dX12_lands_70 : decode cX12_lands 70 = .ok (.putfield 343, 3) := by decide +kernel
theorem dX12_lands_73 : decode cX12_lands 73 = .ok (.iinc 2 1, 3) := by decide +kernel
theorem dX12_lands_76 : decode cX12_lands 76 = .ok (.goto (-64), 3) := by decide +kernel
theorem dX12_lands_79 : decode cX12_lands 79 = .ok (.return_, 1) := by decide +kernel
theorem dX12_landOf_0 : decode cX12_landOf 0 = .ok (.aload_n 0, 1) := by decide +kernel
theorem dX12_landOf_1 : decode cX12_landOf 1 = .ok (.getfield 340, 3) := by decide +kernel
theorem dX12_landOf_4 : decode cX12_landOf 4 = .ok (.ifCond .ne 7, 3) := by decide +kernel
theorem dX12_landOf_7 : decode cX12_landOf 7 = .ok (.iconst 0, 1) := by decide +kernel
theorem dX12_landOf_8 : decode cX12_landOf 8 = .ok (.goto 20, 3) := by decide +kernel
theorem dX12_landOf_11 : decode cX12_landOf 11 = .ok (.iload_n 1, 1) := by decide +kernel
theorem dX12_landOf_12 : decode cX12_landOf 12 = .ok (.iload_n 1, 1) := by decide +kernel
theorem dX12_landOf_13 : decode cX12_landOf 13 = .ok (.i2l, 1) := by decide +kernel
theorem dX12_landOf_14 : decode cX12_landOf 14 = .ok (.aload_n 0, 1) := by decide +kernel
theorem dX12_landOf_15 : decode cX12_landOf 15 = .ok (.getfield 343, 3) := by decide +kernel
theorem dX12_landOf_18 : decode cX12_landOf 18 = .ok (.i2l, 1) := by decide +kernel
theorem dX12_landOf_19 : decode cX12_landOf 19 = .ok (.lmul, 1) := by decide +kernel
theorem dX12_landOf_20 : decode cX12_landOf 20 = .ok (.aload_n 0, 1) := by decide +kernel
theorem dX12_landOf_21 : decode cX12_landOf 21 = .ok (.getfield 340, 3) := by decide +kernel
theorem dX12_landOf_24 : decode cX12_landOf 24 = .ok (.i2l, 1) := by decide +kernel
theorem dX12_landOf_25 : decode cX12_landOf 25 = .ok (.ldiv, 1) := by decide +kernel
theorem dX12_landOf_26 : decode cX12_landOf 26 = .ok (.l2i, 1) := by decide +kernel
theorem dX12_landOf_27 : decode cX12_landOf 27 = .ok (.isub, 1) := by decide +kernel
theorem dX12_landOf_28 : decode cX12_landOf 28 = .ok (.ireturn, 1) := by decide +kernel
theorem dX12_isWithout_0 : decode cX12_isWithout 0 = .ok (.aload_n 0, 1) := by decide +kernel
theorem dX12_isWithout_1 : decode cX12_isWithout 1 = .ok (.getfield 34, 3) := by decide +kernel
theorem dX12_isWithout_4 : decode cX12_isWithout 4 = .ok (.iload_n 1, 1) := by decide +kernel
theorem dX12_isWithout_5 : decode cX12_isWithout 5 = .ok (.iaload, 1) := by decide +kernel
theorem dX12_isWithout_6 : decode cX12_isWithout 6 = .ok (.ifCond .eq 15, 3) := by decide +kernel
theorem dX12_isWithout_9 : decode cX12_isWithout 9 = .ok (.aload_n 0, 1) := by decide +kernel
theorem dX12_isWithout_10 : decode cX12_isWithout 10 = .ok (.getfield 34, 3) := by decide +kernel
theorem dX12_isWithout_13 : decode cX12_isWithout 13 = .ok (.iload_n 1, 1) := by decide +kernel
theorem dX12_isWithout_14 : decode cX12_isWithout 14 = .ok (.iaload, 1) := by decide +kernel
theorem dX12_isWithout_15 : decode cX12_isWithout 15 = .ok (.iload_n 2, 1) := by decide +kernel
theorem dX12_isWithout_16 : decode cX12_isWithout 16 = .ok (.iconst 2, 1) := by decide +kernel
theorem dX12_isWithout_17 : decode cX12_isWithout 17 = .ok (.iadd, 1) := by decide +kernel
theorem dX12_isWithout_18 : decode cX12_isWithout 18 = .ok (.if_icmp .le 7, 3) := by decide +kernel
theorem dX12_isWithout_21 : decode cX12_isWithout 21 = .ok (.iconst 1, 1) := by decide +kernel
theorem dX12_isWithout_22 : decode cX12_isWithout 22 = .ok (.goto 4, 3) := by decide +kernel
theorem dX12_isWithout_25 : decode cX12_isWithout 25 = .ok (.iconst 0, 1) := by decide +kernel
theorem dX12_isWithout_26 : decode cX12_isWithout 26 = .ok (.ireturn, 1) := by decide +kernel
theorem dX12_fall_0 : decode cX12_fall 0 = .ok (.aload_n 0, 1) := by decide +kernel
theorem dX12_fall_1 : decode cX12_fall 1 = .ok (.iconst 0, 1) := by decide +kernel
theorem dX12_fall_2 : decode cX12_fall 2 = .ok (.putfield 87, 3) := by decide +kernel
theorem dX12_fall_5 : decode cX12_fall 5 = .ok (.aload_n 0, 1) := by decide +kernel
theorem dX12_fall_6 : decode cX12_fall 6 = .ok (.iload_n 1, 1) := by decide +kernel
theorem dX12_fall_7 : decode cX12_fall 7 = .ok (.invokevirtual 252, 3) := by decide +kernel
theorem dX12_fall_10 : decode cX12_fall 10 = .ok (.ifCond .eq 34, 3) := by decide +kernel
theorem dX12_fall_13 : decode cX12_fall 13 = .ok (.iload_n 2, 1) := by decide +kernel
theorem dX12_fall_14 : decode cX12_fall 14 = .ok (.ifCond .lt 30, 3) := by decide +kernel
theorem dX12_fall_17 : decode cX12_fall 17 = .ok (.iload_n 2, 1) := by decide +kernel
theorem dX12_fall_18 : decode cX12_fall 18 = .ok (.bipush 8, 2) := by decide +kernel
theorem dX12_fall_20 : decode cX12_fall 20 = .ok (.if_icmp .gt 24, 3) := by decide +kernel
theorem dX12_fall_23 : decode cX12_fall 23 = .ok (.aload_n 0, 1) := by decide +kernel
theorem dX12_fall_24 : decode cX12_fall 24 = .ok (.getfield 34, 3) := by decide +kernel
theorem dX12_fall_27 : decode cX12_fall 27 = .ok (.iload_n 1, 1) := by decide +kernel
theorem dX12_fall_28 : decode cX12_fall 28 = .ok (.iaload, 1) := by decide +kernel
theorem dX12_fall_29 : decode cX12_fall 29 = .ok (.iconst 3, 1) := by decide +kernel
theorem dX12_fall_30 : decode cX12_fall 30 = .ok (.if_icmp .lt 14, 3) := by decide +kernel
theorem dX12_fall_33 : decode cX12_fall 33 = .ok (.aload_n 0, 1) := by decide +kernel
theorem dX12_fall_34 : decode cX12_fall 34 = .ok (.getfield 34, 3) := by decide +kernel
theorem dX12_fall_37 : decode cX12_fall 37 = .ok (.iload_n 1, 1) := by decide +kernel
theorem dX12_fall_38 : decode cX12_fall 38 = .ok (.iaload, 1) := by decide +kernel
theorem dX12_fall_39 : decode cX12_fall 39 = .ok (.bipush 6, 2) := by decide +kernel
theorem dX12_fall_41 : decode cX12_fall 41 = .ok (.if_icmp .le 7, 3) := by decide +kernel
theorem dX12_fall_44 : decode cX12_fall 44 = .ok (.ldc_w 298, 3) := by decide +kernel
theorem dX12_fall_47 : decode cX12_fall 47 = .ok (.ireturn, 1) := by decide +kernel
theorem dX12_fall_48 : decode cX12_fall 48 = .ok (.aload_n 0, 1) := by decide +kernel
theorem dX12_fall_49 : decode cX12_fall 49 = .ok (.invokevirtual 255, 3) := by decide +kernel
theorem dX12_fall_52 : decode cX12_fall 52 = .ok (.aload_n 0, 1) := by decide +kernel
theorem dX12_fall_53 : decode cX12_fall 53 = .ok (.getfield 34, 3) := by decide +kernel
theorem dX12_fall_56 : decode cX12_fall 56 = .ok (.iload_n 1, 1) := by decide +kernel
theorem dX12_fall_57 : decode cX12_fall 57 = .ok (.iaload, 1) := by decide +kernel
theorem dX12_fall_58 : decode cX12_fall 58 = .ok (.istore_n 3, 1) := by decide +kernel
theorem dX12_fall_59 : decode cX12_fall 59 = .ok (.aload_n 0, 1) := by decide +kernel
theorem dX12_fall_60 : decode cX12_fall 60 = .ok (.iload_n 1, 1) := by decide +kernel
theorem dX12_fall_61 : decode cX12_fall 61 = .ok (.iload_n 3, 1) := by decide +kernel
theorem dX12_fall_62 : decode cX12_fall 62 = .ok (.invokevirtual 346, 3) := by decide +kernel
theorem dX12_fall_65 : decode cX12_fall 65 = .ok (.ifCond .ne 7, 3) := by decide +kernel
theorem dX12_fall_68 : decode cX12_fall 68 = .ok (.ldc_w 298, 3) := by decide +kernel
theorem dX12_fall_71 : decode cX12_fall 71 = .ok (.ireturn, 1) := by decide +kernel
theorem dX12_fall_72 : decode cX12_fall 72 = .ok (.aload_n 0, 1) := by decide +kernel
theorem dX12_fall_73 : decode cX12_fall 73 = .ok (.iload_n 1, 1) := by decide +kernel
theorem dX12_fall_74 : decode cX12_fall 74 = .ok (.iload_n 3, 1) := by decide +kernel
theorem dX12_fall_75 : decode cX12_fall 75 = .ok (.iconst 3, 1) := by decide +kernel
theorem dX12_fall_76 : decode cX12_fall 76 = .ok (.isub, 1) := by decide +kernel
theorem dX12_fall_77 : decode cX12_fall 77 = .ok (.invokevirtual 337, 3) := by decide +kernel
theorem dX12_fall_80 : decode cX12_fall 80 = .ok (.istore 4, 2) := by decide +kernel
theorem dX12_fall_82 : decode cX12_fall 82 = .ok (.aload_n 0, 1) := by decide +kernel
theorem dX12_fall_83 : decode cX12_fall 83 = .ok (.iload_n 1, 1) := by decide +kernel
theorem dX12_fall_84 : decode cX12_fall 84 = .ok (.iload_n 3, 1) := by decide +kernel
theorem dX12_fall_85 : decode cX12_fall 85 = .ok (.invokevirtual 337, 3) := by decide +kernel
theorem dX12_fall_88 : decode cX12_fall 88 = .ok (.istore 5, 2) := by decide +kernel
theorem dX12_fall_90 : decode cX12_fall 90 = .ok (.aload_n 0, 1) := by decide +kernel
theorem dX12_fall_91 : decode cX12_fall 91 = .ok (.iload_n 1, 1) := by decide +kernel
theorem dX12_fall_92 : decode cX12_fall 92 = .ok (.iload_n 3, 1) := by decide +kernel
theorem dX12_fall_93 : decode cX12_fall 93 = .ok (.iconst 3, 1) := by decide +kernel
theorem dX12_fall_94 : decode cX12_fall 94 = .ok (.isub, 1) := by decide +kernel
theorem dX12_fall_95 : decode cX12_fall 95 = .ok (.iload_n 3, 1) := by decide +kernel
theorem dX12_fall_96 : decode cX12_fall 96 = .ok (.iconst 1, 1) := by decide +kernel
theorem dX12_fall_97 : decode cX12_fall 97 = .ok (.isub, 1) := by decide +kernel
theorem dX12_fall_98 : decode cX12_fall 98 = .ok (.invokevirtual 294, 3) := by decide +kernel
theorem dX12_fall_101 : decode cX12_fall 101 = .ok (.aload_n 0, 1) := by decide +kernel
theorem dX12_fall_102 : decode cX12_fall 102 = .ok (.getfield 271, 3) := by decide +kernel
theorem dX12_fall_105 : decode cX12_fall 105 = .ok (.lconst 0, 1) := by decide +kernel
theorem dX12_fall_106 : decode cX12_fall 106 = .ok (.lcmp, 1) := by decide +kernel
theorem dX12_fall_107 : decode cX12_fall 107 = .ok (.ifCond .ne 12, 3) := by decide +kernel
theorem dX12_fall_110 : decode cX12_fall 110 = .ok (.sipush 1000, 3) := by decide +kernel
theorem dX12_fall_113 : decode cX12_fall 113 = .ok (.iload 4, 2) := by decide +kernel
theorem dX12_fall_115 : decode cX12_fall 115 = .ok (.imul, 1) := by decide +kernel
theorem dX12_fall_116 : decode cX12_fall 116 = .ok (.goto 17, 3) := by decide +kernel
theorem dX12_fall_119 : decode cX12_fall 119 = .ok (.ldc2_w 349, 3) := by decide +kernel
theorem dX12_fall_122 : decode cX12_fall 122 = .ok (.aload_n 0, 1) := by decide +kernel
theorem dX12_fall_123 : decode cX12_fall 123 = .ok (.getfield 267, 3) := by decide +kernel
theorem dX12_fall_126 : decode cX12_fall 126 = .ok (.lmul, 1) := by decide +kernel
theorem dX12_fall_127 : decode cX12_fall 127 = .ok (.aload_n 0, 1) := by decide +kernel
theorem dX12_fall_128 : decode cX12_fall 128 = .ok (.getfield 271, 3) := by decide +kernel
theorem dX12_fall_131 : decode cX12_fall 131 = .ok (.ldiv, 1) := by decide +kernel
theorem dX12_fall_132 : decode cX12_fall 132 = .ok (.l2i, 1) := by decide +kernel
theorem dX12_fall_133 : decode cX12_fall 133 = .ok (.istore 6, 2) := by decide +kernel
theorem dX12_fall_135 : decode cX12_fall 135 = .ok (.aload_n 0, 1) := by decide +kernel
theorem dX12_fall_136 : decode cX12_fall 136 = .ok (.iload_n 3, 1) := by decide +kernel
theorem dX12_fall_137 : decode cX12_fall 137 = .ok (.invokevirtual 351, 3) := by decide +kernel
theorem dX12_fall_140 : decode cX12_fall 140 = .ok (.aload_n 0, 1) := by decide +kernel
theorem dX12_fall_141 : decode cX12_fall 141 = .ok (.iload 6, 2) := by decide +kernel
theorem dX12_fall_143 : decode cX12_fall 143 = .ok (.invokevirtual 354, 3) := by decide +kernel
theorem dX12_fall_146 : decode cX12_fall 146 = .ok (.istore 7, 2) := by decide +kernel
theorem dX12_fall_148 : decode cX12_fall 148 = .ok (.aload_n 0, 1) := by decide +kernel
theorem dX12_fall_149 : decode cX12_fall 149 = .ok (.getfield 37, 3) := by decide +kernel
theorem dX12_fall_152 : decode cX12_fall 152 = .ok (.iload_n 1, 1) := by decide +kernel
theorem dX12_fall_153 : decode cX12_fall 153 = .ok (.iaload, 1) := by decide +kernel
theorem dX12_fall_154 : decode cX12_fall 154 = .ok (.iload_n 3, 1) := by decide +kernel
theorem dX12_fall_155 : decode cX12_fall 155 = .ok (.if_icmp .lt 33, 3) := by decide +kernel
theorem dX12_fall_158 : decode cX12_fall 158 = .ok (.aload_n 0, 1) := by decide +kernel
theorem dX12_fall_159 : decode cX12_fall 159 = .ok (.getfield 37, 3) := by decide +kernel
theorem dX12_fall_162 : decode cX12_fall 162 = .ok (.iload_n 1, 1) := by decide +kernel
theorem dX12_fall_163 : decode cX12_fall 163 = .ok (.iaload, 1) := by decide +kernel
theorem dX12_fall_164 : decode cX12_fall 164 = .ok (.iload_n 3, 1) := by decide +kernel
theorem dX12_fall_165 : decode cX12_fall 165 = .ok (.iconst 2, 1) := by decide +kernel
theorem dX12_fall_166 : decode cX12_fall 166 = .ok (.iadd, 1) := by decide +kernel
theorem dX12_fall_167 : decode cX12_fall 167 = .ok (.if_icmp .gt 21, 3) := by decide +kernel
theorem dX12_fall_170 : decode cX12_fall 170 = .ok (.iload 6, 2) := by decide +kernel
theorem dX12_fall_172 : decode cX12_fall 172 = .ok (.iload 7, 2) := by decide +kernel
theorem dX12_fall_174 : decode cX12_fall 174 = .ok (.isub, 1) := by decide +kernel
theorem dX12_fall_175 : decode cX12_fall 175 = .ok (.aload_n 0, 1) := by decide +kernel
theorem dX12_fall_176 : decode cX12_fall 176 = .ok (.getfield 40, 3) := by decide +kernel
theorem dX12_fall_179 : decode cX12_fall 179 = .ok (.iload_n 1, 1) := by decide +kernel
theorem dX12_fall_180 : decode cX12_fall 180 = .ok (.iaload, 1) := by decide +kernel
theorem dX12_fall_181 : decode cX12_fall 181 = .ok (.imul, 1) := by decide +kernel
theorem dX12_fall_182 : decode cX12_fall 182 = .ok (.bipush 10, 2) := by decide +kernel
theorem dX12_fall_184 : decode cX12_fall 184 = .ok (.idiv, 1) := by decide +kernel
theorem dX12_fall_185 : decode cX12_fall 185 = .ok (.goto 4, 3) := by decide +kernel
theorem dX12_fall_188 : decode cX12_fall 188 = .ok (.iconst 0, 1) := by decide +kernel
theorem dX12_fall_189 : decode cX12_fall 189 = .ok (.istore 8, 2) := by decide +kernel
theorem dX12_fall_191 : decode cX12_fall 191 = .ok (.sipush 1000, 3) := by decide +kernel
theorem dX12_fall_194 : decode cX12_fall 194 = .ok (.iload 4, 2) := by decide +kernel
theorem dX12_fall_196 : decode cX12_fall 196 = .ok (.imul, 1) := by decide +kernel
theorem dX12_fall_197 : decode cX12_fall 197 = .ok (.iload 6, 2) := by decide +kernel
theorem dX12_fall_199 : decode cX12_fall 199 = .ok (.isub, 1) := by decide +kernel
theorem dX12_fall_200 : decode cX12_fall 200 = .ok (.istore 9, 2) := by decide +kernel
theorem dX12_fall_202 : decode cX12_fall 202 = .ok (.sipush 1000, 3) := by decide +kernel
theorem dX12_fall_205 : decode cX12_fall 205 = .ok (.iload 4, 2) := by decide +kernel
theorem dX12_fall_207 : decode cX12_fall 207 = .ok (.iload 5, 2) := by decide +kernel
theorem dX12_fall_209 : decode cX12_fall 209 = .ok (.isub, 1) := by decide +kernel
theorem dX12_fall_210 : decode cX12_fall 210 = .ok (.imul, 1) := by decide +kernel
theorem dX12_fall_211 : decode cX12_fall 211 = .ok (.iload 9, 2) := by decide +kernel
theorem dX12_fall_213 : decode cX12_fall 213 = .ok (.isub, 1) := by decide +kernel
theorem dX12_fall_214 : decode cX12_fall 214 = .ok (.iload 7, 2) := by decide +kernel
theorem dX12_fall_216 : decode cX12_fall 216 = .ok (.isub, 1) := by decide +kernel
theorem dX12_fall_217 : decode cX12_fall 217 = .ok (.iload 8, 2) := by decide +kernel
theorem dX12_fall_219 : decode cX12_fall 219 = .ok (.isub, 1) := by decide +kernel
theorem dX12_fall_220 : decode cX12_fall 220 = .ok (.istore 10, 2) := by decide +kernel
theorem dX12_fall_222 : decode cX12_fall 222 = .ok (.aload_n 0, 1) := by decide +kernel
theorem dX12_fall_223 : decode cX12_fall 223 = .ok (.iload_n 1, 1) := by decide +kernel
theorem dX12_fall_224 : decode cX12_fall 224 = .ok (.iconst 1, 1) := by decide +kernel
theorem dX12_fall_225 : decode cX12_fall 225 = .ok (.iadd, 1) := by decide +kernel
theorem dX12_fall_226 : decode cX12_fall 226 = .ok (.iload_n 3, 1) := by decide +kernel
theorem dX12_fall_227 : decode cX12_fall 227 = .ok (.invokevirtual 357, 3) := by decide +kernel
theorem dX12_fall_230 : decode cX12_fall 230 = .ok (.istore 11, 2) := by decide +kernel
theorem dX12_fall_232 : decode cX12_fall 232 = .ok (.iload_n 2, 1) := by decide +kernel
theorem dX12_fall_233 : decode cX12_fall 233 = .ok (.tableswitch 74 0 7 #[47, 50, 53, 56, 59, 62, 65, 68], 47) := by decide +kernel
theorem dX12_fall_280 : decode cX12_fall 280 = .ok (.iload 4, 2) := by decide +kernel
theorem dX12_fall_282 : decode cX12_fall 282 = .ok (.ireturn, 1) := by decide +kernel
theorem dX12_fall_283 : decode cX12_fall 283 = .ok (.iload 5, 2) := by decide +kernel
theorem dX12_fall_285 : decode cX12_fall 285 = .ok (.ireturn, 1) := by decide +kernel
theorem dX12_fall_286 : decode cX12_fall 286 = .ok (.iload 9, 2) := by decide +kernel
theorem dX12_fall_288 : decode cX12_fall 288 = .ok (.ireturn, 1) := by decide +kernel
theorem dX12_fall_289 : decode cX12_fall 289 = .ok (.iload 7, 2) := by decide +kernel
theorem dX12_fall_291 : decode cX12_fall 291 = .ok (.ireturn, 1) := by decide +kernel
theorem dX12_fall_292 : decode cX12_fall 292 = .ok (.iload 8, 2) := by decide +kernel
theorem dX12_fall_294 : decode cX12_fall 294 = .ok (.ireturn, 1) := by decide +kernel
theorem dX12_fall_295 : decode cX12_fall 295 = .ok (.iload 10, 2) := by decide +kernel
theorem dX12_fall_297 : decode cX12_fall 297 = .ok (.ireturn, 1) := by decide +kernel
theorem dX12_fall_298 : decode cX12_fall 298 = .ok (.iload 11, 2) := by decide +kernel
theorem dX12_fall_300 : decode cX12_fall 300 = .ok (.ireturn, 1) := by decide +kernel
theorem dX12_fall_301 : decode cX12_fall 301 = .ok (.iload 10, 2) := by decide +kernel
theorem dX12_fall_303 : decode cX12_fall 303 = .ok (.iload 11, 2) := by decide +kernel
theorem dX12_fall_305 : decode cX12_fall 305 = .ok (.isub, 1) := by decide +kernel
theorem dX12_fall_306 : decode cX12_fall 306 = .ok (.ireturn, 1) := by decide +kernel
theorem dX12_fall_307 : decode cX12_fall 307 = .ok (.iload 6, 2) := by decide +kernel
theorem dX12_fall_309 : decode cX12_fall 309 = .ok (.ireturn, 1) := by decide +kernel
theorem dX12_movedTo_0 : decode cX12_movedTo 0 = .ok (.aload_n 0, 1) := by decide +kernel
theorem dX12_movedTo_1 : decode cX12_movedTo 1 = .ok (.iload_n 1, 1) := by decide +kernel
theorem dX12_movedTo_2 : decode cX12_movedTo 2 = .ok (.invokevirtual 252, 3) := by decide +kernel
theorem dX12_movedTo_5 : decode cX12_movedTo 5 = .ok (.ifCond .eq 21, 3) := by decide +kernel
theorem dX12_movedTo_8 : decode cX12_movedTo 8 = .ok (.aload_n 0, 1) := by decide +kernel
theorem dX12_movedTo_9 : decode cX12_movedTo 9 = .ok (.iload_n 1, 1) := by decide +kernel
theorem dX12_movedTo_10 : decode cX12_movedTo 10 = .ok (.iload_n 2, 1) := by decide +kernel
theorem dX12_movedTo_11 : decode cX12_movedTo 11 = .ok (.invokevirtual 360, 3) := by decide +kernel
theorem dX12_movedTo_14 : decode cX12_movedTo 14 = .ok (.ifCond .eq 12, 3) := by decide +kernel
theorem dX12_movedTo_17 : decode cX12_movedTo 17 = .ok (.aload_n 0, 1) := by decide +kernel
theorem dX12_movedTo_18 : decode cX12_movedTo 18 = .ok (.iload_n 1, 1) := by decide +kernel
theorem dX12_movedTo_19 : decode cX12_movedTo 19 = .ok (.iload_n 2, 1) := by decide +kernel
theorem dX12_movedTo_20 : decode cX12_movedTo 20 = .ok (.invokevirtual 346, 3) := by decide +kernel
theorem dX12_movedTo_23 : decode cX12_movedTo 23 = .ok (.ifCond .ne 5, 3) := by decide +kernel
theorem dX12_movedTo_26 : decode cX12_movedTo 26 = .ok (.iconst 0, 1) := by decide +kernel
theorem dX12_movedTo_27 : decode cX12_movedTo 27 = .ok (.ireturn, 1) := by decide +kernel
theorem dX12_movedTo_28 : decode cX12_movedTo 28 = .ok (.sipush 1000, 3) := by decide +kernel
theorem dX12_movedTo_31 : decode cX12_movedTo 31 = .ok (.aload_n 0, 1) := by decide +kernel
theorem dX12_movedTo_32 : decode cX12_movedTo 32 = .ok (.iload_n 1, 1) := by decide +kernel
theorem dX12_movedTo_33 : decode cX12_movedTo 33 = .ok (.iload_n 2, 1) := by decide +kernel
theorem dX12_movedTo_34 : decode cX12_movedTo 34 = .ok (.iconst 3, 1) := by decide +kernel
theorem dX12_movedTo_35 : decode cX12_movedTo 35 = .ok (.isub, 1) := by decide +kernel
theorem dX12_movedTo_36 : decode cX12_movedTo 36 = .ok (.invokevirtual 337, 3) := by decide +kernel
theorem dX12_movedTo_39 : decode cX12_movedTo 39 = .ok (.imul, 1) := by decide +kernel
theorem dX12_movedTo_40 : decode cX12_movedTo 40 = .ok (.istore_n 3, 1) := by decide +kernel
theorem dX12_movedTo_41 : decode cX12_movedTo 41 = .ok (.iconst 0, 1) := by decide +kernel
theorem dX12_movedTo_42 : decode cX12_movedTo 42 = .ok (.sipush 1000, 3) := by decide +kernel
theorem dX12_movedTo_45 : decode cX12_movedTo 45 = .ok (.aload_n 0, 1) := by decide +kernel
theorem dX12_movedTo_46 : decode cX12_movedTo 46 = .ok (.iload_n 1, 1) := by decide +kernel
theorem dX12_movedTo_47 : decode cX12_movedTo 47 = .ok (.iload_n 2, 1) := by decide +kernel
theorem dX12_movedTo_48 : decode cX12_movedTo 48 = .ok (.invokevirtual 337, 3) := by decide +kernel
theorem dX12_movedTo_51 : decode cX12_movedTo 51 = .ok (.imul, 1) := by decide +kernel
theorem dX12_movedTo_52 : decode cX12_movedTo 52 = .ok (.iload_n 3, 1) := by decide +kernel
theorem dX12_movedTo_53 : decode cX12_movedTo 53 = .ok (.aload_n 0, 1) := by decide +kernel
theorem dX12_movedTo_54 : decode cX12_movedTo 54 = .ok (.iload_n 3, 1) := by decide +kernel
theorem dX12_movedTo_55 : decode cX12_movedTo 55 = .ok (.invokevirtual 354, 3) := by decide +kernel
theorem dX12_movedTo_58 : decode cX12_movedTo 58 = .ok (.isub, 1) := by decide +kernel
theorem dX12_movedTo_59 : decode cX12_movedTo 59 = .ok (.isub, 1) := by decide +kernel
theorem dX12_movedTo_60 : decode cX12_movedTo 60 = .ok (.invokestatic 306, 3) := by decide +kernel
theorem dX12_movedTo_63 : decode cX12_movedTo 63 = .ok (.ireturn, 1) := by decide +kernel
theorem dX12_lots_0 : decode cX12_lots 0 = .ok (.aload_n 0, 1) := by decide +kernel
theorem dX12_lots_1 : decode cX12_lots 1 = .ok (.iconst 0, 1) := by decide +kernel
theorem dX12_lots_2 : decode cX12_lots 2 = .ok (.putfield 363, 3) := by decide +kernel
theorem dX12_lots_5 : decode cX12_lots 5 = .ok (.aload_n 0, 1) := by decide +kernel
theorem dX12_lots_6 : decode cX12_lots 6 = .ok (.iconst 0, 1) := by decide +kernel
theorem dX12_lots_7 : decode cX12_lots 7 = .ok (.putfield 366, 3) := by decide +kernel
theorem dX12_lots_10 : decode cX12_lots 10 = .ok (.aload_n 0, 1) := by decide +kernel
theorem dX12_lots_11 : decode cX12_lots 11 = .ok (.iconst 0, 1) := by decide +kernel
theorem dX12_lots_12 : decode cX12_lots 12 = .ok (.putfield 369, 3) := by decide +kernel
theorem dX12_lots_15 : decode cX12_lots 15 = .ok (.aload_n 0, 1) := by decide +kernel
theorem dX12_lots_16 : decode cX12_lots 16 = .ok (.iconst 0, 1) := by decide +kernel
theorem dX12_lots_17 : decode cX12_lots 17 = .ok (.putfield 372, 3) := by decide +kernel
theorem dX12_lots_20 : decode cX12_lots 20 = .ok (.iconst 0, 1) := by decide +kernel
theorem dX12_lots_21 : decode cX12_lots 21 = .ok (.istore_n 3, 1) := by decide +kernel
theorem dX12_lots_22 : decode cX12_lots 22 = .ok (.iload_n 3, 1) := by decide +kernel
theorem dX12_lots_23 : decode cX12_lots 23 = .ok (.aload_n 0, 1) := by decide +kernel
theorem dX12_lots_24 : decode cX12_lots 24 = .ok (.getfield 240, 3) := by decide +kernel
theorem dX12_lots_27 : decode cX12_lots 27 = .ok (.if_icmp .ge 121, 3) := by decide +kernel
theorem dX12_lots_30 : decode cX12_lots 30 = .ok (.aload_n 0, 1) := by decide +kernel
theorem dX12_lots_31 : decode cX12_lots 31 = .ok (.getfield 30, 3) := by decide +kernel
theorem dX12_lots_34 : decode cX12_lots 34 = .ok (.iload_n 3, 1) := by decide +kernel
theorem dX12_lots_35 : decode cX12_lots 35 = .ok (.baload, 1) := by decide +kernel
theorem dX12_lots_36 : decode cX12_lots 36 = .ok (.ifCond .eq 106, 3) := by decide +kernel
theorem dX12_lots_39 : decode cX12_lots 39 = .ok (.aload_n 0, 1) := by decide +kernel
theorem dX12_lots_40 : decode cX12_lots 40 = .ok (.getfield 27, 3) := by decide +kernel
theorem dX12_lots_43 : decode cX12_lots 43 = .ok (.iload_n 3, 1) := by decide +kernel
theorem dX12_lots_44 : decode cX12_lots 44 = .ok (.iaload, 1) := by decide +kernel
theorem dX12_lots_45 : decode cX12_lots 45 = .ok (.iload_n 1, 1) := by decide +kernel
theorem dX12_lots_46 : decode cX12_lots 46 = .ok (.if_icmp .ne 96, 3) := by decide +kernel
theorem dX12_lots_49 : decode cX12_lots 49 = .ok (.aload_n 0, 1) := by decide +kernel
theorem dX12_lots_50 : decode cX12_lots 50 = .ok (.iload_n 3, 1) := by decide +kernel
theorem dX12_lots_51 : decode cX12_lots 51 = .ok (.iload_n 2, 1) := by decide +kernel
theorem dX12_lots_52 : decode cX12_lots 52 = .ok (.invokevirtual 346, 3) := by decide +kernel
theorem dX12_lots_55 : decode cX12_lots 55 = .ok (.ifCond .ne 6, 3) := by decide +kernel
theorem dX12_lots_58 : decode cX12_lots 58 = .ok (.goto 84, 3) := by decide +kernel
theorem dX12_lots_61 : decode cX12_lots 61 = .ok (.aload_n 0, 1) := by decide +kernel
theorem dX12_lots_62 : decode cX12_lots 62 = .ok (.iload_n 3, 1) := by decide +kernel
theorem dX12_lots_63 : decode cX12_lots 63 = .ok (.iload_n 2, 1) := by decide +kernel
theorem dX12_lots_64 : decode cX12_lots 64 = .ok (.iconst 3, 1) := by decide +kernel
theorem dX12_lots_65 : decode cX12_lots 65 = .ok (.isub, 1) := by decide +kernel
theorem dX12_lots_66 : decode cX12_lots 66 = .ok (.invokevirtual 337, 3) := by decide +kernel
theorem dX12_lots_69 : decode cX12_lots 69 = .ok (.aload_n 0, 1) := by decide +kernel
theorem dX12_lots_70 : decode cX12_lots 70 = .ok (.iload_n 3, 1) := by decide +kernel
theorem dX12_lots_71 : decode cX12_lots 71 = .ok (.iload_n 2, 1) := by decide +kernel
theorem dX12_lots_72 : decode cX12_lots 72 = .ok (.invokevirtual 337, 3) := by decide +kernel
theorem dX12_lots_75 : decode cX12_lots 75 = .ok (.isub, 1) := by decide +kernel
theorem dX12_lots_76 : decode cX12_lots 76 = .ok (.istore 4, 2) := by decide +kernel
theorem dX12_lots_78 : decode cX12_lots 78 = .ok (.aload_n 0, 1) := by decide +kernel
theorem dX12_lots_79 : decode cX12_lots 79 = .ok (.getfield 34, 3) := by decide +kernel
theorem dX12_lots_82 : decode cX12_lots 82 = .ok (.iload_n 3, 1) := by decide +kernel
theorem dX12_lots_83 : decode cX12_lots 83 = .ok (.iaload, 1) := by decide +kernel
theorem dX12_lots_84 : decode cX12_lots 84 = .ok (.iload_n 2, 1) := by decide +kernel
theorem dX12_lots_85 : decode cX12_lots 85 = .ok (.if_icmp .ne 27, 3) := by decide +kernel
theorem dX12_lots_88 : decode cX12_lots 88 = .ok (.aload_n 0, 1) := by decide +kernel
theorem dX12_lots_89 : decode cX12_lots 89 = .ok (.dup, 1) := by decide +kernel
theorem dX12_lots_90 : decode cX12_lots 90 = .ok (.getfield 363, 3) := by decide +kernel
theorem dX12_lots_93 : decode cX12_lots 93 = .ok (.iload 4, 2) := by decide +kernel
theorem dX12_lots_95 : decode cX12_lots 95 = .ok (.iadd, 1) := by decide +kernel
theorem dX12_lots_96 : decode cX12_lots 96 = .ok (.putfield 363, 3) := by decide +kernel
theorem dX12_lots_99 : decode cX12_lots 99 = .ok (.aload_n 0, 1) := by decide +kernel
theorem dX12_lots_100 : decode cX12_lots 100 = .ok (.dup, 1) := by decide +kernel
theorem dX12_lots_101 : decode cX12_lots 101 = .ok (.getfield 366, 3) := by decide +kernel
theorem dX12_lots_104 : decode cX12_lots 104 = .ok (.iconst 1, 1) := by decide +kernel
theorem dX12_lots_105 : decode cX12_lots 105 = .ok (.iadd, 1) := by decide +kernel
theorem dX12_lots_106 : decode cX12_lots 106 = .ok (.putfield 366, 3) := by decide +kernel
theorem dX12_lots_109 : decode cX12_lots 109 = .ok (.goto 33, 3) := by decide +kernel
theorem dX12_lots_112 : decode cX12_lots 112 = .ok (.aload_n 0, 1) := by decide +kernel
theorem dX12_lots_113 : decode cX12_lots 113 = .ok (.iload_n 3, 1) := by decide +kernel
theorem dX12_lots_114 : decode cX12_lots 114 = .ok (.iload_n 2, 1) := by decide +kernel
theorem dX12_lots_115 : decode cX12_lots 115 = .ok (.invokevirtual 360, 3) := by decide +kernel
theorem dX12_lots_118 : decode cX12_lots 118 = .ok (.ifCond .eq 24, 3) := by decide +kernel
theorem dX12_lots_121 : decode cX12_lots 121 = .ok (.aload_n 0, 1) := by decide +kernel
theorem dX12_lots_122 : decode cX12_lots 122 = .ok (.dup, 1) := by decide +kernel
theorem dX12_lots_123 : decode cX12_lots 123 = .ok (.getfield 369, 3) := by decide +kernel
theorem dX12_lots_126 : decode cX12_lots 126 = .ok (.iload 4, 2) := by decide +kernel
theorem dX12_lots_128 : decode cX12_lots 128 = .ok (.iadd, 1) := by decide +kernel
theorem dX12_lots_129 : decode cX12_lots 129 = .ok (.putfield 369, 3) := by decide +kernel
theorem dX12_lots_132 : decode cX12_lots 132 = .ok (.aload_n 0, 1) := by decide +kernel
theorem dX12_lots_133 : decode cX12_lots 133 = .ok (.dup, 1) := by decide +kernel
theorem dX12_lots_134 : decode cX12_lots 134 = .ok (.getfield 372, 3) := by decide +kernel
theorem dX12_lots_137 : decode cX12_lots 137 = .ok (.iconst 1, 1) := by decide +kernel
theorem dX12_lots_138 : decode cX12_lots 138 = .ok (.iadd, 1) := by decide +kernel
theorem dX12_lots_139 : decode cX12_lots 139 = .ok (.putfield 372, 3) := by decide +kernel
theorem dX12_lots_142 : decode cX12_lots 142 = .ok (.iinc 3 1, 3) := by decide +kernel
theorem dX12_lots_145 : decode cX12_lots 145 = .ok (.goto (-123), 3) := by decide +kernel
theorem dX12_lots_148 : decode cX12_lots 148 = .ok (.return_, 1) := by decide +kernel
theorem dX12_lot_0 : decode cX12_lot 0 = .ok (.aload_n 0, 1) := by decide +kernel
theorem dX12_lot_1 : decode cX12_lot 1 = .ok (.iconst 0, 1) := by decide +kernel
theorem dX12_lot_2 : decode cX12_lot 2 = .ok (.putfield 87, 3) := by decide +kernel
theorem dX12_lot_5 : decode cX12_lot 5 = .ok (.iload_n 1, 1) := by decide +kernel
theorem dX12_lot_6 : decode cX12_lot 6 = .ok (.ifCond .lt 29, 3) := by decide +kernel
theorem dX12_lot_9 : decode cX12_lot 9 = .ok (.iload_n 1, 1) := by decide +kernel
theorem dX12_lot_10 : decode cX12_lot 10 = .ok (.bipush 9, 2) := by decide +kernel
theorem dX12_lot_12 : decode cX12_lot 12 = .ok (.if_icmp .gt 23, 3) := by decide +kernel
theorem dX12_lot_15 : decode cX12_lot 15 = .ok (.iload_n 2, 1) := by decide +kernel
theorem dX12_lot_16 : decode cX12_lot 16 = .ok (.iconst 3, 1) := by decide +kernel
theorem dX12_lot_17 : decode cX12_lot 17 = .ok (.if_icmp .lt 18, 3) := by decide +kernel
theorem dX12_lot_20 : decode cX12_lot 20 = .ok (.iload_n 2, 1) := by decide +kernel
theorem dX12_lot_21 : decode cX12_lot 21 = .ok (.bipush 6, 2) := by decide +kernel
theorem dX12_lot_23 : decode cX12_lot 23 = .ok (.if_icmp .gt 12, 3) := by decide +kernel
theorem dX12_lot_26 : decode cX12_lot 26 = .ok (.iload_n 3, 1) := by decide +kernel
theorem dX12_lot_27 : decode cX12_lot 27 = .ok (.ifCond .lt 8, 3) := by decide +kernel
theorem dX12_lot_30 : decode cX12_lot 30 = .ok (.iload_n 3, 1) := by decide +kernel
theorem dX12_lot_31 : decode cX12_lot 31 = .ok (.iconst 3, 1) := by decide +kernel
theorem dX12_lot_32 : decode cX12_lot 32 = .ok (.if_icmp .le 7, 3) := by decide +kernel
theorem dX12_lot_35 : decode cX12_lot 35 = .ok (.ldc_w 298, 3) := by decide +kernel
theorem dX12_lot_38 : decode cX12_lot 38 = .ok (.ireturn, 1) := by decide +kernel
theorem dX12_lot_39 : decode cX12_lot 39 = .ok (.aload_n 0, 1) := by decide +kernel
theorem dX12_lot_40 : decode cX12_lot 40 = .ok (.invokevirtual 255, 3) := by decide +kernel
theorem dX12_lot_43 : decode cX12_lot 43 = .ok (.aload_n 0, 1) := by decide +kernel
theorem dX12_lot_44 : decode cX12_lot 44 = .ok (.iload_n 1, 1) := by decide +kernel
theorem dX12_lot_45 : decode cX12_lot 45 = .ok (.iload_n 2, 1) := by decide +kernel
theorem dX12_lot_46 : decode cX12_lot 46 = .ok (.invokevirtual 375, 3) := by decide +kernel
theorem dX12_lot_49 : decode cX12_lot 49 = .ok (.iload_n 3, 1) := by decide +kernel
theorem dX12_lot_50 : decode cX12_lot 50 = .ok (.iconst 1, 1) := by decide +kernel
theorem dX12_lot_51 : decode cX12_lot 51 = .ok (.if_icmp .le 20, 3) := by decide +kernel
theorem dX12_lot_54 : decode cX12_lot 54 = .ok (.iload_n 3, 1) := by decide +kernel
theorem dX12_lot_55 : decode cX12_lot 55 = .ok (.iconst 2, 1) := by decide +kernel
theorem dX12_lot_56 : decode cX12_lot 56 = .ok (.if_icmp .ne 10, 3) := by decide +kernel
theorem dX12_lot_59 : decode cX12_lot 59 = .ok (.aload_n 0, 1) := by decide +kernel
theorem dX12_lot_60 : decode cX12_lot 60 = .ok (.getfield 366, 3) := by decide +kernel
theorem dX12_lot_63 : decode cX12_lot 63 = .ok (.goto 7, 3) := by decide +kernel
theorem dX12_lot_66 : decode cX12_lot 66 = .ok (.aload_n 0, 1) := by decide +kernel
theorem dX12_lot_67 : decode cX12_lot 67 = .ok (.getfield 372, 3) := by decide +kernel
theorem dX12_lot_70 : decode cX12_lot 70 = .ok (.ireturn, 1) := by decide +kernel
theorem dX12_lot_71 : decode cX12_lot 71 = .ok (.aload_n 0, 1) := by decide +kernel
theorem dX12_lot_72 : decode cX12_lot 72 = .ok (.aload_n 0, 1) := by decide +kernel
theorem dX12_lot_73 : decode cX12_lot 73 = .ok (.getfield 363, 3) := by decide +kernel
theorem dX12_lot_76 : decode cX12_lot 76 = .ok (.i2l, 1) := by decide +kernel
theorem dX12_lot_77 : decode cX12_lot 77 = .ok (.aload_n 0, 1) := by decide +kernel
theorem dX12_lot_78 : decode cX12_lot 78 = .ok (.getfield 372, 3) := by decide +kernel
theorem dX12_lot_81 : decode cX12_lot 81 = .ok (.i2l, 1) := by decide +kernel
theorem dX12_lot_82 : decode cX12_lot 82 = .ok (.lmul, 1) := by decide +kernel
theorem dX12_lot_83 : decode cX12_lot 83 = .ok (.aload_n 0, 1) := by decide +kernel
theorem dX12_lot_84 : decode cX12_lot 84 = .ok (.getfield 369, 3) := by decide +kernel
theorem dX12_lot_87 : decode cX12_lot 87 = .ok (.i2l, 1) := by decide +kernel
theorem dX12_lot_88 : decode cX12_lot 88 = .ok (.aload_n 0, 1) := by decide +kernel
theorem dX12_lot_89 : decode cX12_lot 89 = .ok (.getfield 366, 3) := by decide +kernel
theorem dX12_lot_92 : decode cX12_lot 92 = .ok (.i2l, 1) := by decide +kernel
theorem dX12_lot_93 : decode cX12_lot 93 = .ok (.lmul, 1) := by decide +kernel
theorem dX12_lot_94 : decode cX12_lot 94 = .ok (.lsub, 1) := by decide +kernel
theorem dX12_lot_95 : decode cX12_lot 95 = .ok (.aload_n 0, 1) := by decide +kernel
theorem dX12_lot_96 : decode cX12_lot 96 = .ok (.getfield 366, 3) := by decide +kernel
theorem dX12_lot_99 : decode cX12_lot 99 = .ok (.i2l, 1) := by decide +kernel
theorem dX12_lot_100 : decode cX12_lot 100 = .ok (.aload_n 0, 1) := by decide +kernel
theorem dX12_lot_101 : decode cX12_lot 101 = .ok (.getfield 372, 3) := by decide +kernel
theorem dX12_lot_104 : decode cX12_lot 104 = .ok (.i2l, 1) := by decide +kernel
theorem dX12_lot_105 : decode cX12_lot 105 = .ok (.lmul, 1) := by decide +kernel
theorem dX12_lot_106 : decode cX12_lot 106 = .ok (.invokevirtual 284, 3) := by decide +kernel
theorem dX12_lot_109 : decode cX12_lot 109 = .ok (.iload_n 3, 1) := by decide +kernel
theorem dX12_lot_110 : decode cX12_lot 110 = .ok (.ifCond .ne 10, 3) := by decide +kernel
theorem dX12_lot_113 : decode cX12_lot 113 = .ok (.aload_n 0, 1) := by decide +kernel
theorem dX12_lot_114 : decode cX12_lot 114 = .ok (.getfield 267, 3) := by decide +kernel
theorem dX12_lot_117 : decode cX12_lot 117 = .ok (.goto 7, 3) := by decide +kernel
theorem dX12_lot_120 : decode cX12_lot 120 = .ok (.aload_n 0, 1) := by decide +kernel
theorem dX12_lot_121 : decode cX12_lot 121 = .ok (.getfield 271, 3) := by decide +kernel
theorem dX12_lot_124 : decode cX12_lot 124 = .ok (.l2i, 1) := by decide +kernel
theorem dX12_lot_125 : decode cX12_lot 125 = .ok (.ireturn, 1) := by decide +kernel
theorem dX12_chose_0 : decode cX12_chose 0 = .ok (.aload_n 0, 1) := by decide +kernel
theorem dX12_chose_1 : decode cX12_chose 1 = .ok (.iconst 0, 1) := by decide +kernel
theorem dX12_chose_2 : decode cX12_chose 2 = .ok (.putfield 87, 3) := by decide +kernel
theorem dX12_chose_5 : decode cX12_chose 5 = .ok (.iload_n 1, 1) := by decide +kernel
theorem dX12_chose_6 : decode cX12_chose 6 = .ok (.iconst 3, 1) := by decide +kernel
theorem dX12_chose_7 : decode cX12_chose 7 = .ok (.if_icmp .lt 18, 3) := by decide +kernel
theorem dX12_chose_10 : decode cX12_chose 10 = .ok (.iload_n 1, 1) := by decide +kernel
theorem dX12_chose_11 : decode cX12_chose 11 = .ok (.bipush 6, 2) := by decide +kernel
theorem dX12_chose_13 : decode cX12_chose 13 = .ok (.if_icmp .gt 12, 3) := by decide +kernel
theorem dX12_chose_16 : decode cX12_chose 16 = .ok (.iload_n 2, 1) := by decide +kernel
theorem dX12_chose_17 : decode cX12_chose 17 = .ok (.ifCond .lt 8, 3) := by decide +kernel
theorem dX12_chose_20 : decode cX12_chose 20 = .ok (.iload_n 2, 1) := by decide +kernel
theorem dX12_chose_21 : decode cX12_chose 21 = .ok (.iconst 1, 1) := by decide +kernel
theorem dX12_chose_22 : decode cX12_chose 22 = .ok (.if_icmp .le 7, 3) := by decide +kernel
theorem dX12_chose_25 : decode cX12_chose 25 = .ok (.ldc_w 298, 3) := by decide +kernel
theorem dX12_chose_28 : decode cX12_chose 28 = .ok (.ireturn, 1) := by decide +kernel
theorem dX12_chose_29 : decode cX12_chose 29 = .ok (.aload_n 0, 1) := by decide +kernel
theorem dX12_chose_30 : decode cX12_chose 30 = .ok (.invokevirtual 255, 3) := by decide +kernel
theorem dX12_chose_33 : decode cX12_chose 33 = .ok (.iconst 0, 1) := by decide +kernel
theorem dX12_chose_34 : decode cX12_chose 34 = .ok (.istore_n 3, 1) := by decide +kernel
theorem dX12_chose_35 : decode cX12_chose 35 = .ok (.iconst 0, 1) := by decide +kernel
theorem dX12_chose_36 : decode cX12_chose 36 = .ok (.istore 4, 2) := by decide +kernel
theorem dX12_chose_38 : decode cX12_chose 38 = .ok (.iconst 0, 1) := by decide +kernel
theorem dX12_chose_39 : decode cX12_chose 39 = .ok (.istore 5, 2) := by decide +kernel
theorem dX12_chose_41 : decode cX12_chose 41 = .ok (.iload 5, 2) := by decide +kernel
theorem dX12_chose_43 : decode cX12_chose 43 = .ok (.aload_n 0, 1) := by decide +kernel
theorem dX12_chose_44 : decode cX12_chose 44 = .ok (.getfield 240, 3) := by decide +kernel
theorem dX12_chose_47 : decode cX12_chose 47 = .ok (.if_icmp .ge 66, 3) := by decide +kernel
theorem dX12_chose_50 : decode cX12_chose 50 = .ok (.aload_n 0, 1) := by decide +kernel
theorem dX12_chose_51 : decode cX12_chose 51 = .ok (.getfield 30, 3) := by decide +kernel
theorem dX12_chose_54 : decode cX12_chose 54 = .ok (.iload 5, 2) := by decide +kernel
theorem dX12_chose_56 : decode cX12_chose 56 = .ok (.baload, 1) := by decide +kernel
theorem dX12_chose_57 : decode cX12_chose 57 = .ok (.ifCond .ne 50, 3) := by decide +kernel
theorem dX12_chose_60 : decode cX12_chose 60 = .ok (.aload_n 0, 1) := by decide +kernel
theorem dX12_chose_61 : decode cX12_chose 61 = .ok (.getfield 34, 3) := by decide +kernel
theorem dX12_chose_64 : decode cX12_chose 64 = .ok (.iload 5, 2) := by decide +kernel
theorem dX12_chose_66 : decode cX12_chose 66 = .ok (.iaload, 1) := by decide +kernel
theorem dX12_chose_67 : decode cX12_chose 67 = .ok (.iload_n 1, 1) := by decide +kernel
theorem dX12_chose_68 : decode cX12_chose 68 = .ok (.if_icmp .ne 39, 3) := by decide +kernel
theorem dX12_chose_71 : decode cX12_chose 71 = .ok (.aload_n 0, 1) := by decide +kernel
theorem dX12_chose_72 : decode cX12_chose 72 = .ok (.iload 5, 2) := by decide +kernel
theorem dX12_chose_74 : decode cX12_chose 74 = .ok (.iload_n 1, 1) := by decide +kernel
theorem dX12_chose_75 : decode cX12_chose 75 = .ok (.invokevirtual 346, 3) := by decide +kernel
theorem dX12_chose_78 : decode cX12_chose 78 = .ok (.ifCond .ne 6, 3) := by decide +kernel
theorem dX12_chose_81 : decode cX12_chose 81 = .ok (.goto 26, 3) := by decide +kernel
theorem dX12_chose_84 : decode cX12_chose 84 = .ok (.iload_n 3, 1) := by decide +kernel
theorem dX12_chose_85 : decode cX12_chose 85 = .ok (.aload_n 0, 1) := by decide +kernel
theorem dX12_chose_86 : decode cX12_chose 86 = .ok (.iload 5, 2) := by decide +kernel
theorem dX12_chose_88 : decode cX12_chose 88 = .ok (.iload_n 1, 1) := by decide +kernel
theorem dX12_chose_89 : decode cX12_chose 89 = .ok (.iconst 3, 1) := by decide +kernel
theorem dX12_chose_90 : decode cX12_chose 90 = .ok (.isub, 1) := by decide +kernel
theorem dX12_chose_91 : decode cX12_chose 91 = .ok (.invokevirtual 337, 3) := by decide +kernel
theorem dX12_chose_94 : decode cX12_chose 94 = .ok (.aload_n 0, 1) := by decide +kernel
theorem dX12_chose_95 : decode cX12_chose 95 = .ok (.iload 5, 2) := by decide +kernel
theorem dX12_chose_97 : decode cX12_chose 97 = .ok (.iload_n 1, 1) := by decide +kernel
theorem dX12_chose_98 : decode cX12_chose 98 = .ok (.invokevirtual 337, 3) := by decide +kernel
theorem dX12_chose_101 : decode cX12_chose 101 = .ok (.isub, 1) := by decide +kernel
theorem dX12_chose_102 : decode cX12_chose 102 = .ok (.iadd, 1) := by decide +kernel
theorem dX12_chose_103 : decode cX12_chose 103 = .ok (.istore_n 3, 1) := by decide +kernel
theorem dX12_chose_104 : decode cX12_chose 104 = .ok (.iinc 4 1, 3) := by decide +kernel
theorem dX12_chose_107 : decode cX12_chose 107 = .ok (.iinc 5 1, 3) := by decide +kernel
theorem dX12_chose_110 : decode cX12_chose 110 = .ok (.goto (-69), 3) := by decide +kernel
theorem dX12_chose_113 : decode cX12_chose 113 = .ok (.aload_n 0, 1) := by decide +kernel
theorem dX12_chose_114 : decode cX12_chose 114 = .ok (.iload_n 3, 1) := by decide +kernel
theorem dX12_chose_115 : decode cX12_chose 115 = .ok (.i2l, 1) := by decide +kernel
theorem dX12_chose_116 : decode cX12_chose 116 = .ok (.iload 4, 2) := by decide +kernel
theorem dX12_chose_118 : decode cX12_chose 118 = .ok (.i2l, 1) := by decide +kernel
theorem dX12_chose_119 : decode cX12_chose 119 = .ok (.invokevirtual 284, 3) := by decide +kernel
theorem dX12_chose_122 : decode cX12_chose 122 = .ok (.iload_n 2, 1) := by decide +kernel
theorem dX12_chose_123 : decode cX12_chose 123 = .ok (.ifCond .ne 10, 3) := by decide +kernel
theorem dX12_chose_126 : decode cX12_chose 126 = .ok (.aload_n 0, 1) := by decide +kernel
theorem dX12_chose_127 : decode cX12_chose 127 = .ok (.getfield 267, 3) := by decide +kernel
theorem dX12_chose_130 : decode cX12_chose 130 = .ok (.goto 7, 3) := by decide +kernel
theorem dX12_chose_133 : decode cX12_chose 133 = .ok (.aload_n 0, 1) := by decide +kernel
theorem dX12_chose_134 : decode cX12_chose 134 = .ok (.getfield 271, 3) := by decide +kernel
theorem dX12_chose_137 : decode cX12_chose 137 = .ok (.l2i, 1) := by decide +kernel
theorem dX12_chose_138 : decode cX12_chose 138 = .ok (.ireturn, 1) := by decide +kernel
theorem dX12_window_0 : decode cX12_window 0 = .ok (.iconst 0, 1) := by decide +kernel
theorem dX12_window_1 : decode cX12_window 1 = .ok (.istore 4, 2) := by decide +kernel
theorem dX12_window_3 : decode cX12_window 3 = .ok (.iconst 0, 1) := by decide +kernel
theorem dX12_window_4 : decode cX12_window 4 = .ok (.istore 5, 2) := by decide +kernel
theorem dX12_window_6 : decode cX12_window 6 = .ok (.iload 5, 2) := by decide +kernel
theorem dX12_window_8 : decode cX12_window 8 = .ok (.iload_n 3, 1) := by decide +kernel
theorem dX12_window_9 : decode cX12_window 9 = .ok (.if_icmp .ge 35, 3) := by decide +kernel
theorem dX12_window_12 : decode cX12_window 12 = .ok (.aload_n 0, 1) := by decide +kernel
theorem dX12_window_13 : decode cX12_window 13 = .ok (.iload_n 1, 1) := by decide +kernel
theorem dX12_window_14 : decode cX12_window 14 = .ok (.iload_n 2, 1) := by decide +kernel
theorem dX12_window_15 : decode cX12_window 15 = .ok (.iload 5, 2) := by decide +kernel
theorem dX12_window_17 : decode cX12_window 17 = .ok (.iadd, 1) := by decide +kernel
theorem dX12_window_18 : decode cX12_window 18 = .ok (.invokevirtual 258, 3) := by decide +kernel
theorem dX12_window_21 : decode cX12_window 21 = .ok (.istore 6, 2) := by decide +kernel
theorem dX12_window_23 : decode cX12_window 23 = .ok (.iload 6, 2) := by decide +kernel
theorem dX12_window_25 : decode cX12_window 25 = .ok (.iconst (-1), 1) := by decide +kernel
