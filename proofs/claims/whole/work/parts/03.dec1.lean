theorem dX5_compare_119 : decode cX5_compare 119 = .ok (.return_, 1) := by decide +kernel
theorem dX5_reduce_0 : decode cX5_reduce 0 = .ok (.lload_n 3, 1) := by decide +kernel
theorem dX5_reduce_1 : decode cX5_reduce 1 = .ok (.lstore 5, 2) := by decide +kernel
theorem dX5_reduce_3 : decode cX5_reduce 3 = .ok (.lload_n 1, 1) := by decide +kernel
theorem dX5_reduce_4 : decode cX5_reduce 4 = .ok (.lconst 0, 1) := by decide +kernel
theorem dX5_reduce_5 : decode cX5_reduce 5 = .ok (.lcmp, 1) := by decide +kernel
theorem dX5_reduce_6 : decode cX5_reduce 6 = .ok (.ifCond .ge 8, 3) := by decide +kernel
theorem dX5_reduce_9 : decode cX5_reduce 9 = .ok (.lload_n 1, 1) := by decide +kernel
theorem dX5_reduce_10 : decode cX5_reduce 10 = .ok (.lneg, 1) := by decide +kernel
theorem dX5_reduce_11 : decode cX5_reduce 11 = .ok (.goto 4, 3) := by decide +kernel
theorem dX5_reduce_14 : decode cX5_reduce 14 = .ok (.lload_n 1, 1) := by decide +kernel
theorem dX5_reduce_15 : decode cX5_reduce 15 = .ok (.lstore 7, 2) := by decide +kernel
theorem dX5_reduce_17 : decode cX5_reduce 17 = .ok (.iconst 0, 1) := by decide +kernel
theorem dX5_reduce_18 : decode cX5_reduce 18 = .ok (.istore 9, 2) := by decide +kernel
theorem dX5_reduce_20 : decode cX5_reduce 20 = .ok (.iload 9, 2) := by decide +kernel
theorem dX5_reduce_22 : decode cX5_reduce 22 = .ok (.sipush 200, 3) := by decide +kernel
theorem dX5_reduce_25 : decode cX5_reduce 25 = .ok (.if_icmp .ge 31, 3) := by decide +kernel
theorem dX5_reduce_28 : decode cX5_reduce 28 = .ok (.lload 7, 2) := by decide +kernel
theorem dX5_reduce_30 : decode cX5_reduce 30 = .ok (.lconst 0, 1) := by decide +kernel
theorem dX5_reduce_31 : decode cX5_reduce 31 = .ok (.lcmp, 1) := by decide +kernel
theorem dX5_reduce_32 : decode cX5_reduce 32 = .ok (.ifCond .eq 24, 3) := by decide +kernel
theorem dX5_reduce_35 : decode cX5_reduce 35 = .ok (.lload 5, 2) := by decide +kernel
theorem dX5_reduce_37 : decode cX5_reduce 37 = .ok (.lload 7, 2) := by decide +kernel
theorem dX5_reduce_39 : decode cX5_reduce 39 = .ok (.lrem, 1) := by decide +kernel
theorem dX5_reduce_40 : decode cX5_reduce 40 = .ok (.lstore 10, 2) := by decide +kernel
theorem dX5_reduce_42 : decode cX5_reduce 42 = .ok (.lload 7, 2) := by decide +kernel
theorem dX5_reduce_44 : decode cX5_reduce 44 = .ok (.lstore 5, 2) := by decide +kernel
theorem dX5_reduce_46 : decode cX5_reduce 46 = .ok (.lload 10, 2) := by decide +kernel
theorem dX5_reduce_48 : decode cX5_reduce 48 = .ok (.lstore 7, 2) := by decide +kernel
theorem dX5_reduce_50 : decode cX5_reduce 50 = .ok (.iinc 9 1, 3) := by decide +kernel
theorem dX5_reduce_53 : decode cX5_reduce 53 = .ok (.goto (-33), 3) := by decide +kernel
theorem dX5_reduce_56 : decode cX5_reduce 56 = .ok (.aload_n 0, 1) := by decide +kernel
theorem dX5_reduce_57 : decode cX5_reduce 57 = .ok (.lload_n 3, 1) := by decide +kernel
theorem dX5_reduce_58 : decode cX5_reduce 58 = .ok (.lconst 0, 1) := by decide +kernel
theorem dX5_reduce_59 : decode cX5_reduce 59 = .ok (.lcmp, 1) := by decide +kernel
theorem dX5_reduce_60 : decode cX5_reduce 60 = .ok (.ifCond .le 10, 3) := by decide +kernel
theorem dX5_reduce_63 : decode cX5_reduce 63 = .ok (.lload 5, 2) := by decide +kernel
theorem dX5_reduce_65 : decode cX5_reduce 65 = .ok (.lconst 0, 1) := by decide +kernel
theorem dX5_reduce_66 : decode cX5_reduce 66 = .ok (.lcmp, 1) := by decide +kernel
theorem dX5_reduce_67 : decode cX5_reduce 67 = .ok (.ifCond .ne 7, 3) := by decide +kernel
theorem dX5_reduce_70 : decode cX5_reduce 70 = .ok (.lconst 0, 1) := by decide +kernel
theorem dX5_reduce_71 : decode cX5_reduce 71 = .ok (.goto 7, 3) := by decide +kernel
theorem dX5_reduce_74 : decode cX5_reduce 74 = .ok (.lload_n 1, 1) := by decide +kernel
theorem dX5_reduce_75 : decode cX5_reduce 75 = .ok (.lload 5, 2) := by decide +kernel
theorem dX5_reduce_77 : decode cX5_reduce 77 = .ok (.ldiv, 1) := by decide +kernel
theorem dX5_reduce_78 : decode cX5_reduce 78 = .ok (.putfield 18, 3) := by decide +kernel
theorem dX5_reduce_81 : decode cX5_reduce 81 = .ok (.aload_n 0, 1) := by decide +kernel
theorem dX5_reduce_82 : decode cX5_reduce 82 = .ok (.lload_n 3, 1) := by decide +kernel
theorem dX5_reduce_83 : decode cX5_reduce 83 = .ok (.lconst 0, 1) := by decide +kernel
theorem dX5_reduce_84 : decode cX5_reduce 84 = .ok (.lcmp, 1) := by decide +kernel
theorem dX5_reduce_85 : decode cX5_reduce 85 = .ok (.ifCond .le 10, 3) := by decide +kernel
theorem dX5_reduce_88 : decode cX5_reduce 88 = .ok (.lload 5, 2) := by decide +kernel
theorem dX5_reduce_90 : decode cX5_reduce 90 = .ok (.lconst 0, 1) := by decide +kernel
theorem dX5_reduce_91 : decode cX5_reduce 91 = .ok (.lcmp, 1) := by decide +kernel
theorem dX5_reduce_92 : decode cX5_reduce 92 = .ok (.ifCond .ne 7, 3) := by decide +kernel
theorem dX5_reduce_95 : decode cX5_reduce 95 = .ok (.lconst 0, 1) := by decide +kernel
theorem dX5_reduce_96 : decode cX5_reduce 96 = .ok (.goto 7, 3) := by decide +kernel
theorem dX5_reduce_99 : decode cX5_reduce 99 = .ok (.lload_n 3, 1) := by decide +kernel
theorem dX5_reduce_100 : decode cX5_reduce 100 = .ok (.lload 5, 2) := by decide +kernel
theorem dX5_reduce_102 : decode cX5_reduce 102 = .ok (.ldiv, 1) := by decide +kernel
theorem dX5_reduce_103 : decode cX5_reduce 103 = .ok (.putfield 22, 3) := by decide +kernel
theorem dX5_reduce_106 : decode cX5_reduce 106 = .ok (.return_, 1) := by decide +kernel
theorem dX5_times_0 : decode cX5_times 0 = .ok (.aload_n 0, 1) := by decide +kernel
theorem dX5_times_1 : decode cX5_times 1 = .ok (.getfield 22, 3) := by decide +kernel
theorem dX5_times_4 : decode cX5_times 4 = .ok (.lconst 0, 1) := by decide +kernel
theorem dX5_times_5 : decode cX5_times 5 = .ok (.lcmp, 1) := by decide +kernel
theorem dX5_times_6 : decode cX5_times 6 = .ok (.ifCond .ne 7, 3) := by decide +kernel
theorem dX5_times_9 : decode cX5_times 9 = .ok (.iload_n 2, 1) := by decide +kernel
theorem dX5_times_10 : decode cX5_times 10 = .ok (.goto 16, 3) := by decide +kernel
theorem dX5_times_13 : decode cX5_times 13 = .ok (.iload_n 1, 1) := by decide +kernel
theorem dX5_times_14 : decode cX5_times 14 = .ok (.i2l, 1) := by decide +kernel
theorem dX5_times_15 : decode cX5_times 15 = .ok (.aload_n 0, 1) := by decide +kernel
theorem dX5_times_16 : decode cX5_times 16 = .ok (.getfield 18, 3) := by decide +kernel
theorem dX5_times_19 : decode cX5_times 19 = .ok (.lmul, 1) := by decide +kernel
theorem dX5_times_20 : decode cX5_times 20 = .ok (.aload_n 0, 1) := by decide +kernel
theorem dX5_times_21 : decode cX5_times 21 = .ok (.getfield 22, 3) := by decide +kernel
theorem dX5_times_24 : decode cX5_times 24 = .ok (.ldiv, 1) := by decide +kernel
theorem dX5_times_25 : decode cX5_times 25 = .ok (.l2i, 1) := by decide +kernel
theorem dX5_times_26 : decode cX5_times 26 = .ok (.ireturn, 1) := by decide +kernel
theorem dX5_weighAll_0 : decode cX5_weighAll 0 = .ok (.lconst 0, 1) := by decide +kernel
theorem dX5_weighAll_1 : decode cX5_weighAll 1 = .ok (.lstore 6, 2) := by decide +kernel
theorem dX5_weighAll_3 : decode cX5_weighAll 3 = .ok (.iconst 0, 1) := by decide +kernel
theorem dX5_weighAll_4 : decode cX5_weighAll 4 = .ok (.istore 8, 2) := by decide +kernel
theorem dX5_weighAll_6 : decode cX5_weighAll 6 = .ok (.iload 8, 2) := by decide +kernel
theorem dX5_weighAll_8 : decode cX5_weighAll 8 = .ok (.aload_n 1, 1) := by decide +kernel
theorem dX5_weighAll_9 : decode cX5_weighAll 9 = .ok (.arraylength, 1) := by decide +kernel
theorem dX5_weighAll_10 : decode cX5_weighAll 10 = .ok (.if_icmp .ge 50, 3) := by decide +kernel
theorem dX5_weighAll_13 : decode cX5_weighAll 13 = .ok (.aload_n 1, 1) := by decide +kernel
theorem dX5_weighAll_14 : decode cX5_weighAll 14 = .ok (.iload 8, 2) := by decide +kernel
theorem dX5_weighAll_16 : decode cX5_weighAll 16 = .ok (.iload 8, 2) := by decide +kernel
theorem dX5_weighAll_18 : decode cX5_weighAll 18 = .ok (.aload_n 2, 1) := by decide +kernel
theorem dX5_weighAll_19 : decode cX5_weighAll 19 = .ok (.getfield 32, 3) := by decide +kernel
theorem dX5_weighAll_22 : decode cX5_weighAll 22 = .ok (.getfield 86, 3) := by decide +kernel
theorem dX5_weighAll_25 : decode cX5_weighAll 25 = .ok (.if_icmp .ge 18, 3) := by decide +kernel
theorem dX5_weighAll_28 : decode cX5_weighAll 28 = .ok (.aload_n 0, 1) := by decide +kernel
theorem dX5_weighAll_29 : decode cX5_weighAll 29 = .ok (.aload_n 2, 1) := by decide +kernel
theorem dX5_weighAll_30 : decode cX5_weighAll 30 = .ok (.iload 8, 2) := by decide +kernel
theorem dX5_weighAll_32 : decode cX5_weighAll 32 = .ok (.iload_n 3, 1) := by decide +kernel
theorem dX5_weighAll_33 : decode cX5_weighAll 33 = .ok (.iload 4, 2) := by decide +kernel
theorem dX5_weighAll_35 : decode cX5_weighAll 35 = .ok (.iload 5, 2) := by decide +kernel
theorem dX5_weighAll_37 : decode cX5_weighAll 37 = .ok (.invokevirtual 89, 3) := by decide +kernel
theorem dX5_weighAll_40 : decode cX5_weighAll 40 = .ok (.goto 4, 3) := by decide +kernel
theorem dX5_weighAll_43 : decode cX5_weighAll 43 = .ok (.lconst 0, 1) := by decide +kernel
theorem dX5_weighAll_44 : decode cX5_weighAll 44 = .ok (.lastore, 1) := by decide +kernel
theorem dX5_weighAll_45 : decode cX5_weighAll 45 = .ok (.lload 6, 2) := by decide +kernel
theorem dX5_weighAll_47 : decode cX5_weighAll 47 = .ok (.aload_n 1, 1) := by decide +kernel
theorem dX5_weighAll_48 : decode cX5_weighAll 48 = .ok (.iload 8, 2) := by decide +kernel
theorem dX5_weighAll_50 : decode cX5_weighAll 50 = .ok (.laload, 1) := by decide +kernel
theorem dX5_weighAll_51 : decode cX5_weighAll 51 = .ok (.ladd, 1) := by decide +kernel
theorem dX5_weighAll_52 : decode cX5_weighAll 52 = .ok (.lstore 6, 2) := by decide +kernel
theorem dX5_weighAll_54 : decode cX5_weighAll 54 = .ok (.iinc 8 1, 3) := by decide +kernel
theorem dX5_weighAll_57 : decode cX5_weighAll 57 = .ok (.goto (-51), 3) := by decide +kernel
theorem dX5_weighAll_60 : decode cX5_weighAll 60 = .ok (.lload 6, 2) := by decide +kernel
theorem dX5_weighAll_62 : decode cX5_weighAll 62 = .ok (.lreturn, 1) := by decide +kernel
theorem dX5_mostLikely_0 : decode cX5_mostLikely 0 = .ok (.iconst 0, 1) := by decide +kernel
theorem dX5_mostLikely_1 : decode cX5_mostLikely 1 = .ok (.istore_n 1, 1) := by decide +kernel
theorem dX5_mostLikely_2 : decode cX5_mostLikely 2 = .ok (.iconst 1, 1) := by decide +kernel
theorem dX5_mostLikely_3 : decode cX5_mostLikely 3 = .ok (.istore_n 2, 1) := by decide +kernel
theorem dX5_mostLikely_4 : decode cX5_mostLikely 4 = .ok (.iload_n 2, 1) := by decide +kernel
theorem dX5_mostLikely_5 : decode cX5_mostLikely 5 = .ok (.iconst 5, 1) := by decide +kernel
theorem dX5_mostLikely_6 : decode cX5_mostLikely 6 = .ok (.if_icmp .ge 27, 3) := by decide +kernel
theorem dX5_mostLikely_9 : decode cX5_mostLikely 9 = .ok (.aload_n 0, 1) := by decide +kernel
theorem dX5_mostLikely_10 : decode cX5_mostLikely 10 = .ok (.getfield 9, 3) := by decide +kernel
theorem dX5_mostLikely_13 : decode cX5_mostLikely 13 = .ok (.iload_n 2, 1) := by decide +kernel
theorem dX5_mostLikely_14 : decode cX5_mostLikely 14 = .ok (.laload, 1) := by decide +kernel
theorem dX5_mostLikely_15 : decode cX5_mostLikely 15 = .ok (.aload_n 0, 1) := by decide +kernel
theorem dX5_mostLikely_16 : decode cX5_mostLikely 16 = .ok (.getfield 9, 3) := by decide +kernel
theorem dX5_mostLikely_19 : decode cX5_mostLikely 19 = .ok (.iload_n 1, 1) := by decide +kernel
theorem dX5_mostLikely_20 : decode cX5_mostLikely 20 = .ok (.laload, 1) := by decide +kernel
theorem dX5_mostLikely_21 : decode cX5_mostLikely 21 = .ok (.lcmp, 1) := by decide +kernel
theorem dX5_mostLikely_22 : decode cX5_mostLikely 22 = .ok (.ifCond .le 5, 3) := by decide +kernel
theorem dX5_mostLikely_25 : decode cX5_mostLikely 25 = .ok (.iload_n 2, 1) := by decide +kernel
theorem dX5_mostLikely_26 : decode cX5_mostLikely 26 = .ok (.istore_n 1, 1) := by decide +kernel
theorem dX5_mostLikely_27 : decode cX5_mostLikely 27 = .ok (.iinc 2 1, 3) := by decide +kernel
theorem dX5_mostLikely_30 : decode cX5_mostLikely 30 = .ok (.goto (-26), 3) := by decide +kernel
theorem dX5_mostLikely_33 : decode cX5_mostLikely 33 = .ok (.iload_n 1, 1) := by decide +kernel
theorem dX5_mostLikely_34 : decode cX5_mostLikely 34 = .ok (.ireturn, 1) := by decide +kernel
theorem dX6_init_0 : decode cX6_init 0 = .ok (.aload_n 0, 1) := by decide +kernel
theorem dX6_init_1 : decode cX6_init 1 = .ok (.invokespecial 3, 3) := by decide +kernel
theorem dX6_init_4 : decode cX6_init 4 = .ok (.aload_n 0, 1) := by decide +kernel
theorem dX6_init_5 : decode cX6_init 5 = .ok (.new 9, 3) := by decide +kernel
theorem dX6_init_8 : decode cX6_init 8 = .ok (.dup, 1) := by decide +kernel
theorem dX6_init_9 : decode cX6_init 9 = .ok (.invokespecial 11, 3) := by decide +kernel
theorem dX6_init_12 : decode cX6_init 12 = .ok (.putfield 12, 3) := by decide +kernel
theorem dX6_init_15 : decode cX6_init 15 = .ok (.aload_n 0, 1) := by decide +kernel
theorem dX6_init_16 : decode cX6_init 16 = .ok (.iconst 0, 1) := by decide +kernel
theorem dX6_init_17 : decode cX6_init 17 = .ok (.putfield 18, 3) := by decide +kernel
theorem dX6_init_20 : decode cX6_init 20 = .ok (.aload_n 0, 1) := by decide +kernel
theorem dX6_init_21 : decode cX6_init 21 = .ok (.bipush 12, 2) := by decide +kernel
theorem dX6_init_23 : decode cX6_init 23 = .ok (.newarray .int, 2) := by decide +kernel
theorem dX6_init_25 : decode cX6_init 25 = .ok (.putfield 22, 3) := by decide +kernel
theorem dX6_init_28 : decode cX6_init 28 = .ok (.aload_n 0, 1) := by decide +kernel
theorem dX6_init_29 : decode cX6_init 29 = .ok (.bipush 12, 2) := by decide +kernel
theorem dX6_init_31 : decode cX6_init 31 = .ok (.newarray .int, 2) := by decide +kernel
theorem dX6_init_33 : decode cX6_init 33 = .ok (.putfield 26, 3) := by decide +kernel
theorem dX6_init_36 : decode cX6_init 36 = .ok (.aload_n 0, 1) := by decide +kernel
theorem dX6_init_37 : decode cX6_init 37 = .ok (.bipush 12, 2) := by decide +kernel
theorem dX6_init_39 : decode cX6_init 39 = .ok (.newarray .int, 2) := by decide +kernel
theorem dX6_init_41 : decode cX6_init 41 = .ok (.putfield 29, 3) := by decide +kernel
theorem dX6_init_44 : decode cX6_init 44 = .ok (.aload_n 0, 1) := by decide +kernel
theorem dX6_init_45 : decode cX6_init 45 = .ok (.bipush 12, 2) := by decide +kernel
theorem dX6_init_47 : decode cX6_init 47 = .ok (.newarray .int, 2) := by decide +kernel
theorem dX6_init_49 : decode cX6_init 49 = .ok (.putfield 32, 3) := by decide +kernel
theorem dX6_init_52 : decode cX6_init 52 = .ok (.return_, 1) := by decide +kernel
theorem dX6_seekRates_0 : decode cX6_seekRates 0 = .ok (.aload_n 1, 1) := by decide +kernel
theorem dX6_seekRates_1 : decode cX6_seekRates 1 = .ok (.getfield 35, 3) := by decide +kernel
theorem dX6_seekRates_4 : decode cX6_seekRates 4 = .ok (.invokevirtual 41, 3) := by decide +kernel
theorem dX6_seekRates_7 : decode cX6_seekRates 7 = .ok (.istore_n 2, 1) := by decide +kernel
theorem dX6_seekRates_8 : decode cX6_seekRates 8 = .ok (.iconst 0, 1) := by decide +kernel
theorem dX6_seekRates_9 : decode cX6_seekRates 9 = .ok (.iload_n 2, 1) := by decide +kernel
theorem dX6_seekRates_10 : decode cX6_seekRates 10 = .ok (.bipush 6, 2) := by decide +kernel
theorem dX6_seekRates_12 : decode cX6_seekRates 12 = .ok (.isub, 1) := by decide +kernel
theorem dX6_seekRates_13 : decode cX6_seekRates 13 = .ok (.iconst 1, 1) := by decide +kernel
theorem dX6_seekRates_14 : decode cX6_seekRates 14 = .ok (.iadd, 1) := by decide +kernel
theorem dX6_seekRates_15 : decode cX6_seekRates 15 = .ok (.invokestatic 47, 3) := by decide +kernel
theorem dX6_seekRates_18 : decode cX6_seekRates 18 = .ok (.istore_n 3, 1) := by decide +kernel
theorem dX6_seekRates_19 : decode cX6_seekRates 19 = .ok (.aload_n 0, 1) := by decide +kernel
theorem dX6_seekRates_20 : decode cX6_seekRates 20 = .ok (.aload_n 1, 1) := by decide +kernel
theorem dX6_seekRates_21 : decode cX6_seekRates 21 = .ok (.getfield 53, 3) := by decide +kernel
theorem dX6_seekRates_24 : decode cX6_seekRates 24 = .ok (.bipush 12, 2) := by decide +kernel
theorem dX6_seekRates_26 : decode cX6_seekRates 26 = .ok (.invokestatic 54, 3) := by decide +kernel
theorem dX6_seekRates_29 : decode cX6_seekRates 29 = .ok (.putfield 18, 3) := by decide +kernel
theorem dX6_seekRates_32 : decode cX6_seekRates 32 = .ok (.iconst 0, 1) := by decide +kernel
theorem dX6_seekRates_33 : decode cX6_seekRates 33 = .ok (.istore 4, 2) := by decide +kernel
theorem dX6_seekRates_35 : decode cX6_seekRates 35 = .ok (.iload 4, 2) := by decide +kernel
theorem dX6_seekRates_37 : decode cX6_seekRates 37 = .ok (.aload_n 0, 1) := by decide +kernel
theorem dX6_seekRates_38 : decode cX6_seekRates 38 = .ok (.getfield 18, 3) := by decide +kernel
theorem dX6_seekRates_41 : decode cX6_seekRates 41 = .ok (.if_icmp .ge 125, 3) := by decide +kernel
theorem dX6_seekRates_44 : decode cX6_seekRates 44 = .ok (.aload_n 0, 1) := by decide +kernel
theorem dX6_seekRates_45 : decode cX6_seekRates 45 = .ok (.getfield 22, 3) := by decide +kernel
theorem dX6_seekRates_48 : decode cX6_seekRates 48 = .ok (.iload 4, 2) := by decide +kernel
theorem dX6_seekRates_50 : decode cX6_seekRates 50 = .ok (.iconst 0, 1) := by decide +kernel
theorem dX6_seekRates_51 : decode cX6_seekRates 51 = .ok (.iastore, 1) := by decide +kernel
theorem dX6_seekRates_52 : decode cX6_seekRates 52 = .ok (.iload_n 2, 1) := by decide +kernel
theorem dX6_seekRates_53 : decode cX6_seekRates 53 = .ok (.iconst (-1), 1) := by decide +kernel
theorem dX6_seekRates_54 : decode cX6_seekRates 54 = .ok (.if_icmp .eq 33, 3) := by decide +kernel
theorem dX6_seekRates_57 : decode cX6_seekRates 57 = .ok (.aload_n 0, 1) := by decide +kernel
theorem dX6_seekRates_58 : decode cX6_seekRates 58 = .ok (.getfield 12, 3) := by decide +kernel
theorem dX6_seekRates_61 : decode cX6_seekRates 61 = .ok (.aload_n 1, 1) := by decide +kernel
theorem dX6_seekRates_62 : decode cX6_seekRates 62 = .ok (.iload 4, 2) := by decide +kernel
theorem dX6_seekRates_64 : decode cX6_seekRates 64 = .ok (.iload_n 3, 1) := by decide +kernel
theorem dX6_seekRates_65 : decode cX6_seekRates 65 = .ok (.iload_n 2, 1) := by decide +kernel
theorem dX6_seekRates_66 : decode cX6_seekRates 66 = .ok (.invokevirtual 57, 3) := by decide +kernel
theorem dX6_seekRates_69 : decode cX6_seekRates 69 = .ok (.aload_n 0, 1) := by decide +kernel
theorem dX6_seekRates_70 : decode cX6_seekRates 70 = .ok (.getfield 22, 3) := by decide +kernel
theorem dX6_seekRates_73 : decode cX6_seekRates 73 = .ok (.iload 4, 2) := by decide +kernel
theorem dX6_seekRates_75 : decode cX6_seekRates 75 = .ok (.aload_n 0, 1) := by decide +kernel
theorem dX6_seekRates_76 : decode cX6_seekRates 76 = .ok (.getfield 12, 3) := by decide +kernel
theorem dX6_seekRates_79 : decode cX6_seekRates 79 = .ok (.sipush 1000, 3) := by decide +kernel
theorem dX6_seekRates_82 : decode cX6_seekRates 82 = .ok (.iconst 0, 1) := by decide +kernel
theorem dX6_seekRates_83 : decode cX6_seekRates 83 = .ok (.invokevirtual 61, 3) := by decide +kernel
theorem dX6_seekRates_86 : decode cX6_seekRates 86 = .ok (.iastore, 1) := by decide +kernel
theorem dX6_seekRates_87 : decode cX6_seekRates 87 = .ok (.aload_n 0, 1) := by decide +kernel
theorem dX6_seekRates_88 : decode cX6_seekRates 88 = .ok (.getfield 26, 3) := by decide +kernel
theorem dX6_seekRates_91 : decode cX6_seekRates 91 = .ok (.iload 4, 2) := by decide +kernel
theorem dX6_seekRates_93 : decode cX6_seekRates 93 = .ok (.aload_n 0, 1) := by decide +kernel
theorem dX6_seekRates_94 : decode cX6_seekRates 94 = .ok (.getfield 22, 3) := by decide +kernel
theorem dX6_seekRates_97 : decode cX6_seekRates 97 = .ok (.iload 4, 2) := by decide +kernel
theorem dX6_seekRates_99 : decode cX6_seekRates 99 = .ok (.iaload, 1) := by decide +kernel
theorem dX6_seekRates_100 : decode cX6_seekRates 100 = .ok (.aload_n 1, 1) := by decide +kernel
theorem dX6_seekRates_101 : decode cX6_seekRates 101 = .ok (.getfield 64, 3) := by decide +kernel
theorem dX6_seekRates_104 : decode cX6_seekRates 104 = .ok (.imul, 1) := by decide +kernel
theorem dX6_seekRates_105 : decode cX6_seekRates 105 = .ok (.bipush 10, 2) := by decide +kernel
theorem dX6_seekRates_107 : decode cX6_seekRates 107 = .ok (.idiv, 1) := by decide +kernel
theorem dX6_seekRates_108 : decode cX6_seekRates 108 = .ok (.iastore, 1) := by decide +kernel
theorem dX6_seekRates_109 : decode cX6_seekRates 109 = .ok (.aload_n 0, 1) := by decide +kernel
theorem dX6_seekRates_110 : decode cX6_seekRates 110 = .ok (.getfield 29, 3) := by decide +kernel
theorem dX6_seekRates_113 : decode cX6_seekRates 113 = .ok (.iload 4, 2) := by decide +kernel
theorem dX6_seekRates_115 : decode cX6_seekRates 115 = .ok (.iload 4, 2) := by decide +kernel
theorem dX6_seekRates_117 : decode cX6_seekRates 117 = .ok (.iconst 1, 1) := by decide +kernel
theorem dX6_seekRates_118 : decode cX6_seekRates 118 = .ok (.iadd, 1) := by decide +kernel
theorem dX6_seekRates_119 : decode cX6_seekRates 119 = .ok (.aload_n 0, 1) := by decide +kernel
theorem dX6_seekRates_120 : decode cX6_seekRates 120 = .ok (.getfield 18, 3) := by decide +kernel
theorem dX6_seekRates_123 : decode cX6_seekRates 123 = .ok (.if_icmp .ge 21, 3) := by decide +kernel
theorem dX6_seekRates_126 : decode cX6_seekRates 126 = .ok (.aload_n 0, 1) := by decide +kernel
theorem dX6_seekRates_127 : decode cX6_seekRates 127 = .ok (.getfield 26, 3) := by decide +kernel
theorem dX6_seekRates_130 : decode cX6_seekRates 130 = .ok (.iload 4, 2) := by decide +kernel
theorem dX6_seekRates_132 : decode cX6_seekRates 132 = .ok (.iaload, 1) := by decide +kernel
theorem dX6_seekRates_133 : decode cX6_seekRates 133 = .ok (.aload_n 1, 1) := by decide +kernel
theorem dX6_seekRates_134 : decode cX6_seekRates 134 = .ok (.getfield 66, 3) := by decide +kernel
theorem dX6_seekRates_137 : decode cX6_seekRates 137 = .ok (.imul, 1) := by decide +kernel
theorem dX6_seekRates_138 : decode cX6_seekRates 138 = .ok (.bipush 10, 2) := by decide +kernel
theorem dX6_seekRates_140 : decode cX6_seekRates 140 = .ok (.idiv, 1) := by decide +kernel
theorem dX6_seekRates_141 : decode cX6_seekRates 141 = .ok (.goto 4, 3) := by decide +kernel
theorem dX6_seekRates_144 : decode cX6_seekRates 144 = .ok (.iconst 0, 1) := by decide +kernel
theorem dX6_seekRates_145 : decode cX6_seekRates 145 = .ok (.iastore, 1) := by decide +kernel
theorem dX6_seekRates_146 : decode cX6_seekRates 146 = .ok (.aload_n 0, 1) := by decide +kernel
theorem dX6_seekRates_147 : decode cX6_seekRates 147 = .ok (.getfield 32, 3) := by decide +kernel
theorem dX6_seekRates_150 : decode cX6_seekRates 150 = .ok (.iload 4, 2) := by decide +kernel
theorem dX6_seekRates_152 : decode cX6_seekRates 152 = .ok (.aload_n 1, 1) := by decide +kernel
theorem dX6_seekRates_153 : decode cX6_seekRates 153 = .ok (.getfield 68, 3) := by decide +kernel
theorem dX6_seekRates_156 : decode cX6_seekRates 156 = .ok (.iload 4, 2) := by decide +kernel
theorem dX6_seekRates_158 : decode cX6_seekRates 158 = .ok (.iaload, 1) := by decide +kernel
theorem dX6_seekRates_159 : decode cX6_seekRates 159 = .ok (.iastore, 1) := by decide +kernel
theorem dX6_seekRates_160 : decode cX6_seekRates 160 = .ok (.iinc 4 1, 3) := by decide +kernel
theorem dX6_seekRates_163 : decode cX6_seekRates 163 = .ok (.goto (-128), 3) := by decide +kernel
theorem dX6_seekRates_166 : decode cX6_seekRates 166 = .ok (.return_, 1) := by decide +kernel
theorem dX6_best_0 : decode cX6_best 0 = .ok (.iconst (-1), 1) := by decide +kernel
theorem dX6_best_1 : decode cX6_best 1 = .ok (.istore_n 3, 1) := by decide +kernel
theorem dX6_best_2 : decode cX6_best 2 = .ok (.iconst 0, 1) := by decide +kernel
theorem dX6_best_3 : decode cX6_best 3 = .ok (.istore 4, 2) := by decide +kernel
theorem dX6_best_5 : decode cX6_best 5 = .ok (.iconst 0, 1) := by decide +kernel
theorem dX6_best_6 : decode cX6_best 6 = .ok (.istore 5, 2) := by decide +kernel
theorem dX6_best_8 : decode cX6_best 8 = .ok (.iload 5, 2) := by decide +kernel
theorem dX6_best_10 : decode cX6_best 10 = .ok (.iconst 1, 1) := by decide +kernel
theorem dX6_best_11 : decode cX6_best 11 = .ok (.aload_n 0, 1) := by decide +kernel
theorem dX6_best_12 : decode cX6_best 12 = .ok (.getfield 18, 3) := by decide +kernel
theorem dX6_best_15 : decode cX6_best 15 = .ok (.ishl, 1) := by decide +kernel
theorem dX6_best_16 : decode cX6_best 16 = .ok (.if_icmp .ge 61, 3) := by decide +kernel
theorem dX6_best_19 : decode cX6_best 19 = .ok (.iload 5, 2) := by decide +kernel
theorem dX6_best_21 : decode cX6_best 21 = .ok (.invokestatic 69, 3) := by decide +kernel
theorem dX6_best_24 : decode cX6_best 24 = .ok (.iload_n 1, 1) := by decide +kernel
theorem dX6_best_25 : decode cX6_best 25 = .ok (.if_icmp .eq 6, 3) := by decide +kernel
theorem dX6_best_28 : decode cX6_best 28 = .ok (.goto 43, 3) := by decide +kernel
theorem dX6_best_31 : decode cX6_best 31 = .ok (.iload_n 2, 1) := by decide +kernel
theorem dX6_best_32 : decode cX6_best 32 = .ok (.ifCond .eq 12, 3) := by decide +kernel
theorem dX6_best_35 : decode cX6_best 35 = .ok (.aload_n 0, 1) := by decide +kernel
theorem dX6_best_36 : decode cX6_best 36 = .ok (.iload 5, 2) := by decide +kernel
theorem dX6_best_38 : decode cX6_best 38 = .ok (.invokevirtual 75, 3) := by decide +kernel
theorem dX6_best_41 : decode cX6_best 41 = .ok (.goto 9, 3) := by decide +kernel
theorem dX6_best_44 : decode cX6_best 44 = .ok (.aload_n 0, 1) := by decide +kernel
theorem dX6_best_45 : decode cX6_best 45 = .ok (.iload 5, 2) := by decide +kernel
theorem dX6_best_47 : decode cX6_best 47 = .ok (.invokevirtual 78, 3) := by decide +kernel
theorem dX6_best_50 : decode cX6_best 50 = .ok (.istore 6, 2) := by decide +kernel
theorem dX6_best_52 : decode cX6_best 52 = .ok (.iload_n 3, 1) := by decide +kernel
theorem dX6_best_53 : decode cX6_best 53 = .ok (.iconst (-1), 1) := by decide +kernel
theorem dX6_best_54 : decode cX6_best 54 = .ok (.if_icmp .eq 10, 3) := by decide +kernel
theorem dX6_best_57 : decode cX6_best 57 = .ok (.iload 6, 2) := by decide +kernel
theorem dX6_best_59 : decode cX6_best 59 = .ok (.iload 4, 2) := by decide +kernel
theorem dX6_best_61 : decode cX6_best 61 = .ok (.if_icmp .le 10, 3) := by decide +kernel
theorem dX6_best_64 : decode cX6_best 64 = .ok (.iload 6, 2) := by decide +kernel
theorem dX6_best_66 : decode cX6_best 66 = .ok (.istore 4, 2) := by decide +kernel
theorem dX6_best_68 : decode cX6_best 68 = .ok (.iload 5, 2) := by decide +kernel
theorem dX6_best_70 : decode cX6_best 70 = .ok (.istore_n 3, 1) := by decide +kernel
theorem dX6_best_71 : decode cX6_best 71 = .ok (.iinc 5 1, 3) := by decide +kernel
theorem dX6_best_74 : decode cX6_best 74 = .ok (.goto (-66), 3) := by decide +kernel
theorem dX6_best_77 : decode cX6_best 77 = .ok (.iload_n 3, 1) := by decide +kernel
theorem dX6_best_78 : decode cX6_best 78 = .ok (.ireturn, 1) := by decide +kernel
theorem dX6_saved_0 : decode cX6_saved 0 = .ok (.iconst 0, 1) := by decide +kernel
theorem dX6_saved_1 : decode cX6_saved 1 = .ok (.istore_n 2, 1) := by decide +kernel
theorem dX6_saved_2 : decode cX6_saved 2 = .ok (.iconst 0, 1) := by decide +kernel
theorem dX6_saved_3 : decode cX6_saved 3 = .ok (.istore_n 3, 1) := by decide +kernel
theorem dX6_saved_4 : decode cX6_saved 4 = .ok (.iload_n 3, 1) := by decide +kernel
theorem dX6_saved_5 : decode cX6_saved 5 = .ok (.aload_n 0, 1) := by decide +kernel
theorem dX6_saved_6 : decode cX6_saved 6 = .ok (.getfield 18, 3) := by decide +kernel
theorem dX6_saved_9 : decode cX6_saved 9 = .ok (.if_icmp .ge 55, 3) := by decide +kernel
theorem dX6_saved_12 : decode cX6_saved 12 = .ok (.iload_n 3, 1) := by decide +kernel
theorem dX6_saved_13 : decode cX6_saved 13 = .ok (.bipush 12, 2) := by decide +kernel
theorem dX6_saved_15 : decode cX6_saved 15 = .ok (.if_icmp .ge 49, 3) := by decide +kernel
theorem dX6_saved_18 : decode cX6_saved 18 = .ok (.iload_n 1, 1) := by decide +kernel
theorem dX6_saved_19 : decode cX6_saved 19 = .ok (.iload_n 3, 1) := by decide +kernel
theorem dX6_saved_20 : decode cX6_saved 20 = .ok (.ishr, 1) := by decide +kernel
theorem dX6_saved_21 : decode cX6_saved 21 = .ok (.iconst 1, 1) := by decide +kernel
theorem dX6_saved_22 : decode cX6_saved 22 = .ok (.iand, 1) := by decide +kernel
theorem dX6_saved_23 : decode cX6_saved 23 = .ok (.ifCond .eq 35, 3) := by decide +kernel
theorem dX6_saved_26 : decode cX6_saved 26 = .ok (.iload_n 2, 1) := by decide +kernel
theorem dX6_saved_27 : decode cX6_saved 27 = .ok (.aload_n 0, 1) := by decide +kernel
theorem dX6_saved_28 : decode cX6_saved 28 = .ok (.getfield 26, 3) := by decide +kernel
theorem dX6_saved_31 : decode cX6_saved 31 = .ok (.iload_n 3, 1) := by decide +kernel
theorem dX6_saved_32 : decode cX6_saved 32 = .ok (.iaload, 1) := by decide +kernel
theorem dX6_saved_33 : decode cX6_saved 33 = .ok (.iadd, 1) := by decide +kernel
theorem dX6_saved_34 : decode cX6_saved 34 = .ok (.istore_n 2, 1) := by decide +kernel
theorem dX6_saved_35 : decode cX6_saved 35 = .ok (.iload_n 2, 1) := by decide +kernel
theorem dX6_saved_36 : decode cX6_saved 36 = .ok (.iload_n 1, 1) := by decide +kernel
theorem dX6_saved_37 : decode cX6_saved 37 = .ok (.iload_n 3, 1) := by decide +kernel
theorem dX6_saved_38 : decode cX6_saved 38 = .ok (.iconst 1, 1) := by decide +kernel
theorem dX6_saved_39 : decode cX6_saved 39 = .ok (.iadd, 1) := by decide +kernel
theorem dX6_saved_40 : decode cX6_saved 40 = .ok (.ishr, 1) := by decide +kernel
theorem dX6_saved_41 : decode cX6_saved 41 = .ok (.iconst 1, 1) := by decide +kernel
theorem dX6_saved_42 : decode cX6_saved 42 = .ok (.iand, 1) := by decide +kernel
theorem dX6_saved_43 : decode cX6_saved 43 = .ok (.ifCond .ne 12, 3) := by decide +kernel
theorem dX6_saved_46 : decode cX6_saved 46 = .ok (.aload_n 0, 1) := by decide +kernel
theorem dX6_saved_47 : decode cX6_saved 47 = .ok (.getfield 29, 3) := by decide +kernel
theorem dX6_saved_50 : decode cX6_saved 50 = .ok (.iload_n 3, 1) := by decide +kernel
theorem dX6_saved_51 : decode cX6_saved 51 = .ok (.iaload, 1) := by decide +kernel
theorem dX6_saved_52 : decode cX6_saved 52 = .ok (.goto 4, 3) := by decide +kernel
theorem dX6_saved_55 : decode cX6_saved 55 = .ok (.iconst 0, 1) := by decide +kernel
theorem dX6_saved_56 : decode cX6_saved 56 = .ok (.isub, 1) := by decide +kernel
theorem dX6_saved_57 : decode cX6_saved 57 = .ok (.istore_n 2, 1) := by decide +kernel
theorem dX6_saved_58 : decode cX6_saved 58 = .ok (.iinc 3 1, 3) := by decide +kernel
theorem dX6_saved_61 : decode cX6_saved 61 = .ok (.goto (-57), 3) := by decide +kernel
theorem dX6_saved_64 : decode cX6_saved 64 = .ok (.iload_n 2, 1) := by decide +kernel
theorem dX6_saved_65 : decode cX6_saved 65 = .ok (.ireturn, 1) := by decide +kernel
theorem dX6_brought_0 : decode cX6_brought 0 = .ok (.iconst 0, 1) := by decide +kernel
theorem dX6_brought_1 : decode cX6_brought 1 = .ok (.istore_n 2, 1) := by decide +kernel
theorem dX6_brought_2 : decode cX6_brought 2 = .ok (.iconst 0, 1) := by decide +kernel
theorem dX6_brought_3 : decode cX6_brought 3 = .ok (.istore_n 3, 1) := by decide +kernel
theorem dX6_brought_4 : decode cX6_brought 4 = .ok (.iload_n 3, 1) := by decide +kernel
theorem dX6_brought_5 : decode cX6_brought 5 = .ok (.aload_n 0, 1) := by decide +kernel
theorem dX6_brought_6 : decode cX6_brought 6 = .ok (.getfield 18, 3) := by decide +kernel
theorem dX6_brought_9 : decode cX6_brought 9 = .ok (.if_icmp .ge 36, 3) := by decide +kernel
theorem dX6_brought_12 : decode cX6_brought 12 = .ok (.iload_n 3, 1) := by decide +kernel
theorem dX6_brought_13 : decode cX6_brought 13 = .ok (.bipush 12, 2) := by decide +kernel
theorem dX6_brought_15 : decode cX6_brought 15 = .ok (.if_icmp .ge 30, 3) := by decide +kernel
theorem dX6_brought_18 : decode cX6_brought 18 = .ok (.iload_n 2, 1) := by decide +kernel
theorem dX6_brought_19 : decode cX6_brought 19 = .ok (.iload_n 1, 1) := by decide +kernel
theorem dX6_brought_20 : decode cX6_brought 20 = .ok (.iload_n 3, 1) := by decide +kernel
theorem dX6_brought_21 : decode cX6_brought 21 = .ok (.ishr, 1) := by decide +kernel
theorem dX6_brought_22 : decode cX6_brought 22 = .ok (.iconst 1, 1) := by decide +kernel
theorem dX6_brought_23 : decode cX6_brought 23 = .ok (.iand, 1) := by decide +kernel
theorem dX6_brought_24 : decode cX6_brought 24 = .ok (.ifCond .eq 12, 3) := by decide +kernel
theorem dX6_brought_27 : decode cX6_brought 27 = .ok (.aload_n 0, 1) := by decide +kernel
theorem dX6_brought_28 : decode cX6_brought 28 = .ok (.getfield 32, 3) := by decide +kernel
theorem dX6_brought_31 : decode cX6_brought 31 = .ok (.iload_n 3, 1) := by decide +kernel
theorem dX6_brought_32 : decode cX6_brought 32 = .ok (.iaload, 1) := by decide +kernel
theorem dX6_brought_33 : decode cX6_brought 33 = .ok (.goto 4, 3) := by decide +kernel
theorem dX6_brought_36 : decode cX6_brought 36 = .ok (.iconst 0, 1) := by decide +kernel
theorem dX6_brought_37 : decode cX6_brought 37 = .ok (.iadd, 1) := by decide +kernel
theorem dX6_brought_38 : decode cX6_brought 38 = .ok (.istore_n 2, 1) := by decide +kernel
theorem dX6_brought_39 : decode cX6_brought 39 = .ok (.iinc 3 1, 3) := by decide +kernel
theorem dX6_brought_42 : decode cX6_brought 42 = .ok (.goto (-38), 3) := by decide +kernel
theorem dX6_brought_45 : decode cX6_brought 45 = .ok (.iload_n 2, 1) := by decide +kernel
theorem dX6_brought_46 : decode cX6_brought 46 = .ok (.ireturn, 1) := by decide +kernel
theorem dX6_aboveSomeBox_0 : decode cX6_aboveSomeBox 0 = .ok (.ldc 81, 2) := by decide +kernel
theorem dX6_aboveSomeBox_2 : decode cX6_aboveSomeBox 2 = .ok (.istore_n 2, 1) := by decide +kernel
theorem dX6_aboveSomeBox_3 : decode cX6_aboveSomeBox 3 = .ok (.iconst 0, 1) := by decide +kernel
theorem dX6_aboveSomeBox_4 : decode cX6_aboveSomeBox 4 = .ok (.istore_n 3, 1) := by decide +kernel
theorem dX6_aboveSomeBox_5 : decode cX6_aboveSomeBox 5 = .ok (.iload_n 3, 1) := by decide +kernel
theorem dX6_aboveSomeBox_6 : decode cX6_aboveSomeBox 6 = .ok (.bipush 12, 2) := by decide +kernel
theorem dX6_aboveSomeBox_8 : decode cX6_aboveSomeBox 8 = .ok (.if_icmp .ge 37, 3) := by decide +kernel
theorem dX6_aboveSomeBox_11 : decode cX6_aboveSomeBox 11 = .ok (.aload_n 1, 1) := by decide +kernel
theorem dX6_aboveSomeBox_12 : decode cX6_aboveSomeBox 12 = .ok (.iload_n 3, 1) := by decide +kernel
theorem dX6_aboveSomeBox_13 : decode cX6_aboveSomeBox 13 = .ok (.invokevirtual 82, 3) := by decide +kernel
theorem dX6_aboveSomeBox_16 : decode cX6_aboveSomeBox 16 = .ok (.ifCond .eq 29, 3) := by decide +kernel
theorem dX6_aboveSomeBox_19 : decode cX6_aboveSomeBox 19 = .ok (.aload_n 1, 1) := by decide +kernel
theorem dX6_aboveSomeBox_20 : decode cX6_aboveSomeBox 20 = .ok (.getfield 86, 3) := by decide +kernel
theorem dX6_aboveSomeBox_23 : decode cX6_aboveSomeBox 23 = .ok (.iload_n 3, 1) := by decide +kernel
theorem dX6_aboveSomeBox_24 : decode cX6_aboveSomeBox 24 = .ok (.iaload, 1) := by decide +kernel
theorem dX6_aboveSomeBox_25 : decode cX6_aboveSomeBox 25 = .ok (.ifCond .eq 14, 3) := by decide +kernel
theorem dX6_aboveSomeBox_28 : decode cX6_aboveSomeBox 28 = .ok (.iload_n 2, 1) := by decide +kernel
theorem dX6_aboveSomeBox_29 : decode cX6_aboveSomeBox 29 = .ok (.aload_n 0, 1) := by decide +kernel
theorem dX6_aboveSomeBox_30 : decode cX6_aboveSomeBox 30 = .ok (.getfield 22, 3) := by decide +kernel
theorem dX6_aboveSomeBox_33 : decode cX6_aboveSomeBox 33 = .ok (.iload_n 3, 1) := by decide +kernel
theorem dX6_aboveSomeBox_34 : decode cX6_aboveSomeBox 34 = .ok (.iaload, 1) := by decide +kernel
theorem dX6_aboveSomeBox_35 : decode cX6_aboveSomeBox 35 = .ok (.invokestatic 54, 3) := by decide +kernel
theorem dX6_aboveSomeBox_38 : decode cX6_aboveSomeBox 38 = .ok (.istore_n 2, 1) := by decide +kernel
theorem dX6_aboveSomeBox_39 : decode cX6_aboveSomeBox 39 = .ok (.iinc 3 1, 3) := by decide +kernel
theorem dX6_aboveSomeBox_42 : decode cX6_aboveSomeBox 42 = .ok (.goto (-37), 3) := by decide +kernel
theorem dX6_aboveSomeBox_45 : decode cX6_aboveSomeBox 45 = .ok (.iconst 0, 1) := by decide +kernel
theorem dX6_aboveSomeBox_46 : decode cX6_aboveSomeBox 46 = .ok (.istore_n 3, 1) := by decide +kernel
theorem dX6_aboveSomeBox_47 : decode cX6_aboveSomeBox 47 = .ok (.iconst 0, 1) := by decide +kernel
theorem dX6_aboveSomeBox_48 : decode cX6_aboveSomeBox 48 = .ok (.istore 4, 2) := by decide +kernel
theorem dX6_aboveSomeBox_50 : decode cX6_aboveSomeBox 50 = .ok (.iload 4, 2) := by decide +kernel
theorem dX6_aboveSomeBox_52 : decode cX6_aboveSomeBox 52 = .ok (.bipush 12, 2) := by decide +kernel
theorem dX6_aboveSomeBox_54 : decode cX6_aboveSomeBox 54 = .ok (.if_icmp .ge 46, 3) := by decide +kernel
theorem dX6_aboveSomeBox_57 : decode cX6_aboveSomeBox 57 = .ok (.aload_n 1, 1) := by decide +kernel
theorem dX6_aboveSomeBox_58 : decode cX6_aboveSomeBox 58 = .ok (.iload 4, 2) := by decide +kernel
theorem dX6_aboveSomeBox_60 : decode cX6_aboveSomeBox 60 = .ok (.invokevirtual 82, 3) := by decide +kernel
theorem dX6_aboveSomeBox_63 : decode cX6_aboveSomeBox 63 = .ok (.ifCond .eq 37, 3) := by decide +kernel
theorem dX6_aboveSomeBox_66 : decode cX6_aboveSomeBox 66 = .ok (.aload_n 1, 1) := by decide +kernel
theorem dX6_aboveSomeBox_67 : decode cX6_aboveSomeBox 67 = .ok (.getfield 86, 3) := by decide +kernel
theorem dX6_aboveSomeBox_70 : decode cX6_aboveSomeBox 70 = .ok (.iload 4, 2) := by decide +kernel
theorem dX6_aboveSomeBox_72 : decode cX6_aboveSomeBox 72 = .ok (.iaload, 1) := by decide +kernel
theorem dX6_aboveSomeBox_73 : decode cX6_aboveSomeBox 73 = .ok (.ifCond .ne 21, 3) := by decide +kernel
theorem dX6_aboveSomeBox_76 : decode cX6_aboveSomeBox 76 = .ok (.aload_n 0, 1) := by decide +kernel
theorem dX6_aboveSomeBox_77 : decode cX6_aboveSomeBox 77 = .ok (.getfield 22, 3) := by decide +kernel
theorem dX6_aboveSomeBox_80 : decode cX6_aboveSomeBox 80 = .ok (.iload 4, 2) := by decide +kernel
theorem dX6_aboveSomeBox_82 : decode cX6_aboveSomeBox 82 = .ok (.iaload, 1) := by decide +kernel
theorem dX6_aboveSomeBox_83 : decode cX6_aboveSomeBox 83 = .ok (.iload_n 2, 1) := by decide +kernel
theorem dX6_aboveSomeBox_84 : decode cX6_aboveSomeBox 84 = .ok (.if_icmp .le 10, 3) := by decide +kernel
theorem dX6_aboveSomeBox_87 : decode cX6_aboveSomeBox 87 = .ok (.iload_n 3, 1) := by decide +kernel
theorem dX6_aboveSomeBox_88 : decode cX6_aboveSomeBox 88 = .ok (.iconst 1, 1) := by decide +kernel
theorem dX6_aboveSomeBox_89 : decode cX6_aboveSomeBox 89 = .ok (.iload 4, 2) := by decide +kernel
theorem dX6_aboveSomeBox_91 : decode cX6_aboveSomeBox 91 = .ok (.ishl, 1) := by decide +kernel
theorem dX6_aboveSomeBox_92 : decode cX6_aboveSomeBox 92 = .ok (.ior, 1) := by decide +kernel
theorem dX6_aboveSomeBox_93 : decode cX6_aboveSomeBox 93 = .ok (.istore_n 3, 1) := by decide +kernel
theorem dX6_aboveSomeBox_94 : decode cX6_aboveSomeBox 94 = .ok (.iinc 4 1, 3) := by decide +kernel
theorem dX6_aboveSomeBox_97 : decode cX6_aboveSomeBox 97 = .ok (.goto (-47), 3) := by decide +kernel
theorem dX6_aboveSomeBox_100 : decode cX6_aboveSomeBox 100 = .ok (.iload_n 3, 1) := by decide +kernel
theorem dX6_aboveSomeBox_101 : decode cX6_aboveSomeBox 101 = .ok (.ireturn, 1) := by decide +kernel
theorem dX7_init_0 : decode cX7_init 0 = .ok (.aload_n 0, 1) := by decide +kernel
theorem dX7_init_1 : decode cX7_init 1 = .ok (.invokespecial 3, 3) := by decide +kernel
theorem dX7_init_4 : decode cX7_init 4 = .ok (.aload_n 0, 1) := by decide +kernel
theorem dX7_init_5 : decode cX7_init 5 = .ok (.new 9, 3) := by decide +kernel
theorem dX7_init_8 : decode cX7_init 8 = .ok (.dup, 1) := by decide +kernel
theorem dX7_init_9 : decode cX7_init 9 = .ok (.invokespecial 11, 3) := by decide +kernel
theorem dX7_init_12 : decode cX7_init 12 = .ok (.putfield 12, 3) := by decide +kernel
theorem dX7_init_15 : decode cX7_init 15 = .ok (.aload_n 0, 1) := by decide +kernel
theorem dX7_init_16 : decode cX7_init 16 = .ok (.iconst 0, 1) := by decide +kernel
theorem dX7_init_17 : decode cX7_init 17 = .ok (.putfield 18, 3) := by decide +kernel
theorem dX7_init_20 : decode cX7_init 20 = .ok (.aload_n 0, 1) := by decide +kernel
theorem dX7_init_21 : decode cX7_init 21 = .ok (.iconst (-1), 1) := by decide +kernel
theorem dX7_init_22 : decode cX7_init 22 = .ok (.putfield 22, 3) := by decide +kernel
theorem dX7_init_25 : decode cX7_init 25 = .ok (.aload_n 0, 1) := by decide +kernel
theorem dX7_init_26 : decode cX7_init 26 = .ok (.bipush 72, 2) := by decide +kernel
theorem dX7_init_28 : decode cX7_init 28 = .ok (.newarray .int, 2) := by decide +kernel
theorem dX7_init_30 : decode cX7_init 30 = .ok (.putfield 25, 3) := by decide +kernel
theorem dX7_init_33 : decode cX7_init 33 = .ok (.aload_n 0, 1) := by decide +kernel
theorem dX7_init_34 : decode cX7_init 34 = .ok (.bipush 9, 2) := by decide +kernel
theorem dX7_init_36 : decode cX7_init 36 = .ok (.newarray .boolean, 2) := by decide +kernel
theorem dX7_init_38 : decode cX7_init 38 = .ok (.putfield 29, 3) := by decide +kernel
theorem dX7_init_41 : decode cX7_init 41 = .ok (.aload_n 0, 1) := by decide +kernel
theorem dX7_init_42 : decode cX7_init 42 = .ok (.iconst 0, 1) := by decide +kernel
theorem dX7_init_43 : decode cX7_init 43 = .ok (.putfield 33, 3) := by decide +kernel
theorem dX7_init_46 : decode cX7_init 46 = .ok (.aload_n 0, 1) := by decide +kernel
theorem dX7_init_47 : decode cX7_init 47 = .ok (.iconst 0, 1) := by decide +kernel
theorem dX7_init_48 : decode cX7_init 48 = .ok (.putfield 36, 3) := by decide +kernel
theorem dX7_init_51 : decode cX7_init 51 = .ok (.aload_n 0, 1) := by decide +kernel
theorem dX7_init_52 : decode cX7_init 52 = .ok (.iconst 0, 1) := by decide +kernel
theorem dX7_init_53 : decode cX7_init 53 = .ok (.putfield 39, 3) := by decide +kernel
theorem dX7_init_56 : decode cX7_init 56 = .ok (.aload_n 0, 1) := by decide +kernel
theorem dX7_init_57 : decode cX7_init 57 = .ok (.iconst 1, 1) := by decide +kernel
theorem dX7_init_58 : decode cX7_init 58 = .ok (.putfield 42, 3) := by decide +kernel
theorem dX7_init_61 : decode cX7_init 61 = .ok (.aload_n 0, 1) := by decide +kernel
theorem dX7_init_62 : decode cX7_init 62 = .ok (.iconst 1, 1) := by decide +kernel
theorem dX7_init_63 : decode cX7_init 63 = .ok (.putfield 46, 3) := by decide +kernel
theorem dX7_init_66 : decode cX7_init 66 = .ok (.return_, 1) := by decide +kernel
theorem dX7_read_0 : decode cX7_read 0 = .ok (.aload_n 0, 1) := by decide +kernel
theorem dX7_read_1 : decode cX7_read 1 = .ok (.iconst 0, 1) := by decide +kernel
theorem dX7_read_2 : decode cX7_read 2 = .ok (.putfield 18, 3) := by decide +kernel
theorem dX7_read_5 : decode cX7_read 5 = .ok (.aload_n 0, 1) := by decide +kernel
theorem dX7_read_6 : decode cX7_read 6 = .ok (.iconst (-1), 1) := by decide +kernel
theorem dX7_read_7 : decode cX7_read 7 = .ok (.putfield 22, 3) := by decide +kernel
theorem dX7_read_10 : decode cX7_read 10 = .ok (.aload_n 2, 1) := by decide +kernel
theorem dX7_read_11 : decode cX7_read 11 = .ok (.invokevirtual 49, 3) := by decide +kernel
theorem dX7_read_14 : decode cX7_read 14 = .ok (.aload_n 0, 1) := by decide +kernel
theorem dX7_read_15 : decode cX7_read 15 = .ok (.getfield 12, 3) := by decide +kernel
theorem dX7_read_18 : decode cX7_read 18 = .ok (.iload_n 1, 1) := by decide +kernel
theorem dX7_read_19 : decode cX7_read 19 = .ok (.invokevirtual 54, 3) := by decide +kernel
theorem dX7_read_22 : decode cX7_read 22 = .ok (.iconst 0, 1) := by decide +kernel
theorem dX7_read_23 : decode cX7_read 23 = .ok (.istore_n 3, 1) := by decide +kernel
theorem dX7_read_24 : decode cX7_read 24 = .ok (.iload_n 3, 1) := by decide +kernel
theorem dX7_read_25 : decode cX7_read 25 = .ok (.sipush 600, 3) := by decide +kernel
theorem dX7_read_28 : decode cX7_read 28 = .ok (.if_icmp .ge 166, 3) := by decide +kernel
theorem dX7_read_31 : decode cX7_read 31 = .ok (.aload_n 0, 1) := by decide +kernel
theorem dX7_read_32 : decode cX7_read 32 = .ok (.getfield 12, 3) := by decide +kernel
theorem dX7_read_35 : decode cX7_read 35 = .ok (.getfield 58, 3) := by decide +kernel
theorem dX7_read_38 : decode cX7_read 38 = .ok (.ifCond .eq 156, 3) := by decide +kernel
theorem dX7_read_41 : decode cX7_read 41 = .ok (.aload_n 0, 1) := by decide +kernel
theorem dX7_read_42 : decode cX7_read 42 = .ok (.getfield 12, 3) := by decide +kernel
theorem dX7_read_45 : decode cX7_read 45 = .ok (.ldc 61, 2) := by decide +kernel
theorem dX7_read_47 : decode cX7_read 47 = .ok (.invokevirtual 62, 3) := by decide +kernel
theorem dX7_read_50 : decode cX7_read 50 = .ok (.ifCond .eq 16, 3) := by decide +kernel
theorem dX7_read_53 : decode cX7_read 53 = .ok (.aload_n 0, 1) := by decide +kernel
theorem dX7_read_54 : decode cX7_read 54 = .ok (.aload_n 2, 1) := by decide +kernel
theorem dX7_read_55 : decode cX7_read 55 = .ok (.getfield 66, 3) := by decide +kernel
theorem dX7_read_58 : decode cX7_read 58 = .ok (.invokevirtual 70, 3) := by decide +kernel
theorem dX7_read_61 : decode cX7_read 61 = .ok (.istore 4, 2) := by decide +kernel
theorem dX7_read_63 : decode cX7_read 63 = .ok (.goto 101, 3) := by decide +kernel
theorem dX7_read_66 : decode cX7_read 66 = .ok (.aload_n 0, 1) := by decide +kernel
theorem dX7_read_67 : decode cX7_read 67 = .ok (.getfield 12, 3) := by decide +kernel
theorem dX7_read_70 : decode cX7_read 70 = .ok (.ldc 74, 2) := by decide +kernel
theorem dX7_read_72 : decode cX7_read 72 = .ok (.invokevirtual 62, 3) := by decide +kernel
theorem dX7_read_75 : decode cX7_read 75 = .ok (.ifCond .eq 35, 3) := by decide +kernel
theorem dX7_read_78 : decode cX7_read 78 = .ok (.aload_n 0, 1) := by decide +kernel
theorem dX7_read_79 : decode cX7_read 79 = .ok (.aload_n 2, 1) := by decide +kernel
theorem dX7_read_80 : decode cX7_read 80 = .ok (.invokevirtual 75, 3) := by decide +kernel
theorem dX7_read_83 : decode cX7_read 83 = .ok (.ifCond .eq 21, 3) := by decide +kernel
theorem dX7_read_86 : decode cX7_read 86 = .ok (.aload_n 0, 1) := by decide +kernel
theorem dX7_read_87 : decode cX7_read 87 = .ok (.aload_n 2, 1) := by decide +kernel
theorem dX7_read_88 : decode cX7_read 88 = .ok (.aload_n 2, 1) := by decide +kernel
theorem dX7_read_89 : decode cX7_read 89 = .ok (.getfield 79, 3) := by decide +kernel
theorem dX7_read_92 : decode cX7_read 92 = .ok (.iconst 1, 1) := by decide +kernel
theorem dX7_read_93 : decode cX7_read 93 = .ok (.isub, 1) := by decide +kernel
theorem dX7_read_94 : decode cX7_read 94 = .ok (.invokevirtual 82, 3) := by decide +kernel
theorem dX7_read_97 : decode cX7_read 97 = .ok (.ifCond .eq 7, 3) := by decide +kernel
theorem dX7_read_100 : decode cX7_read 100 = .ok (.iconst 1, 1) := by decide +kernel
theorem dX7_read_101 : decode cX7_read 101 = .ok (.goto 4, 3) := by decide +kernel
theorem dX7_read_104 : decode cX7_read 104 = .ok (.iconst 0, 1) := by decide +kernel
theorem dX7_read_105 : decode cX7_read 105 = .ok (.istore 4, 2) := by decide +kernel
theorem dX7_read_107 : decode cX7_read 107 = .ok (.goto 57, 3) := by decide +kernel
theorem dX7_read_110 : decode cX7_read 110 = .ok (.aload_n 0, 1) := by decide +kernel
theorem dX7_read_111 : decode cX7_read 111 = .ok (.getfield 12, 3) := by decide +kernel
theorem dX7_read_114 : decode cX7_read 114 = .ok (.ldc 86, 2) := by decide +kernel
theorem dX7_read_116 : decode cX7_read 116 = .ok (.invokevirtual 62, 3) := by decide +kernel
theorem dX7_read_119 : decode cX7_read 119 = .ok (.ifCond .eq 16, 3) := by decide +kernel
theorem dX7_read_122 : decode cX7_read 122 = .ok (.aload_n 0, 1) := by decide +kernel
theorem dX7_read_123 : decode cX7_read 123 = .ok (.aload_n 2, 1) := by decide +kernel
theorem dX7_read_124 : decode cX7_read 124 = .ok (.getfield 87, 3) := by decide +kernel
theorem dX7_read_127 : decode cX7_read 127 = .ok (.invokevirtual 91, 3) := by decide +kernel
theorem dX7_read_130 : decode cX7_read 130 = .ok (.istore 4, 2) := by decide +kernel
theorem dX7_read_132 : decode cX7_read 132 = .ok (.goto 32, 3) := by decide +kernel
theorem dX7_read_135 : decode cX7_read 135 = .ok (.aload_n 0, 1) := by decide +kernel
theorem dX7_read_136 : decode cX7_read 136 = .ok (.getfield 12, 3) := by decide +kernel
theorem dX7_read_139 : decode cX7_read 139 = .ok (.ldc 95, 2) := by decide +kernel
theorem dX7_read_141 : decode cX7_read 141 = .ok (.invokevirtual 62, 3) := by decide +kernel
theorem dX7_read_144 : decode cX7_read 144 = .ok (.ifCond .eq 13, 3) := by decide +kernel
theorem dX7_read_147 : decode cX7_read 147 = .ok (.aload_n 0, 1) := by decide +kernel
theorem dX7_read_148 : decode cX7_read 148 = .ok (.aload_n 2, 1) := by decide +kernel
theorem dX7_read_149 : decode cX7_read 149 = .ok (.invokevirtual 96, 3) := by decide +kernel
theorem dX7_read_152 : decode cX7_read 152 = .ok (.istore 4, 2) := by decide +kernel
theorem dX7_read_154 : decode cX7_read 154 = .ok (.goto 10, 3) := by decide +kernel
theorem dX7_read_157 : decode cX7_read 157 = .ok (.aload_n 0, 1) := by decide +kernel
theorem dX7_read_158 : decode cX7_read 158 = .ok (.iconst 1, 1) := by decide +kernel
theorem dX7_read_159 : decode cX7_read 159 = .ok (.invokevirtual 99, 3) := by decide +kernel
theorem dX7_read_162 : decode cX7_read 162 = .ok (.istore 4, 2) := by decide +kernel
theorem dX7_read_164 : decode cX7_read 164 = .ok (.iload 4, 2) := by decide +kernel
theorem dX7_read_166 : decode cX7_read 166 = .ok (.ifCond .eq 10, 3) := by decide +kernel
theorem dX7_read_169 : decode cX7_read 169 = .ok (.aload_n 0, 1) := by decide +kernel
theorem dX7_read_170 : decode cX7_read 170 = .ok (.invokevirtual 102, 3) := by decide +kernel
theorem dX7_read_173 : decode cX7_read 173 = .ok (.ifCond .ne 5, 3) := by decide +kernel
theorem dX7_read_176 : decode cX7_read 176 = .ok (.iconst 0, 1) := by decide +kernel
theorem dX7_read_177 : decode cX7_read 177 = .ok (.ireturn, 1) := by decide +kernel
theorem dX7_read_178 : decode cX7_read 178 = .ok (.aload_n 2, 1) := by decide +kernel
theorem dX7_read_179 : decode cX7_read 179 = .ok (.dup, 1) := by decide +kernel
theorem dX7_read_180 : decode cX7_read 180 = .ok (.getfield 106, 3) := by decide +kernel
theorem dX7_read_183 : decode cX7_read 183 = .ok (.iconst 1, 1) := by decide +kernel
theorem dX7_read_184 : decode cX7_read 184 = .ok (.iadd, 1) := by decide +kernel
theorem dX7_read_185 : decode cX7_read 185 = .ok (.putfield 106, 3) := by decide +kernel
theorem dX7_read_188 : decode cX7_read 188 = .ok (.iinc 3 1, 3) := by decide +kernel
theorem dX7_read_191 : decode cX7_read 191 = .ok (.goto (-167), 3) := by decide +kernel
theorem dX7_read_194 : decode cX7_read 194 = .ok (.iconst 1, 1) := by decide +kernel
theorem dX7_read_195 : decode cX7_read 195 = .ok (.ireturn, 1) := by decide +kernel
theorem dX7_readEnd_0 : decode cX7_readEnd 0 = .ok (.aload_n 0, 1) := by decide +kernel
theorem dX7_readEnd_1 : decode cX7_readEnd 1 = .ok (.getfield 12, 3) := by decide +kernel
theorem dX7_readEnd_4 : decode cX7_readEnd 4 = .ok (.bipush 59, 2) := by decide +kernel
theorem dX7_readEnd_6 : decode cX7_readEnd 6 = .ok (.invokevirtual 109, 3) := by decide +kernel
theorem dX7_readEnd_9 : decode cX7_readEnd 9 = .ok (.ifCond .ne 9, 3) := by decide +kernel
theorem dX7_readEnd_12 : decode cX7_readEnd 12 = .ok (.aload_n 0, 1) := by decide +kernel
theorem dX7_readEnd_13 : decode cX7_readEnd 13 = .ok (.iconst 1, 1) := by decide +kernel
theorem dX7_readEnd_14 : decode cX7_readEnd 14 = .ok (.invokevirtual 99, 3) := by decide +kernel
theorem dX7_readEnd_17 : decode cX7_readEnd 17 = .ok (.ireturn, 1) := by decide +kernel
theorem dX7_readEnd_18 : decode cX7_readEnd 18 = .ok (.aload_n 0, 1) := by decide +kernel
theorem dX7_readEnd_19 : decode cX7_readEnd 19 = .ok (.getfield 12, 3) := by decide +kernel
theorem dX7_readEnd_22 : decode cX7_readEnd 22 = .ok (.invokevirtual 112, 3) := by decide +kernel
theorem dX7_readEnd_25 : decode cX7_readEnd 25 = .ok (.iconst 1, 1) := by decide +kernel
theorem dX7_readEnd_26 : decode cX7_readEnd 26 = .ok (.ireturn, 1) := by decide +kernel
theorem dX7_readKind_0 : decode cX7_readKind 0 = .ok (.aload_n 1, 1) := by decide +kernel
theorem dX7_readKind_1 : decode cX7_readKind 1 = .ok (.getfield 115, 3) := by decide +kernel
theorem dX7_readKind_4 : decode cX7_readKind 4 = .ok (.istore_n 2, 1) := by decide +kernel
theorem dX7_readKind_5 : decode cX7_readKind 5 = .ok (.iload_n 2, 1) := by decide +kernel
theorem dX7_readKind_6 : decode cX7_readKind 6 = .ok (.ifCond .lt 8, 3) := by decide +kernel
theorem dX7_readKind_9 : decode cX7_readKind 9 = .ok (.iload_n 2, 1) := by decide +kernel
theorem dX7_readKind_10 : decode cX7_readKind 10 = .ok (.iconst 5, 1) := by decide +kernel
theorem dX7_readKind_11 : decode cX7_readKind 11 = .ok (.if_icmp .lt 9, 3) := by decide +kernel
theorem dX7_readKind_14 : decode cX7_readKind 14 = .ok (.aload_n 0, 1) := by decide +kernel
theorem dX7_readKind_15 : decode cX7_readKind 15 = .ok (.iconst 2, 1) := by decide +kernel
theorem dX7_readKind_16 : decode cX7_readKind 16 = .ok (.invokevirtual 99, 3) := by decide +kernel
theorem dX7_readKind_19 : decode cX7_readKind 19 = .ok (.ireturn, 1) := by decide +kernel
theorem dX7_readKind_20 : decode cX7_readKind 20 = .ok (.aload_n 0, 1) := by decide +kernel
theorem dX7_readKind_21 : decode cX7_readKind 21 = .ok (.getfield 12, 3) := by decide +kernel
theorem dX7_readKind_24 : decode cX7_readKind 24 = .ok (.invokevirtual 112, 3) := by decide +kernel
theorem dX7_readKind_27 : decode cX7_readKind 27 = .ok (.aload_n 0, 1) := by decide +kernel
theorem dX7_readKind_28 : decode cX7_readKind 28 = .ok (.aload_n 1, 1) := by decide +kernel
theorem dX7_readKind_29 : decode cX7_readKind 29 = .ok (.getfield 120, 3) := by decide +kernel
theorem dX7_readKind_32 : decode cX7_readKind 32 = .ok (.iload_n 2, 1) := by decide +kernel
theorem dX7_readKind_33 : decode cX7_readKind 33 = .ok (.invokevirtual 123, 3) := by decide +kernel
theorem dX7_readKind_36 : decode cX7_readKind 36 = .ok (.ifCond .ne 5, 3) := by decide +kernel
theorem dX7_readKind_39 : decode cX7_readKind 39 = .ok (.iconst 0, 1) := by decide +kernel
theorem dX7_readKind_40 : decode cX7_readKind 40 = .ok (.ireturn, 1) := by decide +kernel
theorem dX7_readKind_41 : decode cX7_readKind 41 = .ok (.aload_n 0, 1) := by decide +kernel
theorem dX7_readKind_42 : decode cX7_readKind 42 = .ok (.iconst 1, 1) := by decide +kernel
theorem dX7_readKind_43 : decode cX7_readKind 43 = .ok (.bipush 99, 2) := by decide +kernel
theorem dX7_readKind_45 : decode cX7_readKind 45 = .ok (.invokevirtual 127, 3) := by decide +kernel
theorem dX7_readKind_48 : decode cX7_readKind 48 = .ok (.istore_n 3, 1) := by decide +kernel
theorem dX7_readKind_49 : decode cX7_readKind 49 = .ok (.iload_n 3, 1) := by decide +kernel
theorem dX7_readKind_50 : decode cX7_readKind 50 = .ok (.iconst (-1), 1) := by decide +kernel
theorem dX7_readKind_51 : decode cX7_readKind 51 = .ok (.if_icmp .ne 5, 3) := by decide +kernel
theorem dX7_readKind_54 : decode cX7_readKind 54 = .ok (.iconst 0, 1) := by decide +kernel
theorem dX7_readKind_55 : decode cX7_readKind 55 = .ok (.ireturn, 1) := by decide +kernel
theorem dX7_readKind_56 : decode cX7_readKind 56 = .ok (.iconst 0, 1) := by decide +kernel
theorem dX7_readKind_57 : decode cX7_readKind 57 = .ok (.istore 4, 2) := by decide +kernel
theorem dX7_readKind_59 : decode cX7_readKind 59 = .ok (.iload 4, 2) := by decide +kernel
theorem dX7_readKind_61 : decode cX7_readKind 61 = .ok (.bipush 10, 2) := by decide +kernel
theorem dX7_readKind_63 : decode cX7_readKind 63 = .ok (.if_icmp .ge 35, 3) := by decide +kernel
theorem dX7_readKind_66 : decode cX7_readKind 66 = .ok (.aload_n 0, 1) := by decide +kernel
theorem dX7_readKind_67 : decode cX7_readKind 67 = .ok (.iconst 0, 1) := by decide +kernel
theorem dX7_readKind_68 : decode cX7_readKind 68 = .ok (.bipush 9, 2) := by decide +kernel
theorem dX7_readKind_70 : decode cX7_readKind 70 = .ok (.invokevirtual 127, 3) := by decide +kernel
theorem dX7_readKind_73 : decode cX7_readKind 73 = .ok (.istore 5, 2) := by decide +kernel
theorem dX7_readKind_75 : decode cX7_readKind 75 = .ok (.iload 5, 2) := by decide +kernel
theorem dX7_readKind_77 : decode cX7_readKind 77 = .ok (.iconst (-1), 1) := by decide +kernel
theorem dX7_readKind_78 : decode cX7_readKind 78 = .ok (.if_icmp .ne 5, 3) := by decide +kernel
theorem dX7_readKind_81 : decode cX7_readKind 81 = .ok (.iconst 0, 1) := by decide +kernel
theorem dX7_readKind_82 : decode cX7_readKind 82 = .ok (.ireturn, 1) := by decide +kernel
theorem dX7_readKind_83 : decode cX7_readKind 83 = .ok (.aload_n 1, 1) := by decide +kernel
theorem dX7_readKind_84 : decode cX7_readKind 84 = .ok (.iload_n 2, 1) := by decide +kernel
theorem dX7_readKind_85 : decode cX7_readKind 85 = .ok (.iload 4, 2) := by decide +kernel
theorem dX7_readKind_87 : decode cX7_readKind 87 = .ok (.iload 5, 2) := by decide +kernel
theorem dX7_readKind_89 : decode cX7_readKind 89 = .ok (.invokevirtual 131, 3) := by decide +kernel
theorem dX7_readKind_92 : decode cX7_readKind 92 = .ok (.iinc 4 1, 3) := by decide +kernel
theorem dX7_readKind_95 : decode cX7_readKind 95 = .ok (.goto (-36), 3) := by decide +kernel
theorem dX7_readKind_98 : decode cX7_readKind 98 = .ok (.aload_n 1, 1) := by decide +kernel
theorem dX7_readKind_99 : decode cX7_readKind 99 = .ok (.getfield 135, 3) := by decide +kernel
theorem dX7_readKind_102 : decode cX7_readKind 102 = .ok (.iload_n 2, 1) := by decide +kernel
theorem dX7_readKind_103 : decode cX7_readKind 103 = .ok (.iload_n 3, 1) := by decide +kernel
theorem dX7_readKind_104 : decode cX7_readKind 104 = .ok (.iastore, 1) := by decide +kernel
theorem dX7_readKind_105 : decode cX7_readKind 105 = .ok (.aload_n 1, 1) := by decide +kernel
theorem dX7_readKind_106 : decode cX7_readKind 106 = .ok (.dup, 1) := by decide +kernel
theorem dX7_readKind_107 : decode cX7_readKind 107 = .ok (.getfield 138, 3) := by decide +kernel
theorem dX7_readKind_110 : decode cX7_readKind 110 = .ok (.iload_n 3, 1) := by decide +kernel
theorem dX7_readKind_111 : decode cX7_readKind 111 = .ok (.iadd, 1) := by decide +kernel
theorem dX7_readKind_112 : decode cX7_readKind 112 = .ok (.putfield 138, 3) := by decide +kernel
theorem dX7_readKind_115 : decode cX7_readKind 115 = .ok (.aload_n 1, 1) := by decide +kernel
theorem dX7_readKind_116 : decode cX7_readKind 116 = .ok (.iload_n 2, 1) := by decide +kernel
theorem dX7_readKind_117 : decode cX7_readKind 117 = .ok (.iconst 1, 1) := by decide +kernel
theorem dX7_readKind_118 : decode cX7_readKind 118 = .ok (.iadd, 1) := by decide +kernel
theorem dX7_readKind_119 : decode cX7_readKind 119 = .ok (.putfield 115, 3) := by decide +kernel
theorem dX7_readKind_122 : decode cX7_readKind 122 = .ok (.iconst 1, 1) := by decide +kernel
theorem dX7_readKind_123 : decode cX7_readKind 123 = .ok (.ireturn, 1) := by decide +kernel
theorem dX7_readPlace_0 : decode cX7_readPlace 0 = .ok (.aload_n 1, 1) := by decide +kernel
theorem dX7_readPlace_1 : decode cX7_readPlace 1 = .ok (.getfield 79, 3) := by decide +kernel
theorem dX7_readPlace_4 : decode cX7_readPlace 4 = .ok (.istore_n 2, 1) := by decide +kernel
theorem dX7_readPlace_5 : decode cX7_readPlace 5 = .ok (.iload_n 2, 1) := by decide +kernel
theorem dX7_readPlace_6 : decode cX7_readPlace 6 = .ok (.ifCond .lt 9, 3) := by decide +kernel
theorem dX7_readPlace_9 : decode cX7_readPlace 9 = .ok (.iload_n 2, 1) := by decide +kernel
theorem dX7_readPlace_10 : decode cX7_readPlace 10 = .ok (.bipush 12, 2) := by decide +kernel
theorem dX7_readPlace_12 : decode cX7_readPlace 12 = .ok (.if_icmp .lt 9, 3) := by decide +kernel
theorem dX7_readPlace_15 : decode cX7_readPlace 15 = .ok (.aload_n 0, 1) := by decide +kernel
theorem dX7_readPlace_16 : decode cX7_readPlace 16 = .ok (.iconst 2, 1) := by decide +kernel
theorem dX7_readPlace_17 : decode cX7_readPlace 17 = .ok (.invokevirtual 99, 3) := by decide +kernel
theorem dX7_readPlace_20 : decode cX7_readPlace 20 = .ok (.ireturn, 1) := by decide +kernel
theorem dX7_readPlace_21 : decode cX7_readPlace 21 = .ok (.aload_n 0, 1) := by decide +kernel
theorem dX7_readPlace_22 : decode cX7_readPlace 22 = .ok (.getfield 12, 3) := by decide +kernel
theorem dX7_readPlace_25 : decode cX7_readPlace 25 = .ok (.invokevirtual 112, 3) := by decide +kernel
theorem dX7_readPlace_28 : decode cX7_readPlace 28 = .ok (.aload_n 0, 1) := by decide +kernel
theorem dX7_readPlace_29 : decode cX7_readPlace 29 = .ok (.aload_n 1, 1) := by decide +kernel
theorem dX7_readPlace_30 : decode cX7_readPlace 30 = .ok (.getfield 141, 3) := by decide +kernel
theorem dX7_readPlace_33 : decode cX7_readPlace 33 = .ok (.iload_n 2, 1) := by decide +kernel
theorem dX7_readPlace_34 : decode cX7_readPlace 34 = .ok (.invokevirtual 123, 3) := by decide +kernel
theorem dX7_readPlace_37 : decode cX7_readPlace 37 = .ok (.ifCond .ne 5, 3) := by decide +kernel
theorem dX7_readPlace_40 : decode cX7_readPlace 40 = .ok (.iconst 0, 1) := by decide +kernel
theorem dX7_readPlace_41 : decode cX7_readPlace 41 = .ok (.ireturn, 1) := by decide +kernel
theorem dX7_readPlace_42 : decode cX7_readPlace 42 = .ok (.aload_n 0, 1) := by decide +kernel
theorem dX7_readPlace_43 : decode cX7_readPlace 43 = .ok (.iconst 0, 1) := by decide +kernel
theorem dX7_readPlace_44 : decode cX7_readPlace 44 = .ok (.bipush 9, 2) := by decide +kernel
theorem dX7_readPlace_46 : decode cX7_readPlace 46 = .ok (.invokevirtual 127, 3) := by decide +kernel
theorem dX7_readPlace_49 : decode cX7_readPlace 49 = .ok (.istore_n 3, 1) := by decide +kernel
theorem dX7_readPlace_50 : decode cX7_readPlace 50 = .ok (.iload_n 3, 1) := by decide +kernel
theorem dX7_readPlace_51 : decode cX7_readPlace 51 = .ok (.iconst (-1), 1) := by decide +kernel
theorem dX7_readPlace_52 : decode cX7_readPlace 52 = .ok (.if_icmp .ne 5, 3) := by decide +kernel
theorem dX7_readPlace_55 : decode cX7_readPlace 55 = .ok (.iconst 0, 1) := by decide +kernel
theorem dX7_readPlace_56 : decode cX7_readPlace 56 = .ok (.ireturn, 1) := by decide +kernel
theorem dX7_readPlace_57 : decode cX7_readPlace 57 = .ok (.aload_n 1, 1) := by decide +kernel
theorem dX7_readPlace_58 : decode cX7_readPlace 58 = .ok (.getfield 142, 3) := by decide +kernel
theorem dX7_readPlace_61 : decode cX7_readPlace 61 = .ok (.iload_n 2, 1) := by decide +kernel
theorem dX7_readPlace_62 : decode cX7_readPlace 62 = .ok (.iload_n 3, 1) := by decide +kernel
theorem dX7_readPlace_63 : decode cX7_readPlace 63 = .ok (.iastore, 1) := by decide +kernel
theorem dX7_readPlace_64 : decode cX7_readPlace 64 = .ok (.aload_n 1, 1) := by decide +kernel
theorem dX7_readPlace_65 : decode cX7_readPlace 65 = .ok (.iload_n 2, 1) := by decide +kernel
theorem dX7_readPlace_66 : decode cX7_readPlace 66 = .ok (.iconst 1, 1) := by decide +kernel
theorem dX7_readPlace_67 : decode cX7_readPlace 67 = .ok (.iadd, 1) := by decide +kernel
theorem dX7_readPlace_68 : decode cX7_readPlace 68 = .ok (.putfield 79, 3) := by decide +kernel
theorem dX7_readPlace_71 : decode cX7_readPlace 71 = .ok (.iconst 1, 1) := by decide +kernel
theorem dX7_readPlace_72 : decode cX7_readPlace 72 = .ok (.ireturn, 1) := by decide +kernel
theorem dX7_readMore_0 : decode cX7_readMore 0 = .ok (.iconst 0, 1) := by decide +kernel
theorem dX7_readMore_1 : decode cX7_readMore 1 = .ok (.istore_n 3, 1) := by decide +kernel
theorem dX7_readMore_2 : decode cX7_readMore 2 = .ok (.iload_n 3, 1) := by decide +kernel
theorem dX7_readMore_3 : decode cX7_readMore 3 = .ok (.iconst 3, 1) := by decide +kernel
theorem dX7_readMore_4 : decode cX7_readMore 4 = .ok (.if_icmp .gt 95, 3) := by decide +kernel
theorem dX7_readMore_7 : decode cX7_readMore 7 = .ok (.aload_n 1, 1) := by decide +kernel
theorem dX7_readMore_8 : decode cX7_readMore 8 = .ok (.iload_n 2, 1) := by decide +kernel
theorem dX7_readMore_9 : decode cX7_readMore 9 = .ok (.invokevirtual 145, 3) := by decide +kernel
theorem dX7_readMore_12 : decode cX7_readMore 12 = .ok (.ifCond .eq 87, 3) := by decide +kernel
theorem dX7_readMore_15 : decode cX7_readMore 15 = .ok (.aload_n 0, 1) := by decide +kernel
theorem dX7_readMore_16 : decode cX7_readMore 16 = .ok (.getfield 12, 3) := by decide +kernel
theorem dX7_readMore_19 : decode cX7_readMore 19 = .ok (.ldc 148, 2) := by decide +kernel
theorem dX7_readMore_21 : decode cX7_readMore 21 = .ok (.invokevirtual 62, 3) := by decide +kernel
theorem dX7_readMore_24 : decode cX7_readMore 24 = .ok (.ifCond .eq 14, 3) := by decide +kernel
theorem dX7_readMore_27 : decode cX7_readMore 27 = .ok (.aload_n 0, 1) := by decide +kernel
theorem dX7_readMore_28 : decode cX7_readMore 28 = .ok (.aload_n 1, 1) := by decide +kernel
theorem dX7_readMore_29 : decode cX7_readMore 29 = .ok (.iload_n 2, 1) := by decide +kernel
theorem dX7_readMore_30 : decode cX7_readMore 30 = .ok (.invokevirtual 149, 3) := by decide +kernel
theorem dX7_readMore_33 : decode cX7_readMore 33 = .ok (.istore 4, 2) := by decide +kernel
theorem dX7_readMore_35 : decode cX7_readMore 35 = .ok (.goto 51, 3) := by decide +kernel
theorem dX7_readMore_38 : decode cX7_readMore 38 = .ok (.aload_n 0, 1) := by decide +kernel
theorem dX7_readMore_39 : decode cX7_readMore 39 = .ok (.getfield 12, 3) := by decide +kernel
theorem dX7_readMore_42 : decode cX7_readMore 42 = .ok (.ldc 152, 2) := by decide +kernel
theorem dX7_readMore_44 : decode cX7_readMore 44 = .ok (.invokevirtual 62, 3) := by decide +kernel
theorem dX7_readMore_47 : decode cX7_readMore 47 = .ok (.ifCond .eq 14, 3) := by decide +kernel
theorem dX7_readMore_50 : decode cX7_readMore 50 = .ok (.aload_n 0, 1) := by decide +kernel
theorem dX7_readMore_51 : decode cX7_readMore 51 = .ok (.aload_n 1, 1) := by decide +kernel
theorem dX7_readMore_52 : decode cX7_readMore 52 = .ok (.iload_n 2, 1) := by decide +kernel
theorem dX7_readMore_53 : decode cX7_readMore 53 = .ok (.invokevirtual 153, 3) := by decide +kernel
theorem dX7_readMore_56 : decode cX7_readMore 56 = .ok (.istore 4, 2) := by decide +kernel
theorem dX7_readMore_58 : decode cX7_readMore 58 = .ok (.goto 28, 3) := by decide +kernel
theorem dX7_readMore_61 : decode cX7_readMore 61 = .ok (.aload_n 0, 1) := by decide +kernel
theorem dX7_readMore_62 : decode cX7_readMore 62 = .ok (.getfield 12, 3) := by decide +kernel
theorem dX7_readMore_65 : decode cX7_readMore 65 = .ok (.ldc 156, 2) := by decide +kernel
theorem dX7_readMore_67 : decode cX7_readMore 67 = .ok (.invokevirtual 62, 3) := by decide +kernel
theorem dX7_readMore_70 : decode cX7_readMore 70 = .ok (.ifCond .eq 14, 3) := by decide +kernel
theorem dX7_readMore_73 : decode cX7_readMore 73 = .ok (.aload_n 0, 1) := by decide +kernel
theorem dX7_readMore_74 : decode cX7_readMore 74 = .ok (.aload_n 1, 1) := by decide +kernel
theorem dX7_readMore_75 : decode cX7_readMore 75 = .ok (.iload_n 2, 1) := by decide +kernel
theorem dX7_readMore_76 : decode cX7_readMore 76 = .ok (.invokevirtual 157, 3) := by decide +kernel
theorem dX7_readMore_79 : decode cX7_readMore 79 = .ok (.istore 4, 2) := by decide +kernel
theorem dX7_readMore_81 : decode cX7_readMore 81 = .ok (.goto 5, 3) := by decide +kernel
theorem dX7_readMore_84 : decode cX7_readMore 84 = .ok (.iconst 1, 1) := by decide +kernel
theorem dX7_readMore_85 : decode cX7_readMore 85 = .ok (.ireturn, 1) := by decide +kernel
theorem dX7_readMore_86 : decode cX7_readMore 86 = .ok (.iload 4, 2) := by decide +kernel
theorem dX7_readMore_88 : decode cX7_readMore 88 = .ok (.ifCond .ne 5, 3) := by decide +kernel
theorem dX7_readMore_91 : decode cX7_readMore 91 = .ok (.iconst 0, 1) := by decide +kernel
theorem dX7_readMore_92 : decode cX7_readMore 92 = .ok (.ireturn, 1) := by decide +kernel
theorem dX7_readMore_93 : decode cX7_readMore 93 = .ok (.iinc 3 1, 3) := by decide +kernel
theorem dX7_readMore_96 : decode cX7_readMore 96 = .ok (.goto (-94), 3) := by decide +kernel
theorem dX7_readMore_99 : decode cX7_readMore 99 = .ok (.iconst 1, 1) := by decide +kernel
theorem dX7_readMore_100 : decode cX7_readMore 100 = .ok (.ireturn, 1) := by decide +kernel
theorem dX7_readLot_0 : decode cX7_readLot 0 = .ok (.aload_n 1, 1) := by decide +kernel
theorem dX7_readLot_1 : decode cX7_readLot 1 = .ok (.getfield 160, 3) := by decide +kernel
theorem dX7_readLot_4 : decode cX7_readLot 4 = .ok (.iload_n 2, 1) := by decide +kernel
theorem dX7_readLot_5 : decode cX7_readLot 5 = .ok (.baload, 1) := by decide +kernel
theorem dX7_readLot_6 : decode cX7_readLot 6 = .ok (.ifCond .eq 9, 3) := by decide +kernel
theorem dX7_readLot_9 : decode cX7_readLot 9 = .ok (.aload_n 0, 1) := by decide +kernel
theorem dX7_readLot_10 : decode cX7_readLot 10 = .ok (.iconst 3, 1) := by decide +kernel
theorem dX7_readLot_11 : decode cX7_readLot 11 = .ok (.invokevirtual 99, 3) := by decide +kernel
theorem dX7_readLot_14 : decode cX7_readLot 14 = .ok (.ireturn, 1) := by decide +kernel
theorem dX7_readLot_15 : decode cX7_readLot 15 = .ok (.aload_n 0, 1) := by decide +kernel
theorem dX7_readLot_16 : decode cX7_readLot 16 = .ok (.getfield 12, 3) := by decide +kernel
theorem dX7_readLot_19 : decode cX7_readLot 19 = .ok (.invokevirtual 112, 3) := by decide +kernel
theorem dX7_readLot_22 : decode cX7_readLot 22 = .ok (.aload_n 1, 1) := by decide +kernel
theorem dX7_readLot_23 : decode cX7_readLot 23 = .ok (.getfield 160, 3) := by decide +kernel
theorem dX7_readLot_26 : decode cX7_readLot 26 = .ok (.iload_n 2, 1) := by decide +kernel
theorem dX7_readLot_27 : decode cX7_readLot 27 = .ok (.iconst 1, 1) := by decide +kernel
theorem dX7_readLot_28 : decode cX7_readLot 28 = .ok (.bastore, 1) := by decide +kernel
theorem dX7_readLot_29 : decode cX7_readLot 29 = .ok (.iconst 1, 1) := by decide +kernel
theorem dX7_readLot_30 : decode cX7_readLot 30 = .ok (.ireturn, 1) := by decide +kernel
theorem dX7_readBox_0 : decode cX7_readBox 0 = .ok (.aload_n 1, 1) := by decide +kernel
theorem dX7_readBox_1 : decode cX7_readBox 1 = .ok (.getfield 163, 3) := by decide +kernel
theorem dX7_readBox_4 : decode cX7_readBox 4 = .ok (.iload_n 2, 1) := by decide +kernel
theorem dX7_readBox_5 : decode cX7_readBox 5 = .ok (.iaload, 1) := by decide +kernel
theorem dX7_readBox_6 : decode cX7_readBox 6 = .ok (.ifCond .eq 9, 3) := by decide +kernel
theorem dX7_readBox_9 : decode cX7_readBox 9 = .ok (.aload_n 0, 1) := by decide +kernel
theorem dX7_readBox_10 : decode cX7_readBox 10 = .ok (.iconst 3, 1) := by decide +kernel
theorem dX7_readBox_11 : decode cX7_readBox 11 = .ok (.invokevirtual 99, 3) := by decide +kernel
theorem dX7_readBox_14 : decode cX7_readBox 14 = .ok (.ireturn, 1) := by decide +kernel
theorem dX7_readBox_15 : decode cX7_readBox 15 = .ok (.aload_n 0, 1) := by decide +kernel
theorem dX7_readBox_16 : decode cX7_readBox 16 = .ok (.getfield 12, 3) := by decide +kernel
theorem dX7_readBox_19 : decode cX7_readBox 19 = .ok (.invokevirtual 112, 3) := by decide +kernel
theorem dX7_readBox_22 : decode cX7_readBox 22 = .ok (.aload_n 0, 1) := by decide +kernel
theorem dX7_readBox_23 : decode cX7_readBox 23 = .ok (.iconst 1, 1) := by decide +kernel
theorem dX7_readBox_24 : decode cX7_readBox 24 = .ok (.bipush 8, 2) := by decide +kernel
theorem dX7_readBox_26 : decode cX7_readBox 26 = .ok (.invokevirtual 127, 3) := by decide +kernel
theorem dX7_readBox_29 : decode cX7_readBox 29 = .ok (.istore_n 3, 1) := by decide +kernel
theorem dX7_readBox_30 : decode cX7_readBox 30 = .ok (.iload_n 3, 1) := by decide +kernel
theorem dX7_readBox_31 : decode cX7_readBox 31 = .ok (.iconst (-1), 1) := by decide +kernel
theorem dX7_readBox_32 : decode cX7_readBox 32 = .ok (.if_icmp .ne 5, 3) := by decide +kernel
theorem dX7_readBox_35 : decode cX7_readBox 35 = .ok (.iconst 0, 1) := by decide +kernel
theorem dX7_readBox_36 : decode cX7_readBox 36 = .ok (.ireturn, 1) := by decide +kernel
theorem dX7_readBox_37 : decode cX7_readBox 37 = .ok (.aload_n 1, 1) := by decide +kernel
theorem dX7_readBox_38 : decode cX7_readBox 38 = .ok (.getfield 163, 3) := by decide +kernel
theorem dX7_readBox_41 : decode cX7_readBox 41 = .ok (.iload_n 2, 1) := by decide +kernel
theorem dX7_readBox_42 : decode cX7_readBox 42 = .ok (.iload_n 3, 1) := by decide +kernel
theorem dX7_readBox_43 : decode cX7_readBox 43 = .ok (.iastore, 1) := by decide +kernel
theorem dX7_readBox_44 : decode cX7_readBox 44 = .ok (.iconst 1, 1) := by decide +kernel
theorem dX7_readBox_45 : decode cX7_readBox 45 = .ok (.ireturn, 1) := by decide +kernel
theorem dX7_readWorks_0 : decode cX7_readWorks 0 = .ok (.aload_n 1, 1) := by decide +kernel
theorem dX7_readWorks_1 : decode cX7_readWorks 1 = .ok (.getfield 166, 3) := by decide +kernel
theorem dX7_readWorks_4 : decode cX7_readWorks 4 = .ok (.iload_n 2, 1) := by decide +kernel
theorem dX7_readWorks_5 : decode cX7_readWorks 5 = .ok (.iaload, 1) := by decide +kernel
theorem dX7_readWorks_6 : decode cX7_readWorks 6 = .ok (.iconst (-1), 1) := by decide +kernel
theorem dX7_readWorks_7 : decode cX7_readWorks 7 = .ok (.if_icmp .eq 9, 3) := by decide +kernel
theorem dX7_readWorks_10 : decode cX7_readWorks 10 = .ok (.aload_n 0, 1) := by decide +kernel
theorem dX7_readWorks_11 : decode cX7_readWorks 11 = .ok (.iconst 3, 1) := by decide +kernel
theorem dX7_readWorks_12 : decode cX7_readWorks 12 = .ok (.invokevirtual 99, 3) := by decide +kernel
theorem dX7_readWorks_15 : decode cX7_readWorks 15 = .ok (.ireturn, 1) := by decide +kernel
theorem dX7_readWorks_16 : decode cX7_readWorks 16 = .ok (.aload_n 0, 1) := by decide +kernel
theorem dX7_readWorks_17 : decode cX7_readWorks 17 = .ok (.getfield 12, 3) := by decide +kernel
theorem dX7_readWorks_20 : decode cX7_readWorks 20 = .ok (.invokevirtual 112, 3) := by decide +kernel
theorem dX7_readWorks_23 : decode cX7_readWorks 23 = .ok (.aload_n 0, 1) := by decide +kernel
theorem dX7_readWorks_24 : decode cX7_readWorks 24 = .ok (.iconst 0, 1) := by decide +kernel
theorem dX7_readWorks_25 : decode cX7_readWorks 25 = .ok (.bipush 8, 2) := by decide +kernel
theorem dX7_readWorks_27 : decode cX7_readWorks 27 = .ok (.invokevirtual 127, 3) := by decide +kernel
theorem dX7_readWorks_30 : decode cX7_readWorks 30 = .ok (.istore_n 3, 1) := by decide +kernel
theorem dX7_readWorks_31 : decode cX7_readWorks 31 = .ok (.iload_n 3, 1) := by decide +kernel
theorem dX7_readWorks_32 : decode cX7_readWorks 32 = .ok (.iconst (-1), 1) := by decide +kernel
theorem dX7_readWorks_33 : decode cX7_readWorks 33 = .ok (.if_icmp .ne 7, 3) := by decide +kernel
theorem dX7_readWorks_36 : decode cX7_readWorks 36 = .ok (.iconst (-1), 1) := by decide +kernel
theorem dX7_readWorks_37 : decode cX7_readWorks 37 = .ok (.goto 10, 3) := by decide +kernel
theorem dX7_readWorks_40 : decode cX7_readWorks 40 = .ok (.aload_n 0, 1) := by decide +kernel
theorem dX7_readWorks_41 : decode cX7_readWorks 41 = .ok (.iconst 0, 1) := by decide +kernel
theorem dX7_readWorks_42 : decode cX7_readWorks 42 = .ok (.bipush 9, 2) := by decide +kernel
theorem dX7_readWorks_44 : decode cX7_readWorks 44 = .ok (.invokevirtual 127, 3) := by decide +kernel
theorem dX7_readWorks_47 : decode cX7_readWorks 47 = .ok (.istore 4, 2) := by decide +kernel
theorem dX7_readWorks_49 : decode cX7_readWorks 49 = .ok (.iload 4, 2) := by decide +kernel
theorem dX7_readWorks_51 : decode cX7_readWorks 51 = .ok (.iconst (-1), 1) := by decide +kernel
theorem dX7_readWorks_52 : decode cX7_readWorks 52 = .ok (.if_icmp .ne 5, 3) := by decide +kernel
theorem dX7_readWorks_55 : decode cX7_readWorks 55 = .ok (.iconst 0, 1) := by decide +kernel
theorem dX7_readWorks_56 : decode cX7_readWorks 56 = .ok (.ireturn, 1) := by decide +kernel
theorem dX7_readWorks_57 : decode cX7_readWorks 57 = .ok (.aload_n 1, 1) := by decide +kernel
theorem dX7_readWorks_58 : decode cX7_readWorks 58 = .ok (.getfield 166, 3) := by decide +kernel
theorem dX7_readWorks_61 : decode cX7_readWorks 61 = .ok (.iload_n 2, 1) := by decide +kernel
theorem dX7_readWorks_62 : decode cX7_readWorks 62 = .ok (.iload_n 3, 1) := by decide +kernel
theorem dX7_readWorks_63 : decode cX7_readWorks 63 = .ok (.iastore, 1) := by decide +kernel
theorem dX7_readWorks_64 : decode cX7_readWorks 64 = .ok (.aload_n 1, 1) := by decide +kernel
theorem dX7_readWorks_65 : decode cX7_readWorks 65 = .ok (.getfield 169, 3) := by decide +kernel
theorem dX7_readWorks_68 : decode cX7_readWorks 68 = .ok (.iload_n 2, 1) := by decide +kernel
theorem dX7_readWorks_69 : decode cX7_readWorks 69 = .ok (.iload 4, 2) := by decide +kernel
theorem dX7_readWorks_71 : decode cX7_readWorks 71 = .ok (.iastore, 1) := by decide +kernel
theorem dX7_readWorks_72 : decode cX7_readWorks 72 = .ok (.iconst 1, 1) := by decide +kernel
theorem dX7_readWorks_73 : decode cX7_readWorks 73 = .ok (.ireturn, 1) := by decide +kernel
theorem dX7_readSaves_0 : decode cX7_readSaves 0 = .ok (.aload_n 1, 1) := by decide +kernel
theorem dX7_readSaves_1 : decode cX7_readSaves 1 = .ok (.getfield 172, 3) := by decide +kernel
theorem dX7_readSaves_4 : decode cX7_readSaves 4 = .ok (.ifCond .eq 9, 3) := by decide +kernel
theorem dX7_readSaves_7 : decode cX7_readSaves 7 = .ok (.aload_n 0, 1) := by decide +kernel
theorem dX7_readSaves_8 : decode cX7_readSaves 8 = .ok (.iconst 3, 1) := by decide +kernel
theorem dX7_readSaves_9 : decode cX7_readSaves 9 = .ok (.invokevirtual 99, 3) := by decide +kernel
theorem dX7_readSaves_12 : decode cX7_readSaves 12 = .ok (.ireturn, 1) := by decide +kernel
theorem dX7_readSaves_13 : decode cX7_readSaves 13 = .ok (.aload_n 0, 1) := by decide +kernel
theorem dX7_readSaves_14 : decode cX7_readSaves 14 = .ok (.getfield 12, 3) := by decide +kernel
theorem dX7_readSaves_17 : decode cX7_readSaves 17 = .ok (.invokevirtual 112, 3) := by decide +kernel
theorem dX7_readSaves_20 : decode cX7_readSaves 20 = .ok (.aload_n 0, 1) := by decide +kernel
theorem dX7_readSaves_21 : decode cX7_readSaves 21 = .ok (.iconst 0, 1) := by decide +kernel
theorem dX7_readSaves_22 : decode cX7_readSaves 22 = .ok (.bipush 9, 2) := by decide +kernel
theorem dX7_readSaves_24 : decode cX7_readSaves 24 = .ok (.invokevirtual 127, 3) := by decide +kernel
theorem dX7_readSaves_27 : decode cX7_readSaves 27 = .ok (.istore_n 2, 1) := by decide +kernel
theorem dX7_readSaves_28 : decode cX7_readSaves 28 = .ok (.iload_n 2, 1) := by decide +kernel
theorem dX7_readSaves_29 : decode cX7_readSaves 29 = .ok (.iconst (-1), 1) := by decide +kernel
theorem dX7_readSaves_30 : decode cX7_readSaves 30 = .ok (.if_icmp .ne 7, 3) := by decide +kernel
theorem dX7_readSaves_33 : decode cX7_readSaves 33 = .ok (.iconst (-1), 1) := by decide +kernel
theorem dX7_readSaves_34 : decode cX7_readSaves 34 = .ok (.goto 10, 3) := by decide +kernel
theorem dX7_readSaves_37 : decode cX7_readSaves 37 = .ok (.aload_n 0, 1) := by decide +kernel
theorem dX7_readSaves_38 : decode cX7_readSaves 38 = .ok (.iconst 0, 1) := by decide +kernel
theorem dX7_readSaves_39 : decode cX7_readSaves 39 = .ok (.bipush 9, 2) := by decide +kernel
theorem dX7_readSaves_41 : decode cX7_readSaves 41 = .ok (.invokevirtual 127, 3) := by decide +kernel
theorem dX7_readSaves_44 : decode cX7_readSaves 44 = .ok (.istore_n 3, 1) := by decide +kernel
theorem dX7_readSaves_45 : decode cX7_readSaves 45 = .ok (.iload_n 3, 1) := by decide +kernel
theorem dX7_readSaves_46 : decode cX7_readSaves 46 = .ok (.iconst (-1), 1) := by decide +kernel
theorem dX7_readSaves_47 : decode cX7_readSaves 47 = .ok (.if_icmp .ne 5, 3) := by decide +kernel
theorem dX7_readSaves_50 : decode cX7_readSaves 50 = .ok (.iconst 0, 1) := by decide +kernel
theorem dX7_readSaves_51 : decode cX7_readSaves 51 = .ok (.ireturn, 1) := by decide +kernel
theorem dX7_readSaves_52 : decode cX7_readSaves 52 = .ok (.aload_n 1, 1) := by decide +kernel
theorem dX7_readSaves_53 : decode cX7_readSaves 53 = .ok (.iconst 1, 1) := by decide +kernel
theorem dX7_readSaves_54 : decode cX7_readSaves 54 = .ok (.putfield 172, 3) := by decide +kernel
theorem dX7_readSaves_57 : decode cX7_readSaves 57 = .ok (.aload_n 1, 1) := by decide +kernel
theorem dX7_readSaves_58 : decode cX7_readSaves 58 = .ok (.iload_n 2, 1) := by decide +kernel
theorem dX7_readSaves_59 : decode cX7_readSaves 59 = .ok (.putfield 175, 3) := by decide +kernel
theorem dX7_readSaves_62 : decode cX7_readSaves 62 = .ok (.aload_n 1, 1) := by decide +kernel
theorem dX7_readSaves_63 : decode cX7_readSaves 63 = .ok (.iload_n 3, 1) := by decide +kernel
theorem dX7_readSaves_64 : decode cX7_readSaves 64 = .ok (.putfield 178, 3) := by decide +kernel
theorem dX7_readSaves_67 : decode cX7_readSaves 67 = .ok (.iconst 1, 1) := by decide +kernel
theorem dX7_readSaves_68 : decode cX7_readSaves 68 = .ok (.ireturn, 1) := by decide +kernel
theorem dX7_readName_0 : decode cX7_readName 0 = .ok (.aload_n 0, 1) := by decide +kernel
theorem dX7_readName_1 : decode cX7_readName 1 = .ok (.getfield 12, 3) := by decide +kernel
theorem dX7_readName_4 : decode cX7_readName 4 = .ok (.getfield 58, 3) := by decide +kernel
theorem dX7_readName_7 : decode cX7_readName 7 = .ok (.iconst 1, 1) := by decide +kernel
theorem dX7_readName_8 : decode cX7_readName 8 = .ok (.if_icmp .ne 16, 3) := by decide +kernel
theorem dX7_readName_11 : decode cX7_readName 11 = .ok (.aload_n 0, 1) := by decide +kernel
theorem dX7_readName_12 : decode cX7_readName 12 = .ok (.getfield 12, 3) := by decide +kernel
theorem dX7_readName_15 : decode cX7_readName 15 = .ok (.getfield 181, 3) := by decide +kernel
theorem dX7_readName_18 : decode cX7_readName 18 = .ok (.invokestatic 184, 3) := by decide +kernel
theorem dX7_readName_21 : decode cX7_readName 21 = .ok (.ifCond .eq 9, 3) := by decide +kernel
theorem dX7_readName_24 : decode cX7_readName 24 = .ok (.aload_n 0, 1) := by decide +kernel
theorem dX7_readName_25 : decode cX7_readName 25 = .ok (.iconst 1, 1) := by decide +kernel
theorem dX7_readName_26 : decode cX7_readName 26 = .ok (.invokevirtual 99, 3) := by decide +kernel
theorem dX7_readName_29 : decode cX7_readName 29 = .ok (.ireturn, 1) := by decide +kernel
theorem dX7_readName_30 : decode cX7_readName 30 = .ok (.aload_n 1, 1) := by decide +kernel
theorem dX7_readName_31 : decode cX7_readName 31 = .ok (.iload_n 2, 1) := by decide +kernel
theorem dX7_readName_32 : decode cX7_readName 32 = .ok (.aload_n 0, 1) := by decide +kernel
theorem dX7_readName_33 : decode cX7_readName 33 = .ok (.getfield 12, 3) := by decide +kernel
theorem dX7_readName_36 : decode cX7_readName 36 = .ok (.getfield 181, 3) := by decide +kernel
theorem dX7_readName_39 : decode cX7_readName 39 = .ok (.invokestatic 187, 3) := by decide +kernel
theorem dX7_readName_42 : decode cX7_readName 42 = .ok (.iconst (-1), 1) := by decide +kernel
theorem dX7_readName_43 : decode cX7_readName 43 = .ok (.if_icmp .eq 9, 3) := by decide +kernel
theorem dX7_readName_46 : decode cX7_readName 46 = .ok (.aload_n 0, 1) := by decide +kernel
theorem dX7_readName_47 : decode cX7_readName 47 = .ok (.iconst 3, 1) := by decide +kernel
theorem dX7_readName_48 : decode cX7_readName 48 = .ok (.invokevirtual 99, 3) := by decide +kernel
theorem dX7_readName_51 : decode cX7_readName 51 = .ok (.ireturn, 1) := by decide +kernel
theorem dX7_readName_52 : decode cX7_readName 52 = .ok (.iload_n 2, 1) := by decide +kernel
theorem dX7_readName_53 : decode cX7_readName 53 = .ok (.ifCond .lt 9, 3) := by decide +kernel
theorem dX7_readName_56 : decode cX7_readName 56 = .ok (.iload_n 2, 1) := by decide +kernel
theorem dX7_readName_57 : decode cX7_readName 57 = .ok (.aload_n 1, 1) := by decide +kernel
theorem dX7_readName_58 : decode cX7_readName 58 = .ok (.arraylength, 1) := by decide +kernel
theorem dX7_readName_59 : decode cX7_readName 59 = .ok (.if_icmp .lt 9, 3) := by decide +kernel
theorem dX7_readName_62 : decode cX7_readName 62 = .ok (.aload_n 0, 1) := by decide +kernel
theorem dX7_readName_63 : decode cX7_readName 63 = .ok (.iconst 2, 1) := by decide +kernel
theorem dX7_readName_64 : decode cX7_readName 64 = .ok (.invokevirtual 99, 3) := by decide +kernel
theorem dX7_readName_67 : decode cX7_readName 67 = .ok (.ireturn, 1) := by decide +kernel
theorem dX7_readName_68 : decode cX7_readName 68 = .ok (.aload_n 1, 1) := by decide +kernel
theorem dX7_readName_69 : decode cX7_readName 69 = .ok (.iload_n 2, 1) := by decide +kernel
theorem dX7_readName_70 : decode cX7_readName 70 = .ok (.aload_n 0, 1) := by decide +kernel
theorem dX7_readName_71 : decode cX7_readName 71 = .ok (.getfield 12, 3) := by decide +kernel
theorem dX7_readName_74 : decode cX7_readName 74 = .ok (.getfield 181, 3) := by decide +kernel
theorem dX7_readName_77 : decode cX7_readName 77 = .ok (.iastore, 1) := by decide +kernel
theorem dX7_readName_78 : decode cX7_readName 78 = .ok (.aload_n 0, 1) := by decide +kernel
theorem dX7_readName_79 : decode cX7_readName 79 = .ok (.getfield 12, 3) := by decide +kernel
theorem dX7_readName_82 : decode cX7_readName 82 = .ok (.invokevirtual 112, 3) := by decide +kernel
theorem dX7_readName_85 : decode cX7_readName 85 = .ok (.iconst 1, 1) := by decide +kernel
theorem dX7_readName_86 : decode cX7_readName 86 = .ok (.ireturn, 1) := by decide +kernel
theorem dX7_readNumber_0 : decode cX7_readNumber 0 = .ok (.aload_n 0, 1) := by decide +kernel
theorem dX7_readNumber_1 : decode cX7_readNumber 1 = .ok (.getfield 12, 3) := by decide +kernel
theorem dX7_readNumber_4 : decode cX7_readNumber 4 = .ok (.getfield 181, 3) := by decide +kernel
theorem dX7_readNumber_7 : decode cX7_readNumber 7 = .ok (.istore_n 3, 1) := by decide +kernel
theorem dX7_readNumber_8 : decode cX7_readNumber 8 = .ok (.aload_n 0, 1) := by decide +kernel
theorem dX7_readNumber_9 : decode cX7_readNumber 9 = .ok (.getfield 12, 3) := by decide +kernel
theorem dX7_readNumber_12 : decode cX7_readNumber 12 = .ok (.getfield 58, 3) := by decide +kernel
theorem dX7_readNumber_15 : decode cX7_readNumber 15 = .ok (.iconst 2, 1) := by decide +kernel
theorem dX7_readNumber_16 : decode cX7_readNumber 16 = .ok (.if_icmp .eq 11, 3) := by decide +kernel
theorem dX7_readNumber_19 : decode cX7_readNumber 19 = .ok (.aload_n 0, 1) := by decide +kernel
theorem dX7_readNumber_20 : decode cX7_readNumber 20 = .ok (.iconst 1, 1) := by decide +kernel
theorem dX7_readNumber_21 : decode cX7_readNumber 21 = .ok (.invokevirtual 99, 3) := by decide +kernel
theorem dX7_readNumber_24 : decode cX7_readNumber 24 = .ok (.pop, 1) := by decide +kernel
theorem dX7_readNumber_25 : decode cX7_readNumber 25 = .ok (.iconst (-1), 1) := by decide +kernel
theorem dX7_readNumber_26 : decode cX7_readNumber 26 = .ok (.ireturn, 1) := by decide +kernel
theorem dX7_readNumber_27 : decode cX7_readNumber 27 = .ok (.iload_n 3, 1) := by decide +kernel
theorem dX7_readNumber_28 : decode cX7_readNumber 28 = .ok (.iload_n 1, 1) := by decide +kernel
theorem dX7_readNumber_29 : decode cX7_readNumber 29 = .ok (.iload_n 2, 1) := by decide +kernel
theorem dX7_readNumber_30 : decode cX7_readNumber 30 = .ok (.invokestatic 191, 3) := by decide +kernel
theorem dX7_readNumber_33 : decode cX7_readNumber 33 = .ok (.ifCond .ne 11, 3) := by decide +kernel
theorem dX7_readNumber_36 : decode cX7_readNumber 36 = .ok (.aload_n 0, 1) := by decide +kernel
theorem dX7_readNumber_37 : decode cX7_readNumber 37 = .ok (.iconst 2, 1) := by decide +kernel
theorem dX7_readNumber_38 : decode cX7_readNumber 38 = .ok (.invokevirtual 99, 3) := by decide +kernel
theorem dX7_readNumber_41 : decode cX7_readNumber 41 = .ok (.pop, 1) := by decide +kernel
theorem dX7_readNumber_42 : decode cX7_readNumber 42 = .ok (.iconst (-1), 1) := by decide +kernel
theorem dX7_readNumber_43 : decode cX7_readNumber 43 = .ok (.ireturn, 1) := by decide +kernel
theorem dX7_readNumber_44 : decode cX7_readNumber 44 = .ok (.aload_n 0, 1) := by decide +kernel
theorem dX7_readNumber_45 : decode cX7_readNumber 45 = .ok (.getfield 12, 3) := by decide +kernel
theorem dX7_readNumber_48 : decode cX7_readNumber 48 = .ok (.invokevirtual 112, 3) := by decide +kernel
theorem dX7_readNumber_51 : decode cX7_readNumber 51 = .ok (.iload_n 3, 1) := by decide +kernel
theorem dX7_readNumber_52 : decode cX7_readNumber 52 = .ok (.ireturn, 1) := by decide +kernel
theorem dX7_stop_0 : decode cX7_stop 0 = .ok (.aload_n 0, 1) := by decide +kernel
theorem dX7_stop_1 : decode cX7_stop 1 = .ok (.iload_n 1, 1) := by decide +kernel
theorem dX7_stop_2 : decode cX7_stop 2 = .ok (.putfield 18, 3) := by decide +kernel
theorem dX7_stop_5 : decode cX7_stop 5 = .ok (.aload_n 0, 1) := by decide +kernel
theorem dX7_stop_6 : decode cX7_stop 6 = .ok (.aload_n 0, 1) := by decide +kernel
theorem dX7_stop_7 : decode cX7_stop 7 = .ok (.getfield 12, 3) := by decide +kernel
theorem dX7_stop_10 : decode cX7_stop 10 = .ok (.getfield 195, 3) := by decide +kernel
theorem dX7_stop_13 : decode cX7_stop 13 = .ok (.putfield 22, 3) := by decide +kernel
theorem dX7_stop_16 : decode cX7_stop 16 = .ok (.iconst 0, 1) := by decide +kernel
theorem dX7_stop_17 : decode cX7_stop 17 = .ok (.ireturn, 1) := by decide +kernel
theorem dX7_readTake_0 : decode cX7_readTake 0 = .ok (.aload_n 1, 1) := by decide +kernel
theorem dX7_readTake_1 : decode cX7_readTake 1 = .ok (.getfield 198, 3) := by decide +kernel
theorem dX7_readTake_4 : decode cX7_readTake 4 = .ok (.ifCond .le 9, 3) := by decide +kernel
theorem dX7_readTake_7 : decode cX7_readTake 7 = .ok (.aload_n 0, 1) := by decide +kernel
theorem dX7_readTake_8 : decode cX7_readTake 8 = .ok (.iconst 3, 1) := by decide +kernel
theorem dX7_readTake_9 : decode cX7_readTake 9 = .ok (.invokevirtual 99, 3) := by decide +kernel
theorem dX7_readTake_12 : decode cX7_readTake 12 = .ok (.ireturn, 1) := by decide +kernel
theorem dX7_readTake_13 : decode cX7_readTake 13 = .ok (.aload_n 0, 1) := by decide +kernel
theorem dX7_readTake_14 : decode cX7_readTake 14 = .ok (.iconst 0, 1) := by decide +kernel
theorem dX7_readTake_15 : decode cX7_readTake 15 = .ok (.putfield 33, 3) := by decide +kernel
theorem dX7_readTake_18 : decode cX7_readTake 18 = .ok (.aload_n 0, 1) := by decide +kernel
theorem dX7_readTake_19 : decode cX7_readTake 19 = .ok (.iconst 0, 1) := by decide +kernel
theorem dX7_readTake_20 : decode cX7_readTake 20 = .ok (.putfield 36, 3) := by decide +kernel
theorem dX7_readTake_23 : decode cX7_readTake 23 = .ok (.aload_n 0, 1) := by decide +kernel
theorem dX7_readTake_24 : decode cX7_readTake 24 = .ok (.iconst 0, 1) := by decide +kernel
theorem dX7_readTake_25 : decode cX7_readTake 25 = .ok (.putfield 39, 3) := by decide +kernel
theorem dX7_readTake_28 : decode cX7_readTake 28 = .ok (.aload_n 0, 1) := by decide +kernel
theorem dX7_readTake_29 : decode cX7_readTake 29 = .ok (.getfield 29, 3) := by decide +kernel
theorem dX7_readTake_32 : decode cX7_readTake 32 = .ok (.iconst 0, 1) := by decide +kernel
theorem dX7_readTake_33 : decode cX7_readTake 33 = .ok (.iconst 0, 1) := by decide +kernel
theorem dX7_readTake_34 : decode cX7_readTake 34 = .ok (.bastore, 1) := by decide +kernel
theorem dX7_readTake_35 : decode cX7_readTake 35 = .ok (.aload_n 0, 1) := by decide +kernel
theorem dX7_readTake_36 : decode cX7_readTake 36 = .ok (.iconst 1, 1) := by decide +kernel
theorem dX7_readTake_37 : decode cX7_readTake 37 = .ok (.putfield 42, 3) := by decide +kernel
theorem dX7_readTake_40 : decode cX7_readTake 40 = .ok (.aload_n 0, 1) := by decide +kernel
theorem dX7_readTake_41 : decode cX7_readTake 41 = .ok (.iconst 1, 1) := by decide +kernel
theorem dX7_readTake_42 : decode cX7_readTake 42 = .ok (.putfield 46, 3) := by decide +kernel
theorem dX7_readTake_45 : decode cX7_readTake 45 = .ok (.aload_n 0, 1) := by decide +kernel
theorem dX7_readTake_46 : decode cX7_readTake 46 = .ok (.getfield 12, 3) := by decide +kernel
theorem dX7_readTake_49 : decode cX7_readTake 49 = .ok (.invokevirtual 112, 3) := by decide +kernel
theorem dX7_readTake_52 : decode cX7_readTake 52 = .ok (.iconst 0, 1) := by decide +kernel
theorem dX7_readTake_53 : decode cX7_readTake 53 = .ok (.istore_n 2, 1) := by decide +kernel
theorem dX7_readTake_54 : decode cX7_readTake 54 = .ok (.iload_n 2, 1) := by decide +kernel
theorem dX7_readTake_55 : decode cX7_readTake 55 = .ok (.sipush 600, 3) := by decide +kernel
theorem dX7_readTake_58 : decode cX7_readTake 58 = .ok (.if_icmp .gt 77, 3) := by decide +kernel
theorem dX7_readTake_61 : decode cX7_readTake 61 = .ok (.aload_n 0, 1) := by decide +kernel
theorem dX7_readTake_62 : decode cX7_readTake 62 = .ok (.getfield 42, 3) := by decide +kernel
theorem dX7_readTake_65 : decode cX7_readTake 65 = .ok (.ifCond .ne 30, 3) := by decide +kernel
theorem dX7_readTake_68 : decode cX7_readTake 68 = .ok (.aload_n 0, 1) := by decide +kernel
theorem dX7_readTake_69 : decode cX7_readTake 69 = .ok (.getfield 36, 3) := by decide +kernel
theorem dX7_readTake_72 : decode cX7_readTake 72 = .ok (.ifCond .ne 23, 3) := by decide +kernel
theorem dX7_readTake_75 : decode cX7_readTake 75 = .ok (.aload_n 0, 1) := by decide +kernel
theorem dX7_readTake_76 : decode cX7_readTake 76 = .ok (.getfield 12, 3) := by decide +kernel
theorem dX7_readTake_79 : decode cX7_readTake 79 = .ok (.bipush 59, 2) := by decide +kernel
theorem dX7_readTake_81 : decode cX7_readTake 81 = .ok (.invokevirtual 109, 3) := by decide +kernel
theorem dX7_readTake_84 : decode cX7_readTake 84 = .ok (.ifCond .eq 11, 3) := by decide +kernel
theorem dX7_readTake_87 : decode cX7_readTake 87 = .ok (.aload_n 0, 1) := by decide +kernel
theorem dX7_readTake_88 : decode cX7_readTake 88 = .ok (.aload_n 1, 1) := by decide +kernel
theorem dX7_readTake_89 : decode cX7_readTake 89 = .ok (.iconst 1, 1) := by decide +kernel
theorem dX7_readTake_90 : decode cX7_readTake 90 = .ok (.invokevirtual 203, 3) := by decide +kernel
theorem dX7_readTake_93 : decode cX7_readTake 93 = .ok (.iconst 1, 1) := by decide +kernel
theorem dX7_readTake_94 : decode cX7_readTake 94 = .ok (.ireturn, 1) := by decide +kernel
theorem dX7_readTake_95 : decode cX7_readTake 95 = .ok (.aload_n 0, 1) := by decide +kernel
theorem dX7_readTake_96 : decode cX7_readTake 96 = .ok (.getfield 42, 3) := by decide +kernel
theorem dX7_readTake_99 : decode cX7_readTake 99 = .ok (.ifCond .eq 11, 3) := by decide +kernel
theorem dX7_readTake_102 : decode cX7_readTake 102 = .ok (.aload_n 0, 1) := by decide +kernel
theorem dX7_readTake_103 : decode cX7_readTake 103 = .ok (.aload_n 1, 1) := by decide +kernel
theorem dX7_readTake_104 : decode cX7_readTake 104 = .ok (.invokevirtual 207, 3) := by decide +kernel
theorem dX7_readTake_107 : decode cX7_readTake 107 = .ok (.goto 8, 3) := by decide +kernel
theorem dX7_readTake_110 : decode cX7_readTake 110 = .ok (.aload_n 0, 1) := by decide +kernel
theorem dX7_readTake_111 : decode cX7_readTake 111 = .ok (.aload_n 1, 1) := by decide +kernel
theorem dX7_readTake_112 : decode cX7_readTake 112 = .ok (.invokevirtual 210, 3) := by decide +kernel
theorem dX7_readTake_115 : decode cX7_readTake 115 = .ok (.istore_n 3, 1) := by decide +kernel
theorem dX7_readTake_116 : decode cX7_readTake 116 = .ok (.iload_n 3, 1) := by decide +kernel
theorem dX7_readTake_117 : decode cX7_readTake 117 = .ok (.ifCond .ne 5, 3) := by decide +kernel
theorem dX7_readTake_120 : decode cX7_readTake 120 = .ok (.iconst 0, 1) := by decide +kernel
theorem dX7_readTake_121 : decode cX7_readTake 121 = .ok (.ireturn, 1) := by decide +kernel
theorem dX7_readTake_122 : decode cX7_readTake 122 = .ok (.aload_n 0, 1) := by decide +kernel
theorem dX7_readTake_123 : decode cX7_readTake 123 = .ok (.getfield 12, 3) := by decide +kernel
theorem dX7_readTake_126 : decode cX7_readTake 126 = .ok (.invokevirtual 112, 3) := by decide +kernel
theorem dX7_readTake_129 : decode cX7_readTake 129 = .ok (.iinc 2 1, 3) := by decide +kernel
theorem dX7_readTake_132 : decode cX7_readTake 132 = .ok (.goto (-78), 3) := by decide +kernel
theorem dX7_readTake_135 : decode cX7_readTake 135 = .ok (.aload_n 0, 1) := by decide +kernel
theorem dX7_readTake_136 : decode cX7_readTake 136 = .ok (.iconst 1, 1) := by decide +kernel
theorem dX7_readTake_137 : decode cX7_readTake 137 = .ok (.invokevirtual 99, 3) := by decide +kernel
theorem dX7_readTake_140 : decode cX7_readTake 140 = .ok (.ireturn, 1) := by decide +kernel
theorem dX7_readValue_0 : decode cX7_readValue 0 = .ok (.aload_n 0, 1) := by decide +kernel
theorem dX7_readValue_1 : decode cX7_readValue 1 = .ok (.getfield 12, 3) := by decide +kernel
theorem dX7_readValue_4 : decode cX7_readValue 4 = .ok (.getfield 58, 3) := by decide +kernel
theorem dX7_readValue_7 : decode cX7_readValue 7 = .ok (.iconst 2, 1) := by decide +kernel
theorem dX7_readValue_8 : decode cX7_readValue 8 = .ok (.if_icmp .ne 40, 3) := by decide +kernel
theorem dX7_readValue_11 : decode cX7_readValue 11 = .ok (.aload_n 0, 1) := by decide +kernel
theorem dX7_readValue_12 : decode cX7_readValue 12 = .ok (.getfield 12, 3) := by decide +kernel
theorem dX7_readValue_15 : decode cX7_readValue 15 = .ok (.getfield 181, 3) := by decide +kernel
theorem dX7_readValue_18 : decode cX7_readValue 18 = .ok (.sipush 999, 3) := by decide +kernel
theorem dX7_readValue_21 : decode cX7_readValue 21 = .ok (.if_icmp .le 11, 3) := by decide +kernel
theorem dX7_readValue_24 : decode cX7_readValue 24 = .ok (.aload_n 0, 1) := by decide +kernel
theorem dX7_readValue_25 : decode cX7_readValue 25 = .ok (.iconst 2, 1) := by decide +kernel
theorem dX7_readValue_26 : decode cX7_readValue 26 = .ok (.invokevirtual 99, 3) := by decide +kernel
theorem dX7_readValue_29 : decode cX7_readValue 29 = .ok (.goto 18, 3) := by decide +kernel
theorem dX7_readValue_32 : decode cX7_readValue 32 = .ok (.aload_n 0, 1) := by decide +kernel
theorem dX7_readValue_33 : decode cX7_readValue 33 = .ok (.aload_n 1, 1) := by decide +kernel
theorem dX7_readValue_34 : decode cX7_readValue 34 = .ok (.aload_n 0, 1) := by decide +kernel
theorem dX7_readValue_35 : decode cX7_readValue 35 = .ok (.getfield 12, 3) := by decide +kernel
theorem dX7_readValue_38 : decode cX7_readValue 38 = .ok (.getfield 181, 3) := by decide +kernel
theorem dX7_readValue_41 : decode cX7_readValue 41 = .ok (.invokestatic 213, 3) := by decide +kernel
theorem dX7_readValue_44 : decode cX7_readValue 44 = .ok (.invokevirtual 217, 3) := by decide +kernel
theorem dX7_readValue_47 : decode cX7_readValue 47 = .ok (.ireturn, 1) := by decide +kernel
theorem dX7_readValue_48 : decode cX7_readValue 48 = .ok (.aload_n 0, 1) := by decide +kernel
theorem dX7_readValue_49 : decode cX7_readValue 49 = .ok (.getfield 12, 3) := by decide +kernel
theorem dX7_readValue_52 : decode cX7_readValue 52 = .ok (.getfield 58, 3) := by decide +kernel
theorem dX7_readValue_55 : decode cX7_readValue 55 = .ok (.iconst 1, 1) := by decide +kernel
theorem dX7_readValue_56 : decode cX7_readValue 56 = .ok (.if_icmp .ne 29, 3) := by decide +kernel
theorem dX7_readValue_59 : decode cX7_readValue 59 = .ok (.aload_n 0, 1) := by decide +kernel
theorem dX7_readValue_60 : decode cX7_readValue 60 = .ok (.getfield 12, 3) := by decide +kernel
theorem dX7_readValue_63 : decode cX7_readValue 63 = .ok (.getfield 181, 3) := by decide +kernel
theorem dX7_readValue_66 : decode cX7_readValue 66 = .ok (.invokestatic 221, 3) := by decide +kernel
theorem dX7_readValue_69 : decode cX7_readValue 69 = .ok (.ifCond .eq 16, 3) := by decide +kernel
theorem dX7_readValue_72 : decode cX7_readValue 72 = .ok (.aload_n 0, 1) := by decide +kernel
theorem dX7_readValue_73 : decode cX7_readValue 73 = .ok (.aload_n 1, 1) := by decide +kernel
theorem dX7_readValue_74 : decode cX7_readValue 74 = .ok (.aload_n 0, 1) := by decide +kernel
theorem dX7_readValue_75 : decode cX7_readValue 75 = .ok (.getfield 12, 3) := by decide +kernel
theorem dX7_readValue_78 : decode cX7_readValue 78 = .ok (.getfield 181, 3) := by decide +kernel
theorem dX7_readValue_81 : decode cX7_readValue 81 = .ok (.invokevirtual 217, 3) := by decide +kernel
theorem dX7_readValue_84 : decode cX7_readValue 84 = .ok (.ireturn, 1) := by decide +kernel
theorem dX7_readValue_85 : decode cX7_readValue 85 = .ok (.aload_n 0, 1) := by decide +kernel
theorem dX7_readValue_86 : decode cX7_readValue 86 = .ok (.getfield 12, 3) := by decide +kernel
theorem dX7_readValue_89 : decode cX7_readValue 89 = .ok (.ldc 224, 2) := by decide +kernel
theorem dX7_readValue_91 : decode cX7_readValue 91 = .ok (.invokevirtual 62, 3) := by decide +kernel
theorem dX7_readValue_94 : decode cX7_readValue 94 = .ok (.ifCond .eq 17, 3) := by decide +kernel
theorem dX7_readValue_97 : decode cX7_readValue 97 = .ok (.aload_n 0, 1) := by decide +kernel
theorem dX7_readValue_98 : decode cX7_readValue 98 = .ok (.getfield 46, 3) := by decide +kernel
theorem dX7_readValue_101 : decode cX7_readValue 101 = .ok (.ifCond .eq 10, 3) := by decide +kernel
theorem dX7_readValue_104 : decode cX7_readValue 104 = .ok (.aload_n 0, 1) := by decide +kernel
theorem dX7_readValue_105 : decode cX7_readValue 105 = .ok (.ldc 224, 2) := by decide +kernel
theorem dX7_readValue_107 : decode cX7_readValue 107 = .ok (.invokevirtual 225, 3) := by decide +kernel
theorem dX7_readValue_110 : decode cX7_readValue 110 = .ok (.ireturn, 1) := by decide +kernel
theorem dX7_readValue_111 : decode cX7_readValue 111 = .ok (.aload_n 0, 1) := by decide +kernel
theorem dX7_readValue_112 : decode cX7_readValue 112 = .ok (.getfield 12, 3) := by decide +kernel
theorem dX7_readValue_115 : decode cX7_readValue 115 = .ok (.bipush 40, 2) := by decide +kernel
theorem dX7_readValue_117 : decode cX7_readValue 117 = .ok (.invokevirtual 109, 3) := by decide +kernel
theorem dX7_readValue_120 : decode cX7_readValue 120 = .ok (.ifCond .eq 10, 3) := by decide +kernel
theorem dX7_readValue_123 : decode cX7_readValue 123 = .ok (.aload_n 0, 1) := by decide +kernel
theorem dX7_readValue_124 : decode cX7_readValue 124 = .ok (.invokevirtual 228, 3) := by decide +kernel
theorem dX7_readValue_127 : decode cX7_readValue 127 = .ok (.goto 8, 3) := by decide +kernel
theorem dX7_readValue_130 : decode cX7_readValue 130 = .ok (.aload_n 0, 1) := by decide +kernel
theorem dX7_readValue_131 : decode cX7_readValue 131 = .ok (.iconst 1, 1) := by decide +kernel
theorem dX7_readValue_132 : decode cX7_readValue 132 = .ok (.invokevirtual 99, 3) := by decide +kernel
theorem dX7_readValue_135 : decode cX7_readValue 135 = .ok (.ireturn, 1) := by decide +kernel
theorem dX7_readBehind_0 : decode cX7_readBehind 0 = .ok (.aload_n 0, 1) := by decide +kernel
theorem dX7_readBehind_1 : decode cX7_readBehind 1 = .ok (.getfield 12, 3) := by decide +kernel
theorem dX7_readBehind_4 : decode cX7_readBehind 4 = .ok (.bipush 41, 2) := by decide +kernel
theorem dX7_readBehind_6 : decode cX7_readBehind 6 = .ok (.invokevirtual 109, 3) := by decide +kernel
theorem dX7_readBehind_9 : decode cX7_readBehind 9 = .ok (.ifCond .eq 9, 3) := by decide +kernel
theorem dX7_readBehind_12 : decode cX7_readBehind 12 = .ok (.aload_n 0, 1) := by decide +kernel
theorem dX7_readBehind_13 : decode cX7_readBehind 13 = .ok (.aload_n 1, 1) := by decide +kernel
theorem dX7_readBehind_14 : decode cX7_readBehind 14 = .ok (.invokevirtual 231, 3) := by decide +kernel
theorem dX7_readBehind_17 : decode cX7_readBehind 17 = .ok (.ireturn, 1) := by decide +kernel
theorem dX7_readBehind_18 : decode cX7_readBehind 18 = .ok (.aload_n 0, 1) := by decide +kernel
theorem dX7_readBehind_19 : decode cX7_readBehind 19 = .ok (.getfield 36, 3) := by decide +kernel
theorem dX7_readBehind_22 : decode cX7_readBehind 22 = .ok (.ifCond .lt 12, 3) := by decide +kernel
theorem dX7_readBehind_25 : decode cX7_readBehind 25 = .ok (.aload_n 0, 1) := by decide +kernel
theorem dX7_readBehind_26 : decode cX7_readBehind 26 = .ok (.getfield 36, 3) := by decide +kernel
theorem dX7_readBehind_29 : decode cX7_readBehind 29 = .ok (.bipush 8, 2) := by decide +kernel
theorem dX7_readBehind_31 : decode cX7_readBehind 31 = .ok (.if_icmp .le 9, 3) := by decide +kernel
theorem dX7_readBehind_34 : decode cX7_readBehind 34 = .ok (.aload_n 0, 1) := by decide +kernel
theorem dX7_readBehind_35 : decode cX7_readBehind 35 = .ok (.iconst 2, 1) := by decide +kernel
theorem dX7_readBehind_36 : decode cX7_readBehind 36 = .ok (.invokevirtual 99, 3) := by decide +kernel
theorem dX7_readBehind_39 : decode cX7_readBehind 39 = .ok (.ireturn, 1) := by decide +kernel
theorem dX7_readBehind_40 : decode cX7_readBehind 40 = .ok (.aload_n 0, 1) := by decide +kernel
theorem dX7_readBehind_41 : decode cX7_readBehind 41 = .ok (.getfield 12, 3) := by decide +kernel
theorem dX7_readBehind_44 : decode cX7_readBehind 44 = .ok (.getfield 58, 3) := by decide +kernel
theorem dX7_readBehind_47 : decode cX7_readBehind 47 = .ok (.iconst 3, 1) := by decide +kernel
theorem dX7_readBehind_48 : decode cX7_readBehind 48 = .ok (.if_icmp .eq 27, 3) := by decide +kernel
theorem dX7_readBehind_51 : decode cX7_readBehind 51 = .ok (.aload_n 0, 1) := by decide +kernel
theorem dX7_readBehind_52 : decode cX7_readBehind 52 = .ok (.getfield 12, 3) := by decide +kernel
theorem dX7_readBehind_55 : decode cX7_readBehind 55 = .ok (.ldc 234, 2) := by decide +kernel
theorem dX7_readBehind_57 : decode cX7_readBehind 57 = .ok (.invokevirtual 62, 3) := by decide +kernel
theorem dX7_readBehind_60 : decode cX7_readBehind 60 = .ok (.ifCond .ne 15, 3) := by decide +kernel
theorem dX7_readBehind_63 : decode cX7_readBehind 63 = .ok (.aload_n 0, 1) := by decide +kernel
theorem dX7_readBehind_64 : decode cX7_readBehind 64 = .ok (.getfield 12, 3) := by decide +kernel
theorem dX7_readBehind_67 : decode cX7_readBehind 67 = .ok (.ldc 235, 2) := by decide +kernel
theorem dX7_readBehind_69 : decode cX7_readBehind 69 = .ok (.invokevirtual 62, 3) := by decide +kernel
theorem dX7_readBehind_72 : decode cX7_readBehind 72 = .ok (.ifCond .eq 7, 3) := by decide +kernel
theorem dX7_readBehind_75 : decode cX7_readBehind 75 = .ok (.iconst 1, 1) := by decide +kernel
theorem dX7_readBehind_76 : decode cX7_readBehind 76 = .ok (.goto 4, 3) := by decide +kernel
theorem dX7_readBehind_79 : decode cX7_readBehind 79 = .ok (.iconst 0, 1) := by decide +kernel
theorem dX7_readBehind_80 : decode cX7_readBehind 80 = .ok (.istore_n 2, 1) := by decide +kernel
theorem dX7_readBehind_81 : decode cX7_readBehind 81 = .ok (.iload_n 2, 1) := by decide +kernel
theorem dX7_readBehind_82 : decode cX7_readBehind 82 = .ok (.ifCond .eq 16, 3) := by decide +kernel
theorem dX7_readBehind_85 : decode cX7_readBehind 85 = .ok (.aload_n 0, 1) := by decide +kernel
theorem dX7_readBehind_86 : decode cX7_readBehind 86 = .ok (.getfield 12, 3) := by decide +kernel
theorem dX7_readBehind_89 : decode cX7_readBehind 89 = .ok (.getfield 181, 3) := by decide +kernel
theorem dX7_readBehind_92 : decode cX7_readBehind 92 = .ok (.invokestatic 236, 3) := by decide +kernel
theorem dX7_readBehind_95 : decode cX7_readBehind 95 = .ok (.goto 4, 3) := by decide +kernel
theorem dX7_readBehind_98 : decode cX7_readBehind 98 = .ok (.iconst 0, 1) := by decide +kernel
theorem dX7_readBehind_99 : decode cX7_readBehind 99 = .ok (.istore_n 3, 1) := by decide +kernel
theorem dX7_readBehind_100 : decode cX7_readBehind 100 = .ok (.iload_n 3, 1) := by decide +kernel
theorem dX7_readBehind_101 : decode cX7_readBehind 101 = .ok (.ifCond .eq 20, 3) := by decide +kernel
theorem dX7_readBehind_104 : decode cX7_readBehind 104 = .ok (.iload_n 3, 1) := by decide +kernel
theorem dX7_readBehind_105 : decode cX7_readBehind 105 = .ok (.iconst 4, 1) := by decide +kernel
theorem dX7_readBehind_106 : decode cX7_readBehind 106 = .ok (.if_icmp .ne 21, 3) := by decide +kernel
theorem dX7_readBehind_109 : decode cX7_readBehind 109 = .ok (.aload_n 0, 1) := by decide +kernel
theorem dX7_readBehind_110 : decode cX7_readBehind 110 = .ok (.getfield 29, 3) := by decide +kernel
theorem dX7_readBehind_113 : decode cX7_readBehind 113 = .ok (.aload_n 0, 1) := by decide +kernel
theorem dX7_readBehind_114 : decode cX7_readBehind 114 = .ok (.getfield 36, 3) := by decide +kernel
theorem dX7_readBehind_117 : decode cX7_readBehind 117 = .ok (.baload, 1) := by decide +kernel
theorem dX7_readBehind_118 : decode cX7_readBehind 118 = .ok (.ifCond .eq 9, 3) := by decide +kernel
theorem dX7_readBehind_121 : decode cX7_readBehind 121 = .ok (.aload_n 0, 1) := by decide +kernel
theorem dX7_readBehind_122 : decode cX7_readBehind 122 = .ok (.iconst 1, 1) := by decide +kernel
theorem dX7_readBehind_123 : decode cX7_readBehind 123 = .ok (.invokevirtual 99, 3) := by decide +kernel
theorem dX7_readBehind_126 : decode cX7_readBehind 126 = .ok (.ireturn, 1) := by decide +kernel
theorem dX7_readBehind_127 : decode cX7_readBehind 127 = .ok (.aload_n 0, 1) := by decide +kernel
theorem dX7_readBehind_128 : decode cX7_readBehind 128 = .ok (.aload_n 1, 1) := by decide +kernel
theorem dX7_readBehind_129 : decode cX7_readBehind 129 = .ok (.iload_n 3, 1) := by decide +kernel
theorem dX7_readBehind_130 : decode cX7_readBehind 130 = .ok (.invokevirtual 203, 3) := by decide +kernel
theorem dX7_readBehind_133 : decode cX7_readBehind 133 = .ok (.iload_n 3, 1) := by decide +kernel
theorem dX7_readBehind_134 : decode cX7_readBehind 134 = .ok (.iconst 4, 1) := by decide +kernel
theorem dX7_readBehind_135 : decode cX7_readBehind 135 = .ok (.if_icmp .gt 22, 3) := by decide +kernel
theorem dX7_readBehind_138 : decode cX7_readBehind 138 = .ok (.aload_n 0, 1) := by decide +kernel
theorem dX7_readBehind_139 : decode cX7_readBehind 139 = .ok (.getfield 29, 3) := by decide +kernel
theorem dX7_readBehind_142 : decode cX7_readBehind 142 = .ok (.aload_n 0, 1) := by decide +kernel
theorem dX7_readBehind_143 : decode cX7_readBehind 143 = .ok (.getfield 36, 3) := by decide +kernel
theorem dX7_readBehind_146 : decode cX7_readBehind 146 = .ok (.iload_n 3, 1) := by decide +kernel
theorem dX7_readBehind_147 : decode cX7_readBehind 147 = .ok (.iconst 4, 1) := by decide +kernel
theorem dX7_readBehind_148 : decode cX7_readBehind 148 = .ok (.if_icmp .ne 7, 3) := by decide +kernel
theorem dX7_readBehind_151 : decode cX7_readBehind 151 = .ok (.iconst 1, 1) := by decide +kernel
theorem dX7_readBehind_152 : decode cX7_readBehind 152 = .ok (.goto 4, 3) := by decide +kernel
theorem dX7_readBehind_155 : decode cX7_readBehind 155 = .ok (.iconst 0, 1) := by decide +kernel
theorem dX7_readBehind_156 : decode cX7_readBehind 156 = .ok (.bastore, 1) := by decide +kernel
theorem dX7_readBehind_157 : decode cX7_readBehind 157 = .ok (.aload_n 0, 1) := by decide +kernel
theorem dX7_readBehind_158 : decode cX7_readBehind 158 = .ok (.iload_n 3, 1) := by decide +kernel
theorem dX7_readBehind_159 : decode cX7_readBehind 159 = .ok (.iconst 2, 1) := by decide +kernel
theorem dX7_readBehind_160 : decode cX7_readBehind 160 = .ok (.if_icmp .gt 7, 3) := by decide +kernel
theorem dX7_readBehind_163 : decode cX7_readBehind 163 = .ok (.iconst 1, 1) := by decide +kernel
theorem dX7_readBehind_164 : decode cX7_readBehind 164 = .ok (.goto 4, 3) := by decide +kernel
theorem dX7_readBehind_167 : decode cX7_readBehind 167 = .ok (.iconst 0, 1) := by decide +kernel
theorem dX7_readBehind_168 : decode cX7_readBehind 168 = .ok (.putfield 46, 3) := by decide +kernel
theorem dX7_readBehind_171 : decode cX7_readBehind 171 = .ok (.aload_n 0, 1) := by decide +kernel
theorem dX7_readBehind_172 : decode cX7_readBehind 172 = .ok (.iconst 1, 1) := by decide +kernel
theorem dX7_readBehind_173 : decode cX7_readBehind 173 = .ok (.putfield 42, 3) := by decide +kernel
theorem dX7_readBehind_176 : decode cX7_readBehind 176 = .ok (.aload_n 0, 1) := by decide +kernel
theorem dX7_readBehind_177 : decode cX7_readBehind 177 = .ok (.aload_n 0, 1) := by decide +kernel
theorem dX7_readBehind_178 : decode cX7_readBehind 178 = .ok (.getfield 12, 3) := by decide +kernel
theorem dX7_readBehind_181 : decode cX7_readBehind 181 = .ok (.getfield 181, 3) := by decide +kernel
theorem dX7_readBehind_184 : decode cX7_readBehind 184 = .ok (.invokevirtual 225, 3) := by decide +kernel
theorem dX7_readBehind_187 : decode cX7_readBehind 187 = .ok (.ireturn, 1) := by decide +kernel
theorem dX7_putValue_0 : decode cX7_putValue 0 = .ok (.aload_n 0, 1) := by decide +kernel
theorem dX7_putValue_1 : decode cX7_putValue 1 = .ok (.getfield 39, 3) := by decide +kernel
theorem dX7_putValue_4 : decode cX7_putValue 4 = .ok (.bipush 64, 2) := by decide +kernel
theorem dX7_putValue_6 : decode cX7_putValue 6 = .ok (.if_icmp .lt 9, 3) := by decide +kernel
theorem dX7_putValue_9 : decode cX7_putValue 9 = .ok (.aload_n 0, 1) := by decide +kernel
theorem dX7_putValue_10 : decode cX7_putValue 10 = .ok (.iconst 2, 1) := by decide +kernel
theorem dX7_putValue_11 : decode cX7_putValue 11 = .ok (.invokevirtual 99, 3) := by decide +kernel
theorem dX7_putValue_14 : decode cX7_putValue 14 = .ok (.ireturn, 1) := by decide +kernel
theorem dX7_putValue_15 : decode cX7_putValue 15 = .ok (.aload_n 0, 1) := by decide +kernel
theorem dX7_putValue_16 : decode cX7_putValue 16 = .ok (.dup, 1) := by decide +kernel
theorem dX7_putValue_17 : decode cX7_putValue 17 = .ok (.getfield 39, 3) := by decide +kernel
theorem dX7_putValue_20 : decode cX7_putValue 20 = .ok (.iconst 1, 1) := by decide +kernel
theorem dX7_putValue_21 : decode cX7_putValue 21 = .ok (.iadd, 1) := by decide +kernel
theorem dX7_putValue_22 : decode cX7_putValue 22 = .ok (.putfield 39, 3) := by decide +kernel
theorem dX7_putValue_25 : decode cX7_putValue 25 = .ok (.aload_n 1, 1) := by decide +kernel
theorem dX7_putValue_26 : decode cX7_putValue 26 = .ok (.iload_n 2, 1) := by decide +kernel
theorem dX7_putValue_27 : decode cX7_putValue 27 = .ok (.invokevirtual 239, 3) := by decide +kernel
theorem dX7_putValue_30 : decode cX7_putValue 30 = .ok (.aload_n 0, 1) := by decide +kernel
theorem dX7_putValue_31 : decode cX7_putValue 31 = .ok (.iconst 0, 1) := by decide +kernel
theorem dX7_putValue_32 : decode cX7_putValue 32 = .ok (.putfield 42, 3) := by decide +kernel
theorem dX7_putValue_35 : decode cX7_putValue 35 = .ok (.iconst 1, 1) := by decide +kernel
theorem dX7_putValue_36 : decode cX7_putValue 36 = .ok (.ireturn, 1) := by decide +kernel
theorem dX7_putOnPile_0 : decode cX7_putOnPile 0 = .ok (.aload_n 0, 1) := by decide +kernel
theorem dX7_putOnPile_1 : decode cX7_putOnPile 1 = .ok (.getfield 39, 3) := by decide +kernel
theorem dX7_putOnPile_4 : decode cX7_putOnPile 4 = .ok (.bipush 64, 2) := by decide +kernel
theorem dX7_putOnPile_6 : decode cX7_putOnPile 6 = .ok (.if_icmp .ge 22, 3) := by decide +kernel
theorem dX7_putOnPile_9 : decode cX7_putOnPile 9 = .ok (.aload_n 0, 1) := by decide +kernel
theorem dX7_putOnPile_10 : decode cX7_putOnPile 10 = .ok (.getfield 33, 3) := by decide +kernel
theorem dX7_putOnPile_13 : decode cX7_putOnPile 13 = .ok (.ifCond .lt 15, 3) := by decide +kernel
theorem dX7_putOnPile_16 : decode cX7_putOnPile 16 = .ok (.aload_n 0, 1) := by decide +kernel
theorem dX7_putOnPile_17 : decode cX7_putOnPile 17 = .ok (.getfield 33, 3) := by decide +kernel
theorem dX7_putOnPile_20 : decode cX7_putOnPile 20 = .ok (.aload_n 0, 1) := by decide +kernel
theorem dX7_putOnPile_21 : decode cX7_putOnPile 21 = .ok (.getfield 25, 3) := by decide +kernel
theorem dX7_putOnPile_24 : decode cX7_putOnPile 24 = .ok (.arraylength, 1) := by decide +kernel
theorem dX7_putOnPile_25 : decode cX7_putOnPile 25 = .ok (.if_icmp .lt 9, 3) := by decide +kernel
theorem dX7_putOnPile_28 : decode cX7_putOnPile 28 = .ok (.aload_n 0, 1) := by decide +kernel
theorem dX7_putOnPile_29 : decode cX7_putOnPile 29 = .ok (.iconst 2, 1) := by decide +kernel
theorem dX7_putOnPile_30 : decode cX7_putOnPile 30 = .ok (.invokevirtual 99, 3) := by decide +kernel
theorem dX7_putOnPile_33 : decode cX7_putOnPile 33 = .ok (.ireturn, 1) := by decide +kernel
theorem dX7_putOnPile_34 : decode cX7_putOnPile 34 = .ok (.aload_n 0, 1) := by decide +kernel
theorem dX7_putOnPile_35 : decode cX7_putOnPile 35 = .ok (.dup, 1) := by decide +kernel
theorem dX7_putOnPile_36 : decode cX7_putOnPile 36 = .ok (.getfield 39, 3) := by decide +kernel
theorem dX7_putOnPile_39 : decode cX7_putOnPile 39 = .ok (.iconst 1, 1) := by decide +kernel
theorem dX7_putOnPile_40 : decode cX7_putOnPile 40 = .ok (.iadd, 1) := by decide +kernel
theorem dX7_putOnPile_41 : decode cX7_putOnPile 41 = .ok (.putfield 39, 3) := by decide +kernel
theorem dX7_putOnPile_44 : decode cX7_putOnPile 44 = .ok (.aload_n 0, 1) := by decide +kernel
theorem dX7_putOnPile_45 : decode cX7_putOnPile 45 = .ok (.getfield 25, 3) := by decide +kernel
theorem dX7_putOnPile_48 : decode cX7_putOnPile 48 = .ok (.aload_n 0, 1) := by decide +kernel
theorem dX7_putOnPile_49 : decode cX7_putOnPile 49 = .ok (.getfield 33, 3) := by decide +kernel
theorem dX7_putOnPile_52 : decode cX7_putOnPile 52 = .ok (.iload_n 1, 1) := by decide +kernel
theorem dX7_putOnPile_53 : decode cX7_putOnPile 53 = .ok (.iastore, 1) := by decide +kernel
theorem dX7_putOnPile_54 : decode cX7_putOnPile 54 = .ok (.aload_n 0, 1) := by decide +kernel
theorem dX7_putOnPile_55 : decode cX7_putOnPile 55 = .ok (.dup, 1) := by decide +kernel
theorem dX7_putOnPile_56 : decode cX7_putOnPile 56 = .ok (.getfield 33, 3) := by decide +kernel
theorem dX7_putOnPile_59 : decode cX7_putOnPile 59 = .ok (.iconst 1, 1) := by decide +kernel
theorem dX7_putOnPile_60 : decode cX7_putOnPile 60 = .ok (.iadd, 1) := by decide +kernel
theorem dX7_putOnPile_61 : decode cX7_putOnPile 61 = .ok (.putfield 33, 3) := by decide +kernel
theorem dX7_putOnPile_64 : decode cX7_putOnPile 64 = .ok (.iconst 1, 1) := by decide +kernel
theorem dX7_putOnPile_65 : decode cX7_putOnPile 65 = .ok (.ireturn, 1) := by decide +kernel
theorem dX7_putOpen_0 : decode cX7_putOpen 0 = .ok (.aload_n 0, 1) := by decide +kernel
theorem dX7_putOpen_1 : decode cX7_putOpen 1 = .ok (.getfield 36, 3) := by decide +kernel
theorem dX7_putOpen_4 : decode cX7_putOpen 4 = .ok (.ifCond .lt 31, 3) := by decide +kernel
theorem dX7_putOpen_7 : decode cX7_putOpen 7 = .ok (.aload_n 0, 1) := by decide +kernel
theorem dX7_putOpen_8 : decode cX7_putOpen 8 = .ok (.getfield 36, 3) := by decide +kernel
theorem dX7_putOpen_11 : decode cX7_putOpen 11 = .ok (.bipush 8, 2) := by decide +kernel
theorem dX7_putOpen_13 : decode cX7_putOpen 13 = .ok (.if_icmp .ge 22, 3) := by decide +kernel
theorem dX7_putOpen_16 : decode cX7_putOpen 16 = .ok (.aload_n 0, 1) := by decide +kernel
theorem dX7_putOpen_17 : decode cX7_putOpen 17 = .ok (.getfield 33, 3) := by decide +kernel
theorem dX7_putOpen_20 : decode cX7_putOpen 20 = .ok (.ifCond .lt 15, 3) := by decide +kernel
theorem dX7_putOpen_23 : decode cX7_putOpen 23 = .ok (.aload_n 0, 1) := by decide +kernel
theorem dX7_putOpen_24 : decode cX7_putOpen 24 = .ok (.getfield 33, 3) := by decide +kernel
theorem dX7_putOpen_27 : decode cX7_putOpen 27 = .ok (.aload_n 0, 1) := by decide +kernel
theorem dX7_putOpen_28 : decode cX7_putOpen 28 = .ok (.getfield 25, 3) := by decide +kernel
theorem dX7_putOpen_31 : decode cX7_putOpen 31 = .ok (.arraylength, 1) := by decide +kernel
theorem dX7_putOpen_32 : decode cX7_putOpen 32 = .ok (.if_icmp .lt 9, 3) := by decide +kernel
theorem dX7_putOpen_35 : decode cX7_putOpen 35 = .ok (.aload_n 0, 1) := by decide +kernel
theorem dX7_putOpen_36 : decode cX7_putOpen 36 = .ok (.iconst 2, 1) := by decide +kernel
theorem dX7_putOpen_37 : decode cX7_putOpen 37 = .ok (.invokevirtual 99, 3) := by decide +kernel
theorem dX7_putOpen_40 : decode cX7_putOpen 40 = .ok (.ireturn, 1) := by decide +kernel
theorem dX7_putOpen_41 : decode cX7_putOpen 41 = .ok (.aload_n 0, 1) := by decide +kernel
theorem dX7_putOpen_42 : decode cX7_putOpen 42 = .ok (.getfield 25, 3) := by decide +kernel
theorem dX7_putOpen_45 : decode cX7_putOpen 45 = .ok (.aload_n 0, 1) := by decide +kernel
theorem dX7_putOpen_46 : decode cX7_putOpen 46 = .ok (.getfield 33, 3) := by decide +kernel
theorem dX7_putOpen_49 : decode cX7_putOpen 49 = .ok (.bipush 40, 2) := by decide +kernel
theorem dX7_putOpen_51 : decode cX7_putOpen 51 = .ok (.iastore, 1) := by decide +kernel
theorem dX7_putOpen_52 : decode cX7_putOpen 52 = .ok (.aload_n 0, 1) := by decide +kernel
theorem dX7_putOpen_53 : decode cX7_putOpen 53 = .ok (.dup, 1) := by decide +kernel
theorem dX7_putOpen_54 : decode cX7_putOpen 54 = .ok (.getfield 33, 3) := by decide +kernel
theorem dX7_putOpen_57 : decode cX7_putOpen 57 = .ok (.iconst 1, 1) := by decide +kernel
theorem dX7_putOpen_58 : decode cX7_putOpen 58 = .ok (.iadd, 1) := by decide +kernel
theorem dX7_putOpen_59 : decode cX7_putOpen 59 = .ok (.putfield 33, 3) := by decide +kernel
theorem dX7_putOpen_62 : decode cX7_putOpen 62 = .ok (.aload_n 0, 1) := by decide +kernel
theorem dX7_putOpen_63 : decode cX7_putOpen 63 = .ok (.dup, 1) := by decide +kernel
theorem dX7_putOpen_64 : decode cX7_putOpen 64 = .ok (.getfield 36, 3) := by decide +kernel
theorem dX7_putOpen_67 : decode cX7_putOpen 67 = .ok (.iconst 1, 1) := by decide +kernel
theorem dX7_putOpen_68 : decode cX7_putOpen 68 = .ok (.iadd, 1) := by decide +kernel
theorem dX7_putOpen_69 : decode cX7_putOpen 69 = .ok (.putfield 36, 3) := by decide +kernel
theorem dX7_putOpen_72 : decode cX7_putOpen 72 = .ok (.aload_n 0, 1) := by decide +kernel
theorem dX7_putOpen_73 : decode cX7_putOpen 73 = .ok (.getfield 29, 3) := by decide +kernel
theorem dX7_putOpen_76 : decode cX7_putOpen 76 = .ok (.aload_n 0, 1) := by decide +kernel
theorem dX7_putOpen_77 : decode cX7_putOpen 77 = .ok (.getfield 36, 3) := by decide +kernel
theorem dX7_putOpen_80 : decode cX7_putOpen 80 = .ok (.iconst 0, 1) := by decide +kernel
theorem dX7_putOpen_81 : decode cX7_putOpen 81 = .ok (.bastore, 1) := by decide +kernel
theorem dX7_putOpen_82 : decode cX7_putOpen 82 = .ok (.aload_n 0, 1) := by decide +kernel
theorem dX7_putOpen_83 : decode cX7_putOpen 83 = .ok (.iconst 1, 1) := by decide +kernel
theorem dX7_putOpen_84 : decode cX7_putOpen 84 = .ok (.putfield 46, 3) := by decide +kernel
theorem dX7_putOpen_87 : decode cX7_putOpen 87 = .ok (.iconst 1, 1) := by decide +kernel
theorem dX7_putOpen_88 : decode cX7_putOpen 88 = .ok (.ireturn, 1) := by decide +kernel
theorem dX7_putClose_0 : decode cX7_putClose 0 = .ok (.aload_n 0, 1) := by decide +kernel
theorem dX7_putClose_1 : decode cX7_putClose 1 = .ok (.getfield 36, 3) := by decide +kernel
theorem dX7_putClose_4 : decode cX7_putClose 4 = .ok (.ifCond .gt 9, 3) := by decide +kernel
theorem dX7_putClose_7 : decode cX7_putClose 7 = .ok (.aload_n 0, 1) := by decide +kernel
theorem dX7_putClose_8 : decode cX7_putClose 8 = .ok (.iconst 1, 1) := by decide +kernel
theorem dX7_putClose_9 : decode cX7_putClose 9 = .ok (.invokevirtual 99, 3) := by decide +kernel
theorem dX7_putClose_12 : decode cX7_putClose 12 = .ok (.ireturn, 1) := by decide +kernel
theorem dX7_putClose_13 : decode cX7_putClose 13 = .ok (.aload_n 0, 1) := by decide +kernel
theorem dX7_putClose_14 : decode cX7_putClose 14 = .ok (.aload_n 1, 1) := by decide +kernel
theorem dX7_putClose_15 : decode cX7_putClose 15 = .ok (.iconst 1, 1) := by decide +kernel
theorem dX7_putClose_16 : decode cX7_putClose 16 = .ok (.invokevirtual 203, 3) := by decide +kernel
theorem dX7_putClose_19 : decode cX7_putClose 19 = .ok (.aload_n 0, 1) := by decide +kernel
theorem dX7_putClose_20 : decode cX7_putClose 20 = .ok (.dup, 1) := by decide +kernel
theorem dX7_putClose_21 : decode cX7_putClose 21 = .ok (.getfield 33, 3) := by decide +kernel
theorem dX7_putClose_24 : decode cX7_putClose 24 = .ok (.iconst 1, 1) := by decide +kernel
theorem dX7_putClose_25 : decode cX7_putClose 25 = .ok (.isub, 1) := by decide +kernel
theorem dX7_putClose_26 : decode cX7_putClose 26 = .ok (.putfield 33, 3) := by decide +kernel
theorem dX7_putClose_29 : decode cX7_putClose 29 = .ok (.aload_n 0, 1) := by decide +kernel
theorem dX7_putClose_30 : decode cX7_putClose 30 = .ok (.dup, 1) := by decide +kernel
theorem dX7_putClose_31 : decode cX7_putClose 31 = .ok (.getfield 36, 3) := by decide +kernel
theorem dX7_putClose_34 : decode cX7_putClose 34 = .ok (.iconst 1, 1) := by decide +kernel
theorem dX7_putClose_35 : decode cX7_putClose 35 = .ok (.isub, 1) := by decide +kernel
theorem dX7_putClose_36 : decode cX7_putClose 36 = .ok (.putfield 36, 3) := by decide +kernel
theorem dX7_putClose_39 : decode cX7_putClose 39 = .ok (.iconst 1, 1) := by decide +kernel
theorem dX7_putClose_40 : decode cX7_putClose 40 = .ok (.ireturn, 1) := by decide +kernel
theorem dX7_layDown_0 : decode cX7_layDown 0 = .ok (.aload_n 0, 1) := by decide +kernel
theorem dX7_layDown_1 : decode cX7_layDown 1 = .ok (.getfield 33, 3) := by decide +kernel
theorem dX7_layDown_4 : decode cX7_layDown 4 = .ok (.ifCond .le 61, 3) := by decide +kernel
theorem dX7_layDown_7 : decode cX7_layDown 7 = .ok (.aload_n 0, 1) := by decide +kernel
theorem dX7_layDown_8 : decode cX7_layDown 8 = .ok (.getfield 33, 3) := by decide +kernel
theorem dX7_layDown_11 : decode cX7_layDown 11 = .ok (.aload_n 0, 1) := by decide +kernel
theorem dX7_layDown_12 : decode cX7_layDown 12 = .ok (.getfield 25, 3) := by decide +kernel
theorem dX7_layDown_15 : decode cX7_layDown 15 = .ok (.arraylength, 1) := by decide +kernel
theorem dX7_layDown_16 : decode cX7_layDown 16 = .ok (.if_icmp .gt 49, 3) := by decide +kernel
theorem dX7_layDown_19 : decode cX7_layDown 19 = .ok (.aload_n 0, 1) := by decide +kernel
theorem dX7_layDown_20 : decode cX7_layDown 20 = .ok (.getfield 25, 3) := by decide +kernel
theorem dX7_layDown_23 : decode cX7_layDown 23 = .ok (.aload_n 0, 1) := by decide +kernel
theorem dX7_layDown_24 : decode cX7_layDown 24 = .ok (.getfield 33, 3) := by decide +kernel
theorem dX7_layDown_27 : decode cX7_layDown 27 = .ok (.iconst 1, 1) := by decide +kernel
theorem dX7_layDown_28 : decode cX7_layDown 28 = .ok (.isub, 1) := by decide +kernel
theorem dX7_layDown_29 : decode cX7_layDown 29 = .ok (.iaload, 1) := by decide +kernel
theorem dX7_layDown_30 : decode cX7_layDown 30 = .ok (.invokestatic 236, 3) := by decide +kernel
theorem dX7_layDown_33 : decode cX7_layDown 33 = .ok (.iload_n 2, 1) := by decide +kernel
theorem dX7_layDown_34 : decode cX7_layDown 34 = .ok (.if_icmp .lt 31, 3) := by decide +kernel
theorem dX7_layDown_37 : decode cX7_layDown 37 = .ok (.aload_n 1, 1) := by decide +kernel
theorem dX7_layDown_38 : decode cX7_layDown 38 = .ok (.aload_n 0, 1) := by decide +kernel
theorem dX7_layDown_39 : decode cX7_layDown 39 = .ok (.getfield 25, 3) := by decide +kernel
theorem dX7_layDown_42 : decode cX7_layDown 42 = .ok (.aload_n 0, 1) := by decide +kernel
theorem dX7_layDown_43 : decode cX7_layDown 43 = .ok (.getfield 33, 3) := by decide +kernel
theorem dX7_layDown_46 : decode cX7_layDown 46 = .ok (.iconst 1, 1) := by decide +kernel
theorem dX7_layDown_47 : decode cX7_layDown 47 = .ok (.isub, 1) := by decide +kernel
theorem dX7_layDown_48 : decode cX7_layDown 48 = .ok (.iaload, 1) := by decide +kernel
theorem dX7_layDown_49 : decode cX7_layDown 49 = .ok (.invokevirtual 239, 3) := by decide +kernel
theorem dX7_layDown_52 : decode cX7_layDown 52 = .ok (.aload_n 0, 1) := by decide +kernel
theorem dX7_layDown_53 : decode cX7_layDown 53 = .ok (.dup, 1) := by decide +kernel
theorem dX7_layDown_54 : decode cX7_layDown 54 = .ok (.getfield 33, 3) := by decide +kernel
theorem dX7_layDown_57 : decode cX7_layDown 57 = .ok (.iconst 1, 1) := by decide +kernel
theorem dX7_layDown_58 : decode cX7_layDown 58 = .ok (.isub, 1) := by decide +kernel
theorem dX7_layDown_59 : decode cX7_layDown 59 = .ok (.putfield 33, 3) := by decide +kernel
theorem dX7_layDown_62 : decode cX7_layDown 62 = .ok (.goto (-62), 3) := by decide +kernel
theorem dX7_layDown_65 : decode cX7_layDown 65 = .ok (.return_, 1) := by decide +kernel
theorem dX7_rankOf_0 : decode cX7_rankOf 0 = .ok (.iload_n 0, 1) := by decide +kernel
theorem dX7_rankOf_1 : decode cX7_rankOf 1 = .ok (.lookupswitch 128 #[(42, 125), (43, 123), (45, 123), (47, 125), (60, 121), (61, 121), (62, 121), (256, 121), (257, 121), (258, 121), (48365568, 117), (486146048, 119), (522190848, 115)], 115) := by decide +kernel
theorem dX7_rankOf_116 : decode cX7_rankOf 116 = .ok (.iconst 1, 1) := by decide +kernel
theorem dX7_rankOf_117 : decode cX7_rankOf 117 = .ok (.ireturn, 1) := by decide +kernel
theorem dX7_rankOf_118 : decode cX7_rankOf 118 = .ok (.iconst 2, 1) := by decide +kernel
theorem dX7_rankOf_119 : decode cX7_rankOf 119 = .ok (.ireturn, 1) := by decide +kernel
theorem dX7_rankOf_120 : decode cX7_rankOf 120 = .ok (.iconst 3, 1) := by decide +kernel
theorem dX7_rankOf_121 : decode cX7_rankOf 121 = .ok (.ireturn, 1) := by decide +kernel
theorem dX7_rankOf_122 : decode cX7_rankOf 122 = .ok (.iconst 4, 1) := by decide +kernel
theorem dX7_rankOf_123 : decode cX7_rankOf 123 = .ok (.ireturn, 1) := by decide +kernel
theorem dX7_rankOf_124 : decode cX7_rankOf 124 = .ok (.iconst 5, 1) := by decide +kernel
theorem dX7_rankOf_125 : decode cX7_rankOf 125 = .ok (.ireturn, 1) := by decide +kernel
theorem dX7_rankOf_126 : decode cX7_rankOf 126 = .ok (.bipush 6, 2) := by decide +kernel
theorem dX7_rankOf_128 : decode cX7_rankOf 128 = .ok (.ireturn, 1) := by decide +kernel
theorem dX7_rankOf_129 : decode cX7_rankOf 129 = .ok (.iconst 0, 1) := by decide +kernel
theorem dX7_rankOf_130 : decode cX7_rankOf 130 = .ok (.ireturn, 1) := by decide +kernel
theorem dX8_init_0 : decode cX8_init 0 = .ok (.aload_n 0, 1) := by decide +kernel
theorem dX8_init_1 : decode cX8_init 1 = .ok (.invokespecial 3, 3) := by decide +kernel
theorem dX8_init_4 : decode cX8_init 4 = .ok (.aload_n 0, 1) := by decide +kernel
theorem dX8_init_5 : decode cX8_init 5 = .ok (.new 9, 3) := by decide +kernel
theorem dX8_init_8 : decode cX8_init 8 = .ok (.dup, 1) := by decide +kernel
theorem dX8_init_9 : decode cX8_init 9 = .ok (.invokespecial 11, 3) := by decide +kernel
theorem dX8_init_12 : decode cX8_init 12 = .ok (.putfield 12, 3) := by decide +kernel
theorem dX8_init_15 : decode cX8_init 15 = .ok (.aload_n 0, 1) := by decide +kernel
theorem dX8_init_16 : decode cX8_init 16 = .ok (.new 18, 3) := by decide +kernel
theorem dX8_init_19 : decode cX8_init 19 = .ok (.dup, 1) := by decide +kernel
theorem dX8_init_20 : decode cX8_init 20 = .ok (.invokespecial 20, 3) := by decide +kernel
theorem dX8_init_23 : decode cX8_init 23 = .ok (.putfield 21, 3) := by decide +kernel
theorem dX8_init_26 : decode cX8_init 26 = .ok (.aload_n 0, 1) := by decide +kernel
theorem dX8_init_27 : decode cX8_init 27 = .ok (.new 25, 3) := by decide +kernel
theorem dX8_init_30 : decode cX8_init 30 = .ok (.dup, 1) := by decide +kernel
theorem dX8_init_31 : decode cX8_init 31 = .ok (.invokespecial 27, 3) := by decide +kernel
theorem dX8_init_34 : decode cX8_init 34 = .ok (.putfield 28, 3) := by decide +kernel
theorem dX8_init_37 : decode cX8_init 37 = .ok (.aload_n 0, 1) := by decide +kernel
theorem dX8_init_38 : decode cX8_init 38 = .ok (.iconst 0, 1) := by decide +kernel
theorem dX8_init_39 : decode cX8_init 39 = .ok (.putfield 32, 3) := by decide +kernel
theorem dX8_init_42 : decode cX8_init 42 = .ok (.aload_n 0, 1) := by decide +kernel
theorem dX8_init_43 : decode cX8_init 43 = .ok (.iconst 0, 1) := by decide +kernel
theorem dX8_init_44 : decode cX8_init 44 = .ok (.putfield 36, 3) := by decide +kernel
theorem dX8_init_47 : decode cX8_init 47 = .ok (.aload_n 0, 1) := by decide +kernel
theorem dX8_init_48 : decode cX8_init 48 = .ok (.iconst 5, 1) := by decide +kernel
theorem dX8_init_49 : decode cX8_init 49 = .ok (.putfield 40, 3) := by decide +kernel
theorem dX8_init_52 : decode cX8_init 52 = .ok (.aload_n 0, 1) := by decide +kernel
theorem dX8_init_53 : decode cX8_init 53 = .ok (.iconst 0, 1) := by decide +kernel
theorem dX8_init_54 : decode cX8_init 54 = .ok (.putfield 43, 3) := by decide +kernel
theorem dX8_init_57 : decode cX8_init 57 = .ok (.aload_n 0, 1) := by decide +kernel
theorem dX8_init_58 : decode cX8_init 58 = .ok (.iconst 0, 1) := by decide +kernel
theorem dX8_init_59 : decode cX8_init 59 = .ok (.putfield 46, 3) := by decide +kernel
theorem dX8_init_62 : decode cX8_init 62 = .ok (.aload_n 0, 1) := by decide +kernel
theorem dX8_init_63 : decode cX8_init 63 = .ok (.bipush 12, 2) := by decide +kernel
theorem dX8_init_65 : decode cX8_init 65 = .ok (.newarray .int, 2) := by decide +kernel
theorem dX8_init_67 : decode cX8_init 67 = .ok (.putfield 49, 3) := by decide +kernel
theorem dX8_init_70 : decode cX8_init 70 = .ok (.aload_n 0, 1) := by decide +kernel
theorem dX8_init_71 : decode cX8_init 71 = .ok (.bipush 12, 2) := by decide +kernel
theorem dX8_init_73 : decode cX8_init 73 = .ok (.newarray .int, 2) := by decide +kernel
theorem dX8_init_75 : decode cX8_init 75 = .ok (.putfield 53, 3) := by decide +kernel
theorem dX8_init_78 : decode cX8_init 78 = .ok (.aload_n 0, 1) := by decide +kernel
theorem dX8_init_79 : decode cX8_init 79 = .ok (.bipush 12, 2) := by decide +kernel
theorem dX8_init_81 : decode cX8_init 81 = .ok (.newarray .boolean, 2) := by decide +kernel
theorem dX8_init_83 : decode cX8_init 83 = .ok (.putfield 56, 3) := by decide +kernel
theorem dX8_init_86 : decode cX8_init 86 = .ok (.aload_n 0, 1) := by decide +kernel
theorem dX8_init_87 : decode cX8_init 87 = .ok (.bipush 12, 2) := by decide +kernel
theorem dX8_init_89 : decode cX8_init 89 = .ok (.newarray .int, 2) := by decide +kernel
theorem dX8_init_91 : decode cX8_init 91 = .ok (.putfield 60, 3) := by decide +kernel
theorem dX8_init_94 : decode cX8_init 94 = .ok (.aload_n 0, 1) := by decide +kernel
theorem dX8_init_95 : decode cX8_init 95 = .ok (.bipush 12, 2) := by decide +kernel
theorem dX8_init_97 : decode cX8_init 97 = .ok (.newarray .int, 2) := by decide +kernel
theorem dX8_init_99 : decode cX8_init 99 = .ok (.putfield 63, 3) := by decide +kernel
theorem dX8_init_102 : decode cX8_init 102 = .ok (.aload_n 0, 1) := by decide +kernel
theorem dX8_init_103 : decode cX8_init 103 = .ok (.bipush 12, 2) := by decide +kernel
theorem dX8_init_105 : decode cX8_init 105 = .ok (.newarray .int, 2) := by decide +kernel
theorem dX8_init_107 : decode cX8_init 107 = .ok (.putfield 66, 3) := by decide +kernel
theorem dX8_init_110 : decode cX8_init 110 = .ok (.aload_n 0, 1) := by decide +kernel
theorem dX8_init_111 : decode cX8_init 111 = .ok (.bipush 12, 2) := by decide +kernel
theorem dX8_init_113 : decode cX8_init 113 = .ok (.newarray .int, 2) := by decide +kernel
theorem dX8_init_115 : decode cX8_init 115 = .ok (.putfield 69, 3) := by decide +kernel
theorem dX8_init_118 : decode cX8_init 118 = .ok (.return_, 1) := by decide +kernel
theorem dX8_clear_0 : decode cX8_clear 0 = .ok (.aload_n 0, 1) := by decide +kernel
theorem dX8_clear_1 : decode cX8_clear 1 = .ok (.getfield 12, 3) := by decide +kernel
theorem dX8_clear_4 : decode cX8_clear 4 = .ok (.invokevirtual 72, 3) := by decide +kernel
theorem dX8_clear_7 : decode cX8_clear 7 = .ok (.aload_n 0, 1) := by decide +kernel
theorem dX8_clear_8 : decode cX8_clear 8 = .ok (.getfield 21, 3) := by decide +kernel
theorem dX8_clear_11 : decode cX8_clear 11 = .ok (.iconst 0, 1) := by decide +kernel
theorem dX8_clear_12 : decode cX8_clear 12 = .ok (.putfield 75, 3) := by decide +kernel
theorem dX8_clear_15 : decode cX8_clear 15 = .ok (.aload_n 0, 1) := by decide +kernel
theorem dX8_clear_16 : decode cX8_clear 16 = .ok (.getfield 28, 3) := by decide +kernel
theorem dX8_clear_19 : decode cX8_clear 19 = .ok (.invokevirtual 78, 3) := by decide +kernel
theorem dX8_clear_22 : decode cX8_clear 22 = .ok (.aload_n 0, 1) := by decide +kernel
theorem dX8_clear_23 : decode cX8_clear 23 = .ok (.iconst 0, 1) := by decide +kernel
theorem dX8_clear_24 : decode cX8_clear 24 = .ok (.putfield 32, 3) := by decide +kernel
theorem dX8_clear_27 : decode cX8_clear 27 = .ok (.aload_n 0, 1) := by decide +kernel
theorem dX8_clear_28 : decode cX8_clear 28 = .ok (.iconst 0, 1) := by decide +kernel
theorem dX8_clear_29 : decode cX8_clear 29 = .ok (.putfield 36, 3) := by decide +kernel
theorem dX8_clear_32 : decode cX8_clear 32 = .ok (.aload_n 0, 1) := by decide +kernel
theorem dX8_clear_33 : decode cX8_clear 33 = .ok (.iconst 5, 1) := by decide +kernel
theorem dX8_clear_34 : decode cX8_clear 34 = .ok (.putfield 40, 3) := by decide +kernel
theorem dX8_clear_37 : decode cX8_clear 37 = .ok (.aload_n 0, 1) := by decide +kernel
theorem dX8_clear_38 : decode cX8_clear 38 = .ok (.iconst 0, 1) := by decide +kernel
theorem dX8_clear_39 : decode cX8_clear 39 = .ok (.putfield 43, 3) := by decide +kernel
theorem dX8_clear_42 : decode cX8_clear 42 = .ok (.aload_n 0, 1) := by decide +kernel
theorem dX8_clear_43 : decode cX8_clear 43 = .ok (.iconst 0, 1) := by decide +kernel
theorem dX8_clear_44 : decode cX8_clear 44 = .ok (.putfield 46, 3) := by decide +kernel
theorem dX8_clear_47 : decode cX8_clear 47 = .ok (.iconst 0, 1) := by decide +kernel
theorem dX8_clear_48 : decode cX8_clear 48 = .ok (.istore_n 1, 1) := by decide +kernel
theorem dX8_clear_49 : decode cX8_clear 49 = .ok (.iload_n 1, 1) := by decide +kernel
theorem dX8_clear_50 : decode cX8_clear 50 = .ok (.bipush 12, 2) := by decide +kernel
theorem dX8_clear_52 : decode cX8_clear 52 = .ok (.if_icmp .ge 44, 3) := by decide +kernel
theorem dX8_clear_55 : decode cX8_clear 55 = .ok (.aload_n 0, 1) := by decide +kernel
theorem dX8_clear_56 : decode cX8_clear 56 = .ok (.getfield 56, 3) := by decide +kernel
theorem dX8_clear_59 : decode cX8_clear 59 = .ok (.iload_n 1, 1) := by decide +kernel
theorem dX8_clear_60 : decode cX8_clear 60 = .ok (.iconst 0, 1) := by decide +kernel
theorem dX8_clear_61 : decode cX8_clear 61 = .ok (.bastore, 1) := by decide +kernel
theorem dX8_clear_62 : decode cX8_clear 62 = .ok (.aload_n 0, 1) := by decide +kernel
theorem dX8_clear_63 : decode cX8_clear 63 = .ok (.getfield 60, 3) := by decide +kernel
theorem dX8_clear_66 : decode cX8_clear 66 = .ok (.iload_n 1, 1) := by decide +kernel
theorem dX8_clear_67 : decode cX8_clear 67 = .ok (.iconst 0, 1) := by decide +kernel
theorem dX8_clear_68 : decode cX8_clear 68 = .ok (.iastore, 1) := by decide +kernel
theorem dX8_clear_69 : decode cX8_clear 69 = .ok (.aload_n 0, 1) := by decide +kernel
theorem dX8_clear_70 : decode cX8_clear 70 = .ok (.getfield 63, 3) := by decide +kernel
theorem dX8_clear_73 : decode cX8_clear 73 = .ok (.iload_n 1, 1) := by decide +kernel
theorem dX8_clear_74 : decode cX8_clear 74 = .ok (.iconst (-1), 1) := by decide +kernel
theorem dX8_clear_75 : decode cX8_clear 75 = .ok (.iastore, 1) := by decide +kernel
theorem dX8_clear_76 : decode cX8_clear 76 = .ok (.aload_n 0, 1) := by decide +kernel
theorem dX8_clear_77 : decode cX8_clear 77 = .ok (.getfield 66, 3) := by decide +kernel
theorem dX8_clear_80 : decode cX8_clear 80 = .ok (.iload_n 1, 1) := by decide +kernel
theorem dX8_clear_81 : decode cX8_clear 81 = .ok (.iconst 0, 1) := by decide +kernel
theorem dX8_clear_82 : decode cX8_clear 82 = .ok (.iastore, 1) := by decide +kernel
theorem dX8_clear_83 : decode cX8_clear 83 = .ok (.aload_n 0, 1) := by decide +kernel
theorem dX8_clear_84 : decode cX8_clear 84 = .ok (.getfield 69, 3) := by decide +kernel
theorem dX8_clear_87 : decode cX8_clear 87 = .ok (.iload_n 1, 1) := by decide +kernel
theorem dX8_clear_88 : decode cX8_clear 88 = .ok (.iconst 0, 1) := by decide +kernel
theorem dX8_clear_89 : decode cX8_clear 89 = .ok (.iastore, 1) := by decide +kernel
theorem dX8_clear_90 : decode cX8_clear 90 = .ok (.iinc 1 1, 3) := by decide +kernel
theorem dX8_clear_93 : decode cX8_clear 93 = .ok (.goto (-44), 3) := by decide +kernel
theorem dX8_clear_96 : decode cX8_clear 96 = .ok (.return_, 1) := by decide +kernel
theorem dX8_has_0 : decode cX8_has 0 = .ok (.iload_n 1, 1) := by decide +kernel
theorem dX8_has_1 : decode cX8_has 1 = .ok (.ifCond .lt 21, 3) := by decide +kernel
theorem dX8_has_4 : decode cX8_has 4 = .ok (.iload_n 1, 1) := by decide +kernel
theorem dX8_has_5 : decode cX8_has 5 = .ok (.aload_n 0, 1) := by decide +kernel
theorem dX8_has_6 : decode cX8_has 6 = .ok (.getfield 46, 3) := by decide +kernel
theorem dX8_has_9 : decode cX8_has 9 = .ok (.if_icmp .ge 13, 3) := by decide +kernel
theorem dX8_has_12 : decode cX8_has 12 = .ok (.iload_n 1, 1) := by decide +kernel
theorem dX8_has_13 : decode cX8_has 13 = .ok (.bipush 12, 2) := by decide +kernel
theorem dX8_has_15 : decode cX8_has 15 = .ok (.if_icmp .ge 7, 3) := by decide +kernel
theorem dX8_has_18 : decode cX8_has 18 = .ok (.iconst 1, 1) := by decide +kernel
theorem dX8_has_19 : decode cX8_has 19 = .ok (.goto 4, 3) := by decide +kernel
theorem dX8_has_22 : decode cX8_has 22 = .ok (.iconst 0, 1) := by decide +kernel
theorem dX8_has_23 : decode cX8_has 23 = .ok (.ireturn, 1) := by decide +kernel
theorem dX8_hasNoBoxBy_0 : decode cX8_hasNoBoxBy 0 = .ok (.aload_n 0, 1) := by decide +kernel
theorem dX8_hasNoBoxBy_1 : decode cX8_hasNoBoxBy 1 = .ok (.iload_n 1, 1) := by decide +kernel
theorem dX8_hasNoBoxBy_2 : decode cX8_hasNoBoxBy 2 = .ok (.invokevirtual 79, 3) := by decide +kernel
theorem dX8_hasNoBoxBy_5 : decode cX8_hasNoBoxBy 5 = .ok (.ifCond .eq 26, 3) := by decide +kernel
theorem dX8_hasNoBoxBy_8 : decode cX8_hasNoBoxBy 8 = .ok (.aload_n 0, 1) := by decide +kernel
theorem dX8_hasNoBoxBy_9 : decode cX8_hasNoBoxBy 9 = .ok (.getfield 60, 3) := by decide +kernel
theorem dX8_hasNoBoxBy_12 : decode cX8_hasNoBoxBy 12 = .ok (.iload_n 1, 1) := by decide +kernel
theorem dX8_hasNoBoxBy_13 : decode cX8_hasNoBoxBy 13 = .ok (.iaload, 1) := by decide +kernel
theorem dX8_hasNoBoxBy_14 : decode cX8_hasNoBoxBy 14 = .ok (.ifCond .eq 13, 3) := by decide +kernel
theorem dX8_hasNoBoxBy_17 : decode cX8_hasNoBoxBy 17 = .ok (.aload_n 0, 1) := by decide +kernel
theorem dX8_hasNoBoxBy_18 : decode cX8_hasNoBoxBy 18 = .ok (.getfield 60, 3) := by decide +kernel
theorem dX8_hasNoBoxBy_21 : decode cX8_hasNoBoxBy 21 = .ok (.iload_n 1, 1) := by decide +kernel
theorem dX8_hasNoBoxBy_22 : decode cX8_hasNoBoxBy 22 = .ok (.iaload, 1) := by decide +kernel
theorem dX8_hasNoBoxBy_23 : decode cX8_hasNoBoxBy 23 = .ok (.iload_n 2, 1) := by decide +kernel
theorem dX8_hasNoBoxBy_24 : decode cX8_hasNoBoxBy 24 = .ok (.if_icmp .le 7, 3) := by decide +kernel
theorem dX8_hasNoBoxBy_27 : decode cX8_hasNoBoxBy 27 = .ok (.iconst 1, 1) := by decide +kernel
theorem dX8_hasNoBoxBy_28 : decode cX8_hasNoBoxBy 28 = .ok (.goto 4, 3) := by decide +kernel
theorem dX8_hasNoBoxBy_31 : decode cX8_hasNoBoxBy 31 = .ok (.iconst 0, 1) := by decide +kernel
theorem dX8_hasNoBoxBy_32 : decode cX8_hasNoBoxBy 32 = .ok (.ireturn, 1) := by decide +kernel
theorem dX8_takenIn_0 : decode cX8_takenIn 0 = .ok (.iconst 0, 1) := by decide +kernel
theorem dX8_takenIn_1 : decode cX8_takenIn 1 = .ok (.istore_n 2, 1) := by decide +kernel
theorem dX8_takenIn_2 : decode cX8_takenIn 2 = .ok (.iconst 0, 1) := by decide +kernel
theorem dX8_takenIn_3 : decode cX8_takenIn 3 = .ok (.istore_n 3, 1) := by decide +kernel
theorem dX8_takenIn_4 : decode cX8_takenIn 4 = .ok (.iload_n 3, 1) := by decide +kernel
theorem dX8_takenIn_5 : decode cX8_takenIn 5 = .ok (.bipush 12, 2) := by decide +kernel
theorem dX8_takenIn_7 : decode cX8_takenIn 7 = .ok (.if_icmp .ge 114, 3) := by decide +kernel
theorem dX8_takenIn_10 : decode cX8_takenIn 10 = .ok (.aload_n 0, 1) := by decide +kernel
theorem dX8_takenIn_11 : decode cX8_takenIn 11 = .ok (.iload_n 3, 1) := by decide +kernel
theorem dX8_takenIn_12 : decode cX8_takenIn 12 = .ok (.invokevirtual 79, 3) := by decide +kernel
theorem dX8_takenIn_15 : decode cX8_takenIn 15 = .ok (.ifCond .eq 106, 3) := by decide +kernel
theorem dX8_takenIn_18 : decode cX8_takenIn 18 = .ok (.aload_n 0, 1) := by decide +kernel
theorem dX8_takenIn_19 : decode cX8_takenIn 19 = .ok (.getfield 28, 3) := by decide +kernel
theorem dX8_takenIn_22 : decode cX8_takenIn 22 = .ok (.iload_n 3, 1) := by decide +kernel
theorem dX8_takenIn_23 : decode cX8_takenIn 23 = .ok (.iload_n 1, 1) := by decide +kernel
theorem dX8_takenIn_24 : decode cX8_takenIn 24 = .ok (.iconst 3, 1) := by decide +kernel
theorem dX8_takenIn_25 : decode cX8_takenIn 25 = .ok (.isub, 1) := by decide +kernel
theorem dX8_takenIn_26 : decode cX8_takenIn 26 = .ok (.invokevirtual 83, 3) := by decide +kernel
theorem dX8_takenIn_29 : decode cX8_takenIn 29 = .ok (.istore 4, 2) := by decide +kernel
theorem dX8_takenIn_31 : decode cX8_takenIn 31 = .ok (.aload_n 0, 1) := by decide +kernel
theorem dX8_takenIn_32 : decode cX8_takenIn 32 = .ok (.getfield 28, 3) := by decide +kernel
theorem dX8_takenIn_35 : decode cX8_takenIn 35 = .ok (.iload_n 3, 1) := by decide +kernel
theorem dX8_takenIn_36 : decode cX8_takenIn 36 = .ok (.iload_n 1, 1) := by decide +kernel
theorem dX8_takenIn_37 : decode cX8_takenIn 37 = .ok (.iconst 2, 1) := by decide +kernel
theorem dX8_takenIn_38 : decode cX8_takenIn 38 = .ok (.isub, 1) := by decide +kernel
theorem dX8_takenIn_39 : decode cX8_takenIn 39 = .ok (.invokevirtual 83, 3) := by decide +kernel
theorem dX8_takenIn_42 : decode cX8_takenIn 42 = .ok (.istore 5, 2) := by decide +kernel
theorem dX8_takenIn_44 : decode cX8_takenIn 44 = .ok (.aload_n 0, 1) := by decide +kernel
theorem dX8_takenIn_45 : decode cX8_takenIn 45 = .ok (.getfield 28, 3) := by decide +kernel
theorem dX8_takenIn_48 : decode cX8_takenIn 48 = .ok (.iload_n 3, 1) := by decide +kernel
theorem dX8_takenIn_49 : decode cX8_takenIn 49 = .ok (.iload_n 1, 1) := by decide +kernel
theorem dX8_takenIn_50 : decode cX8_takenIn 50 = .ok (.iconst 1, 1) := by decide +kernel
theorem dX8_takenIn_51 : decode cX8_takenIn 51 = .ok (.isub, 1) := by decide +kernel
theorem dX8_takenIn_52 : decode cX8_takenIn 52 = .ok (.invokevirtual 83, 3) := by decide +kernel
theorem dX8_takenIn_55 : decode cX8_takenIn 55 = .ok (.istore 6, 2) := by decide +kernel
theorem dX8_takenIn_57 : decode cX8_takenIn 57 = .ok (.iload 4, 2) := by decide +kernel
theorem dX8_takenIn_59 : decode cX8_takenIn 59 = .ok (.iconst (-1), 1) := by decide +kernel
theorem dX8_takenIn_60 : decode cX8_takenIn 60 = .ok (.if_icmp .eq 19, 3) := by decide +kernel
theorem dX8_takenIn_63 : decode cX8_takenIn 63 = .ok (.iload 5, 2) := by decide +kernel
theorem dX8_takenIn_65 : decode cX8_takenIn 65 = .ok (.iconst (-1), 1) := by decide +kernel
theorem dX8_takenIn_66 : decode cX8_takenIn 66 = .ok (.if_icmp .eq 13, 3) := by decide +kernel
theorem dX8_takenIn_69 : decode cX8_takenIn 69 = .ok (.iload 6, 2) := by decide +kernel
theorem dX8_takenIn_71 : decode cX8_takenIn 71 = .ok (.iconst (-1), 1) := by decide +kernel
theorem dX8_takenIn_72 : decode cX8_takenIn 72 = .ok (.if_icmp .eq 7, 3) := by decide +kernel
theorem dX8_takenIn_75 : decode cX8_takenIn 75 = .ok (.iconst 1, 1) := by decide +kernel
theorem dX8_takenIn_76 : decode cX8_takenIn 76 = .ok (.goto 4, 3) := by decide +kernel
theorem dX8_takenIn_79 : decode cX8_takenIn 79 = .ok (.iconst 0, 1) := by decide +kernel
theorem dX8_takenIn_80 : decode cX8_takenIn 80 = .ok (.istore 7, 2) := by decide +kernel
theorem dX8_takenIn_82 : decode cX8_takenIn 82 = .ok (.iload 7, 2) := by decide +kernel
theorem dX8_takenIn_84 : decode cX8_takenIn 84 = .ok (.ifCond .eq 31, 3) := by decide +kernel
theorem dX8_takenIn_87 : decode cX8_takenIn 87 = .ok (.aload_n 0, 1) := by decide +kernel
theorem dX8_takenIn_88 : decode cX8_takenIn 88 = .ok (.getfield 21, 3) := by decide +kernel
theorem dX8_takenIn_91 : decode cX8_takenIn 91 = .ok (.iload 4, 2) := by decide +kernel
theorem dX8_takenIn_93 : decode cX8_takenIn 93 = .ok (.iload 5, 2) := by decide +kernel
theorem dX8_takenIn_95 : decode cX8_takenIn 95 = .ok (.iload 6, 2) := by decide +kernel
theorem dX8_takenIn_97 : decode cX8_takenIn 97 = .ok (.aload_n 0, 1) := by decide +kernel
theorem dX8_takenIn_98 : decode cX8_takenIn 98 = .ok (.getfield 53, 3) := by decide +kernel
theorem dX8_takenIn_101 : decode cX8_takenIn 101 = .ok (.iload_n 3, 1) := by decide +kernel
theorem dX8_takenIn_102 : decode cX8_takenIn 102 = .ok (.iaload, 1) := by decide +kernel
theorem dX8_takenIn_103 : decode cX8_takenIn 103 = .ok (.invokevirtual 87, 3) := by decide +kernel
theorem dX8_takenIn_106 : decode cX8_takenIn 106 = .ok (.ifCond .eq 9, 3) := by decide +kernel
theorem dX8_takenIn_109 : decode cX8_takenIn 109 = .ok (.iload_n 2, 1) := by decide +kernel
theorem dX8_takenIn_110 : decode cX8_takenIn 110 = .ok (.iconst 1, 1) := by decide +kernel
theorem dX8_takenIn_111 : decode cX8_takenIn 111 = .ok (.iload_n 3, 1) := by decide +kernel
theorem dX8_takenIn_112 : decode cX8_takenIn 112 = .ok (.ishl, 1) := by decide +kernel
theorem dX8_takenIn_113 : decode cX8_takenIn 113 = .ok (.ior, 1) := by decide +kernel
theorem dX8_takenIn_114 : decode cX8_takenIn 114 = .ok (.istore_n 2, 1) := by decide +kernel
theorem dX8_takenIn_115 : decode cX8_takenIn 115 = .ok (.iinc 3 1, 3) := by decide +kernel
theorem dX8_takenIn_118 : decode cX8_takenIn 118 = .ok (.goto (-114), 3) := by decide +kernel
theorem dX8_takenIn_121 : decode cX8_takenIn 121 = .ok (.iload_n 2, 1) := by decide +kernel
theorem dX8_takenIn_122 : decode cX8_takenIn 122 = .ok (.ireturn, 1) := by decide +kernel
theorem dX9_init_0 : decode cX9_init 0 = .ok (.aload_n 0, 1) := by decide +kernel
theorem dX9_init_1 : decode cX9_init 1 = .ok (.invokespecial 3, 3) := by decide +kernel
theorem dX9_init_4 : decode cX9_init 4 = .ok (.aload_n 0, 1) := by decide +kernel
theorem dX9_init_5 : decode cX9_init 5 = .ok (.iconst 0, 1) := by decide +kernel
theorem dX9_init_6 : decode cX9_init 6 = .ok (.putfield 9, 3) := by decide +kernel
theorem dX9_init_9 : decode cX9_init 9 = .ok (.aload_n 0, 1) := by decide +kernel
theorem dX9_init_10 : decode cX9_init 10 = .ok (.bipush 64, 2) := by decide +kernel
theorem dX9_init_12 : decode cX9_init 12 = .ok (.newarray .int, 2) := by decide +kernel
theorem dX9_init_14 : decode cX9_init 14 = .ok (.putfield 15, 3) := by decide +kernel
theorem dX9_init_17 : decode cX9_init 17 = .ok (.aload_n 0, 1) := by decide +kernel
theorem dX9_init_18 : decode cX9_init 18 = .ok (.bipush 64, 2) := by decide +kernel
theorem dX9_init_20 : decode cX9_init 20 = .ok (.newarray .long, 2) := by decide +kernel
theorem dX9_init_22 : decode cX9_init 22 = .ok (.putfield 19, 3) := by decide +kernel
theorem dX9_init_25 : decode cX9_init 25 = .ok (.aload_n 0, 1) := by decide +kernel
theorem dX9_init_26 : decode cX9_init 26 = .ok (.iconst 0, 1) := by decide +kernel
theorem dX9_init_27 : decode cX9_init 27 = .ok (.putfield 23, 3) := by decide +kernel
theorem dX9_init_30 : decode cX9_init 30 = .ok (.aload_n 0, 1) := by decide +kernel
theorem dX9_init_31 : decode cX9_init 31 = .ok (.iconst 0, 1) := by decide +kernel
theorem dX9_init_32 : decode cX9_init 32 = .ok (.putfield 26, 3) := by decide +kernel
theorem dX9_init_35 : decode cX9_init 35 = .ok (.aload_n 0, 1) := by decide +kernel
theorem dX9_init_36 : decode cX9_init 36 = .ok (.iconst 0, 1) := by decide +kernel
theorem dX9_init_37 : decode cX9_init 37 = .ok (.putfield 30, 3) := by decide +kernel
theorem dX9_init_40 : decode cX9_init 40 = .ok (.aload_n 0, 1) := by decide +kernel
theorem dX9_init_41 : decode cX9_init 41 = .ok (.iconst 0, 1) := by decide +kernel
theorem dX9_init_42 : decode cX9_init 42 = .ok (.putfield 33, 3) := by decide +kernel
theorem dX9_init_45 : decode cX9_init 45 = .ok (.aload_n 0, 1) := by decide +kernel
theorem dX9_init_46 : decode cX9_init 46 = .ok (.iconst 0, 1) := by decide +kernel
theorem dX9_init_47 : decode cX9_init 47 = .ok (.putfield 36, 3) := by decide +kernel
theorem dX9_init_50 : decode cX9_init 50 = .ok (.aload_n 0, 1) := by decide +kernel
theorem dX9_init_51 : decode cX9_init 51 = .ok (.iconst 0, 1) := by decide +kernel
theorem dX9_init_52 : decode cX9_init 52 = .ok (.putfield 39, 3) := by decide +kernel
theorem dX9_init_55 : decode cX9_init 55 = .ok (.return_, 1) := by decide +kernel
theorem dX9_stepOf_0 : decode cX9_stepOf 0 = .ok (.iconst (-1), 1) := by decide +kernel
theorem dX9_stepOf_1 : decode cX9_stepOf 1 = .ok (.iload_n 0, 1) := by decide +kernel
theorem dX9_stepOf_2 : decode cX9_stepOf 2 = .ok (.isub, 1) := by decide +kernel
theorem dX9_stepOf_3 : decode cX9_stepOf 3 = .ok (.ireturn, 1) := by decide +kernel
theorem dX9_add_0 : decode cX9_add 0 = .ok (.aload_n 0, 1) := by decide +kernel
theorem dX9_add_1 : decode cX9_add 1 = .ok (.getfield 9, 3) := by decide +kernel
theorem dX9_add_4 : decode cX9_add 4 = .ok (.ifCond .lt 35, 3) := by decide +kernel
theorem dX9_add_7 : decode cX9_add 7 = .ok (.aload_n 0, 1) := by decide +kernel
theorem dX9_add_8 : decode cX9_add 8 = .ok (.getfield 9, 3) := by decide +kernel
theorem dX9_add_11 : decode cX9_add 11 = .ok (.aload_n 0, 1) := by decide +kernel
theorem dX9_add_12 : decode cX9_add 12 = .ok (.getfield 15, 3) := by decide +kernel
theorem dX9_add_15 : decode cX9_add 15 = .ok (.arraylength, 1) := by decide +kernel
theorem dX9_add_16 : decode cX9_add 16 = .ok (.if_icmp .ge 23, 3) := by decide +kernel
theorem dX9_add_19 : decode cX9_add 19 = .ok (.aload_n 0, 1) := by decide +kernel
theorem dX9_add_20 : decode cX9_add 20 = .ok (.getfield 15, 3) := by decide +kernel
theorem dX9_add_23 : decode cX9_add 23 = .ok (.aload_n 0, 1) := by decide +kernel
theorem dX9_add_24 : decode cX9_add 24 = .ok (.getfield 9, 3) := by decide +kernel
theorem dX9_add_27 : decode cX9_add 27 = .ok (.iload_n 1, 1) := by decide +kernel
theorem dX9_add_28 : decode cX9_add 28 = .ok (.iastore, 1) := by decide +kernel
theorem dX9_add_29 : decode cX9_add 29 = .ok (.aload_n 0, 1) := by decide +kernel
theorem dX9_add_30 : decode cX9_add 30 = .ok (.dup, 1) := by decide +kernel
theorem dX9_add_31 : decode cX9_add 31 = .ok (.getfield 9, 3) := by decide +kernel
theorem dX9_add_34 : decode cX9_add 34 = .ok (.iconst 1, 1) := by decide +kernel
theorem dX9_add_35 : decode cX9_add 35 = .ok (.iadd, 1) := by decide +kernel
theorem dX9_add_36 : decode cX9_add 36 = .ok (.putfield 9, 3) := by decide +kernel
theorem dX9_add_39 : decode cX9_add 39 = .ok (.return_, 1) := by decide +kernel
theorem dX9_takes_0 : decode cX9_takes 0 = .ok (.aload_n 0, 1) := by decide +kernel
theorem dX9_takes_1 : decode cX9_takes 1 = .ok (.iload_n 1, 1) := by decide +kernel
theorem dX9_takes_2 : decode cX9_takes 2 = .ok (.putfield 30, 3) := by decide +kernel
theorem dX9_takes_5 : decode cX9_takes 5 = .ok (.aload_n 0, 1) := by decide +kernel
theorem dX9_takes_6 : decode cX9_takes 6 = .ok (.iload_n 2, 1) := by decide +kernel
theorem dX9_takes_7 : decode cX9_takes 7 = .ok (.putfield 33, 3) := by decide +kernel
theorem dX9_takes_10 : decode cX9_takes 10 = .ok (.aload_n 0, 1) := by decide +kernel
theorem dX9_takes_11 : decode cX9_takes 11 = .ok (.iload_n 3, 1) := by decide +kernel
theorem dX9_takes_12 : decode cX9_takes 12 = .ok (.putfield 36, 3) := by decide +kernel
