theorem dX12_isIn_0 : decode cX12_isIn 0 = .ok (.lload_n 0, 1) := by decide +kernel
theorem dX12_isIn_1 : decode cX12_isIn 1 = .ok (.lload_n 2, 1) := by decide +kernel
theorem dX12_isIn_2 : decode cX12_isIn 2 = .ok (.lcmp, 1) := by decide +kernel
theorem dX12_isIn_3 : decode cX12_isIn 3 = .ok (.ifCond .lt 14, 3) := by decide +kernel
theorem dX12_isIn_6 : decode cX12_isIn 6 = .ok (.lload_n 0, 1) := by decide +kernel
theorem dX12_isIn_7 : decode cX12_isIn 7 = .ok (.lload 4, 2) := by decide +kernel
theorem dX12_isIn_9 : decode cX12_isIn 9 = .ok (.lcmp, 1) := by decide +kernel
theorem dX12_isIn_10 : decode cX12_isIn 10 = .ok (.ifCond .gt 7, 3) := by decide +kernel
theorem dX12_isIn_13 : decode cX12_isIn 13 = .ok (.iconst 1, 1) := by decide +kernel
theorem dX12_isIn_14 : decode cX12_isIn 14 = .ok (.goto 4, 3) := by decide +kernel
theorem dX12_isIn_17 : decode cX12_isIn 17 = .ok (.iconst 0, 1) := by decide +kernel
theorem dX12_isIn_18 : decode cX12_isIn 18 = .ok (.ireturn, 1) := by decide +kernel
theorem dX12_has_0 : decode cX12_has 0 = .ok (.iload_n 0, 1) := by decide +kernel
theorem dX12_has_1 : decode cX12_has 1 = .ok (.iload_n 1, 1) := by decide +kernel
theorem dX12_has_2 : decode cX12_has 2 = .ok (.ishr, 1) := by decide +kernel
theorem dX12_has_3 : decode cX12_has 3 = .ok (.iconst 1, 1) := by decide +kernel
theorem dX12_has_4 : decode cX12_has 4 = .ok (.iand, 1) := by decide +kernel
theorem dX12_has_5 : decode cX12_has 5 = .ok (.iconst 1, 1) := by decide +kernel
theorem dX12_has_6 : decode cX12_has 6 = .ok (.if_icmp .ne 7, 3) := by decide +kernel
theorem dX12_has_9 : decode cX12_has 9 = .ok (.iconst 1, 1) := by decide +kernel
theorem dX12_has_10 : decode cX12_has 10 = .ok (.goto 4, 3) := by decide +kernel
theorem dX12_has_13 : decode cX12_has 13 = .ok (.iconst 0, 1) := by decide +kernel
theorem dX12_has_14 : decode cX12_has 14 = .ok (.ireturn, 1) := by decide +kernel
theorem dX12_isCorner_0 : decode cX12_isCorner 0 = .ok (.iload_n 1, 1) := by decide +kernel
theorem dX12_isCorner_1 : decode cX12_isCorner 1 = .ok (.i2l, 1) := by decide +kernel
theorem dX12_isCorner_2 : decode cX12_isCorner 2 = .ok (.lconst 0, 1) := by decide +kernel
theorem dX12_isCorner_3 : decode cX12_isCorner 3 = .ok (.aload_n 0, 1) := by decide +kernel
theorem dX12_isCorner_4 : decode cX12_isCorner 4 = .ok (.getfield 161, 3) := by decide +kernel
theorem dX12_isCorner_7 : decode cX12_isCorner 7 = .ok (.iconst 1, 1) := by decide +kernel
theorem dX12_isCorner_8 : decode cX12_isCorner 8 = .ok (.isub, 1) := by decide +kernel
theorem dX12_isCorner_9 : decode cX12_isCorner 9 = .ok (.i2l, 1) := by decide +kernel
theorem dX12_isCorner_10 : decode cX12_isCorner 10 = .ok (.invokestatic 164, 3) := by decide +kernel
theorem dX12_isCorner_13 : decode cX12_isCorner 13 = .ok (.ireturn, 1) := by decide +kernel
theorem dX12_corner_0 : decode cX12_corner 0 = .ok (.aload_n 0, 1) := by decide +kernel
theorem dX12_corner_1 : decode cX12_corner 1 = .ok (.getfield 161, 3) := by decide +kernel
theorem dX12_corner_4 : decode cX12_corner 4 = .ok (.bipush 8, 2) := by decide +kernel
theorem dX12_corner_6 : decode cX12_corner 6 = .ok (.if_icmp .eq 59, 3) := by decide +kernel
theorem dX12_corner_9 : decode cX12_corner 9 = .ok (.aload_n 0, 1) := by decide +kernel
theorem dX12_corner_10 : decode cX12_corner 10 = .ok (.getfield 168, 3) := by decide +kernel
theorem dX12_corner_13 : decode cX12_corner 13 = .ok (.ifCond .gt 52, 3) := by decide +kernel
theorem dX12_corner_16 : decode cX12_corner 16 = .ok (.iload_n 1, 1) := by decide +kernel
theorem dX12_corner_17 : decode cX12_corner 17 = .ok (.i2l, 1) := by decide +kernel
theorem dX12_corner_18 : decode cX12_corner 18 = .ok (.lconst 0, 1) := by decide +kernel
theorem dX12_corner_19 : decode cX12_corner 19 = .ok (.ldc2_w 171, 3) := by decide +kernel
theorem dX12_corner_22 : decode cX12_corner 22 = .ok (.invokestatic 164, 3) := by decide +kernel
theorem dX12_corner_25 : decode cX12_corner 25 = .ok (.ifCond .eq 40, 3) := by decide +kernel
theorem dX12_corner_28 : decode cX12_corner 28 = .ok (.iload_n 2, 1) := by decide +kernel
theorem dX12_corner_29 : decode cX12_corner 29 = .ok (.i2l, 1) := by decide +kernel
theorem dX12_corner_30 : decode cX12_corner 30 = .ok (.lconst 1, 1) := by decide +kernel
theorem dX12_corner_31 : decode cX12_corner 31 = .ok (.ldc2_w 173, 3) := by decide +kernel
theorem dX12_corner_34 : decode cX12_corner 34 = .ok (.invokestatic 164, 3) := by decide +kernel
theorem dX12_corner_37 : decode cX12_corner 37 = .ok (.ifCond .eq 28, 3) := by decide +kernel
theorem dX12_corner_40 : decode cX12_corner 40 = .ok (.iload_n 3, 1) := by decide +kernel
theorem dX12_corner_41 : decode cX12_corner 41 = .ok (.i2l, 1) := by decide +kernel
theorem dX12_corner_42 : decode cX12_corner 42 = .ok (.lconst 1, 1) := by decide +kernel
theorem dX12_corner_43 : decode cX12_corner 43 = .ok (.ldc2_w 173, 3) := by decide +kernel
theorem dX12_corner_46 : decode cX12_corner 46 = .ok (.invokestatic 164, 3) := by decide +kernel
theorem dX12_corner_49 : decode cX12_corner 49 = .ok (.ifCond .eq 16, 3) := by decide +kernel
theorem dX12_corner_52 : decode cX12_corner 52 = .ok (.iload 4, 2) := by decide +kernel
theorem dX12_corner_54 : decode cX12_corner 54 = .ok (.i2l, 1) := by decide +kernel
theorem dX12_corner_55 : decode cX12_corner 55 = .ok (.lconst 1, 1) := by decide +kernel
theorem dX12_corner_56 : decode cX12_corner 56 = .ok (.ldc2_w 175, 3) := by decide +kernel
theorem dX12_corner_59 : decode cX12_corner 59 = .ok (.invokestatic 164, 3) := by decide +kernel
theorem dX12_corner_62 : decode cX12_corner 62 = .ok (.ifCond .ne 5, 3) := by decide +kernel
theorem dX12_corner_65 : decode cX12_corner 65 = .ok (.iconst (-1), 1) := by decide +kernel
theorem dX12_corner_66 : decode cX12_corner 66 = .ok (.ireturn, 1) := by decide +kernel
theorem dX12_corner_67 : decode cX12_corner 67 = .ok (.aload_n 0, 1) := by decide +kernel
theorem dX12_corner_68 : decode cX12_corner 68 = .ok (.getfield 13, 3) := by decide +kernel
theorem dX12_corner_71 : decode cX12_corner 71 = .ok (.aload_n 0, 1) := by decide +kernel
theorem dX12_corner_72 : decode cX12_corner 72 = .ok (.getfield 161, 3) := by decide +kernel
theorem dX12_corner_75 : decode cX12_corner 75 = .ok (.iload_n 1, 1) := by decide +kernel
theorem dX12_corner_76 : decode cX12_corner 76 = .ok (.iastore, 1) := by decide +kernel
theorem dX12_corner_77 : decode cX12_corner 77 = .ok (.aload_n 0, 1) := by decide +kernel
theorem dX12_corner_78 : decode cX12_corner 78 = .ok (.getfield 17, 3) := by decide +kernel
theorem dX12_corner_81 : decode cX12_corner 81 = .ok (.aload_n 0, 1) := by decide +kernel
theorem dX12_corner_82 : decode cX12_corner 82 = .ok (.getfield 161, 3) := by decide +kernel
theorem dX12_corner_85 : decode cX12_corner 85 = .ok (.iload_n 2, 1) := by decide +kernel
theorem dX12_corner_86 : decode cX12_corner 86 = .ok (.iastore, 1) := by decide +kernel
theorem dX12_corner_87 : decode cX12_corner 87 = .ok (.aload_n 0, 1) := by decide +kernel
theorem dX12_corner_88 : decode cX12_corner 88 = .ok (.getfield 20, 3) := by decide +kernel
theorem dX12_corner_91 : decode cX12_corner 91 = .ok (.aload_n 0, 1) := by decide +kernel
theorem dX12_corner_92 : decode cX12_corner 92 = .ok (.getfield 161, 3) := by decide +kernel
theorem dX12_corner_95 : decode cX12_corner 95 = .ok (.iload_n 3, 1) := by decide +kernel
theorem dX12_corner_96 : decode cX12_corner 96 = .ok (.iastore, 1) := by decide +kernel
theorem dX12_corner_97 : decode cX12_corner 97 = .ok (.aload_n 0, 1) := by decide +kernel
theorem dX12_corner_98 : decode cX12_corner 98 = .ok (.getfield 23, 3) := by decide +kernel
theorem dX12_corner_101 : decode cX12_corner 101 = .ok (.aload_n 0, 1) := by decide +kernel
theorem dX12_corner_102 : decode cX12_corner 102 = .ok (.getfield 161, 3) := by decide +kernel
theorem dX12_corner_105 : decode cX12_corner 105 = .ok (.iload 4, 2) := by decide +kernel
theorem dX12_corner_107 : decode cX12_corner 107 = .ok (.iastore, 1) := by decide +kernel
theorem dX12_corner_108 : decode cX12_corner 108 = .ok (.aload_n 0, 1) := by decide +kernel
theorem dX12_corner_109 : decode cX12_corner 109 = .ok (.dup, 1) := by decide +kernel
theorem dX12_corner_110 : decode cX12_corner 110 = .ok (.getfield 161, 3) := by decide +kernel
theorem dX12_corner_113 : decode cX12_corner 113 = .ok (.iconst 1, 1) := by decide +kernel
theorem dX12_corner_114 : decode cX12_corner 114 = .ok (.iadd, 1) := by decide +kernel
theorem dX12_corner_115 : decode cX12_corner 115 = .ok (.putfield 161, 3) := by decide +kernel
theorem dX12_corner_118 : decode cX12_corner 118 = .ok (.aload_n 0, 1) := by decide +kernel
theorem dX12_corner_119 : decode cX12_corner 119 = .ok (.getfield 161, 3) := by decide +kernel
theorem dX12_corner_122 : decode cX12_corner 122 = .ok (.iconst 1, 1) := by decide +kernel
theorem dX12_corner_123 : decode cX12_corner 123 = .ok (.isub, 1) := by decide +kernel
theorem dX12_corner_124 : decode cX12_corner 124 = .ok (.ireturn, 1) := by decide +kernel
theorem dX12_life_0 : decode cX12_life 0 = .ok (.aload_n 0, 1) := by decide +kernel
theorem dX12_life_1 : decode cX12_life 1 = .ok (.iload_n 1, 1) := by decide +kernel
theorem dX12_life_2 : decode cX12_life 2 = .ok (.invokevirtual 177, 3) := by decide +kernel
theorem dX12_life_5 : decode cX12_life 5 = .ok (.ifCond .eq 44, 3) := by decide +kernel
theorem dX12_life_8 : decode cX12_life 8 = .ok (.aload_n 0, 1) := by decide +kernel
theorem dX12_life_9 : decode cX12_life 9 = .ok (.getfield 168, 3) := by decide +kernel
theorem dX12_life_12 : decode cX12_life 12 = .ok (.ifCond .gt 37, 3) := by decide +kernel
theorem dX12_life_15 : decode cX12_life 15 = .ok (.aload_n 0, 1) := by decide +kernel
theorem dX12_life_16 : decode cX12_life 16 = .ok (.getfield 26, 3) := by decide +kernel
theorem dX12_life_19 : decode cX12_life 19 = .ok (.iload_n 1, 1) := by decide +kernel
theorem dX12_life_20 : decode cX12_life 20 = .ok (.iaload, 1) := by decide +kernel
theorem dX12_life_21 : decode cX12_life 21 = .ok (.iconst 4, 1) := by decide +kernel
theorem dX12_life_22 : decode cX12_life 22 = .ok (.if_icmp .eq 27, 3) := by decide +kernel
theorem dX12_life_25 : decode cX12_life 25 = .ok (.iload_n 2, 1) := by decide +kernel
theorem dX12_life_26 : decode cX12_life 26 = .ok (.i2l, 1) := by decide +kernel
theorem dX12_life_27 : decode cX12_life 27 = .ok (.lconst 1, 1) := by decide +kernel
theorem dX12_life_28 : decode cX12_life 28 = .ok (.ldc2_w 181, 3) := by decide +kernel
theorem dX12_life_31 : decode cX12_life 31 = .ok (.invokestatic 164, 3) := by decide +kernel
theorem dX12_life_34 : decode cX12_life 34 = .ok (.ifCond .eq 15, 3) := by decide +kernel
theorem dX12_life_37 : decode cX12_life 37 = .ok (.iload_n 3, 1) := by decide +kernel
theorem dX12_life_38 : decode cX12_life 38 = .ok (.i2l, 1) := by decide +kernel
theorem dX12_life_39 : decode cX12_life 39 = .ok (.lconst 1, 1) := by decide +kernel
theorem dX12_life_40 : decode cX12_life 40 = .ok (.ldc2_w 183, 3) := by decide +kernel
theorem dX12_life_43 : decode cX12_life 43 = .ok (.invokestatic 164, 3) := by decide +kernel
theorem dX12_life_46 : decode cX12_life 46 = .ok (.ifCond .ne 5, 3) := by decide +kernel
theorem dX12_life_49 : decode cX12_life 49 = .ok (.iconst (-1), 1) := by decide +kernel
theorem dX12_life_50 : decode cX12_life 50 = .ok (.ireturn, 1) := by decide +kernel
theorem dX12_life_51 : decode cX12_life 51 = .ok (.aload_n 0, 1) := by decide +kernel
theorem dX12_life_52 : decode cX12_life 52 = .ok (.getfield 29, 3) := by decide +kernel
theorem dX12_life_55 : decode cX12_life 55 = .ok (.iconst 4, 1) := by decide +kernel
theorem dX12_life_56 : decode cX12_life 56 = .ok (.iload_n 1, 1) := by decide +kernel
theorem dX12_life_57 : decode cX12_life 57 = .ok (.imul, 1) := by decide +kernel
theorem dX12_life_58 : decode cX12_life 58 = .ok (.aload_n 0, 1) := by decide +kernel
theorem dX12_life_59 : decode cX12_life 59 = .ok (.getfield 26, 3) := by decide +kernel
theorem dX12_life_62 : decode cX12_life 62 = .ok (.iload_n 1, 1) := by decide +kernel
theorem dX12_life_63 : decode cX12_life 63 = .ok (.iaload, 1) := by decide +kernel
theorem dX12_life_64 : decode cX12_life 64 = .ok (.iadd, 1) := by decide +kernel
theorem dX12_life_65 : decode cX12_life 65 = .ok (.iload_n 2, 1) := by decide +kernel
theorem dX12_life_66 : decode cX12_life 66 = .ok (.iastore, 1) := by decide +kernel
theorem dX12_life_67 : decode cX12_life 67 = .ok (.aload_n 0, 1) := by decide +kernel
theorem dX12_life_68 : decode cX12_life 68 = .ok (.getfield 32, 3) := by decide +kernel
theorem dX12_life_71 : decode cX12_life 71 = .ok (.iconst 4, 1) := by decide +kernel
theorem dX12_life_72 : decode cX12_life 72 = .ok (.iload_n 1, 1) := by decide +kernel
theorem dX12_life_73 : decode cX12_life 73 = .ok (.imul, 1) := by decide +kernel
theorem dX12_life_74 : decode cX12_life 74 = .ok (.aload_n 0, 1) := by decide +kernel
theorem dX12_life_75 : decode cX12_life 75 = .ok (.getfield 26, 3) := by decide +kernel
theorem dX12_life_78 : decode cX12_life 78 = .ok (.iload_n 1, 1) := by decide +kernel
theorem dX12_life_79 : decode cX12_life 79 = .ok (.iaload, 1) := by decide +kernel
theorem dX12_life_80 : decode cX12_life 80 = .ok (.iadd, 1) := by decide +kernel
theorem dX12_life_81 : decode cX12_life 81 = .ok (.iload_n 3, 1) := by decide +kernel
theorem dX12_life_82 : decode cX12_life 82 = .ok (.iastore, 1) := by decide +kernel
theorem dX12_life_83 : decode cX12_life 83 = .ok (.aload_n 0, 1) := by decide +kernel
theorem dX12_life_84 : decode cX12_life 84 = .ok (.getfield 26, 3) := by decide +kernel
theorem dX12_life_87 : decode cX12_life 87 = .ok (.iload_n 1, 1) := by decide +kernel
theorem dX12_life_88 : decode cX12_life 88 = .ok (.dup2, 1) := by decide +kernel
theorem dX12_life_89 : decode cX12_life 89 = .ok (.iaload, 1) := by decide +kernel
theorem dX12_life_90 : decode cX12_life 90 = .ok (.iconst 1, 1) := by decide +kernel
theorem dX12_life_91 : decode cX12_life 91 = .ok (.iadd, 1) := by decide +kernel
theorem dX12_life_92 : decode cX12_life 92 = .ok (.iastore, 1) := by decide +kernel
theorem dX12_life_93 : decode cX12_life 93 = .ok (.aload_n 0, 1) := by decide +kernel
theorem dX12_life_94 : decode cX12_life 94 = .ok (.getfield 26, 3) := by decide +kernel
theorem dX12_life_97 : decode cX12_life 97 = .ok (.iload_n 1, 1) := by decide +kernel
theorem dX12_life_98 : decode cX12_life 98 = .ok (.iaload, 1) := by decide +kernel
theorem dX12_life_99 : decode cX12_life 99 = .ok (.iconst 1, 1) := by decide +kernel
theorem dX12_life_100 : decode cX12_life 100 = .ok (.isub, 1) := by decide +kernel
theorem dX12_life_101 : decode cX12_life 101 = .ok (.ireturn, 1) := by decide +kernel
theorem dX12_push_0 : decode cX12_push 0 = .ok (.bipush 24, 2) := by decide +kernel
theorem dX12_push_2 : decode cX12_push 2 = .ok (.istore_n 2, 1) := by decide +kernel
theorem dX12_push_3 : decode cX12_push 3 = .ok (.iload_n 2, 1) := by decide +kernel
theorem dX12_push_4 : decode cX12_push 4 = .ok (.ifCond .lt 32, 3) := by decide +kernel
theorem dX12_push_7 : decode cX12_push 7 = .ok (.aload_n 0, 1) := by decide +kernel
theorem dX12_push_8 : decode cX12_push 8 = .ok (.getfield 7, 3) := by decide +kernel
theorem dX12_push_11 : decode cX12_push 11 = .ok (.aload_n 0, 1) := by decide +kernel
theorem dX12_push_12 : decode cX12_push 12 = .ok (.getfield 185, 3) := by decide +kernel
theorem dX12_push_15 : decode cX12_push 15 = .ok (.iload_n 1, 1) := by decide +kernel
theorem dX12_push_16 : decode cX12_push 16 = .ok (.iload_n 2, 1) := by decide +kernel
theorem dX12_push_17 : decode cX12_push 17 = .ok (.ishr, 1) := by decide +kernel
theorem dX12_push_18 : decode cX12_push 18 = .ok (.i2b, 1) := by decide +kernel
theorem dX12_push_19 : decode cX12_push 19 = .ok (.bastore, 1) := by decide +kernel
theorem dX12_push_20 : decode cX12_push 20 = .ok (.aload_n 0, 1) := by decide +kernel
theorem dX12_push_21 : decode cX12_push 21 = .ok (.dup, 1) := by decide +kernel
theorem dX12_push_22 : decode cX12_push 22 = .ok (.getfield 185, 3) := by decide +kernel
theorem dX12_push_25 : decode cX12_push 25 = .ok (.iconst 1, 1) := by decide +kernel
theorem dX12_push_26 : decode cX12_push 26 = .ok (.iadd, 1) := by decide +kernel
theorem dX12_push_27 : decode cX12_push 27 = .ok (.putfield 185, 3) := by decide +kernel
theorem dX12_push_30 : decode cX12_push 30 = .ok (.iinc 2 (-8), 3) := by decide +kernel
theorem dX12_push_33 : decode cX12_push 33 = .ok (.goto (-30), 3) := by decide +kernel
theorem dX12_push_36 : decode cX12_push 36 = .ok (.return_, 1) := by decide +kernel
theorem dX12_feed_0 : decode cX12_feed 0 = .ok (.aload_n 0, 1) := by decide +kernel
theorem dX12_feed_1 : decode cX12_feed 1 = .ok (.getfield 185, 3) := by decide +kernel
theorem dX12_feed_4 : decode cX12_feed 4 = .ok (.bipush 20, 2) := by decide +kernel
theorem dX12_feed_6 : decode cX12_feed 6 = .ok (.iadd, 1) := by decide +kernel
theorem dX12_feed_7 : decode cX12_feed 7 = .ok (.sipush 200, 3) := by decide +kernel
theorem dX12_feed_10 : decode cX12_feed 10 = .ok (.if_icmp .le 5, 3) := by decide +kernel
theorem dX12_feed_13 : decode cX12_feed 13 = .ok (.iconst (-1), 1) := by decide +kernel
theorem dX12_feed_14 : decode cX12_feed 14 = .ok (.ireturn, 1) := by decide +kernel
theorem dX12_feed_15 : decode cX12_feed 15 = .ok (.aload_n 0, 1) := by decide +kernel
theorem dX12_feed_16 : decode cX12_feed 16 = .ok (.iload_n 1, 1) := by decide +kernel
theorem dX12_feed_17 : decode cX12_feed 17 = .ok (.invokevirtual 188, 3) := by decide +kernel
theorem dX12_feed_20 : decode cX12_feed 20 = .ok (.aload_n 0, 1) := by decide +kernel
theorem dX12_feed_21 : decode cX12_feed 21 = .ok (.iload_n 2, 1) := by decide +kernel
theorem dX12_feed_22 : decode cX12_feed 22 = .ok (.invokevirtual 188, 3) := by decide +kernel
theorem dX12_feed_25 : decode cX12_feed 25 = .ok (.aload_n 0, 1) := by decide +kernel
theorem dX12_feed_26 : decode cX12_feed 26 = .ok (.iload_n 3, 1) := by decide +kernel
theorem dX12_feed_27 : decode cX12_feed 27 = .ok (.invokevirtual 188, 3) := by decide +kernel
theorem dX12_feed_30 : decode cX12_feed 30 = .ok (.aload_n 0, 1) := by decide +kernel
theorem dX12_feed_31 : decode cX12_feed 31 = .ok (.iload 4, 2) := by decide +kernel
theorem dX12_feed_33 : decode cX12_feed 33 = .ok (.invokevirtual 188, 3) := by decide +kernel
theorem dX12_feed_36 : decode cX12_feed 36 = .ok (.aload_n 0, 1) := by decide +kernel
theorem dX12_feed_37 : decode cX12_feed 37 = .ok (.iload 5, 2) := by decide +kernel
theorem dX12_feed_39 : decode cX12_feed 39 = .ok (.invokevirtual 188, 3) := by decide +kernel
theorem dX12_feed_42 : decode cX12_feed 42 = .ok (.aload_n 0, 1) := by decide +kernel
theorem dX12_feed_43 : decode cX12_feed 43 = .ok (.getfield 185, 3) := by decide +kernel
theorem dX12_feed_46 : decode cX12_feed 46 = .ok (.ireturn, 1) := by decide +kernel
theorem dX12_here_0 : decode cX12_here 0 = .ok (.aload_n 0, 1) := by decide +kernel
theorem dX12_here_1 : decode cX12_here 1 = .ok (.getfield 192, 3) := by decide +kernel
theorem dX12_here_4 : decode cX12_here 4 = .ok (.aload_n 0, 1) := by decide +kernel
theorem dX12_here_5 : decode cX12_here 5 = .ok (.getfield 195, 3) := by decide +kernel
theorem dX12_here_8 : decode cX12_here 8 = .ok (.if_icmp .ge 19, 3) := by decide +kernel
theorem dX12_here_11 : decode cX12_here 11 = .ok (.aload_n 0, 1) := by decide +kernel
theorem dX12_here_12 : decode cX12_here 12 = .ok (.getfield 7, 3) := by decide +kernel
theorem dX12_here_15 : decode cX12_here 15 = .ok (.aload_n 0, 1) := by decide +kernel
theorem dX12_here_16 : decode cX12_here 16 = .ok (.getfield 192, 3) := by decide +kernel
theorem dX12_here_19 : decode cX12_here 19 = .ok (.baload, 1) := by decide +kernel
theorem dX12_here_20 : decode cX12_here 20 = .ok (.sipush 255, 3) := by decide +kernel
theorem dX12_here_23 : decode cX12_here 23 = .ok (.iand, 1) := by decide +kernel
theorem dX12_here_24 : decode cX12_here 24 = .ok (.goto 4, 3) := by decide +kernel
theorem dX12_here_27 : decode cX12_here 27 = .ok (.iconst 0, 1) := by decide +kernel
theorem dX12_here_28 : decode cX12_here 28 = .ok (.ireturn, 1) := by decide +kernel
theorem dX12_wrongs_0 : decode cX12_wrongs 0 = .ok (.aload_n 0, 1) := by decide +kernel
theorem dX12_wrongs_1 : decode cX12_wrongs 1 = .ok (.aload_n 0, 1) := by decide +kernel
theorem dX12_wrongs_2 : decode cX12_wrongs 2 = .ok (.getfield 198, 3) := by decide +kernel
theorem dX12_wrongs_5 : decode cX12_wrongs 5 = .ok (.ifCond .ge 10, 3) := by decide +kernel
theorem dX12_wrongs_8 : decode cX12_wrongs 8 = .ok (.aload_n 0, 1) := by decide +kernel
theorem dX12_wrongs_9 : decode cX12_wrongs 9 = .ok (.getfield 198, 3) := by decide +kernel
theorem dX12_wrongs_12 : decode cX12_wrongs 12 = .ok (.goto 10, 3) := by decide +kernel
theorem dX12_wrongs_15 : decode cX12_wrongs 15 = .ok (.sipush (-1000), 3) := by decide +kernel
theorem dX12_wrongs_18 : decode cX12_wrongs 18 = .ok (.iload_n 1, 1) := by decide +kernel
theorem dX12_wrongs_19 : decode cX12_wrongs 19 = .ok (.imul, 1) := by decide +kernel
theorem dX12_wrongs_20 : decode cX12_wrongs 20 = .ok (.iload_n 2, 1) := by decide +kernel
theorem dX12_wrongs_21 : decode cX12_wrongs 21 = .ok (.isub, 1) := by decide +kernel
theorem dX12_wrongs_22 : decode cX12_wrongs 22 = .ok (.putfield 198, 3) := by decide +kernel
theorem dX12_wrongs_25 : decode cX12_wrongs 25 = .ok (.return_, 1) := by decide +kernel
theorem dX12_isGood_0 : decode cX12_isGood 0 = .ok (.aload_n 0, 1) := by decide +kernel
theorem dX12_isGood_1 : decode cX12_isGood 1 = .ok (.getfield 198, 3) := by decide +kernel
theorem dX12_isGood_4 : decode cX12_isGood 4 = .ok (.ifCond .ne 7, 3) := by decide +kernel
theorem dX12_isGood_7 : decode cX12_isGood 7 = .ok (.iconst 1, 1) := by decide +kernel
theorem dX12_isGood_8 : decode cX12_isGood 8 = .ok (.goto 4, 3) := by decide +kernel
theorem dX12_isGood_11 : decode cX12_isGood 11 = .ok (.iconst 0, 1) := by decide +kernel
theorem dX12_isGood_12 : decode cX12_isGood 12 = .ok (.ireturn, 1) := by decide +kernel
theorem dX12_emit_0 : decode cX12_emit 0 = .ok (.aload_n 0, 1) := by decide +kernel
theorem dX12_emit_1 : decode cX12_emit 1 = .ok (.invokevirtual 201, 3) := by decide +kernel
theorem dX12_emit_4 : decode cX12_emit 4 = .ok (.ifCond .ne 4, 3) := by decide +kernel
theorem dX12_emit_7 : decode cX12_emit 7 = .ok (.return_, 1) := by decide +kernel
theorem dX12_emit_8 : decode cX12_emit 8 = .ok (.aload_n 0, 1) := by decide +kernel
theorem dX12_emit_9 : decode cX12_emit 9 = .ok (.getfield 65, 3) := by decide +kernel
theorem dX12_emit_12 : decode cX12_emit 12 = .ok (.aload_n 0, 1) := by decide +kernel
theorem dX12_emit_13 : decode cX12_emit 13 = .ok (.getfield 205, 3) := by decide +kernel
theorem dX12_emit_16 : decode cX12_emit 16 = .ok (.iload_n 1, 1) := by decide +kernel
theorem dX12_emit_17 : decode cX12_emit 17 = .ok (.iastore, 1) := by decide +kernel
theorem dX12_emit_18 : decode cX12_emit 18 = .ok (.aload_n 0, 1) := by decide +kernel
theorem dX12_emit_19 : decode cX12_emit 19 = .ok (.getfield 68, 3) := by decide +kernel
theorem dX12_emit_22 : decode cX12_emit 22 = .ok (.aload_n 0, 1) := by decide +kernel
theorem dX12_emit_23 : decode cX12_emit 23 = .ok (.getfield 205, 3) := by decide +kernel
theorem dX12_emit_26 : decode cX12_emit 26 = .ok (.iload_n 2, 1) := by decide +kernel
theorem dX12_emit_27 : decode cX12_emit 27 = .ok (.iastore, 1) := by decide +kernel
theorem dX12_emit_28 : decode cX12_emit 28 = .ok (.aload_n 0, 1) := by decide +kernel
theorem dX12_emit_29 : decode cX12_emit 29 = .ok (.dup, 1) := by decide +kernel
theorem dX12_emit_30 : decode cX12_emit 30 = .ok (.getfield 205, 3) := by decide +kernel
theorem dX12_emit_33 : decode cX12_emit 33 = .ok (.iconst 1, 1) := by decide +kernel
theorem dX12_emit_34 : decode cX12_emit 34 = .ok (.iadd, 1) := by decide +kernel
theorem dX12_emit_35 : decode cX12_emit 35 = .ok (.putfield 205, 3) := by decide +kernel
theorem dX12_emit_38 : decode cX12_emit 38 = .ok (.return_, 1) := by decide +kernel
theorem dX12_top_0 : decode cX12_top 0 = .ok (.aload_n 0, 1) := by decide +kernel
theorem dX12_top_1 : decode cX12_top 1 = .ok (.getfield 208, 3) := by decide +kernel
theorem dX12_top_4 : decode cX12_top 4 = .ok (.ifCond .le 17, 3) := by decide +kernel
theorem dX12_top_7 : decode cX12_top 7 = .ok (.aload_n 0, 1) := by decide +kernel
theorem dX12_top_8 : decode cX12_top 8 = .ok (.getfield 71, 3) := by decide +kernel
theorem dX12_top_11 : decode cX12_top 11 = .ok (.aload_n 0, 1) := by decide +kernel
theorem dX12_top_12 : decode cX12_top 12 = .ok (.getfield 208, 3) := by decide +kernel
theorem dX12_top_15 : decode cX12_top 15 = .ok (.iconst 1, 1) := by decide +kernel
theorem dX12_top_16 : decode cX12_top 16 = .ok (.isub, 1) := by decide +kernel
theorem dX12_top_17 : decode cX12_top 17 = .ok (.iaload, 1) := by decide +kernel
theorem dX12_top_18 : decode cX12_top 18 = .ok (.goto 4, 3) := by decide +kernel
theorem dX12_top_21 : decode cX12_top 21 = .ok (.iconst 0, 1) := by decide +kernel
theorem dX12_top_22 : decode cX12_top 22 = .ok (.ireturn, 1) := by decide +kernel
theorem dX12_puts_0 : decode cX12_puts 0 = .ok (.aload_n 0, 1) := by decide +kernel
theorem dX12_puts_1 : decode cX12_puts 1 = .ok (.getfield 71, 3) := by decide +kernel
theorem dX12_puts_4 : decode cX12_puts 4 = .ok (.aload_n 0, 1) := by decide +kernel
theorem dX12_puts_5 : decode cX12_puts 5 = .ok (.getfield 208, 3) := by decide +kernel
theorem dX12_puts_8 : decode cX12_puts 8 = .ok (.iload_n 1, 1) := by decide +kernel
theorem dX12_puts_9 : decode cX12_puts 9 = .ok (.iastore, 1) := by decide +kernel
theorem dX12_puts_10 : decode cX12_puts 10 = .ok (.aload_n 0, 1) := by decide +kernel
theorem dX12_puts_11 : decode cX12_puts 11 = .ok (.dup, 1) := by decide +kernel
theorem dX12_puts_12 : decode cX12_puts 12 = .ok (.getfield 208, 3) := by decide +kernel
theorem dX12_puts_15 : decode cX12_puts 15 = .ok (.iconst 1, 1) := by decide +kernel
theorem dX12_puts_16 : decode cX12_puts 16 = .ok (.iadd, 1) := by decide +kernel
theorem dX12_puts_17 : decode cX12_puts 17 = .ok (.putfield 208, 3) := by decide +kernel
theorem dX12_puts_20 : decode cX12_puts 20 = .ok (.aload_n 0, 1) := by decide +kernel
theorem dX12_puts_21 : decode cX12_puts 21 = .ok (.dup, 1) := by decide +kernel
theorem dX12_puts_22 : decode cX12_puts 22 = .ok (.getfield 192, 3) := by decide +kernel
theorem dX12_puts_25 : decode cX12_puts 25 = .ok (.iconst 1, 1) := by decide +kernel
theorem dX12_puts_26 : decode cX12_puts 26 = .ok (.iadd, 1) := by decide +kernel
theorem dX12_puts_27 : decode cX12_puts 27 = .ok (.putfield 192, 3) := by decide +kernel
theorem dX12_puts_30 : decode cX12_puts 30 = .ok (.return_, 1) := by decide +kernel
theorem dX12_opens_0 : decode cX12_opens 0 = .ok (.aload_n 0, 1) := by decide +kernel
theorem dX12_opens_1 : decode cX12_opens 1 = .ok (.getfield 211, 3) := by decide +kernel
theorem dX12_opens_4 : decode cX12_opens 4 = .ok (.bipush 6, 2) := by decide +kernel
theorem dX12_opens_6 : decode cX12_opens 6 = .ok (.if_icmp .ne 12, 3) := by decide +kernel
theorem dX12_opens_9 : decode cX12_opens 9 = .ok (.aload_n 0, 1) := by decide +kernel
theorem dX12_opens_10 : decode cX12_opens 10 = .ok (.iconst 5, 1) := by decide +kernel
theorem dX12_opens_11 : decode cX12_opens 11 = .ok (.aload_n 0, 1) := by decide +kernel
theorem dX12_opens_12 : decode cX12_opens 12 = .ok (.getfield 192, 3) := by decide +kernel
theorem dX12_opens_15 : decode cX12_opens 15 = .ok (.invokevirtual 214, 3) := by decide +kernel
theorem dX12_opens_18 : decode cX12_opens 18 = .ok (.aload_n 0, 1) := by decide +kernel
theorem dX12_opens_19 : decode cX12_opens 19 = .ok (.dup, 1) := by decide +kernel
theorem dX12_opens_20 : decode cX12_opens 20 = .ok (.getfield 211, 3) := by decide +kernel
theorem dX12_opens_23 : decode cX12_opens 23 = .ok (.iconst 1, 1) := by decide +kernel
theorem dX12_opens_24 : decode cX12_opens 24 = .ok (.iadd, 1) := by decide +kernel
theorem dX12_opens_25 : decode cX12_opens 25 = .ok (.putfield 211, 3) := by decide +kernel
theorem dX12_opens_28 : decode cX12_opens 28 = .ok (.aload_n 0, 1) := by decide +kernel
theorem dX12_opens_29 : decode cX12_opens 29 = .ok (.aload_n 0, 1) := by decide +kernel
theorem dX12_opens_30 : decode cX12_opens 30 = .ok (.invokevirtual 218, 3) := by decide +kernel
theorem dX12_opens_33 : decode cX12_opens 33 = .ok (.invokevirtual 222, 3) := by decide +kernel
theorem dX12_opens_36 : decode cX12_opens 36 = .ok (.return_, 1) := by decide +kernel
theorem dX12_seesDigit_0 : decode cX12_seesDigit 0 = .ok (.aload_n 0, 1) := by decide +kernel
theorem dX12_seesDigit_1 : decode cX12_seesDigit 1 = .ok (.invokevirtual 218, 3) := by decide +kernel
theorem dX12_seesDigit_4 : decode cX12_seesDigit 4 = .ok (.i2l, 1) := by decide +kernel
theorem dX12_seesDigit_5 : decode cX12_seesDigit 5 = .ok (.ldc2_w 225, 3) := by decide +kernel
theorem dX12_seesDigit_8 : decode cX12_seesDigit 8 = .ok (.ldc2_w 227, 3) := by decide +kernel
theorem dX12_seesDigit_11 : decode cX12_seesDigit 11 = .ok (.invokestatic 164, 3) := by decide +kernel
theorem dX12_seesDigit_14 : decode cX12_seesDigit 14 = .ok (.ireturn, 1) := by decide +kernel
theorem dX12_reads_0 : decode cX12_reads 0 = .ok (.aload_n 0, 1) := by decide +kernel
theorem dX12_reads_1 : decode cX12_reads 1 = .ok (.getfield 192, 3) := by decide +kernel
theorem dX12_reads_4 : decode cX12_reads 4 = .ok (.istore_n 1, 1) := by decide +kernel
theorem dX12_reads_5 : decode cX12_reads 5 = .ok (.iconst 0, 1) := by decide +kernel
theorem dX12_reads_6 : decode cX12_reads 6 = .ok (.istore_n 2, 1) := by decide +kernel
theorem dX12_reads_7 : decode cX12_reads 7 = .ok (.aload_n 0, 1) := by decide +kernel
theorem dX12_reads_8 : decode cX12_reads 8 = .ok (.invokevirtual 201, 3) := by decide +kernel
theorem dX12_reads_11 : decode cX12_reads 11 = .ok (.ifCond .eq 55, 3) := by decide +kernel
theorem dX12_reads_14 : decode cX12_reads 14 = .ok (.aload_n 0, 1) := by decide +kernel
theorem dX12_reads_15 : decode cX12_reads 15 = .ok (.invokevirtual 229, 3) := by decide +kernel
theorem dX12_reads_18 : decode cX12_reads 18 = .ok (.ifCond .eq 48, 3) := by decide +kernel
theorem dX12_reads_21 : decode cX12_reads 21 = .ok (.aload_n 0, 1) := by decide +kernel
theorem dX12_reads_22 : decode cX12_reads 22 = .ok (.getfield 192, 3) := by decide +kernel
theorem dX12_reads_25 : decode cX12_reads 25 = .ok (.iload_n 1, 1) := by decide +kernel
theorem dX12_reads_26 : decode cX12_reads 26 = .ok (.iconst 5, 1) := by decide +kernel
theorem dX12_reads_27 : decode cX12_reads 27 = .ok (.iadd, 1) := by decide +kernel
theorem dX12_reads_28 : decode cX12_reads 28 = .ok (.if_icmp .ne 12, 3) := by decide +kernel
theorem dX12_reads_31 : decode cX12_reads 31 = .ok (.aload_n 0, 1) := by decide +kernel
theorem dX12_reads_32 : decode cX12_reads 32 = .ok (.iconst 2, 1) := by decide +kernel
theorem dX12_reads_33 : decode cX12_reads 33 = .ok (.aload_n 0, 1) := by decide +kernel
theorem dX12_reads_34 : decode cX12_reads 34 = .ok (.getfield 192, 3) := by decide +kernel
theorem dX12_reads_37 : decode cX12_reads 37 = .ok (.invokevirtual 214, 3) := by decide +kernel
theorem dX12_reads_40 : decode cX12_reads 40 = .ok (.bipush 10, 2) := by decide +kernel
theorem dX12_reads_42 : decode cX12_reads 42 = .ok (.iload_n 2, 1) := by decide +kernel
theorem dX12_reads_43 : decode cX12_reads 43 = .ok (.imul, 1) := by decide +kernel
theorem dX12_reads_44 : decode cX12_reads 44 = .ok (.aload_n 0, 1) := by decide +kernel
theorem dX12_reads_45 : decode cX12_reads 45 = .ok (.invokevirtual 218, 3) := by decide +kernel
theorem dX12_reads_48 : decode cX12_reads 48 = .ok (.iadd, 1) := by decide +kernel
theorem dX12_reads_49 : decode cX12_reads 49 = .ok (.bipush 48, 2) := by decide +kernel
theorem dX12_reads_51 : decode cX12_reads 51 = .ok (.isub, 1) := by decide +kernel
theorem dX12_reads_52 : decode cX12_reads 52 = .ok (.istore_n 2, 1) := by decide +kernel
theorem dX12_reads_53 : decode cX12_reads 53 = .ok (.aload_n 0, 1) := by decide +kernel
theorem dX12_reads_54 : decode cX12_reads 54 = .ok (.dup, 1) := by decide +kernel
theorem dX12_reads_55 : decode cX12_reads 55 = .ok (.getfield 192, 3) := by decide +kernel
theorem dX12_reads_58 : decode cX12_reads 58 = .ok (.iconst 1, 1) := by decide +kernel
theorem dX12_reads_59 : decode cX12_reads 59 = .ok (.iadd, 1) := by decide +kernel
theorem dX12_reads_60 : decode cX12_reads 60 = .ok (.putfield 192, 3) := by decide +kernel
theorem dX12_reads_63 : decode cX12_reads 63 = .ok (.goto (-56), 3) := by decide +kernel
theorem dX12_reads_66 : decode cX12_reads 66 = .ok (.iload_n 2, 1) := by decide +kernel
theorem dX12_reads_67 : decode cX12_reads 67 = .ok (.ireturn, 1) := by decide +kernel
theorem dX12_isTimes_0 : decode cX12_isTimes 0 = .ok (.iload_n 0, 1) := by decide +kernel
theorem dX12_isTimes_1 : decode cX12_isTimes 1 = .ok (.bipush 42, 2) := by decide +kernel
theorem dX12_isTimes_3 : decode cX12_isTimes 3 = .ok (.if_icmp .eq 15, 3) := by decide +kernel
theorem dX12_isTimes_6 : decode cX12_isTimes 6 = .ok (.iload_n 0, 1) := by decide +kernel
theorem dX12_isTimes_7 : decode cX12_isTimes 7 = .ok (.bipush 47, 2) := by decide +kernel
theorem dX12_isTimes_9 : decode cX12_isTimes 9 = .ok (.if_icmp .eq 9, 3) := by decide +kernel
theorem dX12_isTimes_12 : decode cX12_isTimes 12 = .ok (.iload_n 0, 1) := by decide +kernel
theorem dX12_isTimes_13 : decode cX12_isTimes 13 = .ok (.bipush 37, 2) := by decide +kernel
theorem dX12_isTimes_15 : decode cX12_isTimes 15 = .ok (.if_icmp .ne 7, 3) := by decide +kernel
theorem dX12_isTimes_18 : decode cX12_isTimes 18 = .ok (.iconst 1, 1) := by decide +kernel
theorem dX12_isTimes_19 : decode cX12_isTimes 19 = .ok (.goto 4, 3) := by decide +kernel
theorem dX12_isTimes_22 : decode cX12_isTimes 22 = .ok (.iconst 0, 1) := by decide +kernel
theorem dX12_isTimes_23 : decode cX12_isTimes 23 = .ok (.ireturn, 1) := by decide +kernel
theorem dX12_isPlus_0 : decode cX12_isPlus 0 = .ok (.iload_n 0, 1) := by decide +kernel
theorem dX12_isPlus_1 : decode cX12_isPlus 1 = .ok (.bipush 43, 2) := by decide +kernel
theorem dX12_isPlus_3 : decode cX12_isPlus 3 = .ok (.if_icmp .eq 9, 3) := by decide +kernel
theorem dX12_isPlus_6 : decode cX12_isPlus 6 = .ok (.iload_n 0, 1) := by decide +kernel
theorem dX12_isPlus_7 : decode cX12_isPlus 7 = .ok (.bipush 45, 2) := by decide +kernel
theorem dX12_isPlus_9 : decode cX12_isPlus 9 = .ok (.if_icmp .ne 7, 3) := by decide +kernel
theorem dX12_isPlus_12 : decode cX12_isPlus 12 = .ok (.iconst 1, 1) := by decide +kernel
theorem dX12_isPlus_13 : decode cX12_isPlus 13 = .ok (.goto 4, 3) := by decide +kernel
theorem dX12_isPlus_16 : decode cX12_isPlus 16 = .ok (.iconst 0, 1) := by decide +kernel
theorem dX12_isPlus_17 : decode cX12_isPlus 17 = .ok (.ireturn, 1) := by decide +kernel
theorem dX12_isSign_0 : decode cX12_isSign 0 = .ok (.iload_n 0, 1) := by decide +kernel
theorem dX12_isSign_1 : decode cX12_isSign 1 = .ok (.bipush 60, 2) := by decide +kernel
theorem dX12_isSign_3 : decode cX12_isSign 3 = .ok (.if_icmp .eq 15, 3) := by decide +kernel
theorem dX12_isSign_6 : decode cX12_isSign 6 = .ok (.iload_n 0, 1) := by decide +kernel
theorem dX12_isSign_7 : decode cX12_isSign 7 = .ok (.bipush 62, 2) := by decide +kernel
theorem dX12_isSign_9 : decode cX12_isSign 9 = .ok (.if_icmp .eq 9, 3) := by decide +kernel
theorem dX12_isSign_12 : decode cX12_isSign 12 = .ok (.iload_n 0, 1) := by decide +kernel
theorem dX12_isSign_13 : decode cX12_isSign 13 = .ok (.bipush 61, 2) := by decide +kernel
theorem dX12_isSign_15 : decode cX12_isSign 15 = .ok (.if_icmp .ne 7, 3) := by decide +kernel
theorem dX12_isSign_18 : decode cX12_isSign 18 = .ok (.iconst 1, 1) := by decide +kernel
theorem dX12_isSign_19 : decode cX12_isSign 19 = .ok (.goto 4, 3) := by decide +kernel
theorem dX12_isSign_22 : decode cX12_isSign 22 = .ok (.iconst 0, 1) := by decide +kernel
theorem dX12_isSign_23 : decode cX12_isSign 23 = .ok (.ireturn, 1) := by decide +kernel
theorem dX12_isValue_0 : decode cX12_isValue 0 = .ok (.iload_n 0, 1) := by decide +kernel
theorem dX12_isValue_1 : decode cX12_isValue 1 = .ok (.bipush 112, 2) := by decide +kernel
theorem dX12_isValue_3 : decode cX12_isValue 3 = .ok (.if_icmp .eq 57, 3) := by decide +kernel
theorem dX12_isValue_6 : decode cX12_isValue 6 = .ok (.iload_n 0, 1) := by decide +kernel
theorem dX12_isValue_7 : decode cX12_isValue 7 = .ok (.bipush 114, 2) := by decide +kernel
theorem dX12_isValue_9 : decode cX12_isValue 9 = .ok (.if_icmp .eq 51, 3) := by decide +kernel
theorem dX12_isValue_12 : decode cX12_isValue 12 = .ok (.iload_n 0, 1) := by decide +kernel
theorem dX12_isValue_13 : decode cX12_isValue 13 = .ok (.bipush 116, 2) := by decide +kernel
theorem dX12_isValue_15 : decode cX12_isValue 15 = .ok (.if_icmp .eq 45, 3) := by decide +kernel
theorem dX12_isValue_18 : decode cX12_isValue 18 = .ok (.iload_n 0, 1) := by decide +kernel
theorem dX12_isValue_19 : decode cX12_isValue 19 = .ok (.bipush 107, 2) := by decide +kernel
theorem dX12_isValue_21 : decode cX12_isValue 21 = .ok (.if_icmp .eq 39, 3) := by decide +kernel
theorem dX12_isValue_24 : decode cX12_isValue 24 = .ok (.iload_n 0, 1) := by decide +kernel
theorem dX12_isValue_25 : decode cX12_isValue 25 = .ok (.bipush 99, 2) := by decide +kernel
theorem dX12_isValue_27 : decode cX12_isValue 27 = .ok (.if_icmp .eq 33, 3) := by decide +kernel
theorem dX12_isValue_30 : decode cX12_isValue 30 = .ok (.iload_n 0, 1) := by decide +kernel
theorem dX12_isValue_31 : decode cX12_isValue 31 = .ok (.bipush 110, 2) := by decide +kernel
theorem dX12_isValue_33 : decode cX12_isValue 33 = .ok (.if_icmp .eq 27, 3) := by decide +kernel
theorem dX12_isValue_36 : decode cX12_isValue 36 = .ok (.iload_n 0, 1) := by decide +kernel
theorem dX12_isValue_37 : decode cX12_isValue 37 = .ok (.bipush 113, 2) := by decide +kernel
theorem dX12_isValue_39 : decode cX12_isValue 39 = .ok (.if_icmp .eq 21, 3) := by decide +kernel
theorem dX12_isValue_42 : decode cX12_isValue 42 = .ok (.iload_n 0, 1) := by decide +kernel
theorem dX12_isValue_43 : decode cX12_isValue 43 = .ok (.bipush 104, 2) := by decide +kernel
theorem dX12_isValue_45 : decode cX12_isValue 45 = .ok (.if_icmp .eq 15, 3) := by decide +kernel
theorem dX12_isValue_48 : decode cX12_isValue 48 = .ok (.iload_n 0, 1) := by decide +kernel
theorem dX12_isValue_49 : decode cX12_isValue 49 = .ok (.bipush 108, 2) := by decide +kernel
theorem dX12_isValue_51 : decode cX12_isValue 51 = .ok (.if_icmp .eq 9, 3) := by decide +kernel
theorem dX12_isValue_54 : decode cX12_isValue 54 = .ok (.iload_n 0, 1) := by decide +kernel
theorem dX12_isValue_55 : decode cX12_isValue 55 = .ok (.bipush 119, 2) := by decide +kernel
theorem dX12_isValue_57 : decode cX12_isValue 57 = .ok (.if_icmp .ne 7, 3) := by decide +kernel
theorem dX12_isValue_60 : decode cX12_isValue 60 = .ok (.iconst 1, 1) := by decide +kernel
theorem dX12_isValue_61 : decode cX12_isValue 61 = .ok (.goto 4, 3) := by decide +kernel
theorem dX12_isValue_64 : decode cX12_isValue 64 = .ok (.iconst 0, 1) := by decide +kernel
theorem dX12_isValue_65 : decode cX12_isValue 65 = .ok (.ireturn, 1) := by decide +kernel
theorem dX12_sums_0 : decode cX12_sums 0 = .ok (.aload_n 0, 1) := by decide +kernel
theorem dX12_sums_1 : decode cX12_sums 1 = .ok (.invokevirtual 232, 3) := by decide +kernel
theorem dX12_sums_4 : decode cX12_sums 4 = .ok (.invokestatic 235, 3) := by decide +kernel
theorem dX12_sums_7 : decode cX12_sums 7 = .ok (.ifCond .ne 17, 3) := by decide +kernel
theorem dX12_sums_10 : decode cX12_sums 10 = .ok (.iload_n 1, 1) := by decide +kernel
theorem dX12_sums_11 : decode cX12_sums 11 = .ok (.ifCond .eq 35, 3) := by decide +kernel
theorem dX12_sums_14 : decode cX12_sums 14 = .ok (.aload_n 0, 1) := by decide +kernel
theorem dX12_sums_15 : decode cX12_sums 15 = .ok (.invokevirtual 232, 3) := by decide +kernel
theorem dX12_sums_18 : decode cX12_sums 18 = .ok (.invokestatic 238, 3) := by decide +kernel
theorem dX12_sums_21 : decode cX12_sums 21 = .ok (.ifCond .eq 25, 3) := by decide +kernel
theorem dX12_sums_24 : decode cX12_sums 24 = .ok (.aload_n 0, 1) := by decide +kernel
theorem dX12_sums_25 : decode cX12_sums 25 = .ok (.aload_n 0, 1) := by decide +kernel
theorem dX12_sums_26 : decode cX12_sums 26 = .ok (.invokevirtual 232, 3) := by decide +kernel
theorem dX12_sums_29 : decode cX12_sums 29 = .ok (.iconst 0, 1) := by decide +kernel
theorem dX12_sums_30 : decode cX12_sums 30 = .ok (.invokevirtual 241, 3) := by decide +kernel
theorem dX12_sums_33 : decode cX12_sums 33 = .ok (.aload_n 0, 1) := by decide +kernel
theorem dX12_sums_34 : decode cX12_sums 34 = .ok (.dup, 1) := by decide +kernel
theorem dX12_sums_35 : decode cX12_sums 35 = .ok (.getfield 208, 3) := by decide +kernel
theorem dX12_sums_38 : decode cX12_sums 38 = .ok (.iconst 1, 1) := by decide +kernel
theorem dX12_sums_39 : decode cX12_sums 39 = .ok (.isub, 1) := by decide +kernel
theorem dX12_sums_40 : decode cX12_sums 40 = .ok (.putfield 208, 3) := by decide +kernel
theorem dX12_sums_43 : decode cX12_sums 43 = .ok (.goto (-43), 3) := by decide +kernel
theorem dX12_sums_46 : decode cX12_sums 46 = .ok (.return_, 1) := by decide +kernel
theorem dX12_joins_0 : decode cX12_joins 0 = .ok (.aload_n 0, 1) := by decide +kernel
theorem dX12_joins_1 : decode cX12_joins 1 = .ok (.invokevirtual 232, 3) := by decide +kernel
theorem dX12_joins_4 : decode cX12_joins 4 = .ok (.bipush 38, 2) := by decide +kernel
theorem dX12_joins_6 : decode cX12_joins 6 = .ok (.if_icmp .eq 16, 3) := by decide +kernel
theorem dX12_joins_9 : decode cX12_joins 9 = .ok (.iload_n 1, 1) := by decide +kernel
theorem dX12_joins_10 : decode cX12_joins 10 = .ok (.ifCond .eq 34, 3) := by decide +kernel
theorem dX12_joins_13 : decode cX12_joins 13 = .ok (.aload_n 0, 1) := by decide +kernel
theorem dX12_joins_14 : decode cX12_joins 14 = .ok (.invokevirtual 232, 3) := by decide +kernel
theorem dX12_joins_17 : decode cX12_joins 17 = .ok (.bipush 124, 2) := by decide +kernel
theorem dX12_joins_19 : decode cX12_joins 19 = .ok (.if_icmp .ne 25, 3) := by decide +kernel
theorem dX12_joins_22 : decode cX12_joins 22 = .ok (.aload_n 0, 1) := by decide +kernel
theorem dX12_joins_23 : decode cX12_joins 23 = .ok (.aload_n 0, 1) := by decide +kernel
theorem dX12_joins_24 : decode cX12_joins 24 = .ok (.invokevirtual 232, 3) := by decide +kernel
theorem dX12_joins_27 : decode cX12_joins 27 = .ok (.iconst 0, 1) := by decide +kernel
theorem dX12_joins_28 : decode cX12_joins 28 = .ok (.invokevirtual 241, 3) := by decide +kernel
theorem dX12_joins_31 : decode cX12_joins 31 = .ok (.aload_n 0, 1) := by decide +kernel
theorem dX12_joins_32 : decode cX12_joins 32 = .ok (.dup, 1) := by decide +kernel
theorem dX12_joins_33 : decode cX12_joins 33 = .ok (.getfield 208, 3) := by decide +kernel
theorem dX12_joins_36 : decode cX12_joins 36 = .ok (.iconst 1, 1) := by decide +kernel
theorem dX12_joins_37 : decode cX12_joins 37 = .ok (.isub, 1) := by decide +kernel
theorem dX12_joins_38 : decode cX12_joins 38 = .ok (.putfield 208, 3) := by decide +kernel
theorem dX12_joins_41 : decode cX12_joins 41 = .ok (.goto (-41), 3) := by decide +kernel
theorem dX12_joins_44 : decode cX12_joins 44 = .ok (.return_, 1) := by decide +kernel
theorem dX12_ends_0 : decode cX12_ends 0 = .ok (.aload_n 0, 1) := by decide +kernel
theorem dX12_ends_1 : decode cX12_ends 1 = .ok (.invokevirtual 232, 3) := by decide +kernel
theorem dX12_ends_4 : decode cX12_ends 4 = .ok (.bipush 33, 2) := by decide +kernel
theorem dX12_ends_6 : decode cX12_ends 6 = .ok (.if_icmp .ne 32, 3) := by decide +kernel
theorem dX12_ends_9 : decode cX12_ends 9 = .ok (.aload_n 0, 1) := by decide +kernel
theorem dX12_ends_10 : decode cX12_ends 10 = .ok (.iconst 2, 1) := by decide +kernel
theorem dX12_ends_11 : decode cX12_ends 11 = .ok (.iconst 0, 1) := by decide +kernel
theorem dX12_ends_12 : decode cX12_ends 12 = .ok (.invokevirtual 241, 3) := by decide +kernel
theorem dX12_ends_15 : decode cX12_ends 15 = .ok (.aload_n 0, 1) := by decide +kernel
theorem dX12_ends_16 : decode cX12_ends 16 = .ok (.dup, 1) := by decide +kernel
theorem dX12_ends_17 : decode cX12_ends 17 = .ok (.getfield 208, 3) := by decide +kernel
theorem dX12_ends_20 : decode cX12_ends 20 = .ok (.iconst 1, 1) := by decide +kernel
theorem dX12_ends_21 : decode cX12_ends 21 = .ok (.isub, 1) := by decide +kernel
theorem dX12_ends_22 : decode cX12_ends 22 = .ok (.putfield 208, 3) := by decide +kernel
theorem dX12_ends_25 : decode cX12_ends 25 = .ok (.aload_n 0, 1) := by decide +kernel
theorem dX12_ends_26 : decode cX12_ends 26 = .ok (.dup, 1) := by decide +kernel
theorem dX12_ends_27 : decode cX12_ends 27 = .ok (.getfield 211, 3) := by decide +kernel
theorem dX12_ends_30 : decode cX12_ends 30 = .ok (.iconst 1, 1) := by decide +kernel
theorem dX12_ends_31 : decode cX12_ends 31 = .ok (.isub, 1) := by decide +kernel
theorem dX12_ends_32 : decode cX12_ends 32 = .ok (.putfield 211, 3) := by decide +kernel
theorem dX12_ends_35 : decode cX12_ends 35 = .ok (.goto (-35), 3) := by decide +kernel
theorem dX12_ends_38 : decode cX12_ends 38 = .ok (.return_, 1) := by decide +kernel
theorem dX12_factor_0 : decode cX12_factor 0 = .ok (.aload_n 0, 1) := by decide +kernel
theorem dX12_factor_1 : decode cX12_factor 1 = .ok (.invokevirtual 201, 3) := by decide +kernel
theorem dX12_factor_4 : decode cX12_factor 4 = .ok (.ifCond .eq 19, 3) := by decide +kernel
theorem dX12_factor_7 : decode cX12_factor 7 = .ok (.aload_n 0, 1) := by decide +kernel
theorem dX12_factor_8 : decode cX12_factor 8 = .ok (.invokevirtual 218, 3) := by decide +kernel
theorem dX12_factor_11 : decode cX12_factor 11 = .ok (.bipush 91, 2) := by decide +kernel
theorem dX12_factor_13 : decode cX12_factor 13 = .ok (.if_icmp .ne 10, 3) := by decide +kernel
theorem dX12_factor_16 : decode cX12_factor 16 = .ok (.aload_n 0, 1) := by decide +kernel
theorem dX12_factor_17 : decode cX12_factor 17 = .ok (.invokevirtual 244, 3) := by decide +kernel
theorem dX12_factor_20 : decode cX12_factor 20 = .ok (.goto (-20), 3) := by decide +kernel
theorem dX12_factor_23 : decode cX12_factor 23 = .ok (.aload_n 0, 1) := by decide +kernel
theorem dX12_factor_24 : decode cX12_factor 24 = .ok (.invokevirtual 201, 3) := by decide +kernel
theorem dX12_factor_27 : decode cX12_factor 27 = .ok (.ifCond .ne 4, 3) := by decide +kernel
theorem dX12_factor_30 : decode cX12_factor 30 = .ok (.return_, 1) := by decide +kernel
theorem dX12_factor_31 : decode cX12_factor 31 = .ok (.aload_n 0, 1) := by decide +kernel
theorem dX12_factor_32 : decode cX12_factor 32 = .ok (.invokevirtual 229, 3) := by decide +kernel
theorem dX12_factor_35 : decode cX12_factor 35 = .ok (.ifCond .eq 15, 3) := by decide +kernel
theorem dX12_factor_38 : decode cX12_factor 38 = .ok (.aload_n 0, 1) := by decide +kernel
theorem dX12_factor_39 : decode cX12_factor 39 = .ok (.iconst 0, 1) := by decide +kernel
theorem dX12_factor_40 : decode cX12_factor 40 = .ok (.aload_n 0, 1) := by decide +kernel
theorem dX12_factor_41 : decode cX12_factor 41 = .ok (.invokevirtual 247, 3) := by decide +kernel
theorem dX12_factor_44 : decode cX12_factor 44 = .ok (.invokevirtual 241, 3) := by decide +kernel
theorem dX12_factor_47 : decode cX12_factor 47 = .ok (.goto 44, 3) := by decide +kernel
theorem dX12_factor_50 : decode cX12_factor 50 = .ok (.aload_n 0, 1) := by decide +kernel
theorem dX12_factor_51 : decode cX12_factor 51 = .ok (.invokevirtual 218, 3) := by decide +kernel
theorem dX12_factor_54 : decode cX12_factor 54 = .ok (.invokestatic 250, 3) := by decide +kernel
theorem dX12_factor_57 : decode cX12_factor 57 = .ok (.ifCond .eq 25, 3) := by decide +kernel
theorem dX12_factor_60 : decode cX12_factor 60 = .ok (.aload_n 0, 1) := by decide +kernel
theorem dX12_factor_61 : decode cX12_factor 61 = .ok (.iconst 1, 1) := by decide +kernel
theorem dX12_factor_62 : decode cX12_factor 62 = .ok (.aload_n 0, 1) := by decide +kernel
theorem dX12_factor_63 : decode cX12_factor 63 = .ok (.invokevirtual 218, 3) := by decide +kernel
theorem dX12_factor_66 : decode cX12_factor 66 = .ok (.invokevirtual 241, 3) := by decide +kernel
theorem dX12_factor_69 : decode cX12_factor 69 = .ok (.aload_n 0, 1) := by decide +kernel
theorem dX12_factor_70 : decode cX12_factor 70 = .ok (.dup, 1) := by decide +kernel
theorem dX12_factor_71 : decode cX12_factor 71 = .ok (.getfield 192, 3) := by decide +kernel
theorem dX12_factor_74 : decode cX12_factor 74 = .ok (.iconst 1, 1) := by decide +kernel
theorem dX12_factor_75 : decode cX12_factor 75 = .ok (.iadd, 1) := by decide +kernel
theorem dX12_factor_76 : decode cX12_factor 76 = .ok (.putfield 192, 3) := by decide +kernel
theorem dX12_factor_79 : decode cX12_factor 79 = .ok (.goto 12, 3) := by decide +kernel
theorem dX12_factor_82 : decode cX12_factor 82 = .ok (.aload_n 0, 1) := by decide +kernel
theorem dX12_factor_83 : decode cX12_factor 83 = .ok (.iconst 1, 1) := by decide +kernel
theorem dX12_factor_84 : decode cX12_factor 84 = .ok (.aload_n 0, 1) := by decide +kernel
theorem dX12_factor_85 : decode cX12_factor 85 = .ok (.getfield 192, 3) := by decide +kernel
theorem dX12_factor_88 : decode cX12_factor 88 = .ok (.invokevirtual 214, 3) := by decide +kernel
theorem dX12_factor_91 : decode cX12_factor 91 = .ok (.return_, 1) := by decide +kernel
theorem dX12_stays_0 : decode cX12_stays 0 = .ok (.aload_n 0, 1) := by decide +kernel
theorem dX12_stays_1 : decode cX12_stays 1 = .ok (.invokevirtual 218, 3) := by decide +kernel
theorem dX12_stays_4 : decode cX12_stays 4 = .ok (.istore_n 1, 1) := by decide +kernel
theorem dX12_stays_5 : decode cX12_stays 5 = .ok (.iload_n 1, 1) := by decide +kernel
theorem dX12_stays_6 : decode cX12_stays 6 = .ok (.invokestatic 235, 3) := by decide +kernel
theorem dX12_stays_9 : decode cX12_stays 9 = .ok (.ifCond .ne 10, 3) := by decide +kernel
theorem dX12_stays_12 : decode cX12_stays 12 = .ok (.iload_n 1, 1) := by decide +kernel
theorem dX12_stays_13 : decode cX12_stays 13 = .ok (.invokestatic 238, 3) := by decide +kernel
theorem dX12_stays_16 : decode cX12_stays 16 = .ok (.ifCond .eq 18, 3) := by decide +kernel
theorem dX12_stays_19 : decode cX12_stays 19 = .ok (.aload_n 0, 1) := by decide +kernel
theorem dX12_stays_20 : decode cX12_stays 20 = .ok (.iload_n 1, 1) := by decide +kernel
theorem dX12_stays_21 : decode cX12_stays 21 = .ok (.invokestatic 238, 3) := by decide +kernel
theorem dX12_stays_24 : decode cX12_stays 24 = .ok (.invokevirtual 253, 3) := by decide +kernel
theorem dX12_stays_27 : decode cX12_stays 27 = .ok (.aload_n 0, 1) := by decide +kernel
theorem dX12_stays_28 : decode cX12_stays 28 = .ok (.iload_n 1, 1) := by decide +kernel
theorem dX12_stays_29 : decode cX12_stays 29 = .ok (.invokevirtual 222, 3) := by decide +kernel
theorem dX12_stays_32 : decode cX12_stays 32 = .ok (.iconst 1, 1) := by decide +kernel
theorem dX12_stays_33 : decode cX12_stays 33 = .ok (.ireturn, 1) := by decide +kernel
theorem dX12_stays_34 : decode cX12_stays 34 = .ok (.aload_n 0, 1) := by decide +kernel
theorem dX12_stays_35 : decode cX12_stays 35 = .ok (.iconst 1, 1) := by decide +kernel
theorem dX12_stays_36 : decode cX12_stays 36 = .ok (.invokevirtual 253, 3) := by decide +kernel
theorem dX12_stays_39 : decode cX12_stays 39 = .ok (.iload_n 1, 1) := by decide +kernel
theorem dX12_stays_40 : decode cX12_stays 40 = .ok (.bipush 93, 2) := by decide +kernel
theorem dX12_stays_42 : decode cX12_stays 42 = .ok (.if_icmp .eq 5, 3) := by decide +kernel
theorem dX12_stays_45 : decode cX12_stays 45 = .ok (.iconst 0, 1) := by decide +kernel
theorem dX12_stays_46 : decode cX12_stays 46 = .ok (.ireturn, 1) := by decide +kernel
theorem dX12_stays_47 : decode cX12_stays 47 = .ok (.aload_n 0, 1) := by decide +kernel
theorem dX12_stays_48 : decode cX12_stays 48 = .ok (.invokevirtual 232, 3) := by decide +kernel
theorem dX12_stays_51 : decode cX12_stays 51 = .ok (.bipush 91, 2) := by decide +kernel
theorem dX12_stays_53 : decode cX12_stays 53 = .ok (.if_icmp .eq 14, 3) := by decide +kernel
theorem dX12_stays_56 : decode cX12_stays 56 = .ok (.aload_n 0, 1) := by decide +kernel
theorem dX12_stays_57 : decode cX12_stays 57 = .ok (.iconst 1, 1) := by decide +kernel
theorem dX12_stays_58 : decode cX12_stays 58 = .ok (.aload_n 0, 1) := by decide +kernel
theorem dX12_stays_59 : decode cX12_stays 59 = .ok (.getfield 192, 3) := by decide +kernel
theorem dX12_stays_62 : decode cX12_stays 62 = .ok (.invokevirtual 214, 3) := by decide +kernel
theorem dX12_stays_65 : decode cX12_stays 65 = .ok (.iconst 0, 1) := by decide +kernel
theorem dX12_stays_66 : decode cX12_stays 66 = .ok (.ireturn, 1) := by decide +kernel
theorem dX12_stays_67 : decode cX12_stays 67 = .ok (.aload_n 0, 1) := by decide +kernel
theorem dX12_stays_68 : decode cX12_stays 68 = .ok (.dup, 1) := by decide +kernel
theorem dX12_stays_69 : decode cX12_stays 69 = .ok (.getfield 208, 3) := by decide +kernel
theorem dX12_stays_72 : decode cX12_stays 72 = .ok (.iconst 1, 1) := by decide +kernel
theorem dX12_stays_73 : decode cX12_stays 73 = .ok (.isub, 1) := by decide +kernel
theorem dX12_stays_74 : decode cX12_stays 74 = .ok (.putfield 208, 3) := by decide +kernel
theorem dX12_stays_77 : decode cX12_stays 77 = .ok (.aload_n 0, 1) := by decide +kernel
theorem dX12_stays_78 : decode cX12_stays 78 = .ok (.dup, 1) := by decide +kernel
theorem dX12_stays_79 : decode cX12_stays 79 = .ok (.getfield 211, 3) := by decide +kernel
theorem dX12_stays_82 : decode cX12_stays 82 = .ok (.iconst 1, 1) := by decide +kernel
theorem dX12_stays_83 : decode cX12_stays 83 = .ok (.isub, 1) := by decide +kernel
theorem dX12_stays_84 : decode cX12_stays 84 = .ok (.putfield 211, 3) := by decide +kernel
theorem dX12_stays_87 : decode cX12_stays 87 = .ok (.aload_n 0, 1) := by decide +kernel
theorem dX12_stays_88 : decode cX12_stays 88 = .ok (.dup, 1) := by decide +kernel
theorem dX12_stays_89 : decode cX12_stays 89 = .ok (.getfield 192, 3) := by decide +kernel
theorem dX12_stays_92 : decode cX12_stays 92 = .ok (.iconst 1, 1) := by decide +kernel
theorem dX12_stays_93 : decode cX12_stays 93 = .ok (.iadd, 1) := by decide +kernel
theorem dX12_stays_94 : decode cX12_stays 94 = .ok (.putfield 192, 3) := by decide +kernel
theorem dX12_stays_97 : decode cX12_stays 97 = .ok (.aload_n 0, 1) := by decide +kernel
theorem dX12_stays_98 : decode cX12_stays 98 = .ok (.iconst 1, 1) := by decide +kernel
theorem dX12_stays_99 : decode cX12_stays 99 = .ok (.putfield 257, 3) := by decide +kernel
theorem dX12_stays_102 : decode cX12_stays 102 = .ok (.iconst 1, 1) := by decide +kernel
theorem dX12_stays_103 : decode cX12_stays 103 = .ok (.ireturn, 1) := by decide +kernel
theorem dX12_value_0 : decode cX12_value 0 = .ok (.iconst 1, 1) := by decide +kernel
theorem dX12_value_1 : decode cX12_value 1 = .ok (.istore_n 1, 1) := by decide +kernel
theorem dX12_value_2 : decode cX12_value 2 = .ok (.aload_n 0, 1) := by decide +kernel
theorem dX12_value_3 : decode cX12_value 3 = .ok (.iconst 0, 1) := by decide +kernel
theorem dX12_value_4 : decode cX12_value 4 = .ok (.putfield 257, 3) := by decide +kernel
theorem dX12_value_7 : decode cX12_value 7 = .ok (.iload_n 1, 1) := by decide +kernel
theorem dX12_value_8 : decode cX12_value 8 = .ok (.ifCond .eq 49, 3) := by decide +kernel
theorem dX12_value_11 : decode cX12_value 11 = .ok (.aload_n 0, 1) := by decide +kernel
theorem dX12_value_12 : decode cX12_value 12 = .ok (.invokevirtual 201, 3) := by decide +kernel
theorem dX12_value_15 : decode cX12_value 15 = .ok (.ifCond .eq 42, 3) := by decide +kernel
theorem dX12_value_18 : decode cX12_value 18 = .ok (.aload_n 0, 1) := by decide +kernel
theorem dX12_value_19 : decode cX12_value 19 = .ok (.getfield 257, 3) := by decide +kernel
theorem dX12_value_22 : decode cX12_value 22 = .ok (.ifCond .ne 7, 3) := by decide +kernel
theorem dX12_value_25 : decode cX12_value 25 = .ok (.aload_n 0, 1) := by decide +kernel
theorem dX12_value_26 : decode cX12_value 26 = .ok (.invokevirtual 261, 3) := by decide +kernel
theorem dX12_value_29 : decode cX12_value 29 = .ok (.aload_n 0, 1) := by decide +kernel
theorem dX12_value_30 : decode cX12_value 30 = .ok (.iconst 0, 1) := by decide +kernel
theorem dX12_value_31 : decode cX12_value 31 = .ok (.putfield 257, 3) := by decide +kernel
theorem dX12_value_34 : decode cX12_value 34 = .ok (.aload_n 0, 1) := by decide +kernel
theorem dX12_value_35 : decode cX12_value 35 = .ok (.invokevirtual 201, 3) := by decide +kernel
theorem dX12_value_38 : decode cX12_value 38 = .ok (.ifCond .eq 14, 3) := by decide +kernel
theorem dX12_value_41 : decode cX12_value 41 = .ok (.aload_n 0, 1) := by decide +kernel
theorem dX12_value_42 : decode cX12_value 42 = .ok (.invokevirtual 264, 3) := by decide +kernel
theorem dX12_value_45 : decode cX12_value 45 = .ok (.ifCond .eq 7, 3) := by decide +kernel
theorem dX12_value_48 : decode cX12_value 48 = .ok (.iconst 1, 1) := by decide +kernel
theorem dX12_value_49 : decode cX12_value 49 = .ok (.goto 4, 3) := by decide +kernel
theorem dX12_value_52 : decode cX12_value 52 = .ok (.iconst 0, 1) := by decide +kernel
theorem dX12_value_53 : decode cX12_value 53 = .ok (.istore_n 1, 1) := by decide +kernel
theorem dX12_value_54 : decode cX12_value 54 = .ok (.goto (-47), 3) := by decide +kernel
theorem dX12_value_57 : decode cX12_value 57 = .ok (.aload_n 0, 1) := by decide +kernel
theorem dX12_value_58 : decode cX12_value 58 = .ok (.invokevirtual 201, 3) := by decide +kernel
theorem dX12_value_61 : decode cX12_value 61 = .ok (.ifCond .eq 21, 3) := by decide +kernel
theorem dX12_value_64 : decode cX12_value 64 = .ok (.aload_n 0, 1) := by decide +kernel
theorem dX12_value_65 : decode cX12_value 65 = .ok (.invokevirtual 232, 3) := by decide +kernel
theorem dX12_value_68 : decode cX12_value 68 = .ok (.bipush 91, 2) := by decide +kernel
theorem dX12_value_70 : decode cX12_value 70 = .ok (.if_icmp .ne 12, 3) := by decide +kernel
theorem dX12_value_73 : decode cX12_value 73 = .ok (.aload_n 0, 1) := by decide +kernel
theorem dX12_value_74 : decode cX12_value 74 = .ok (.iconst 1, 1) := by decide +kernel
theorem dX12_value_75 : decode cX12_value 75 = .ok (.aload_n 0, 1) := by decide +kernel
theorem dX12_value_76 : decode cX12_value 76 = .ok (.getfield 192, 3) := by decide +kernel
theorem dX12_value_79 : decode cX12_value 79 = .ok (.invokevirtual 214, 3) := by decide +kernel
theorem dX12_value_82 : decode cX12_value 82 = .ok (.return_, 1) := by decide +kernel
theorem dX12_pieceOfC_0 : decode cX12_pieceOfC 0 = .ok (.aload_n 0, 1) := by decide +kernel
theorem dX12_pieceOfC_1 : decode cX12_pieceOfC 1 = .ok (.invokevirtual 201, 3) := by decide +kernel
theorem dX12_pieceOfC_4 : decode cX12_pieceOfC 4 = .ok (.ifCond .eq 28, 3) := by decide +kernel
theorem dX12_pieceOfC_7 : decode cX12_pieceOfC 7 = .ok (.aload_n 0, 1) := by decide +kernel
theorem dX12_pieceOfC_8 : decode cX12_pieceOfC 8 = .ok (.invokevirtual 218, 3) := by decide +kernel
theorem dX12_pieceOfC_11 : decode cX12_pieceOfC 11 = .ok (.bipush 33, 2) := by decide +kernel
theorem dX12_pieceOfC_13 : decode cX12_pieceOfC 13 = .ok (.if_icmp .eq 12, 3) := by decide +kernel
theorem dX12_pieceOfC_16 : decode cX12_pieceOfC 16 = .ok (.aload_n 0, 1) := by decide +kernel
theorem dX12_pieceOfC_17 : decode cX12_pieceOfC 17 = .ok (.invokevirtual 218, 3) := by decide +kernel
theorem dX12_pieceOfC_20 : decode cX12_pieceOfC 20 = .ok (.bipush 40, 2) := by decide +kernel
theorem dX12_pieceOfC_22 : decode cX12_pieceOfC 22 = .ok (.if_icmp .ne 10, 3) := by decide +kernel
theorem dX12_pieceOfC_25 : decode cX12_pieceOfC 25 = .ok (.aload_n 0, 1) := by decide +kernel
theorem dX12_pieceOfC_26 : decode cX12_pieceOfC 26 = .ok (.invokevirtual 244, 3) := by decide +kernel
theorem dX12_pieceOfC_29 : decode cX12_pieceOfC 29 = .ok (.goto (-29), 3) := by decide +kernel
theorem dX12_pieceOfC_32 : decode cX12_pieceOfC 32 = .ok (.aload_n 0, 1) := by decide +kernel
theorem dX12_pieceOfC_33 : decode cX12_pieceOfC 33 = .ok (.invokevirtual 201, 3) := by decide +kernel
theorem dX12_pieceOfC_36 : decode cX12_pieceOfC 36 = .ok (.ifCond .eq 7, 3) := by decide +kernel
theorem dX12_pieceOfC_39 : decode cX12_pieceOfC 39 = .ok (.aload_n 0, 1) := by decide +kernel
theorem dX12_pieceOfC_40 : decode cX12_pieceOfC 40 = .ok (.invokevirtual 267, 3) := by decide +kernel
theorem dX12_pieceOfC_43 : decode cX12_pieceOfC 43 = .ok (.aload_n 0, 1) := by decide +kernel
theorem dX12_pieceOfC_44 : decode cX12_pieceOfC 44 = .ok (.invokevirtual 201, 3) := by decide +kernel
theorem dX12_pieceOfC_47 : decode cX12_pieceOfC 47 = .ok (.ifCond .ne 4, 3) := by decide +kernel
theorem dX12_pieceOfC_50 : decode cX12_pieceOfC 50 = .ok (.return_, 1) := by decide +kernel
theorem dX12_pieceOfC_51 : decode cX12_pieceOfC 51 = .ok (.aload_n 0, 1) := by decide +kernel
theorem dX12_pieceOfC_52 : decode cX12_pieceOfC 52 = .ok (.invokevirtual 218, 3) := by decide +kernel
theorem dX12_pieceOfC_55 : decode cX12_pieceOfC 55 = .ok (.istore_n 1, 1) := by decide +kernel
theorem dX12_pieceOfC_56 : decode cX12_pieceOfC 56 = .ok (.iload_n 1, 1) := by decide +kernel
theorem dX12_pieceOfC_57 : decode cX12_pieceOfC 57 = .ok (.invokestatic 270, 3) := by decide +kernel
theorem dX12_pieceOfC_60 : decode cX12_pieceOfC 60 = .ok (.ifCond .ne 13, 3) := by decide +kernel
theorem dX12_pieceOfC_63 : decode cX12_pieceOfC 63 = .ok (.aload_n 0, 1) := by decide +kernel
theorem dX12_pieceOfC_64 : decode cX12_pieceOfC 64 = .ok (.iconst 1, 1) := by decide +kernel
theorem dX12_pieceOfC_65 : decode cX12_pieceOfC 65 = .ok (.aload_n 0, 1) := by decide +kernel
theorem dX12_pieceOfC_66 : decode cX12_pieceOfC 66 = .ok (.getfield 192, 3) := by decide +kernel
theorem dX12_pieceOfC_69 : decode cX12_pieceOfC 69 = .ok (.invokevirtual 214, 3) := by decide +kernel
theorem dX12_pieceOfC_72 : decode cX12_pieceOfC 72 = .ok (.return_, 1) := by decide +kernel
theorem dX12_pieceOfC_73 : decode cX12_pieceOfC 73 = .ok (.aload_n 0, 1) := by decide +kernel
theorem dX12_pieceOfC_74 : decode cX12_pieceOfC 74 = .ok (.iload_n 1, 1) := by decide +kernel
theorem dX12_pieceOfC_75 : decode cX12_pieceOfC 75 = .ok (.invokevirtual 222, 3) := by decide +kernel
theorem dX12_pieceOfC_78 : decode cX12_pieceOfC 78 = .ok (.aload_n 0, 1) := by decide +kernel
theorem dX12_pieceOfC_79 : decode cX12_pieceOfC 79 = .ok (.invokevirtual 267, 3) := by decide +kernel
theorem dX12_pieceOfC_82 : decode cX12_pieceOfC 82 = .ok (.aload_n 0, 1) := by decide +kernel
theorem dX12_pieceOfC_83 : decode cX12_pieceOfC 83 = .ok (.invokevirtual 201, 3) := by decide +kernel
theorem dX12_pieceOfC_86 : decode cX12_pieceOfC 86 = .ok (.ifCond .ne 4, 3) := by decide +kernel
theorem dX12_pieceOfC_89 : decode cX12_pieceOfC 89 = .ok (.return_, 1) := by decide +kernel
theorem dX12_pieceOfC_90 : decode cX12_pieceOfC 90 = .ok (.aload_n 0, 1) := by decide +kernel
theorem dX12_pieceOfC_91 : decode cX12_pieceOfC 91 = .ok (.aload_n 0, 1) := by decide +kernel
theorem dX12_pieceOfC_92 : decode cX12_pieceOfC 92 = .ok (.invokevirtual 232, 3) := by decide +kernel
theorem dX12_pieceOfC_95 : decode cX12_pieceOfC 95 = .ok (.iconst 0, 1) := by decide +kernel
theorem dX12_pieceOfC_96 : decode cX12_pieceOfC 96 = .ok (.invokevirtual 241, 3) := by decide +kernel
theorem dX12_pieceOfC_99 : decode cX12_pieceOfC 99 = .ok (.aload_n 0, 1) := by decide +kernel
theorem dX12_pieceOfC_100 : decode cX12_pieceOfC 100 = .ok (.dup, 1) := by decide +kernel
theorem dX12_pieceOfC_101 : decode cX12_pieceOfC 101 = .ok (.getfield 208, 3) := by decide +kernel
theorem dX12_pieceOfC_104 : decode cX12_pieceOfC 104 = .ok (.iconst 1, 1) := by decide +kernel
theorem dX12_pieceOfC_105 : decode cX12_pieceOfC 105 = .ok (.isub, 1) := by decide +kernel
theorem dX12_pieceOfC_106 : decode cX12_pieceOfC 106 = .ok (.putfield 208, 3) := by decide +kernel
theorem dX12_pieceOfC_109 : decode cX12_pieceOfC 109 = .ok (.aload_n 0, 1) := by decide +kernel
theorem dX12_pieceOfC_110 : decode cX12_pieceOfC 110 = .ok (.invokevirtual 273, 3) := by decide +kernel
theorem dX12_pieceOfC_113 : decode cX12_pieceOfC 113 = .ok (.return_, 1) := by decide +kernel
theorem dX12_goesBehind_0 : decode cX12_goesBehind 0 = .ok (.aload_n 0, 1) := by decide +kernel
theorem dX12_goesBehind_1 : decode cX12_goesBehind 1 = .ok (.invokevirtual 218, 3) := by decide +kernel
theorem dX12_goesBehind_4 : decode cX12_goesBehind 4 = .ok (.istore_n 1, 1) := by decide +kernel
theorem dX12_goesBehind_5 : decode cX12_goesBehind 5 = .ok (.iload_n 1, 1) := by decide +kernel
theorem dX12_goesBehind_6 : decode cX12_goesBehind 6 = .ok (.bipush 38, 2) := by decide +kernel
theorem dX12_goesBehind_8 : decode cX12_goesBehind 8 = .ok (.if_icmp .eq 9, 3) := by decide +kernel
theorem dX12_goesBehind_11 : decode cX12_goesBehind 11 = .ok (.iload_n 1, 1) := by decide +kernel
theorem dX12_goesBehind_12 : decode cX12_goesBehind 12 = .ok (.bipush 124, 2) := by decide +kernel
theorem dX12_goesBehind_14 : decode cX12_goesBehind 14 = .ok (.if_icmp .ne 25, 3) := by decide +kernel
theorem dX12_goesBehind_17 : decode cX12_goesBehind 17 = .ok (.aload_n 0, 1) := by decide +kernel
theorem dX12_goesBehind_18 : decode cX12_goesBehind 18 = .ok (.iload_n 1, 1) := by decide +kernel
theorem dX12_goesBehind_19 : decode cX12_goesBehind 19 = .ok (.bipush 124, 2) := by decide +kernel
theorem dX12_goesBehind_21 : decode cX12_goesBehind 21 = .ok (.if_icmp .ne 7, 3) := by decide +kernel
theorem dX12_goesBehind_24 : decode cX12_goesBehind 24 = .ok (.iconst 1, 1) := by decide +kernel
theorem dX12_goesBehind_25 : decode cX12_goesBehind 25 = .ok (.goto 4, 3) := by decide +kernel
theorem dX12_goesBehind_28 : decode cX12_goesBehind 28 = .ok (.iconst 0, 1) := by decide +kernel
theorem dX12_goesBehind_29 : decode cX12_goesBehind 29 = .ok (.invokevirtual 276, 3) := by decide +kernel
theorem dX12_goesBehind_32 : decode cX12_goesBehind 32 = .ok (.aload_n 0, 1) := by decide +kernel
theorem dX12_goesBehind_33 : decode cX12_goesBehind 33 = .ok (.iload_n 1, 1) := by decide +kernel
theorem dX12_goesBehind_34 : decode cX12_goesBehind 34 = .ok (.invokevirtual 222, 3) := by decide +kernel
theorem dX12_goesBehind_37 : decode cX12_goesBehind 37 = .ok (.iconst 1, 1) := by decide +kernel
theorem dX12_goesBehind_38 : decode cX12_goesBehind 38 = .ok (.ireturn, 1) := by decide +kernel
theorem dX12_goesBehind_39 : decode cX12_goesBehind 39 = .ok (.iload_n 1, 1) := by decide +kernel
theorem dX12_goesBehind_40 : decode cX12_goesBehind 40 = .ok (.bipush 41, 2) := by decide +kernel
theorem dX12_goesBehind_42 : decode cX12_goesBehind 42 = .ok (.if_icmp .eq 14, 3) := by decide +kernel
theorem dX12_goesBehind_45 : decode cX12_goesBehind 45 = .ok (.aload_n 0, 1) := by decide +kernel
theorem dX12_goesBehind_46 : decode cX12_goesBehind 46 = .ok (.iconst 1, 1) := by decide +kernel
theorem dX12_goesBehind_47 : decode cX12_goesBehind 47 = .ok (.aload_n 0, 1) := by decide +kernel
theorem dX12_goesBehind_48 : decode cX12_goesBehind 48 = .ok (.getfield 192, 3) := by decide +kernel
theorem dX12_goesBehind_51 : decode cX12_goesBehind 51 = .ok (.invokevirtual 214, 3) := by decide +kernel
theorem dX12_goesBehind_54 : decode cX12_goesBehind 54 = .ok (.iconst 0, 1) := by decide +kernel
theorem dX12_goesBehind_55 : decode cX12_goesBehind 55 = .ok (.ireturn, 1) := by decide +kernel
theorem dX12_goesBehind_56 : decode cX12_goesBehind 56 = .ok (.aload_n 0, 1) := by decide +kernel
theorem dX12_goesBehind_57 : decode cX12_goesBehind 57 = .ok (.iconst 1, 1) := by decide +kernel
theorem dX12_goesBehind_58 : decode cX12_goesBehind 58 = .ok (.invokevirtual 276, 3) := by decide +kernel
theorem dX12_goesBehind_61 : decode cX12_goesBehind 61 = .ok (.aload_n 0, 1) := by decide +kernel
theorem dX12_goesBehind_62 : decode cX12_goesBehind 62 = .ok (.dup, 1) := by decide +kernel
theorem dX12_goesBehind_63 : decode cX12_goesBehind 63 = .ok (.getfield 208, 3) := by decide +kernel
theorem dX12_goesBehind_66 : decode cX12_goesBehind 66 = .ok (.iconst 1, 1) := by decide +kernel
theorem dX12_goesBehind_67 : decode cX12_goesBehind 67 = .ok (.isub, 1) := by decide +kernel
theorem dX12_goesBehind_68 : decode cX12_goesBehind 68 = .ok (.putfield 208, 3) := by decide +kernel
theorem dX12_goesBehind_71 : decode cX12_goesBehind 71 = .ok (.aload_n 0, 1) := by decide +kernel
theorem dX12_goesBehind_72 : decode cX12_goesBehind 72 = .ok (.dup, 1) := by decide +kernel
theorem dX12_goesBehind_73 : decode cX12_goesBehind 73 = .ok (.getfield 211, 3) := by decide +kernel
theorem dX12_goesBehind_76 : decode cX12_goesBehind 76 = .ok (.iconst 1, 1) := by decide +kernel
theorem dX12_goesBehind_77 : decode cX12_goesBehind 77 = .ok (.isub, 1) := by decide +kernel
theorem dX12_goesBehind_78 : decode cX12_goesBehind 78 = .ok (.putfield 211, 3) := by decide +kernel
theorem dX12_goesBehind_81 : decode cX12_goesBehind 81 = .ok (.aload_n 0, 1) := by decide +kernel
theorem dX12_goesBehind_82 : decode cX12_goesBehind 82 = .ok (.dup, 1) := by decide +kernel
theorem dX12_goesBehind_83 : decode cX12_goesBehind 83 = .ok (.getfield 192, 3) := by decide +kernel
theorem dX12_goesBehind_86 : decode cX12_goesBehind 86 = .ok (.iconst 1, 1) := by decide +kernel
theorem dX12_goesBehind_87 : decode cX12_goesBehind 87 = .ok (.iadd, 1) := by decide +kernel
theorem dX12_goesBehind_88 : decode cX12_goesBehind 88 = .ok (.putfield 192, 3) := by decide +kernel
theorem dX12_goesBehind_91 : decode cX12_goesBehind 91 = .ok (.aload_n 0, 1) := by decide +kernel
theorem dX12_goesBehind_92 : decode cX12_goesBehind 92 = .ok (.aload_n 0, 1) := by decide +kernel
theorem dX12_goesBehind_93 : decode cX12_goesBehind 93 = .ok (.getfield 208, 3) := by decide +kernel
theorem dX12_goesBehind_96 : decode cX12_goesBehind 96 = .ok (.ifCond .ne 7, 3) := by decide +kernel
theorem dX12_goesBehind_99 : decode cX12_goesBehind 99 = .ok (.iconst 1, 1) := by decide +kernel
theorem dX12_goesBehind_100 : decode cX12_goesBehind 100 = .ok (.goto 4, 3) := by decide +kernel
theorem dX12_goesBehind_103 : decode cX12_goesBehind 103 = .ok (.iconst 0, 1) := by decide +kernel
theorem dX12_goesBehind_104 : decode cX12_goesBehind 104 = .ok (.putfield 279, 3) := by decide +kernel
theorem dX12_goesBehind_107 : decode cX12_goesBehind 107 = .ok (.aload_n 0, 1) := by decide +kernel
theorem dX12_goesBehind_108 : decode cX12_goesBehind 108 = .ok (.getfield 279, 3) := by decide +kernel
theorem dX12_goesBehind_111 : decode cX12_goesBehind 111 = .ok (.ifCond .ne 7, 3) := by decide +kernel
theorem dX12_goesBehind_114 : decode cX12_goesBehind 114 = .ok (.aload_n 0, 1) := by decide +kernel
theorem dX12_goesBehind_115 : decode cX12_goesBehind 115 = .ok (.invokevirtual 273, 3) := by decide +kernel
theorem dX12_goesBehind_118 : decode cX12_goesBehind 118 = .ok (.iconst 0, 1) := by decide +kernel
theorem dX12_goesBehind_119 : decode cX12_goesBehind 119 = .ok (.ireturn, 1) := by decide +kernel
theorem dX12_condition_0 : decode cX12_condition 0 = .ok (.aload_n 0, 1) := by decide +kernel
theorem dX12_condition_1 : decode cX12_condition 1 = .ok (.iconst 0, 1) := by decide +kernel
theorem dX12_condition_2 : decode cX12_condition 2 = .ok (.putfield 279, 3) := by decide +kernel
theorem dX12_condition_5 : decode cX12_condition 5 = .ok (.aload_n 0, 1) := by decide +kernel
theorem dX12_condition_6 : decode cX12_condition 6 = .ok (.invokevirtual 218, 3) := by decide +kernel
theorem dX12_condition_9 : decode cX12_condition 9 = .ok (.bipush 40, 2) := by decide +kernel
theorem dX12_condition_11 : decode cX12_condition 11 = .ok (.if_icmp .eq 12, 3) := by decide +kernel
theorem dX12_condition_14 : decode cX12_condition 14 = .ok (.aload_n 0, 1) := by decide +kernel
theorem dX12_condition_15 : decode cX12_condition 15 = .ok (.iconst 1, 1) := by decide +kernel
theorem dX12_condition_16 : decode cX12_condition 16 = .ok (.aload_n 0, 1) := by decide +kernel
theorem dX12_condition_17 : decode cX12_condition 17 = .ok (.getfield 192, 3) := by decide +kernel
theorem dX12_condition_20 : decode cX12_condition 20 = .ok (.invokevirtual 214, 3) := by decide +kernel
theorem dX12_condition_23 : decode cX12_condition 23 = .ok (.aload_n 0, 1) := by decide +kernel
theorem dX12_condition_24 : decode cX12_condition 24 = .ok (.invokevirtual 201, 3) := by decide +kernel
theorem dX12_condition_27 : decode cX12_condition 27 = .ok (.ifCond .ne 4, 3) := by decide +kernel
theorem dX12_condition_30 : decode cX12_condition 30 = .ok (.return_, 1) := by decide +kernel
theorem dX12_condition_31 : decode cX12_condition 31 = .ok (.aload_n 0, 1) := by decide +kernel
theorem dX12_condition_32 : decode cX12_condition 32 = .ok (.invokevirtual 244, 3) := by decide +kernel
theorem dX12_condition_35 : decode cX12_condition 35 = .ok (.iconst 1, 1) := by decide +kernel
theorem dX12_condition_36 : decode cX12_condition 36 = .ok (.istore_n 1, 1) := by decide +kernel
theorem dX12_condition_37 : decode cX12_condition 37 = .ok (.aload_n 0, 1) := by decide +kernel
theorem dX12_condition_38 : decode cX12_condition 38 = .ok (.invokevirtual 201, 3) := by decide +kernel
theorem dX12_condition_41 : decode cX12_condition 41 = .ok (.ifCond .eq 33, 3) := by decide +kernel
theorem dX12_condition_44 : decode cX12_condition 44 = .ok (.aload_n 0, 1) := by decide +kernel
theorem dX12_condition_45 : decode cX12_condition 45 = .ok (.getfield 279, 3) := by decide +kernel
theorem dX12_condition_48 : decode cX12_condition 48 = .ok (.ifCond .ne 26, 3) := by decide +kernel
theorem dX12_condition_51 : decode cX12_condition 51 = .ok (.iload_n 1, 1) := by decide +kernel
theorem dX12_condition_52 : decode cX12_condition 52 = .ok (.ifCond .eq 7, 3) := by decide +kernel
theorem dX12_condition_55 : decode cX12_condition 55 = .ok (.aload_n 0, 1) := by decide +kernel
theorem dX12_condition_56 : decode cX12_condition 56 = .ok (.invokevirtual 282, 3) := by decide +kernel
theorem dX12_condition_59 : decode cX12_condition 59 = .ok (.aload_n 0, 1) := by decide +kernel
theorem dX12_condition_60 : decode cX12_condition 60 = .ok (.invokevirtual 201, 3) := by decide +kernel
theorem dX12_condition_63 : decode cX12_condition 63 = .ok (.ifCond .eq (-26), 3) := by decide +kernel
theorem dX12_condition_66 : decode cX12_condition 66 = .ok (.aload_n 0, 1) := by decide +kernel
theorem dX12_condition_67 : decode cX12_condition 67 = .ok (.invokevirtual 285, 3) := by decide +kernel
theorem dX12_condition_70 : decode cX12_condition 70 = .ok (.istore_n 1, 1) := by decide +kernel
theorem dX12_condition_71 : decode cX12_condition 71 = .ok (.goto (-34), 3) := by decide +kernel
theorem dX12_condition_74 : decode cX12_condition 74 = .ok (.return_, 1) := by decide +kernel
theorem dX12_clause_0 : decode cX12_clause 0 = .ok (.aload_n 0, 1) := by decide +kernel
theorem dX12_clause_1 : decode cX12_clause 1 = .ok (.invokevirtual 218, 3) := by decide +kernel
theorem dX12_clause_4 : decode cX12_clause 4 = .ok (.istore_n 1, 1) := by decide +kernel
theorem dX12_clause_5 : decode cX12_clause 5 = .ok (.iload_n 1, 1) := by decide +kernel
theorem dX12_clause_6 : decode cX12_clause 6 = .ok (.bipush 113, 2) := by decide +kernel
theorem dX12_clause_8 : decode cX12_clause 8 = .ok (.if_icmp .eq 27, 3) := by decide +kernel
theorem dX12_clause_11 : decode cX12_clause 11 = .ok (.iload_n 1, 1) := by decide +kernel
theorem dX12_clause_12 : decode cX12_clause 12 = .ok (.bipush 100, 2) := by decide +kernel
theorem dX12_clause_14 : decode cX12_clause 14 = .ok (.if_icmp .eq 21, 3) := by decide +kernel
theorem dX12_clause_17 : decode cX12_clause 17 = .ok (.iload_n 1, 1) := by decide +kernel
theorem dX12_clause_18 : decode cX12_clause 18 = .ok (.bipush 103, 2) := by decide +kernel
theorem dX12_clause_20 : decode cX12_clause 20 = .ok (.if_icmp .eq 15, 3) := by decide +kernel
theorem dX12_clause_23 : decode cX12_clause 23 = .ok (.aload_n 0, 1) := by decide +kernel
theorem dX12_clause_24 : decode cX12_clause 24 = .ok (.iconst 1, 1) := by decide +kernel
theorem dX12_clause_25 : decode cX12_clause 25 = .ok (.aload_n 0, 1) := by decide +kernel
theorem dX12_clause_26 : decode cX12_clause 26 = .ok (.getfield 192, 3) := by decide +kernel
theorem dX12_clause_29 : decode cX12_clause 29 = .ok (.invokevirtual 214, 3) := by decide +kernel
theorem dX12_clause_32 : decode cX12_clause 32 = .ok (.goto 21, 3) := by decide +kernel
theorem dX12_clause_35 : decode cX12_clause 35 = .ok (.aload_n 0, 1) := by decide +kernel
theorem dX12_clause_36 : decode cX12_clause 36 = .ok (.getfield 288, 3) := by decide +kernel
theorem dX12_clause_39 : decode cX12_clause 39 = .ok (.bipush 12, 2) := by decide +kernel
theorem dX12_clause_41 : decode cX12_clause 41 = .ok (.if_icmp .ne 12, 3) := by decide +kernel
theorem dX12_clause_44 : decode cX12_clause 44 = .ok (.aload_n 0, 1) := by decide +kernel
theorem dX12_clause_45 : decode cX12_clause 45 = .ok (.iconst 4, 1) := by decide +kernel
theorem dX12_clause_46 : decode cX12_clause 46 = .ok (.aload_n 0, 1) := by decide +kernel
theorem dX12_clause_47 : decode cX12_clause 47 = .ok (.getfield 192, 3) := by decide +kernel
theorem dX12_clause_50 : decode cX12_clause 50 = .ok (.invokevirtual 214, 3) := by decide +kernel
theorem dX12_clause_53 : decode cX12_clause 53 = .ok (.aload_n 0, 1) := by decide +kernel
theorem dX12_clause_54 : decode cX12_clause 54 = .ok (.invokevirtual 201, 3) := by decide +kernel
theorem dX12_clause_57 : decode cX12_clause 57 = .ok (.ifCond .ne 4, 3) := by decide +kernel
theorem dX12_clause_60 : decode cX12_clause 60 = .ok (.return_, 1) := by decide +kernel
theorem dX12_clause_61 : decode cX12_clause 61 = .ok (.aload_n 0, 1) := by decide +kernel
theorem dX12_clause_62 : decode cX12_clause 62 = .ok (.getfield 53, 3) := by decide +kernel
theorem dX12_clause_65 : decode cX12_clause 65 = .ok (.aload_n 0, 1) := by decide +kernel
theorem dX12_clause_66 : decode cX12_clause 66 = .ok (.getfield 288, 3) := by decide +kernel
theorem dX12_clause_69 : decode cX12_clause 69 = .ok (.iload_n 1, 1) := by decide +kernel
theorem dX12_clause_70 : decode cX12_clause 70 = .ok (.iastore, 1) := by decide +kernel
theorem dX12_clause_71 : decode cX12_clause 71 = .ok (.aload_n 0, 1) := by decide +kernel
theorem dX12_clause_72 : decode cX12_clause 72 = .ok (.getfield 56, 3) := by decide +kernel
theorem dX12_clause_75 : decode cX12_clause 75 = .ok (.aload_n 0, 1) := by decide +kernel
theorem dX12_clause_76 : decode cX12_clause 76 = .ok (.getfield 288, 3) := by decide +kernel
theorem dX12_clause_79 : decode cX12_clause 79 = .ok (.aload_n 0, 1) := by decide +kernel
theorem dX12_clause_80 : decode cX12_clause 80 = .ok (.getfield 205, 3) := by decide +kernel
theorem dX12_clause_83 : decode cX12_clause 83 = .ok (.iastore, 1) := by decide +kernel
theorem dX12_clause_84 : decode cX12_clause 84 = .ok (.aload_n 0, 1) := by decide +kernel
theorem dX12_clause_85 : decode cX12_clause 85 = .ok (.dup, 1) := by decide +kernel
theorem dX12_clause_86 : decode cX12_clause 86 = .ok (.getfield 192, 3) := by decide +kernel
theorem dX12_clause_89 : decode cX12_clause 89 = .ok (.iconst 1, 1) := by decide +kernel
theorem dX12_clause_90 : decode cX12_clause 90 = .ok (.iadd, 1) := by decide +kernel
theorem dX12_clause_91 : decode cX12_clause 91 = .ok (.putfield 192, 3) := by decide +kernel
theorem dX12_clause_94 : decode cX12_clause 94 = .ok (.aload_n 0, 1) := by decide +kernel
theorem dX12_clause_95 : decode cX12_clause 95 = .ok (.iconst 0, 1) := by decide +kernel
theorem dX12_clause_96 : decode cX12_clause 96 = .ok (.putfield 208, 3) := by decide +kernel
theorem dX12_clause_99 : decode cX12_clause 99 = .ok (.aload_n 0, 1) := by decide +kernel
theorem dX12_clause_100 : decode cX12_clause 100 = .ok (.iconst 0, 1) := by decide +kernel
theorem dX12_clause_101 : decode cX12_clause 101 = .ok (.putfield 211, 3) := by decide +kernel
theorem dX12_clause_104 : decode cX12_clause 104 = .ok (.aload_n 0, 1) := by decide +kernel
theorem dX12_clause_105 : decode cX12_clause 105 = .ok (.invokevirtual 267, 3) := by decide +kernel
theorem dX12_clause_108 : decode cX12_clause 108 = .ok (.aload_n 0, 1) := by decide +kernel
theorem dX12_clause_109 : decode cX12_clause 109 = .ok (.getfield 59, 3) := by decide +kernel
theorem dX12_clause_112 : decode cX12_clause 112 = .ok (.aload_n 0, 1) := by decide +kernel
theorem dX12_clause_113 : decode cX12_clause 113 = .ok (.getfield 288, 3) := by decide +kernel
theorem dX12_clause_116 : decode cX12_clause 116 = .ok (.aload_n 0, 1) := by decide +kernel
theorem dX12_clause_117 : decode cX12_clause 117 = .ok (.getfield 205, 3) := by decide +kernel
theorem dX12_clause_120 : decode cX12_clause 120 = .ok (.iastore, 1) := by decide +kernel
theorem dX12_clause_121 : decode cX12_clause 121 = .ok (.aload_n 0, 1) := by decide +kernel
theorem dX12_clause_122 : decode cX12_clause 122 = .ok (.invokevirtual 201, 3) := by decide +kernel
theorem dX12_clause_125 : decode cX12_clause 125 = .ok (.ifCond .eq 7, 3) := by decide +kernel
theorem dX12_clause_128 : decode cX12_clause 128 = .ok (.aload_n 0, 1) := by decide +kernel
theorem dX12_clause_129 : decode cX12_clause 129 = .ok (.invokevirtual 291, 3) := by decide +kernel
theorem dX12_clause_132 : decode cX12_clause 132 = .ok (.aload_n 0, 1) := by decide +kernel
theorem dX12_clause_133 : decode cX12_clause 133 = .ok (.getfield 62, 3) := by decide +kernel
theorem dX12_clause_136 : decode cX12_clause 136 = .ok (.aload_n 0, 1) := by decide +kernel
theorem dX12_clause_137 : decode cX12_clause 137 = .ok (.getfield 288, 3) := by decide +kernel
theorem dX12_clause_140 : decode cX12_clause 140 = .ok (.aload_n 0, 1) := by decide +kernel
theorem dX12_clause_141 : decode cX12_clause 141 = .ok (.getfield 205, 3) := by decide +kernel
theorem dX12_clause_144 : decode cX12_clause 144 = .ok (.iastore, 1) := by decide +kernel
theorem dX12_clause_145 : decode cX12_clause 145 = .ok (.aload_n 0, 1) := by decide +kernel
theorem dX12_clause_146 : decode cX12_clause 146 = .ok (.dup, 1) := by decide +kernel
theorem dX12_clause_147 : decode cX12_clause 147 = .ok (.getfield 288, 3) := by decide +kernel
theorem dX12_clause_150 : decode cX12_clause 150 = .ok (.iconst 1, 1) := by decide +kernel
theorem dX12_clause_151 : decode cX12_clause 151 = .ok (.iadd, 1) := by decide +kernel
theorem dX12_clause_152 : decode cX12_clause 152 = .ok (.putfield 288, 3) := by decide +kernel
theorem dX12_clause_155 : decode cX12_clause 155 = .ok (.return_, 1) := by decide +kernel
theorem dX12_law_0 : decode cX12_law 0 = .ok (.iload_n 1, 1) := by decide +kernel
theorem dX12_law_1 : decode cX12_law 1 = .ok (.i2l, 1) := by decide +kernel
theorem dX12_law_2 : decode cX12_law 2 = .ok (.lconst 1, 1) := by decide +kernel
theorem dX12_law_3 : decode cX12_law 3 = .ok (.ldc2_w 294, 3) := by decide +kernel
theorem dX12_law_6 : decode cX12_law 6 = .ok (.invokestatic 164, 3) := by decide +kernel
theorem dX12_law_9 : decode cX12_law 9 = .ok (.ifCond .eq 11, 3) := by decide +kernel
theorem dX12_law_12 : decode cX12_law 12 = .ok (.iload_n 1, 1) := by decide +kernel
theorem dX12_law_13 : decode cX12_law 13 = .ok (.aload_n 0, 1) := by decide +kernel
theorem dX12_law_14 : decode cX12_law 14 = .ok (.getfield 185, 3) := by decide +kernel
theorem dX12_law_17 : decode cX12_law 17 = .ok (.if_icmp .le 5, 3) := by decide +kernel
theorem dX12_law_20 : decode cX12_law 20 = .ok (.iconst (-1), 1) := by decide +kernel
theorem dX12_law_21 : decode cX12_law 21 = .ok (.ireturn, 1) := by decide +kernel
theorem dX12_law_22 : decode cX12_law 22 = .ok (.aload_n 0, 1) := by decide +kernel
theorem dX12_law_23 : decode cX12_law 23 = .ok (.iconst 0, 1) := by decide +kernel
theorem dX12_law_24 : decode cX12_law 24 = .ok (.putfield 185, 3) := by decide +kernel
theorem dX12_law_27 : decode cX12_law 27 = .ok (.aload_n 0, 1) := by decide +kernel
theorem dX12_law_28 : decode cX12_law 28 = .ok (.iconst 0, 1) := by decide +kernel
theorem dX12_law_29 : decode cX12_law 29 = .ok (.putfield 192, 3) := by decide +kernel
theorem dX12_law_32 : decode cX12_law 32 = .ok (.aload_n 0, 1) := by decide +kernel
theorem dX12_law_33 : decode cX12_law 33 = .ok (.iload_n 1, 1) := by decide +kernel
theorem dX12_law_34 : decode cX12_law 34 = .ok (.putfield 195, 3) := by decide +kernel
theorem dX12_law_37 : decode cX12_law 37 = .ok (.aload_n 0, 1) := by decide +kernel
theorem dX12_law_38 : decode cX12_law 38 = .ok (.iconst 0, 1) := by decide +kernel
theorem dX12_law_39 : decode cX12_law 39 = .ok (.putfield 198, 3) := by decide +kernel
theorem dX12_law_42 : decode cX12_law 42 = .ok (.aload_n 0, 1) := by decide +kernel
theorem dX12_law_43 : decode cX12_law 43 = .ok (.iconst 0, 1) := by decide +kernel
theorem dX12_law_44 : decode cX12_law 44 = .ok (.putfield 288, 3) := by decide +kernel
theorem dX12_law_47 : decode cX12_law 47 = .ok (.aload_n 0, 1) := by decide +kernel
theorem dX12_law_48 : decode cX12_law 48 = .ok (.iconst 0, 1) := by decide +kernel
theorem dX12_law_49 : decode cX12_law 49 = .ok (.putfield 205, 3) := by decide +kernel
theorem dX12_law_52 : decode cX12_law 52 = .ok (.iconst 1, 1) := by decide +kernel
theorem dX12_law_53 : decode cX12_law 53 = .ok (.istore_n 2, 1) := by decide +kernel
theorem dX12_law_54 : decode cX12_law 54 = .ok (.iload_n 2, 1) := by decide +kernel
theorem dX12_law_55 : decode cX12_law 55 = .ok (.ifCond .eq 73, 3) := by decide +kernel
theorem dX12_law_58 : decode cX12_law 58 = .ok (.aload_n 0, 1) := by decide +kernel
theorem dX12_law_59 : decode cX12_law 59 = .ok (.invokevirtual 201, 3) := by decide +kernel
theorem dX12_law_62 : decode cX12_law 62 = .ok (.ifCond .eq 66, 3) := by decide +kernel
theorem dX12_law_65 : decode cX12_law 65 = .ok (.aload_n 0, 1) := by decide +kernel
theorem dX12_law_66 : decode cX12_law 66 = .ok (.invokevirtual 296, 3) := by decide +kernel
theorem dX12_law_69 : decode cX12_law 69 = .ok (.aload_n 0, 1) := by decide +kernel
theorem dX12_law_70 : decode cX12_law 70 = .ok (.invokevirtual 201, 3) := by decide +kernel
theorem dX12_law_73 : decode cX12_law 73 = .ok (.ifCond .eq 18, 3) := by decide +kernel
theorem dX12_law_76 : decode cX12_law 76 = .ok (.aload_n 0, 1) := by decide +kernel
theorem dX12_law_77 : decode cX12_law 77 = .ok (.getfield 192, 3) := by decide +kernel
theorem dX12_law_80 : decode cX12_law 80 = .ok (.aload_n 0, 1) := by decide +kernel
theorem dX12_law_81 : decode cX12_law 81 = .ok (.getfield 195, 3) := by decide +kernel
theorem dX12_law_84 : decode cX12_law 84 = .ok (.if_icmp .ge 7, 3) := by decide +kernel
theorem dX12_law_87 : decode cX12_law 87 = .ok (.iconst 1, 1) := by decide +kernel
theorem dX12_law_88 : decode cX12_law 88 = .ok (.goto 4, 3) := by decide +kernel
theorem dX12_law_91 : decode cX12_law 91 = .ok (.iconst 0, 1) := by decide +kernel
theorem dX12_law_92 : decode cX12_law 92 = .ok (.istore_n 2, 1) := by decide +kernel
theorem dX12_law_93 : decode cX12_law 93 = .ok (.iload_n 2, 1) := by decide +kernel
theorem dX12_law_94 : decode cX12_law 94 = .ok (.ifCond .eq (-40), 3) := by decide +kernel
theorem dX12_law_97 : decode cX12_law 97 = .ok (.aload_n 0, 1) := by decide +kernel
theorem dX12_law_98 : decode cX12_law 98 = .ok (.invokevirtual 218, 3) := by decide +kernel
theorem dX12_law_101 : decode cX12_law 101 = .ok (.bipush 59, 2) := by decide +kernel
theorem dX12_law_103 : decode cX12_law 103 = .ok (.if_icmp .eq 12, 3) := by decide +kernel
theorem dX12_law_106 : decode cX12_law 106 = .ok (.aload_n 0, 1) := by decide +kernel
theorem dX12_law_107 : decode cX12_law 107 = .ok (.iconst 1, 1) := by decide +kernel
theorem dX12_law_108 : decode cX12_law 108 = .ok (.aload_n 0, 1) := by decide +kernel
theorem dX12_law_109 : decode cX12_law 109 = .ok (.getfield 192, 3) := by decide +kernel
theorem dX12_law_112 : decode cX12_law 112 = .ok (.invokevirtual 214, 3) := by decide +kernel
theorem dX12_law_115 : decode cX12_law 115 = .ok (.aload_n 0, 1) := by decide +kernel
theorem dX12_law_116 : decode cX12_law 116 = .ok (.dup, 1) := by decide +kernel
theorem dX12_law_117 : decode cX12_law 117 = .ok (.getfield 192, 3) := by decide +kernel
theorem dX12_law_120 : decode cX12_law 120 = .ok (.iconst 1, 1) := by decide +kernel
theorem dX12_law_121 : decode cX12_law 121 = .ok (.iadd, 1) := by decide +kernel
theorem dX12_law_122 : decode cX12_law 122 = .ok (.putfield 192, 3) := by decide +kernel
theorem dX12_law_125 : decode cX12_law 125 = .ok (.goto (-71), 3) := by decide +kernel
theorem dX12_law_128 : decode cX12_law 128 = .ok (.aload_n 0, 1) := by decide +kernel
theorem dX12_law_129 : decode cX12_law 129 = .ok (.getfield 198, 3) := by decide +kernel
theorem dX12_law_132 : decode cX12_law 132 = .ok (.ifCond .ge 8, 3) := by decide +kernel
theorem dX12_law_135 : decode cX12_law 135 = .ok (.aload_n 0, 1) := by decide +kernel
theorem dX12_law_136 : decode cX12_law 136 = .ok (.getfield 198, 3) := by decide +kernel
theorem dX12_law_139 : decode cX12_law 139 = .ok (.ireturn, 1) := by decide +kernel
theorem dX12_law_140 : decode cX12_law 140 = .ok (.iconst 0, 1) := by decide +kernel
theorem dX12_law_141 : decode cX12_law 141 = .ok (.istore_n 3, 1) := by decide +kernel
theorem dX12_law_142 : decode cX12_law 142 = .ok (.iload_n 3, 1) := by decide +kernel
theorem dX12_law_143 : decode cX12_law 143 = .ok (.aload_n 0, 1) := by decide +kernel
theorem dX12_law_144 : decode cX12_law 144 = .ok (.getfield 288, 3) := by decide +kernel
theorem dX12_law_147 : decode cX12_law 147 = .ok (.if_icmp .ge 57, 3) := by decide +kernel
theorem dX12_law_150 : decode cX12_law 150 = .ok (.aload_n 0, 1) := by decide +kernel
theorem dX12_law_151 : decode cX12_law 151 = .ok (.getfield 35, 3) := by decide +kernel
theorem dX12_law_154 : decode cX12_law 154 = .ok (.iload_n 3, 1) := by decide +kernel
theorem dX12_law_155 : decode cX12_law 155 = .ok (.aload_n 0, 1) := by decide +kernel
theorem dX12_law_156 : decode cX12_law 156 = .ok (.getfield 53, 3) := by decide +kernel
theorem dX12_law_159 : decode cX12_law 159 = .ok (.iload_n 3, 1) := by decide +kernel
theorem dX12_law_160 : decode cX12_law 160 = .ok (.iaload, 1) := by decide +kernel
theorem dX12_law_161 : decode cX12_law 161 = .ok (.iastore, 1) := by decide +kernel
theorem dX12_law_162 : decode cX12_law 162 = .ok (.aload_n 0, 1) := by decide +kernel
theorem dX12_law_163 : decode cX12_law 163 = .ok (.getfield 38, 3) := by decide +kernel
theorem dX12_law_166 : decode cX12_law 166 = .ok (.iload_n 3, 1) := by decide +kernel
theorem dX12_law_167 : decode cX12_law 167 = .ok (.aload_n 0, 1) := by decide +kernel
theorem dX12_law_168 : decode cX12_law 168 = .ok (.getfield 56, 3) := by decide +kernel
theorem dX12_law_171 : decode cX12_law 171 = .ok (.iload_n 3, 1) := by decide +kernel
theorem dX12_law_172 : decode cX12_law 172 = .ok (.iaload, 1) := by decide +kernel
theorem dX12_law_173 : decode cX12_law 173 = .ok (.iastore, 1) := by decide +kernel
theorem dX12_law_174 : decode cX12_law 174 = .ok (.aload_n 0, 1) := by decide +kernel
theorem dX12_law_175 : decode cX12_law 175 = .ok (.getfield 41, 3) := by decide +kernel
theorem dX12_law_178 : decode cX12_law 178 = .ok (.iload_n 3, 1) := by decide +kernel
theorem dX12_law_179 : decode cX12_law 179 = .ok (.aload_n 0, 1) := by decide +kernel
theorem dX12_law_180 : decode cX12_law 180 = .ok (.getfield 59, 3) := by decide +kernel
theorem dX12_law_183 : decode cX12_law 183 = .ok (.iload_n 3, 1) := by decide +kernel
theorem dX12_law_184 : decode cX12_law 184 = .ok (.iaload, 1) := by decide +kernel
theorem dX12_law_185 : decode cX12_law 185 = .ok (.iastore, 1) := by decide +kernel
theorem dX12_law_186 : decode cX12_law 186 = .ok (.aload_n 0, 1) := by decide +kernel
theorem dX12_law_187 : decode cX12_law 187 = .ok (.getfield 44, 3) := by decide +kernel
theorem dX12_law_190 : decode cX12_law 190 = .ok (.iload_n 3, 1) := by decide +kernel
theorem dX12_law_191 : decode cX12_law 191 = .ok (.aload_n 0, 1) := by decide +kernel
theorem dX12_law_192 : decode cX12_law 192 = .ok (.getfield 62, 3) := by decide +kernel
theorem dX12_law_195 : decode cX12_law 195 = .ok (.iload_n 3, 1) := by decide +kernel
theorem dX12_law_196 : decode cX12_law 196 = .ok (.iaload, 1) := by decide +kernel
theorem dX12_law_197 : decode cX12_law 197 = .ok (.iastore, 1) := by decide +kernel
theorem dX12_law_198 : decode cX12_law 198 = .ok (.iinc 3 1, 3) := by decide +kernel
theorem dX12_law_201 : decode cX12_law 201 = .ok (.goto (-59), 3) := by decide +kernel
theorem dX12_law_204 : decode cX12_law 204 = .ok (.iconst 0, 1) := by decide +kernel
theorem dX12_law_205 : decode cX12_law 205 = .ok (.istore_n 3, 1) := by decide +kernel
theorem dX12_law_206 : decode cX12_law 206 = .ok (.iload_n 3, 1) := by decide +kernel
theorem dX12_law_207 : decode cX12_law 207 = .ok (.aload_n 0, 1) := by decide +kernel
theorem dX12_law_208 : decode cX12_law 208 = .ok (.getfield 205, 3) := by decide +kernel
theorem dX12_law_211 : decode cX12_law 211 = .ok (.if_icmp .ge 33, 3) := by decide +kernel
theorem dX12_law_214 : decode cX12_law 214 = .ok (.aload_n 0, 1) := by decide +kernel
theorem dX12_law_215 : decode cX12_law 215 = .ok (.getfield 47, 3) := by decide +kernel
theorem dX12_law_218 : decode cX12_law 218 = .ok (.iload_n 3, 1) := by decide +kernel
theorem dX12_law_219 : decode cX12_law 219 = .ok (.aload_n 0, 1) := by decide +kernel
theorem dX12_law_220 : decode cX12_law 220 = .ok (.getfield 65, 3) := by decide +kernel
theorem dX12_law_223 : decode cX12_law 223 = .ok (.iload_n 3, 1) := by decide +kernel
theorem dX12_law_224 : decode cX12_law 224 = .ok (.iaload, 1) := by decide +kernel
theorem dX12_law_225 : decode cX12_law 225 = .ok (.iastore, 1) := by decide +kernel
theorem dX12_law_226 : decode cX12_law 226 = .ok (.aload_n 0, 1) := by decide +kernel
theorem dX12_law_227 : decode cX12_law 227 = .ok (.getfield 50, 3) := by decide +kernel
theorem dX12_law_230 : decode cX12_law 230 = .ok (.iload_n 3, 1) := by decide +kernel
theorem dX12_law_231 : decode cX12_law 231 = .ok (.aload_n 0, 1) := by decide +kernel
theorem dX12_law_232 : decode cX12_law 232 = .ok (.getfield 68, 3) := by decide +kernel
theorem dX12_law_235 : decode cX12_law 235 = .ok (.iload_n 3, 1) := by decide +kernel
theorem dX12_law_236 : decode cX12_law 236 = .ok (.iaload, 1) := by decide +kernel
theorem dX12_law_237 : decode cX12_law 237 = .ok (.iastore, 1) := by decide +kernel
theorem dX12_law_238 : decode cX12_law 238 = .ok (.iinc 3 1, 3) := by decide +kernel
theorem dX12_law_241 : decode cX12_law 241 = .ok (.goto (-35), 3) := by decide +kernel
theorem dX12_law_244 : decode cX12_law 244 = .ok (.aload_n 0, 1) := by decide +kernel
theorem dX12_law_245 : decode cX12_law 245 = .ok (.aload_n 0, 1) := by decide +kernel
theorem dX12_law_246 : decode cX12_law 246 = .ok (.getfield 288, 3) := by decide +kernel
theorem dX12_law_249 : decode cX12_law 249 = .ok (.putfield 299, 3) := by decide +kernel
theorem dX12_law_252 : decode cX12_law 252 = .ok (.aload_n 0, 1) := by decide +kernel
theorem dX12_law_253 : decode cX12_law 253 = .ok (.getfield 299, 3) := by decide +kernel
theorem dX12_law_256 : decode cX12_law 256 = .ok (.ireturn, 1) := by decide +kernel
theorem dX12_valueOf_0 : decode cX12_valueOf 0 = .ok (.iload_n 1, 1) := by decide +kernel
theorem dX12_valueOf_1 : decode cX12_valueOf 1 = .ok (.tableswitch 147 99 116 #[122, 147, 147, 147, 147, 137, 147, 147, 112, 142, 147, 127, 147, 87, 132, 92, 147, 102], 87) := by decide +kernel
theorem dX12_valueOf_88 : decode cX12_valueOf 88 = .ok (.aload_n 0, 1) := by decide +kernel
theorem dX12_valueOf_89 : decode cX12_valueOf 89 = .ok (.getfield 302, 3) := by decide +kernel
theorem dX12_valueOf_92 : decode cX12_valueOf 92 = .ok (.ireturn, 1) := by decide +kernel
theorem dX12_valueOf_93 : decode cX12_valueOf 93 = .ok (.aload_n 0, 1) := by decide +kernel
theorem dX12_valueOf_94 : decode cX12_valueOf 94 = .ok (.getfield 17, 3) := by decide +kernel
theorem dX12_valueOf_97 : decode cX12_valueOf 97 = .ok (.aload_n 0, 1) := by decide +kernel
theorem dX12_valueOf_98 : decode cX12_valueOf 98 = .ok (.getfield 305, 3) := by decide +kernel
theorem dX12_valueOf_101 : decode cX12_valueOf 101 = .ok (.iaload, 1) := by decide +kernel
theorem dX12_valueOf_102 : decode cX12_valueOf 102 = .ok (.ireturn, 1) := by decide +kernel
theorem dX12_valueOf_103 : decode cX12_valueOf 103 = .ok (.aload_n 0, 1) := by decide +kernel
theorem dX12_valueOf_104 : decode cX12_valueOf 104 = .ok (.getfield 20, 3) := by decide +kernel
theorem dX12_valueOf_107 : decode cX12_valueOf 107 = .ok (.aload_n 0, 1) := by decide +kernel
theorem dX12_valueOf_108 : decode cX12_valueOf 108 = .ok (.getfield 305, 3) := by decide +kernel
theorem dX12_valueOf_111 : decode cX12_valueOf 111 = .ok (.iaload, 1) := by decide +kernel
theorem dX12_valueOf_112 : decode cX12_valueOf 112 = .ok (.ireturn, 1) := by decide +kernel
theorem dX12_valueOf_113 : decode cX12_valueOf 113 = .ok (.aload_n 0, 1) := by decide +kernel
theorem dX12_valueOf_114 : decode cX12_valueOf 114 = .ok (.getfield 13, 3) := by decide +kernel
theorem dX12_valueOf_117 : decode cX12_valueOf 117 = .ok (.aload_n 0, 1) := by decide +kernel
theorem dX12_valueOf_118 : decode cX12_valueOf 118 = .ok (.getfield 305, 3) := by decide +kernel
theorem dX12_valueOf_121 : decode cX12_valueOf 121 = .ok (.iaload, 1) := by decide +kernel
theorem dX12_valueOf_122 : decode cX12_valueOf 122 = .ok (.ireturn, 1) := by decide +kernel
theorem dX12_valueOf_123 : decode cX12_valueOf 123 = .ok (.aload_n 0, 1) := by decide +kernel
theorem dX12_valueOf_124 : decode cX12_valueOf 124 = .ok (.getfield 305, 3) := by decide +kernel
theorem dX12_valueOf_127 : decode cX12_valueOf 127 = .ok (.ireturn, 1) := by decide +kernel
theorem dX12_valueOf_128 : decode cX12_valueOf 128 = .ok (.aload_n 0, 1) := by decide +kernel
theorem dX12_valueOf_129 : decode cX12_valueOf 129 = .ok (.getfield 308, 3) := by decide +kernel
theorem dX12_valueOf_132 : decode cX12_valueOf 132 = .ok (.ireturn, 1) := by decide +kernel
theorem dX12_valueOf_133 : decode cX12_valueOf 133 = .ok (.aload_n 0, 1) := by decide +kernel
theorem dX12_valueOf_134 : decode cX12_valueOf 134 = .ok (.getfield 311, 3) := by decide +kernel
theorem dX12_valueOf_137 : decode cX12_valueOf 137 = .ok (.ireturn, 1) := by decide +kernel
theorem dX12_valueOf_138 : decode cX12_valueOf 138 = .ok (.aload_n 0, 1) := by decide +kernel
theorem dX12_valueOf_139 : decode cX12_valueOf 139 = .ok (.getfield 314, 3) := by decide +kernel
theorem dX12_valueOf_142 : decode cX12_valueOf 142 = .ok (.ireturn, 1) := by decide +kernel
theorem dX12_valueOf_143 : decode cX12_valueOf 143 = .ok (.aload_n 0, 1) := by decide +kernel
theorem dX12_valueOf_144 : decode cX12_valueOf 144 = .ok (.getfield 317, 3) := by decide +kernel
theorem dX12_valueOf_147 : decode cX12_valueOf 147 = .ok (.ireturn, 1) := by decide +kernel
theorem dX12_valueOf_148 : decode cX12_valueOf 148 = .ok (.aload_n 0, 1) := by decide +kernel
theorem dX12_valueOf_149 : decode cX12_valueOf 149 = .ok (.getfield 320, 3) := by decide +kernel
theorem dX12_valueOf_152 : decode cX12_valueOf 152 = .ok (.ireturn, 1) := by decide +kernel
theorem dX12_worked_0 : decode cX12_worked 0 = .ok (.iload_n 0, 1) := by decide +kernel
theorem dX12_worked_1 : decode cX12_worked 1 = .ok (.lookupswitch 125 #[(37, 91), (42, 75), (43, 67), (45, 71), (47, 79), (60, 103), (62, 114)], 67) := by decide +kernel
theorem dX12_worked_68 : decode cX12_worked 68 = .ok (.iload_n 1, 1) := by decide +kernel
theorem dX12_worked_69 : decode cX12_worked 69 = .ok (.iload_n 2, 1) := by decide +kernel
theorem dX12_worked_70 : decode cX12_worked 70 = .ok (.iadd, 1) := by decide +kernel
theorem dX12_worked_71 : decode cX12_worked 71 = .ok (.ireturn, 1) := by decide +kernel
theorem dX12_worked_72 : decode cX12_worked 72 = .ok (.iload_n 1, 1) := by decide +kernel
theorem dX12_worked_73 : decode cX12_worked 73 = .ok (.iload_n 2, 1) := by decide +kernel
theorem dX12_worked_74 : decode cX12_worked 74 = .ok (.isub, 1) := by decide +kernel
theorem dX12_worked_75 : decode cX12_worked 75 = .ok (.ireturn, 1) := by decide +kernel
theorem dX12_worked_76 : decode cX12_worked 76 = .ok (.iload_n 1, 1) := by decide +kernel
theorem dX12_worked_77 : decode cX12_worked 77 = .ok (.iload_n 2, 1) := by decide +kernel
theorem dX12_worked_78 : decode cX12_worked 78 = .ok (.imul, 1) := by decide +kernel
theorem dX12_worked_79 : decode cX12_worked 79 = .ok (.ireturn, 1) := by decide +kernel
theorem dX12_worked_80 : decode cX12_worked 80 = .ok (.iload_n 2, 1) := by decide +kernel
theorem dX12_worked_81 : decode cX12_worked 81 = .ok (.ifCond .ne 7, 3) := by decide +kernel
theorem dX12_worked_84 : decode cX12_worked 84 = .ok (.iconst 0, 1) := by decide +kernel
theorem dX12_worked_85 : decode cX12_worked 85 = .ok (.goto 6, 3) := by decide +kernel
theorem dX12_worked_88 : decode cX12_worked 88 = .ok (.iload_n 1, 1) := by decide +kernel
theorem dX12_worked_89 : decode cX12_worked 89 = .ok (.iload_n 2, 1) := by decide +kernel
theorem dX12_worked_90 : decode cX12_worked 90 = .ok (.idiv, 1) := by decide +kernel
theorem dX12_worked_91 : decode cX12_worked 91 = .ok (.ireturn, 1) := by decide +kernel
theorem dX12_worked_92 : decode cX12_worked 92 = .ok (.iload_n 2, 1) := by decide +kernel
theorem dX12_worked_93 : decode cX12_worked 93 = .ok (.ifCond .ne 7, 3) := by decide +kernel
theorem dX12_worked_96 : decode cX12_worked 96 = .ok (.iconst 0, 1) := by decide +kernel
theorem dX12_worked_97 : decode cX12_worked 97 = .ok (.goto 6, 3) := by decide +kernel
theorem dX12_worked_100 : decode cX12_worked 100 = .ok (.iload_n 1, 1) := by decide +kernel
theorem dX12_worked_101 : decode cX12_worked 101 = .ok (.iload_n 2, 1) := by decide +kernel
theorem dX12_worked_102 : decode cX12_worked 102 = .ok (.irem, 1) := by decide +kernel
theorem dX12_worked_103 : decode cX12_worked 103 = .ok (.ireturn, 1) := by decide +kernel
theorem dX12_worked_104 : decode cX12_worked 104 = .ok (.iload_n 1, 1) := by decide +kernel
theorem dX12_worked_105 : decode cX12_worked 105 = .ok (.iload_n 2, 1) := by decide +kernel
theorem dX12_worked_106 : decode cX12_worked 106 = .ok (.if_icmp .ge 7, 3) := by decide +kernel
theorem dX12_worked_109 : decode cX12_worked 109 = .ok (.iconst 1, 1) := by decide +kernel
theorem dX12_worked_110 : decode cX12_worked 110 = .ok (.goto 4, 3) := by decide +kernel
theorem dX12_worked_113 : decode cX12_worked 113 = .ok (.iconst 0, 1) := by decide +kernel
theorem dX12_worked_114 : decode cX12_worked 114 = .ok (.ireturn, 1) := by decide +kernel
theorem dX12_worked_115 : decode cX12_worked 115 = .ok (.iload_n 1, 1) := by decide +kernel
theorem dX12_worked_116 : decode cX12_worked 116 = .ok (.iload_n 2, 1) := by decide +kernel
theorem dX12_worked_117 : decode cX12_worked 117 = .ok (.if_icmp .le 7, 3) := by decide +kernel
theorem dX12_worked_120 : decode cX12_worked 120 = .ok (.iconst 1, 1) := by decide +kernel
theorem dX12_worked_121 : decode cX12_worked 121 = .ok (.goto 4, 3) := by decide +kernel
theorem dX12_worked_124 : decode cX12_worked 124 = .ok (.iconst 0, 1) := by decide +kernel
theorem dX12_worked_125 : decode cX12_worked 125 = .ok (.ireturn, 1) := by decide +kernel
theorem dX12_worked_126 : decode cX12_worked 126 = .ok (.iload_n 1, 1) := by decide +kernel
theorem dX12_worked_127 : decode cX12_worked 127 = .ok (.iload_n 2, 1) := by decide +kernel
theorem dX12_worked_128 : decode cX12_worked 128 = .ok (.if_icmp .ne 7, 3) := by decide +kernel
theorem dX12_worked_131 : decode cX12_worked 131 = .ok (.iconst 1, 1) := by decide +kernel
theorem dX12_worked_132 : decode cX12_worked 132 = .ok (.goto 4, 3) := by decide +kernel
theorem dX12_worked_135 : decode cX12_worked 135 = .ok (.iconst 0, 1) := by decide +kernel
theorem dX12_worked_136 : decode cX12_worked 136 = .ok (.ireturn, 1) := by decide +kernel
theorem dX12_does_0 : decode cX12_does 0 = .ok (.iload_n 2, 1) := by decide +kernel
theorem dX12_does_1 : decode cX12_does 1 = .ok (.iconst 1, 1) := by decide +kernel
theorem dX12_does_2 : decode cX12_does 2 = .ok (.iadd, 1) := by decide +kernel
theorem dX12_does_3 : decode cX12_does 3 = .ok (.istore_n 3, 1) := by decide +kernel
theorem dX12_does_4 : decode cX12_does 4 = .ok (.iload_n 1, 1) := by decide +kernel
theorem dX12_does_5 : decode cX12_does 5 = .ok (.bipush 38, 2) := by decide +kernel
theorem dX12_does_7 : decode cX12_does 7 = .ok (.if_icmp .eq 9, 3) := by decide +kernel
theorem dX12_does_10 : decode cX12_does 10 = .ok (.iload_n 1, 1) := by decide +kernel
theorem dX12_does_11 : decode cX12_does 11 = .ok (.bipush 124, 2) := by decide +kernel
theorem dX12_does_13 : decode cX12_does 13 = .ok (.if_icmp .ne 58, 3) := by decide +kernel
theorem dX12_does_16 : decode cX12_does 16 = .ok (.aload_n 0, 1) := by decide +kernel
theorem dX12_does_17 : decode cX12_does 17 = .ok (.getfield 77, 3) := by decide +kernel
theorem dX12_does_20 : decode cX12_does 20 = .ok (.iload_n 2, 1) := by decide +kernel
theorem dX12_does_21 : decode cX12_does 21 = .ok (.baload, 1) := by decide +kernel
theorem dX12_does_22 : decode cX12_does 22 = .ok (.ifCond .ne 23, 3) := by decide +kernel
theorem dX12_does_25 : decode cX12_does 25 = .ok (.aload_n 0, 1) := by decide +kernel
theorem dX12_does_26 : decode cX12_does 26 = .ok (.getfield 74, 3) := by decide +kernel
theorem dX12_does_29 : decode cX12_does 29 = .ok (.iload_n 2, 1) := by decide +kernel
theorem dX12_does_30 : decode cX12_does 30 = .ok (.iaload, 1) := by decide +kernel
theorem dX12_does_31 : decode cX12_does 31 = .ok (.iload_n 1, 1) := by decide +kernel
theorem dX12_does_32 : decode cX12_does 32 = .ok (.bipush 38, 2) := by decide +kernel
theorem dX12_does_34 : decode cX12_does 34 = .ok (.if_icmp .ne 7, 3) := by decide +kernel
theorem dX12_does_37 : decode cX12_does 37 = .ok (.iconst 1, 1) := by decide +kernel
theorem dX12_does_38 : decode cX12_does 38 = .ok (.goto 4, 3) := by decide +kernel
theorem dX12_does_41 : decode cX12_does 41 = .ok (.iconst 0, 1) := by decide +kernel
theorem dX12_does_42 : decode cX12_does 42 = .ok (.if_icmp .eq 4, 3) := by decide +kernel
theorem dX12_does_45 : decode cX12_does 45 = .ok (.return_, 1) := by decide +kernel
theorem dX12_does_46 : decode cX12_does 46 = .ok (.aload_n 0, 1) := by decide +kernel
theorem dX12_does_47 : decode cX12_does 47 = .ok (.getfield 74, 3) := by decide +kernel
theorem dX12_does_50 : decode cX12_does 50 = .ok (.iload_n 2, 1) := by decide +kernel
theorem dX12_does_51 : decode cX12_does 51 = .ok (.aload_n 0, 1) := by decide +kernel
theorem dX12_does_52 : decode cX12_does 52 = .ok (.getfield 74, 3) := by decide +kernel
theorem dX12_does_55 : decode cX12_does 55 = .ok (.iload_n 3, 1) := by decide +kernel
theorem dX12_does_56 : decode cX12_does 56 = .ok (.iaload, 1) := by decide +kernel
theorem dX12_does_57 : decode cX12_does 57 = .ok (.iastore, 1) := by decide +kernel
theorem dX12_does_58 : decode cX12_does 58 = .ok (.aload_n 0, 1) := by decide +kernel
theorem dX12_does_59 : decode cX12_does 59 = .ok (.getfield 77, 3) := by decide +kernel
theorem dX12_does_62 : decode cX12_does 62 = .ok (.iload_n 2, 1) := by decide +kernel
theorem dX12_does_63 : decode cX12_does 63 = .ok (.aload_n 0, 1) := by decide +kernel
theorem dX12_does_64 : decode cX12_does 64 = .ok (.getfield 77, 3) := by decide +kernel
theorem dX12_does_67 : decode cX12_does 67 = .ok (.iload_n 3, 1) := by decide +kernel
theorem dX12_does_68 : decode cX12_does 68 = .ok (.baload, 1) := by decide +kernel
theorem dX12_does_69 : decode cX12_does 69 = .ok (.bastore, 1) := by decide +kernel
theorem dX12_does_70 : decode cX12_does 70 = .ok (.return_, 1) := by decide +kernel
theorem dX12_does_71 : decode cX12_does 71 = .ok (.aload_n 0, 1) := by decide +kernel
theorem dX12_does_72 : decode cX12_does 72 = .ok (.getfield 77, 3) := by decide +kernel
theorem dX12_does_75 : decode cX12_does 75 = .ok (.iload_n 2, 1) := by decide +kernel
theorem dX12_does_76 : decode cX12_does 76 = .ok (.aload_n 0, 1) := by decide +kernel
theorem dX12_does_77 : decode cX12_does 77 = .ok (.getfield 77, 3) := by decide +kernel
theorem dX12_does_80 : decode cX12_does 80 = .ok (.iload_n 2, 1) := by decide +kernel
theorem dX12_does_81 : decode cX12_does 81 = .ok (.baload, 1) := by decide +kernel
theorem dX12_does_82 : decode cX12_does 82 = .ok (.ifCond .ne 33, 3) := by decide +kernel
theorem dX12_does_85 : decode cX12_does 85 = .ok (.aload_n 0, 1) := by decide +kernel
theorem dX12_does_86 : decode cX12_does 86 = .ok (.getfield 77, 3) := by decide +kernel
theorem dX12_does_89 : decode cX12_does 89 = .ok (.iload_n 3, 1) := by decide +kernel
theorem dX12_does_90 : decode cX12_does 90 = .ok (.baload, 1) := by decide +kernel
theorem dX12_does_91 : decode cX12_does 91 = .ok (.ifCond .ne 24, 3) := by decide +kernel
theorem dX12_does_94 : decode cX12_does 94 = .ok (.iload_n 1, 1) := by decide +kernel
theorem dX12_does_95 : decode cX12_does 95 = .ok (.bipush 47, 2) := by decide +kernel
theorem dX12_does_97 : decode cX12_does 97 = .ok (.if_icmp .eq 9, 3) := by decide +kernel
theorem dX12_does_100 : decode cX12_does 100 = .ok (.iload_n 1, 1) := by decide +kernel
theorem dX12_does_101 : decode cX12_does 101 = .ok (.bipush 37, 2) := by decide +kernel
theorem dX12_does_103 : decode cX12_does 103 = .ok (.if_icmp .ne 16, 3) := by decide +kernel
theorem dX12_does_106 : decode cX12_does 106 = .ok (.aload_n 0, 1) := by decide +kernel
theorem dX12_does_107 : decode cX12_does 107 = .ok (.getfield 74, 3) := by decide +kernel
theorem dX12_does_110 : decode cX12_does 110 = .ok (.iload_n 3, 1) := by decide +kernel
theorem dX12_does_111 : decode cX12_does 111 = .ok (.iaload, 1) := by decide +kernel
theorem dX12_does_112 : decode cX12_does 112 = .ok (.ifCond .ne 7, 3) := by decide +kernel
theorem dX12_does_115 : decode cX12_does 115 = .ok (.iconst 1, 1) := by decide +kernel
theorem dX12_does_116 : decode cX12_does 116 = .ok (.goto 4, 3) := by decide +kernel
theorem dX12_does_119 : decode cX12_does 119 = .ok (.iconst 0, 1) := by decide +kernel
theorem dX12_does_120 : decode cX12_does 120 = .ok (.bastore, 1) := by decide +kernel
theorem dX12_does_121 : decode cX12_does 121 = .ok (.aload_n 0, 1) := by decide +kernel
theorem dX12_does_122 : decode cX12_does 122 = .ok (.getfield 74, 3) := by decide +kernel
theorem dX12_does_125 : decode cX12_does 125 = .ok (.iload_n 2, 1) := by decide +kernel
theorem dX12_does_126 : decode cX12_does 126 = .ok (.iload_n 1, 1) := by decide +kernel
theorem dX12_does_127 : decode cX12_does 127 = .ok (.aload_n 0, 1) := by decide +kernel
theorem dX12_does_128 : decode cX12_does 128 = .ok (.getfield 74, 3) := by decide +kernel
theorem dX12_does_131 : decode cX12_does 131 = .ok (.iload_n 2, 1) := by decide +kernel
theorem dX12_does_132 : decode cX12_does 132 = .ok (.iaload, 1) := by decide +kernel
theorem dX12_does_133 : decode cX12_does 133 = .ok (.aload_n 0, 1) := by decide +kernel
theorem dX12_does_134 : decode cX12_does 134 = .ok (.getfield 74, 3) := by decide +kernel
theorem dX12_does_137 : decode cX12_does 137 = .ok (.iload_n 3, 1) := by decide +kernel
theorem dX12_does_138 : decode cX12_does 138 = .ok (.iaload, 1) := by decide +kernel
theorem dX12_does_139 : decode cX12_does 139 = .ok (.invokestatic 323, 3) := by decide +kernel
theorem dX12_does_142 : decode cX12_does 142 = .ok (.iastore, 1) := by decide +kernel
theorem dX12_does_143 : decode cX12_does 143 = .ok (.return_, 1) := by decide +kernel
theorem dX12_works_0 : decode cX12_works 0 = .ok (.iconst 0, 1) := by decide +kernel
theorem dX12_works_1 : decode cX12_works 1 = .ok (.istore_n 3, 1) := by decide +kernel
theorem dX12_works_2 : decode cX12_works 2 = .ok (.iload_n 1, 1) := by decide +kernel
theorem dX12_works_3 : decode cX12_works 3 = .ok (.istore 4, 2) := by decide +kernel
theorem dX12_works_5 : decode cX12_works 5 = .ok (.iload 4, 2) := by decide +kernel
theorem dX12_works_7 : decode cX12_works 7 = .ok (.iload_n 2, 1) := by decide +kernel
theorem dX12_works_8 : decode cX12_works 8 = .ok (.if_icmp .ge 119, 3) := by decide +kernel
theorem dX12_works_11 : decode cX12_works 11 = .ok (.aload_n 0, 1) := by decide +kernel
theorem dX12_works_12 : decode cX12_works 12 = .ok (.getfield 47, 3) := by decide +kernel
theorem dX12_works_15 : decode cX12_works 15 = .ok (.iload 4, 2) := by decide +kernel
theorem dX12_works_17 : decode cX12_works 17 = .ok (.iaload, 1) := by decide +kernel
theorem dX12_works_18 : decode cX12_works 18 = .ok (.iconst 2, 1) := by decide +kernel
theorem dX12_works_19 : decode cX12_works 19 = .ok (.if_icmp .le 23, 3) := by decide +kernel
theorem dX12_works_22 : decode cX12_works 22 = .ok (.iinc 3 (-1), 3) := by decide +kernel
theorem dX12_works_25 : decode cX12_works 25 = .ok (.aload_n 0, 1) := by decide +kernel
theorem dX12_works_26 : decode cX12_works 26 = .ok (.aload_n 0, 1) := by decide +kernel
theorem dX12_works_27 : decode cX12_works 27 = .ok (.getfield 47, 3) := by decide +kernel
theorem dX12_works_30 : decode cX12_works 30 = .ok (.iload 4, 2) := by decide +kernel
theorem dX12_works_32 : decode cX12_works 32 = .ok (.iaload, 1) := by decide +kernel
theorem dX12_works_33 : decode cX12_works 33 = .ok (.iload_n 3, 1) := by decide +kernel
theorem dX12_works_34 : decode cX12_works 34 = .ok (.iconst 1, 1) := by decide +kernel
theorem dX12_works_35 : decode cX12_works 35 = .ok (.isub, 1) := by decide +kernel
theorem dX12_works_36 : decode cX12_works 36 = .ok (.invokevirtual 327, 3) := by decide +kernel
theorem dX12_works_39 : decode cX12_works 39 = .ok (.goto 82, 3) := by decide +kernel
theorem dX12_works_42 : decode cX12_works 42 = .ok (.aload_n 0, 1) := by decide +kernel
theorem dX12_works_43 : decode cX12_works 43 = .ok (.getfield 47, 3) := by decide +kernel
theorem dX12_works_46 : decode cX12_works 46 = .ok (.iload 4, 2) := by decide +kernel
theorem dX12_works_48 : decode cX12_works 48 = .ok (.iaload, 1) := by decide +kernel
theorem dX12_works_49 : decode cX12_works 49 = .ok (.iconst 2, 1) := by decide +kernel
theorem dX12_works_50 : decode cX12_works 50 = .ok (.if_icmp .ne 24, 3) := by decide +kernel
theorem dX12_works_53 : decode cX12_works 53 = .ok (.aload_n 0, 1) := by decide +kernel
theorem dX12_works_54 : decode cX12_works 54 = .ok (.getfield 74, 3) := by decide +kernel
theorem dX12_works_57 : decode cX12_works 57 = .ok (.iload_n 3, 1) := by decide +kernel
theorem dX12_works_58 : decode cX12_works 58 = .ok (.iconst 1, 1) := by decide +kernel
theorem dX12_works_59 : decode cX12_works 59 = .ok (.isub, 1) := by decide +kernel
theorem dX12_works_60 : decode cX12_works 60 = .ok (.iconst 1, 1) := by decide +kernel
theorem dX12_works_61 : decode cX12_works 61 = .ok (.aload_n 0, 1) := by decide +kernel
theorem dX12_works_62 : decode cX12_works 62 = .ok (.getfield 74, 3) := by decide +kernel
theorem dX12_works_65 : decode cX12_works 65 = .ok (.iload_n 3, 1) := by decide +kernel
theorem dX12_works_66 : decode cX12_works 66 = .ok (.iconst 1, 1) := by decide +kernel
theorem dX12_works_67 : decode cX12_works 67 = .ok (.isub, 1) := by decide +kernel
theorem dX12_works_68 : decode cX12_works 68 = .ok (.iaload, 1) := by decide +kernel
theorem dX12_works_69 : decode cX12_works 69 = .ok (.isub, 1) := by decide +kernel
theorem dX12_works_70 : decode cX12_works 70 = .ok (.iastore, 1) := by decide +kernel
theorem dX12_works_71 : decode cX12_works 71 = .ok (.goto 50, 3) := by decide +kernel
theorem dX12_works_74 : decode cX12_works 74 = .ok (.aload_n 0, 1) := by decide +kernel
theorem dX12_works_75 : decode cX12_works 75 = .ok (.getfield 77, 3) := by decide +kernel
theorem dX12_works_78 : decode cX12_works 78 = .ok (.iload_n 3, 1) := by decide +kernel
theorem dX12_works_79 : decode cX12_works 79 = .ok (.iconst 0, 1) := by decide +kernel
theorem dX12_works_80 : decode cX12_works 80 = .ok (.bastore, 1) := by decide +kernel
theorem dX12_works_81 : decode cX12_works 81 = .ok (.aload_n 0, 1) := by decide +kernel
theorem dX12_works_82 : decode cX12_works 82 = .ok (.getfield 74, 3) := by decide +kernel
theorem dX12_works_85 : decode cX12_works 85 = .ok (.iload_n 3, 1) := by decide +kernel
theorem dX12_works_86 : decode cX12_works 86 = .ok (.aload_n 0, 1) := by decide +kernel
theorem dX12_works_87 : decode cX12_works 87 = .ok (.getfield 47, 3) := by decide +kernel
theorem dX12_works_90 : decode cX12_works 90 = .ok (.iload 4, 2) := by decide +kernel
theorem dX12_works_92 : decode cX12_works 92 = .ok (.iaload, 1) := by decide +kernel
theorem dX12_works_93 : decode cX12_works 93 = .ok (.ifCond .ne 13, 3) := by decide +kernel
theorem dX12_works_96 : decode cX12_works 96 = .ok (.aload_n 0, 1) := by decide +kernel
theorem dX12_works_97 : decode cX12_works 97 = .ok (.getfield 50, 3) := by decide +kernel
theorem dX12_works_100 : decode cX12_works 100 = .ok (.iload 4, 2) := by decide +kernel
theorem dX12_works_102 : decode cX12_works 102 = .ok (.iaload, 1) := by decide +kernel
theorem dX12_works_103 : decode cX12_works 103 = .ok (.goto 14, 3) := by decide +kernel
theorem dX12_works_106 : decode cX12_works 106 = .ok (.aload_n 0, 1) := by decide +kernel
theorem dX12_works_107 : decode cX12_works 107 = .ok (.aload_n 0, 1) := by decide +kernel
theorem dX12_works_108 : decode cX12_works 108 = .ok (.getfield 50, 3) := by decide +kernel
theorem dX12_works_111 : decode cX12_works 111 = .ok (.iload 4, 2) := by decide +kernel
theorem dX12_works_113 : decode cX12_works 113 = .ok (.iaload, 1) := by decide +kernel
theorem dX12_works_114 : decode cX12_works 114 = .ok (.invokevirtual 330, 3) := by decide +kernel
theorem dX12_works_117 : decode cX12_works 117 = .ok (.iastore, 1) := by decide +kernel
theorem dX12_works_118 : decode cX12_works 118 = .ok (.iinc 3 1, 3) := by decide +kernel
theorem dX12_works_121 : decode cX12_works 121 = .ok (.iinc 4 1, 3) := by decide +kernel
theorem dX12_works_124 : decode cX12_works 124 = .ok (.goto (-119), 3) := by decide +kernel
theorem dX12_works_127 : decode cX12_works 127 = .ok (.return_, 1) := by decide +kernel
theorem dX12_toldBy_0 : decode cX12_toldBy 0 = .ok (.iconst 0, 1) := by decide +kernel
theorem dX12_toldBy_1 : decode cX12_toldBy 1 = .ok (.istore_n 3, 1) := by decide +kernel
theorem dX12_toldBy_2 : decode cX12_toldBy 2 = .ok (.iload_n 3, 1) := by decide +kernel
theorem dX12_toldBy_3 : decode cX12_toldBy 3 = .ok (.aload_n 0, 1) := by decide +kernel
theorem dX12_toldBy_4 : decode cX12_toldBy 4 = .ok (.getfield 299, 3) := by decide +kernel
theorem dX12_toldBy_7 : decode cX12_toldBy 7 = .ok (.if_icmp .ge 119, 3) := by decide +kernel
theorem dX12_toldBy_10 : decode cX12_toldBy 10 = .ok (.aload_n 0, 1) := by decide +kernel
theorem dX12_toldBy_11 : decode cX12_toldBy 11 = .ok (.getfield 35, 3) := by decide +kernel
theorem dX12_toldBy_14 : decode cX12_toldBy 14 = .ok (.iload_n 3, 1) := by decide +kernel
theorem dX12_toldBy_15 : decode cX12_toldBy 15 = .ok (.iaload, 1) := by decide +kernel
theorem dX12_toldBy_16 : decode cX12_toldBy 16 = .ok (.iload_n 1, 1) := by decide +kernel
theorem dX12_toldBy_17 : decode cX12_toldBy 17 = .ok (.if_icmp .eq 6, 3) := by decide +kernel
theorem dX12_toldBy_20 : decode cX12_toldBy 20 = .ok (.goto 100, 3) := by decide +kernel
theorem dX12_toldBy_23 : decode cX12_toldBy 23 = .ok (.aload_n 0, 1) := by decide +kernel
theorem dX12_toldBy_24 : decode cX12_toldBy 24 = .ok (.aload_n 0, 1) := by decide +kernel
theorem dX12_toldBy_25 : decode cX12_toldBy 25 = .ok (.getfield 41, 3) := by decide +kernel
theorem dX12_toldBy_28 : decode cX12_toldBy 28 = .ok (.iload_n 3, 1) := by decide +kernel
theorem dX12_toldBy_29 : decode cX12_toldBy 29 = .ok (.iaload, 1) := by decide +kernel
theorem dX12_toldBy_30 : decode cX12_toldBy 30 = .ok (.aload_n 0, 1) := by decide +kernel
theorem dX12_toldBy_31 : decode cX12_toldBy 31 = .ok (.getfield 44, 3) := by decide +kernel
theorem dX12_toldBy_34 : decode cX12_toldBy 34 = .ok (.iload_n 3, 1) := by decide +kernel
theorem dX12_toldBy_35 : decode cX12_toldBy 35 = .ok (.iaload, 1) := by decide +kernel
theorem dX12_toldBy_36 : decode cX12_toldBy 36 = .ok (.invokevirtual 334, 3) := by decide +kernel
theorem dX12_toldBy_39 : decode cX12_toldBy 39 = .ok (.aload_n 0, 1) := by decide +kernel
theorem dX12_toldBy_40 : decode cX12_toldBy 40 = .ok (.getfield 77, 3) := by decide +kernel
theorem dX12_toldBy_43 : decode cX12_toldBy 43 = .ok (.iconst 0, 1) := by decide +kernel
theorem dX12_toldBy_44 : decode cX12_toldBy 44 = .ok (.baload, 1) := by decide +kernel
theorem dX12_toldBy_45 : decode cX12_toldBy 45 = .ok (.ifCond .ne 75, 3) := by decide +kernel
theorem dX12_toldBy_48 : decode cX12_toldBy 48 = .ok (.aload_n 0, 1) := by decide +kernel
theorem dX12_toldBy_49 : decode cX12_toldBy 49 = .ok (.getfield 74, 3) := by decide +kernel
theorem dX12_toldBy_52 : decode cX12_toldBy 52 = .ok (.iconst 0, 1) := by decide +kernel
theorem dX12_toldBy_53 : decode cX12_toldBy 53 = .ok (.iaload, 1) := by decide +kernel
theorem dX12_toldBy_54 : decode cX12_toldBy 54 = .ok (.iconst 1, 1) := by decide +kernel
theorem dX12_toldBy_55 : decode cX12_toldBy 55 = .ok (.if_icmp .eq 6, 3) := by decide +kernel
theorem dX12_toldBy_58 : decode cX12_toldBy 58 = .ok (.goto 62, 3) := by decide +kernel
theorem dX12_toldBy_61 : decode cX12_toldBy 61 = .ok (.aload_n 0, 1) := by decide +kernel
theorem dX12_toldBy_62 : decode cX12_toldBy 62 = .ok (.aload_n 0, 1) := by decide +kernel
theorem dX12_toldBy_63 : decode cX12_toldBy 63 = .ok (.getfield 38, 3) := by decide +kernel
theorem dX12_toldBy_66 : decode cX12_toldBy 66 = .ok (.iload_n 3, 1) := by decide +kernel
theorem dX12_toldBy_67 : decode cX12_toldBy 67 = .ok (.iaload, 1) := by decide +kernel
theorem dX12_toldBy_68 : decode cX12_toldBy 68 = .ok (.aload_n 0, 1) := by decide +kernel
theorem dX12_toldBy_69 : decode cX12_toldBy 69 = .ok (.getfield 41, 3) := by decide +kernel
theorem dX12_toldBy_72 : decode cX12_toldBy 72 = .ok (.iload_n 3, 1) := by decide +kernel
theorem dX12_toldBy_73 : decode cX12_toldBy 73 = .ok (.iaload, 1) := by decide +kernel
theorem dX12_toldBy_74 : decode cX12_toldBy 74 = .ok (.invokevirtual 334, 3) := by decide +kernel
theorem dX12_toldBy_77 : decode cX12_toldBy 77 = .ok (.aload_n 0, 1) := by decide +kernel
theorem dX12_toldBy_78 : decode cX12_toldBy 78 = .ok (.getfield 77, 3) := by decide +kernel
theorem dX12_toldBy_81 : decode cX12_toldBy 81 = .ok (.iconst 0, 1) := by decide +kernel
theorem dX12_toldBy_82 : decode cX12_toldBy 82 = .ok (.baload, 1) := by decide +kernel
theorem dX12_toldBy_83 : decode cX12_toldBy 83 = .ok (.ifCond .eq 7, 3) := by decide +kernel
theorem dX12_toldBy_86 : decode cX12_toldBy 86 = .ok (.iconst 0, 1) := by decide +kernel
theorem dX12_toldBy_87 : decode cX12_toldBy 87 = .ok (.goto 9, 3) := by decide +kernel
theorem dX12_toldBy_90 : decode cX12_toldBy 90 = .ok (.aload_n 0, 1) := by decide +kernel
theorem dX12_toldBy_91 : decode cX12_toldBy 91 = .ok (.getfield 74, 3) := by decide +kernel
theorem dX12_toldBy_94 : decode cX12_toldBy 94 = .ok (.iconst 0, 1) := by decide +kernel
theorem dX12_toldBy_95 : decode cX12_toldBy 95 = .ok (.iaload, 1) := by decide +kernel
theorem dX12_toldBy_96 : decode cX12_toldBy 96 = .ok (.istore 4, 2) := by decide +kernel
theorem dX12_toldBy_98 : decode cX12_toldBy 98 = .ok (.iload 4, 2) := by decide +kernel
theorem dX12_toldBy_100 : decode cX12_toldBy 100 = .ok (.ifCond .ge 7, 3) := by decide +kernel
theorem dX12_toldBy_103 : decode cX12_toldBy 103 = .ok (.iconst 0, 1) := by decide +kernel
theorem dX12_toldBy_104 : decode cX12_toldBy 104 = .ok (.goto 15, 3) := by decide +kernel
theorem dX12_toldBy_107 : decode cX12_toldBy 107 = .ok (.iload 4, 2) := by decide +kernel
theorem dX12_toldBy_109 : decode cX12_toldBy 109 = .ok (.iload_n 2, 1) := by decide +kernel
theorem dX12_toldBy_110 : decode cX12_toldBy 110 = .ok (.if_icmp .le 7, 3) := by decide +kernel
theorem dX12_toldBy_113 : decode cX12_toldBy 113 = .ok (.iload_n 2, 1) := by decide +kernel
theorem dX12_toldBy_114 : decode cX12_toldBy 114 = .ok (.goto 5, 3) := by decide +kernel
theorem dX12_toldBy_117 : decode cX12_toldBy 117 = .ok (.iload 4, 2) := by decide +kernel
theorem dX12_toldBy_119 : decode cX12_toldBy 119 = .ok (.ireturn, 1) := by decide +kernel
theorem dX12_toldBy_120 : decode cX12_toldBy 120 = .ok (.iinc 3 1, 3) := by decide +kernel
theorem dX12_toldBy_123 : decode cX12_toldBy 123 = .ok (.goto (-121), 3) := by decide +kernel
theorem dX12_toldBy_126 : decode cX12_toldBy 126 = .ok (.iconst 0, 1) := by decide +kernel
theorem dX12_toldBy_127 : decode cX12_toldBy 127 = .ok (.ireturn, 1) := by decide +kernel
theorem dX12_runsNow_0 : decode cX12_runsNow 0 = .ok (.aload_n 0, 1) := by decide +kernel
theorem dX12_runsNow_1 : decode cX12_runsNow 1 = .ok (.getfield 317, 3) := by decide +kernel
theorem dX12_runsNow_4 : decode cX12_runsNow 4 = .ok (.aload_n 0, 1) := by decide +kernel
theorem dX12_runsNow_5 : decode cX12_runsNow 5 = .ok (.getfield 23, 3) := by decide +kernel
theorem dX12_runsNow_8 : decode cX12_runsNow 8 = .ok (.aload_n 0, 1) := by decide +kernel
theorem dX12_runsNow_9 : decode cX12_runsNow 9 = .ok (.getfield 305, 3) := by decide +kernel
theorem dX12_runsNow_12 : decode cX12_runsNow 12 = .ok (.iaload, 1) := by decide +kernel
theorem dX12_runsNow_13 : decode cX12_runsNow 13 = .ok (.if_icmp .lt 7, 3) := by decide +kernel
theorem dX12_runsNow_16 : decode cX12_runsNow 16 = .ok (.iconst 1, 1) := by decide +kernel
theorem dX12_runsNow_17 : decode cX12_runsNow 17 = .ok (.goto 4, 3) := by decide +kernel
theorem dX12_runsNow_20 : decode cX12_runsNow 20 = .ok (.iconst 0, 1) := by decide +kernel
theorem dX12_runsNow_21 : decode cX12_runsNow 21 = .ok (.ireturn, 1) := by decide +kernel
theorem dX12_isPulled_0 : decode cX12_isPulled 0 = .ok (.aload_n 0, 1) := by decide +kernel
theorem dX12_isPulled_1 : decode cX12_isPulled 1 = .ok (.iconst 0, 1) := by decide +kernel
theorem dX12_isPulled_2 : decode cX12_isPulled 2 = .ok (.putfield 311, 3) := by decide +kernel
theorem dX12_isPulled_5 : decode cX12_isPulled 5 = .ok (.aload_n 0, 1) := by decide +kernel
theorem dX12_isPulled_6 : decode cX12_isPulled 6 = .ok (.bipush 113, 2) := by decide +kernel
theorem dX12_isPulled_8 : decode cX12_isPulled 8 = .ok (.sipush 10000, 3) := by decide +kernel
theorem dX12_isPulled_11 : decode cX12_isPulled 11 = .ok (.invokevirtual 337, 3) := by decide +kernel
theorem dX12_isPulled_14 : decode cX12_isPulled 14 = .ok (.istore_n 2, 1) := by decide +kernel
theorem dX12_isPulled_15 : decode cX12_isPulled 15 = .ok (.aload_n 0, 1) := by decide +kernel
theorem dX12_isPulled_16 : decode cX12_isPulled 16 = .ok (.iload_n 2, 1) := by decide +kernel
theorem dX12_isPulled_17 : decode cX12_isPulled 17 = .ok (.putfield 311, 3) := by decide +kernel
theorem dX12_isPulled_20 : decode cX12_isPulled 20 = .ok (.aload_n 0, 1) := by decide +kernel
theorem dX12_isPulled_21 : decode cX12_isPulled 21 = .ok (.getfield 317, 3) := by decide +kernel
theorem dX12_isPulled_24 : decode cX12_isPulled 24 = .ok (.ifCond .ne 56, 3) := by decide +kernel
theorem dX12_isPulled_27 : decode cX12_isPulled 27 = .ok (.aload_n 0, 1) := by decide +kernel
theorem dX12_isPulled_28 : decode cX12_isPulled 28 = .ok (.getfield 320, 3) := by decide +kernel
theorem dX12_isPulled_31 : decode cX12_isPulled 31 = .ok (.aload_n 0, 1) := by decide +kernel
theorem dX12_isPulled_32 : decode cX12_isPulled 32 = .ok (.bipush 100, 2) := by decide +kernel
theorem dX12_isPulled_34 : decode cX12_isPulled 34 = .ok (.ldc_w 341, 3) := by decide +kernel
theorem dX12_isPulled_37 : decode cX12_isPulled 37 = .ok (.invokevirtual 337, 3) := by decide +kernel
theorem dX12_isPulled_40 : decode cX12_isPulled 40 = .ok (.iadd, 1) := by decide +kernel
theorem dX12_isPulled_41 : decode cX12_isPulled 41 = .ok (.istore_n 3, 1) := by decide +kernel
theorem dX12_isPulled_42 : decode cX12_isPulled 42 = .ok (.aload_n 0, 1) := by decide +kernel
theorem dX12_isPulled_43 : decode cX12_isPulled 43 = .ok (.iload_n 3, 1) := by decide +kernel
theorem dX12_isPulled_44 : decode cX12_isPulled 44 = .ok (.ldc_w 342, 3) := by decide +kernel
theorem dX12_isPulled_47 : decode cX12_isPulled 47 = .ok (.if_icmp .le 9, 3) := by decide +kernel
theorem dX12_isPulled_50 : decode cX12_isPulled 50 = .ok (.ldc_w 342, 3) := by decide +kernel
theorem dX12_isPulled_53 : decode cX12_isPulled 53 = .ok (.goto 4, 3) := by decide +kernel
theorem dX12_isPulled_56 : decode cX12_isPulled 56 = .ok (.iload_n 3, 1) := by decide +kernel
theorem dX12_isPulled_57 : decode cX12_isPulled 57 = .ok (.putfield 320, 3) := by decide +kernel
theorem dX12_isPulled_60 : decode cX12_isPulled 60 = .ok (.aload_n 0, 1) := by decide +kernel
theorem dX12_isPulled_61 : decode cX12_isPulled 61 = .ok (.aload_n 0, 1) := by decide +kernel
theorem dX12_isPulled_62 : decode cX12_isPulled 62 = .ok (.getfield 320, 3) := by decide +kernel
theorem dX12_isPulled_65 : decode cX12_isPulled 65 = .ok (.iload_n 1, 1) := by decide +kernel
theorem dX12_isPulled_66 : decode cX12_isPulled 66 = .ok (.if_icmp .lt 7, 3) := by decide +kernel
theorem dX12_isPulled_69 : decode cX12_isPulled 69 = .ok (.iconst 1, 1) := by decide +kernel
theorem dX12_isPulled_70 : decode cX12_isPulled 70 = .ok (.goto 4, 3) := by decide +kernel
theorem dX12_isPulled_73 : decode cX12_isPulled 73 = .ok (.iconst 0, 1) := by decide +kernel
theorem dX12_isPulled_74 : decode cX12_isPulled 74 = .ok (.putfield 317, 3) := by decide +kernel
theorem dX12_isPulled_77 : decode cX12_isPulled 77 = .ok (.goto 21, 3) := by decide +kernel
theorem dX12_isPulled_80 : decode cX12_isPulled 80 = .ok (.aload_n 0, 1) := by decide +kernel
theorem dX12_isPulled_81 : decode cX12_isPulled 81 = .ok (.dup, 1) := by decide +kernel
theorem dX12_isPulled_82 : decode cX12_isPulled 82 = .ok (.getfield 317, 3) := by decide +kernel
theorem dX12_isPulled_85 : decode cX12_isPulled 85 = .ok (.aload_n 0, 1) := by decide +kernel
theorem dX12_isPulled_86 : decode cX12_isPulled 86 = .ok (.bipush 103, 2) := by decide +kernel
theorem dX12_isPulled_88 : decode cX12_isPulled 88 = .ok (.sipush 10000, 3) := by decide +kernel
theorem dX12_isPulled_91 : decode cX12_isPulled 91 = .ok (.invokevirtual 337, 3) := by decide +kernel
theorem dX12_isPulled_94 : decode cX12_isPulled 94 = .ok (.iadd, 1) := by decide +kernel
theorem dX12_isPulled_95 : decode cX12_isPulled 95 = .ok (.putfield 317, 3) := by decide +kernel
theorem dX12_isPulled_98 : decode cX12_isPulled 98 = .ok (.aload_n 0, 1) := by decide +kernel
theorem dX12_isPulled_99 : decode cX12_isPulled 99 = .ok (.iload_n 2, 1) := by decide +kernel
theorem dX12_isPulled_100 : decode cX12_isPulled 100 = .ok (.aload_n 0, 1) := by decide +kernel
theorem dX12_isPulled_101 : decode cX12_isPulled 101 = .ok (.getfield 314, 3) := by decide +kernel
theorem dX12_isPulled_104 : decode cX12_isPulled 104 = .ok (.if_icmp .le 7, 3) := by decide +kernel
theorem dX12_isPulled_107 : decode cX12_isPulled 107 = .ok (.iload_n 2, 1) := by decide +kernel
theorem dX12_isPulled_108 : decode cX12_isPulled 108 = .ok (.goto 7, 3) := by decide +kernel
theorem dX12_isPulled_111 : decode cX12_isPulled 111 = .ok (.aload_n 0, 1) := by decide +kernel
theorem dX12_isPulled_112 : decode cX12_isPulled 112 = .ok (.getfield 314, 3) := by decide +kernel
theorem dX12_isPulled_115 : decode cX12_isPulled 115 = .ok (.putfield 314, 3) := by decide +kernel
theorem dX12_isPulled_118 : decode cX12_isPulled 118 = .ok (.return_, 1) := by decide +kernel
theorem dX12_takes_0 : decode cX12_takes 0 = .ok (.aload_n 0, 1) := by decide +kernel
theorem dX12_takes_1 : decode cX12_takes 1 = .ok (.iload_n 1, 1) := by decide +kernel
theorem dX12_takes_2 : decode cX12_takes 2 = .ok (.putfield 305, 3) := by decide +kernel
theorem dX12_takes_5 : decode cX12_takes 5 = .ok (.aload_n 0, 1) := by decide +kernel
theorem dX12_takes_6 : decode cX12_takes 6 = .ok (.iconst 0, 1) := by decide +kernel
theorem dX12_takes_7 : decode cX12_takes 7 = .ok (.putfield 308, 3) := by decide +kernel
theorem dX12_takes_10 : decode cX12_takes 10 = .ok (.aload_n 0, 1) := by decide +kernel
theorem dX12_takes_11 : decode cX12_takes 11 = .ok (.iconst 0, 1) := by decide +kernel
theorem dX12_takes_12 : decode cX12_takes 12 = .ok (.putfield 314, 3) := by decide +kernel
theorem dX12_takes_15 : decode cX12_takes 15 = .ok (.aload_n 0, 1) := by decide +kernel
theorem dX12_takes_16 : decode cX12_takes 16 = .ok (.iconst 0, 1) := by decide +kernel
theorem dX12_takes_17 : decode cX12_takes 17 = .ok (.putfield 317, 3) := by decide +kernel
theorem dX12_takes_20 : decode cX12_takes 20 = .ok (.aload_n 0, 1) := by decide +kernel
theorem dX12_takes_21 : decode cX12_takes 21 = .ok (.iconst 0, 1) := by decide +kernel
theorem dX12_takes_22 : decode cX12_takes 22 = .ok (.putfield 320, 3) := by decide +kernel
theorem dX12_takes_25 : decode cX12_takes 25 = .ok (.return_, 1) := by decide +kernel
theorem dX12_isPressure_0 : decode cX12_isPressure 0 = .ok (.iload_n 0, 1) := by decide +kernel
theorem dX12_isPressure_1 : decode cX12_isPressure 1 = .ok (.i2l, 1) := by decide +kernel
theorem dX12_isPressure_2 : decode cX12_isPressure 2 = .ok (.lconst 0, 1) := by decide +kernel
theorem dX12_isPressure_3 : decode cX12_isPressure 3 = .ok (.ldc2_w 343, 3) := by decide +kernel
theorem dX12_isPressure_6 : decode cX12_isPressure 6 = .ok (.invokestatic 164, 3) := by decide +kernel
theorem dX12_isPressure_9 : decode cX12_isPressure 9 = .ok (.ireturn, 1) := by decide +kernel
theorem dX12_pull_0 : decode cX12_pull 0 = .ok (.aload_n 0, 1) := by decide +kernel
theorem dX12_pull_1 : decode cX12_pull 1 = .ok (.iload_n 1, 1) := by decide +kernel
theorem dX12_pull_2 : decode cX12_pull 2 = .ok (.invokevirtual 177, 3) := by decide +kernel
theorem dX12_pull_5 : decode cX12_pull 5 = .ok (.ifCond .eq 20, 3) := by decide +kernel
theorem dX12_pull_8 : decode cX12_pull 8 = .ok (.iload_n 2, 1) := by decide +kernel
theorem dX12_pull_9 : decode cX12_pull 9 = .ok (.invokestatic 345, 3) := by decide +kernel
theorem dX12_pull_12 : decode cX12_pull 12 = .ok (.ifCond .eq 13, 3) := by decide +kernel
theorem dX12_pull_15 : decode cX12_pull 15 = .ok (.iload_n 3, 1) := by decide +kernel
theorem dX12_pull_16 : decode cX12_pull 16 = .ok (.i2l, 1) := by decide +kernel
theorem dX12_pull_17 : decode cX12_pull 17 = .ok (.lconst 0, 1) := by decide +kernel
theorem dX12_pull_18 : decode cX12_pull 18 = .ok (.lconst 1, 1) := by decide +kernel
theorem dX12_pull_19 : decode cX12_pull 19 = .ok (.invokestatic 164, 3) := by decide +kernel
theorem dX12_pull_22 : decode cX12_pull 22 = .ok (.ifCond .ne 5, 3) := by decide +kernel
theorem dX12_pull_25 : decode cX12_pull 25 = .ok (.iconst (-1), 1) := by decide +kernel
theorem dX12_pull_26 : decode cX12_pull 26 = .ok (.ireturn, 1) := by decide +kernel
theorem dX12_pull_27 : decode cX12_pull 27 = .ok (.aload_n 0, 1) := by decide +kernel
theorem dX12_pull_28 : decode cX12_pull 28 = .ok (.iload_n 1, 1) := by decide +kernel
theorem dX12_pull_29 : decode cX12_pull 29 = .ok (.invokevirtual 348, 3) := by decide +kernel
theorem dX12_pull_32 : decode cX12_pull 32 = .ok (.aload_n 0, 1) := by decide +kernel
theorem dX12_pull_33 : decode cX12_pull 33 = .ok (.iload_n 2, 1) := by decide +kernel
theorem dX12_pull_34 : decode cX12_pull 34 = .ok (.putfield 302, 3) := by decide +kernel
theorem dX12_pull_37 : decode cX12_pull 37 = .ok (.aload_n 0, 1) := by decide +kernel
theorem dX12_pull_38 : decode cX12_pull 38 = .ok (.iconst 0, 1) := by decide +kernel
theorem dX12_pull_39 : decode cX12_pull 39 = .ok (.putfield 311, 3) := by decide +kernel
theorem dX12_pull_42 : decode cX12_pull 42 = .ok (.aload_n 0, 1) := by decide +kernel
theorem dX12_pull_43 : decode cX12_pull 43 = .ok (.bipush 113, 2) := by decide +kernel
theorem dX12_pull_45 : decode cX12_pull 45 = .ok (.sipush 10000, 3) := by decide +kernel
theorem dX12_pull_48 : decode cX12_pull 48 = .ok (.invokevirtual 337, 3) := by decide +kernel
theorem dX12_pull_51 : decode cX12_pull 51 = .ok (.istore 4, 2) := by decide +kernel
theorem dX12_pull_53 : decode cX12_pull 53 = .ok (.aload_n 0, 1) := by decide +kernel
theorem dX12_pull_54 : decode cX12_pull 54 = .ok (.iload 4, 2) := by decide +kernel
theorem dX12_pull_56 : decode cX12_pull 56 = .ok (.putfield 311, 3) := by decide +kernel
theorem dX12_pull_59 : decode cX12_pull 59 = .ok (.iload_n 3, 1) := by decide +kernel
theorem dX12_pull_60 : decode cX12_pull 60 = .ok (.ifCond .ne 8, 3) := by decide +kernel
theorem dX12_pull_63 : decode cX12_pull 63 = .ok (.iload 4, 2) := by decide +kernel
theorem dX12_pull_65 : decode cX12_pull 65 = .ok (.goto 12, 3) := by decide +kernel
theorem dX12_pull_68 : decode cX12_pull 68 = .ok (.aload_n 0, 1) := by decide +kernel
theorem dX12_pull_69 : decode cX12_pull 69 = .ok (.bipush 100, 2) := by decide +kernel
theorem dX12_pull_71 : decode cX12_pull 71 = .ok (.ldc_w 341, 3) := by decide +kernel
theorem dX12_pull_74 : decode cX12_pull 74 = .ok (.invokevirtual 337, 3) := by decide +kernel
theorem dX12_pull_77 : decode cX12_pull 77 = .ok (.ireturn, 1) := by decide +kernel
theorem dX12_digits_0 : decode cX12_digits 0 = .ok (.aload_n 0, 1) := by decide +kernel
theorem dX12_digits_1 : decode cX12_digits 1 = .ok (.getfield 192, 3) := by decide +kernel
theorem dX12_digits_4 : decode cX12_digits 4 = .ok (.istore_n 2, 1) := by decide +kernel
theorem dX12_digits_5 : decode cX12_digits 5 = .ok (.iconst 0, 1) := by decide +kernel
theorem dX12_digits_6 : decode cX12_digits 6 = .ok (.istore_n 3, 1) := by decide +kernel
theorem dX12_digits_7 : decode cX12_digits 7 = .ok (.aload_n 0, 1) := by decide +kernel
theorem dX12_digits_8 : decode cX12_digits 8 = .ok (.invokevirtual 201, 3) := by decide +kernel
theorem dX12_digits_11 : decode cX12_digits 11 = .ok (.ifCond .eq 55, 3) := by decide +kernel
theorem dX12_digits_14 : decode cX12_digits 14 = .ok (.aload_n 0, 1) := by decide +kernel
theorem dX12_digits_15 : decode cX12_digits 15 = .ok (.invokevirtual 229, 3) := by decide +kernel
theorem dX12_digits_18 : decode cX12_digits 18 = .ok (.ifCond .eq 48, 3) := by decide +kernel
theorem dX12_digits_21 : decode cX12_digits 21 = .ok (.aload_n 0, 1) := by decide +kernel
theorem dX12_digits_22 : decode cX12_digits 22 = .ok (.getfield 192, 3) := by decide +kernel
theorem dX12_digits_25 : decode cX12_digits 25 = .ok (.iload_n 2, 1) := by decide +kernel
theorem dX12_digits_26 : decode cX12_digits 26 = .ok (.iload_n 1, 1) := by decide +kernel
theorem dX12_digits_27 : decode cX12_digits 27 = .ok (.iadd, 1) := by decide +kernel
theorem dX12_digits_28 : decode cX12_digits 28 = .ok (.if_icmp .ne 12, 3) := by decide +kernel
theorem dX12_digits_31 : decode cX12_digits 31 = .ok (.aload_n 0, 1) := by decide +kernel
theorem dX12_digits_32 : decode cX12_digits 32 = .ok (.iconst 2, 1) := by decide +kernel
theorem dX12_digits_33 : decode cX12_digits 33 = .ok (.aload_n 0, 1) := by decide +kernel
theorem dX12_digits_34 : decode cX12_digits 34 = .ok (.getfield 192, 3) := by decide +kernel
theorem dX12_digits_37 : decode cX12_digits 37 = .ok (.invokevirtual 214, 3) := by decide +kernel
theorem dX12_digits_40 : decode cX12_digits 40 = .ok (.bipush 10, 2) := by decide +kernel
theorem dX12_digits_42 : decode cX12_digits 42 = .ok (.iload_n 3, 1) := by decide +kernel
theorem dX12_digits_43 : decode cX12_digits 43 = .ok (.imul, 1) := by decide +kernel
theorem dX12_digits_44 : decode cX12_digits 44 = .ok (.aload_n 0, 1) := by decide +kernel
theorem dX12_digits_45 : decode cX12_digits 45 = .ok (.invokevirtual 218, 3) := by decide +kernel
theorem dX12_digits_48 : decode cX12_digits 48 = .ok (.iadd, 1) := by decide +kernel
theorem dX12_digits_49 : decode cX12_digits 49 = .ok (.bipush 48, 2) := by decide +kernel
theorem dX12_digits_51 : decode cX12_digits 51 = .ok (.isub, 1) := by decide +kernel
theorem dX12_digits_52 : decode cX12_digits 52 = .ok (.istore_n 3, 1) := by decide +kernel
theorem dX12_digits_53 : decode cX12_digits 53 = .ok (.aload_n 0, 1) := by decide +kernel
theorem dX12_digits_54 : decode cX12_digits 54 = .ok (.dup, 1) := by decide +kernel
theorem dX12_digits_55 : decode cX12_digits 55 = .ok (.getfield 192, 3) := by decide +kernel
theorem dX12_digits_58 : decode cX12_digits 58 = .ok (.iconst 1, 1) := by decide +kernel
theorem dX12_digits_59 : decode cX12_digits 59 = .ok (.iadd, 1) := by decide +kernel
theorem dX12_digits_60 : decode cX12_digits 60 = .ok (.putfield 192, 3) := by decide +kernel
theorem dX12_digits_63 : decode cX12_digits 63 = .ok (.goto (-56), 3) := by decide +kernel
theorem dX12_digits_66 : decode cX12_digits 66 = .ok (.aload_n 0, 1) := by decide +kernel
theorem dX12_digits_67 : decode cX12_digits 67 = .ok (.invokevirtual 201, 3) := by decide +kernel
theorem dX12_digits_70 : decode cX12_digits 70 = .ok (.ifCond .eq 20, 3) := by decide +kernel
theorem dX12_digits_73 : decode cX12_digits 73 = .ok (.aload_n 0, 1) := by decide +kernel
theorem dX12_digits_74 : decode cX12_digits 74 = .ok (.getfield 192, 3) := by decide +kernel
theorem dX12_digits_77 : decode cX12_digits 77 = .ok (.iload_n 2, 1) := by decide +kernel
theorem dX12_digits_78 : decode cX12_digits 78 = .ok (.if_icmp .ne 12, 3) := by decide +kernel
theorem dX12_digits_81 : decode cX12_digits 81 = .ok (.aload_n 0, 1) := by decide +kernel
theorem dX12_digits_82 : decode cX12_digits 82 = .ok (.iconst 1, 1) := by decide +kernel
theorem dX12_digits_83 : decode cX12_digits 83 = .ok (.aload_n 0, 1) := by decide +kernel
theorem dX12_digits_84 : decode cX12_digits 84 = .ok (.getfield 192, 3) := by decide +kernel
theorem dX12_digits_87 : decode cX12_digits 87 = .ok (.invokevirtual 214, 3) := by decide +kernel
theorem dX12_digits_90 : decode cX12_digits 90 = .ok (.iload_n 3, 1) := by decide +kernel
theorem dX12_digits_91 : decode cX12_digits 91 = .ok (.ireturn, 1) := by decide +kernel
theorem dX12_part_0 : decode cX12_part 0 = .ok (.iload_n 1, 1) := by decide +kernel
theorem dX12_part_1 : decode cX12_part 1 = .ok (.bipush 8, 2) := by decide +kernel
theorem dX12_part_3 : decode cX12_part 3 = .ok (.if_icmp .ne 23, 3) := by decide +kernel
theorem dX12_part_6 : decode cX12_part 6 = .ok (.aload_n 0, 1) := by decide +kernel
theorem dX12_part_7 : decode cX12_part 7 = .ok (.aload_n 0, 1) := by decide +kernel
theorem dX12_part_8 : decode cX12_part 8 = .ok (.invokevirtual 229, 3) := by decide +kernel
theorem dX12_part_11 : decode cX12_part 11 = .ok (.ifCond .eq 7, 3) := by decide +kernel
theorem dX12_part_14 : decode cX12_part 14 = .ok (.iconst 4, 1) := by decide +kernel
theorem dX12_part_15 : decode cX12_part 15 = .ok (.goto 4, 3) := by decide +kernel
theorem dX12_part_18 : decode cX12_part 18 = .ok (.iconst 1, 1) := by decide +kernel
theorem dX12_part_19 : decode cX12_part 19 = .ok (.aload_n 0, 1) := by decide +kernel
theorem dX12_part_20 : decode cX12_part 20 = .ok (.getfield 192, 3) := by decide +kernel
theorem dX12_part_23 : decode cX12_part 23 = .ok (.invokevirtual 214, 3) := by decide +kernel
theorem dX12_part_26 : decode cX12_part 26 = .ok (.aload_n 0, 1) := by decide +kernel
theorem dX12_part_27 : decode cX12_part 27 = .ok (.invokevirtual 201, 3) := by decide +kernel
theorem dX12_part_30 : decode cX12_part 30 = .ok (.ifCond .ne 5, 3) := by decide +kernel
theorem dX12_part_33 : decode cX12_part 33 = .ok (.iload_n 2, 1) := by decide +kernel
theorem dX12_part_34 : decode cX12_part 34 = .ok (.ireturn, 1) := by decide +kernel
theorem dX12_part_35 : decode cX12_part 35 = .ok (.aload_n 0, 1) := by decide +kernel
theorem dX12_part_36 : decode cX12_part 36 = .ok (.getfield 192, 3) := by decide +kernel
theorem dX12_part_39 : decode cX12_part 39 = .ok (.istore_n 3, 1) := by decide +kernel
theorem dX12_part_40 : decode cX12_part 40 = .ok (.aload_n 0, 1) := by decide +kernel
theorem dX12_part_41 : decode cX12_part 41 = .ok (.getfield 93, 3) := by decide +kernel
theorem dX12_part_44 : decode cX12_part 44 = .ok (.iload_n 1, 1) := by decide +kernel
theorem dX12_part_45 : decode cX12_part 45 = .ok (.aload_n 0, 1) := by decide +kernel
theorem dX12_part_46 : decode cX12_part 46 = .ok (.iconst 2, 1) := by decide +kernel
theorem dX12_part_47 : decode cX12_part 47 = .ok (.invokevirtual 351, 3) := by decide +kernel
theorem dX12_part_50 : decode cX12_part 50 = .ok (.iastore, 1) := by decide +kernel
theorem dX12_part_51 : decode cX12_part 51 = .ok (.iconst 1, 1) := by decide +kernel
theorem dX12_part_52 : decode cX12_part 52 = .ok (.istore 4, 2) := by decide +kernel
theorem dX12_part_54 : decode cX12_part 54 = .ok (.aload_n 0, 1) := by decide +kernel
theorem dX12_part_55 : decode cX12_part 55 = .ok (.invokevirtual 201, 3) := by decide +kernel
theorem dX12_part_58 : decode cX12_part 58 = .ok (.ifCond .eq 34, 3) := by decide +kernel
theorem dX12_part_61 : decode cX12_part 61 = .ok (.aload_n 0, 1) := by decide +kernel
theorem dX12_part_62 : decode cX12_part 62 = .ok (.invokevirtual 218, 3) := by decide +kernel
theorem dX12_part_65 : decode cX12_part 65 = .ok (.bipush 42, 2) := by decide +kernel
theorem dX12_part_67 : decode cX12_part 67 = .ok (.if_icmp .ne 25, 3) := by decide +kernel
theorem dX12_part_70 : decode cX12_part 70 = .ok (.aload_n 0, 1) := by decide +kernel
theorem dX12_part_71 : decode cX12_part 71 = .ok (.dup, 1) := by decide +kernel
theorem dX12_part_72 : decode cX12_part 72 = .ok (.getfield 192, 3) := by decide +kernel
theorem dX12_part_75 : decode cX12_part 75 = .ok (.iconst 1, 1) := by decide +kernel
theorem dX12_part_76 : decode cX12_part 76 = .ok (.iadd, 1) := by decide +kernel
theorem dX12_part_77 : decode cX12_part 77 = .ok (.putfield 192, 3) := by decide +kernel
theorem dX12_part_80 : decode cX12_part 80 = .ok (.aload_n 0, 1) := by decide +kernel
theorem dX12_part_81 : decode cX12_part 81 = .ok (.getfield 192, 3) := by decide +kernel
theorem dX12_part_84 : decode cX12_part 84 = .ok (.istore_n 3, 1) := by decide +kernel
theorem dX12_part_85 : decode cX12_part 85 = .ok (.aload_n 0, 1) := by decide +kernel
theorem dX12_part_86 : decode cX12_part 86 = .ok (.iconst 4, 1) := by decide +kernel
theorem dX12_part_87 : decode cX12_part 87 = .ok (.invokevirtual 351, 3) := by decide +kernel
theorem dX12_part_90 : decode cX12_part 90 = .ok (.istore 4, 2) := by decide +kernel
theorem dX12_part_92 : decode cX12_part 92 = .ok (.aload_n 0, 1) := by decide +kernel
theorem dX12_part_93 : decode cX12_part 93 = .ok (.invokevirtual 201, 3) := by decide +kernel
theorem dX12_part_96 : decode cX12_part 96 = .ok (.ifCond .eq 24, 3) := by decide +kernel
theorem dX12_part_99 : decode cX12_part 99 = .ok (.iload 4, 2) := by decide +kernel
theorem dX12_part_101 : decode cX12_part 101 = .ok (.ifCond .eq 13, 3) := by decide +kernel
theorem dX12_part_104 : decode cX12_part 104 = .ok (.iload_n 2, 1) := by decide +kernel
theorem dX12_part_105 : decode cX12_part 105 = .ok (.iload 4, 2) := by decide +kernel
theorem dX12_part_107 : decode cX12_part 107 = .ok (.iadd, 1) := by decide +kernel
theorem dX12_part_108 : decode cX12_part 108 = .ok (.sipush 2000, 3) := by decide +kernel
theorem dX12_part_111 : decode cX12_part 111 = .ok (.if_icmp .le 9, 3) := by decide +kernel
theorem dX12_part_114 : decode cX12_part 114 = .ok (.aload_n 0, 1) := by decide +kernel
theorem dX12_part_115 : decode cX12_part 115 = .ok (.iconst 3, 1) := by decide +kernel
theorem dX12_part_116 : decode cX12_part 116 = .ok (.iload_n 3, 1) := by decide +kernel
theorem dX12_part_117 : decode cX12_part 117 = .ok (.invokevirtual 214, 3) := by decide +kernel
theorem dX12_part_120 : decode cX12_part 120 = .ok (.aload_n 0, 1) := by decide +kernel
theorem dX12_part_121 : decode cX12_part 121 = .ok (.getfield 96, 3) := by decide +kernel
theorem dX12_part_124 : decode cX12_part 124 = .ok (.iload_n 1, 1) := by decide +kernel
theorem dX12_part_125 : decode cX12_part 125 = .ok (.iload 4, 2) := by decide +kernel
theorem dX12_part_127 : decode cX12_part 127 = .ok (.iastore, 1) := by decide +kernel
theorem dX12_part_128 : decode cX12_part 128 = .ok (.iload_n 2, 1) := by decide +kernel
theorem dX12_part_129 : decode cX12_part 129 = .ok (.iload 4, 2) := by decide +kernel
theorem dX12_part_131 : decode cX12_part 131 = .ok (.iadd, 1) := by decide +kernel
theorem dX12_part_132 : decode cX12_part 132 = .ok (.ireturn, 1) := by decide +kernel
theorem dX12_isProgram_0 : decode cX12_isProgram 0 = .ok (.iload_n 0, 1) := by decide +kernel
theorem dX12_isProgram_1 : decode cX12_isProgram 1 = .ok (.i2l, 1) := by decide +kernel
theorem dX12_isProgram_2 : decode cX12_isProgram 2 = .ok (.lconst 0, 1) := by decide +kernel
theorem dX12_isProgram_3 : decode cX12_isProgram 3 = .ok (.ldc2_w 354, 3) := by decide +kernel
theorem dX12_isProgram_6 : decode cX12_isProgram 6 = .ok (.invokestatic 164, 3) := by decide +kernel
theorem dX12_isProgram_9 : decode cX12_isProgram 9 = .ok (.ireturn, 1) := by decide +kernel
theorem dX12_program_0 : decode cX12_program 0 = .ok (.iload_n 1, 1) := by decide +kernel
theorem dX12_program_1 : decode cX12_program 1 = .ok (.invokestatic 356, 3) := by decide +kernel
theorem dX12_program_4 : decode cX12_program 4 = .ok (.ifCond .eq 23, 3) := by decide +kernel
theorem dX12_program_7 : decode cX12_program 7 = .ok (.iload_n 2, 1) := by decide +kernel
theorem dX12_program_8 : decode cX12_program 8 = .ok (.i2l, 1) := by decide +kernel
theorem dX12_program_9 : decode cX12_program 9 = .ok (.lconst 1, 1) := by decide +kernel
theorem dX12_program_10 : decode cX12_program 10 = .ok (.ldc2_w 359, 3) := by decide +kernel
theorem dX12_program_13 : decode cX12_program 13 = .ok (.invokestatic 164, 3) := by decide +kernel
theorem dX12_program_16 : decode cX12_program 16 = .ok (.ifCond .eq 11, 3) := by decide +kernel
theorem dX12_program_19 : decode cX12_program 19 = .ok (.iload_n 2, 1) := by decide +kernel
theorem dX12_program_20 : decode cX12_program 20 = .ok (.aload_n 0, 1) := by decide +kernel
theorem dX12_program_21 : decode cX12_program 21 = .ok (.getfield 185, 3) := by decide +kernel
theorem dX12_program_24 : decode cX12_program 24 = .ok (.if_icmp .le 5, 3) := by decide +kernel
theorem dX12_program_27 : decode cX12_program 27 = .ok (.iconst (-1), 1) := by decide +kernel
theorem dX12_program_28 : decode cX12_program 28 = .ok (.ireturn, 1) := by decide +kernel
theorem dX12_program_29 : decode cX12_program 29 = .ok (.aload_n 0, 1) := by decide +kernel
theorem dX12_program_30 : decode cX12_program 30 = .ok (.iconst 0, 1) := by decide +kernel
theorem dX12_program_31 : decode cX12_program 31 = .ok (.putfield 185, 3) := by decide +kernel
theorem dX12_program_34 : decode cX12_program 34 = .ok (.aload_n 0, 1) := by decide +kernel
theorem dX12_program_35 : decode cX12_program 35 = .ok (.iconst 0, 1) := by decide +kernel
theorem dX12_program_36 : decode cX12_program 36 = .ok (.putfield 192, 3) := by decide +kernel
theorem dX12_program_39 : decode cX12_program 39 = .ok (.aload_n 0, 1) := by decide +kernel
theorem dX12_program_40 : decode cX12_program 40 = .ok (.iload_n 2, 1) := by decide +kernel
theorem dX12_program_41 : decode cX12_program 41 = .ok (.putfield 195, 3) := by decide +kernel
theorem dX12_program_44 : decode cX12_program 44 = .ok (.aload_n 0, 1) := by decide +kernel
theorem dX12_program_45 : decode cX12_program 45 = .ok (.iconst 0, 1) := by decide +kernel
theorem dX12_program_46 : decode cX12_program 46 = .ok (.putfield 198, 3) := by decide +kernel
theorem dX12_program_49 : decode cX12_program 49 = .ok (.iconst 0, 1) := by decide +kernel
theorem dX12_program_50 : decode cX12_program 50 = .ok (.istore_n 3, 1) := by decide +kernel
theorem dX12_program_51 : decode cX12_program 51 = .ok (.iconst 0, 1) := by decide +kernel
theorem dX12_program_52 : decode cX12_program 52 = .ok (.istore 4, 2) := by decide +kernel
theorem dX12_program_54 : decode cX12_program 54 = .ok (.iconst 1, 1) := by decide +kernel
theorem dX12_program_55 : decode cX12_program 55 = .ok (.istore 5, 2) := by decide +kernel
theorem dX12_program_57 : decode cX12_program 57 = .ok (.iload 5, 2) := by decide +kernel
theorem dX12_program_59 : decode cX12_program 59 = .ok (.ifCond .eq 83, 3) := by decide +kernel
theorem dX12_program_62 : decode cX12_program 62 = .ok (.aload_n 0, 1) := by decide +kernel
theorem dX12_program_63 : decode cX12_program 63 = .ok (.invokevirtual 201, 3) := by decide +kernel
theorem dX12_program_66 : decode cX12_program 66 = .ok (.ifCond .eq 76, 3) := by decide +kernel
theorem dX12_program_69 : decode cX12_program 69 = .ok (.aload_n 0, 1) := by decide +kernel
theorem dX12_program_70 : decode cX12_program 70 = .ok (.iload_n 3, 1) := by decide +kernel
theorem dX12_program_71 : decode cX12_program 71 = .ok (.iload 4, 2) := by decide +kernel
theorem dX12_program_73 : decode cX12_program 73 = .ok (.invokevirtual 361, 3) := by decide +kernel
theorem dX12_program_76 : decode cX12_program 76 = .ok (.istore 4, 2) := by decide +kernel
theorem dX12_program_78 : decode cX12_program 78 = .ok (.iinc 3 1, 3) := by decide +kernel
theorem dX12_program_81 : decode cX12_program 81 = .ok (.aload_n 0, 1) := by decide +kernel
theorem dX12_program_82 : decode cX12_program 82 = .ok (.invokevirtual 201, 3) := by decide +kernel
theorem dX12_program_85 : decode cX12_program 85 = .ok (.ifCond .eq 18, 3) := by decide +kernel
theorem dX12_program_88 : decode cX12_program 88 = .ok (.aload_n 0, 1) := by decide +kernel
theorem dX12_program_89 : decode cX12_program 89 = .ok (.getfield 192, 3) := by decide +kernel
theorem dX12_program_92 : decode cX12_program 92 = .ok (.aload_n 0, 1) := by decide +kernel
theorem dX12_program_93 : decode cX12_program 93 = .ok (.getfield 195, 3) := by decide +kernel
theorem dX12_program_96 : decode cX12_program 96 = .ok (.if_icmp .ge 7, 3) := by decide +kernel
theorem dX12_program_99 : decode cX12_program 99 = .ok (.iconst 1, 1) := by decide +kernel
theorem dX12_program_100 : decode cX12_program 100 = .ok (.goto 4, 3) := by decide +kernel
theorem dX12_program_103 : decode cX12_program 103 = .ok (.iconst 0, 1) := by decide +kernel
theorem dX12_program_104 : decode cX12_program 104 = .ok (.istore 5, 2) := by decide +kernel
theorem dX12_program_106 : decode cX12_program 106 = .ok (.iload 5, 2) := by decide +kernel
theorem dX12_program_108 : decode cX12_program 108 = .ok (.ifCond .eq (-51), 3) := by decide +kernel
theorem dX12_program_111 : decode cX12_program 111 = .ok (.aload_n 0, 1) := by decide +kernel
theorem dX12_program_112 : decode cX12_program 112 = .ok (.invokevirtual 218, 3) := by decide +kernel
theorem dX12_program_115 : decode cX12_program 115 = .ok (.bipush 59, 2) := by decide +kernel
theorem dX12_program_117 : decode cX12_program 117 = .ok (.if_icmp .eq 12, 3) := by decide +kernel
theorem dX12_program_120 : decode cX12_program 120 = .ok (.aload_n 0, 1) := by decide +kernel
theorem dX12_program_121 : decode cX12_program 121 = .ok (.iconst 1, 1) := by decide +kernel
theorem dX12_program_122 : decode cX12_program 122 = .ok (.aload_n 0, 1) := by decide +kernel
theorem dX12_program_123 : decode cX12_program 123 = .ok (.getfield 192, 3) := by decide +kernel
theorem dX12_program_126 : decode cX12_program 126 = .ok (.invokevirtual 214, 3) := by decide +kernel
theorem dX12_program_129 : decode cX12_program 129 = .ok (.aload_n 0, 1) := by decide +kernel
theorem dX12_program_130 : decode cX12_program 130 = .ok (.dup, 1) := by decide +kernel
theorem dX12_program_131 : decode cX12_program 131 = .ok (.getfield 192, 3) := by decide +kernel
theorem dX12_program_134 : decode cX12_program 134 = .ok (.iconst 1, 1) := by decide +kernel
theorem dX12_program_135 : decode cX12_program 135 = .ok (.iadd, 1) := by decide +kernel
theorem dX12_program_136 : decode cX12_program 136 = .ok (.putfield 192, 3) := by decide +kernel
theorem dX12_program_139 : decode cX12_program 139 = .ok (.goto (-82), 3) := by decide +kernel
theorem dX12_program_142 : decode cX12_program 142 = .ok (.aload_n 0, 1) := by decide +kernel
theorem dX12_program_143 : decode cX12_program 143 = .ok (.getfield 198, 3) := by decide +kernel
theorem dX12_program_146 : decode cX12_program 146 = .ok (.ifCond .ge 8, 3) := by decide +kernel
theorem dX12_program_149 : decode cX12_program 149 = .ok (.aload_n 0, 1) := by decide +kernel
theorem dX12_program_150 : decode cX12_program 150 = .ok (.getfield 198, 3) := by decide +kernel
theorem dX12_program_153 : decode cX12_program 153 = .ok (.ireturn, 1) := by decide +kernel
theorem dX12_program_154 : decode cX12_program 154 = .ok (.iconst 0, 1) := by decide +kernel
theorem dX12_program_155 : decode cX12_program 155 = .ok (.istore 6, 2) := by decide +kernel
theorem dX12_program_157 : decode cX12_program 157 = .ok (.iload 6, 2) := by decide +kernel
theorem dX12_program_159 : decode cX12_program 159 = .ok (.iload_n 3, 1) := by decide +kernel
theorem dX12_program_160 : decode cX12_program 160 = .ok (.if_icmp .ge 47, 3) := by decide +kernel
theorem dX12_program_163 : decode cX12_program 163 = .ok (.aload_n 0, 1) := by decide +kernel
theorem dX12_program_164 : decode cX12_program 164 = .ok (.getfield 84, 3) := by decide +kernel
theorem dX12_program_167 : decode cX12_program 167 = .ok (.bipush 8, 2) := by decide +kernel
theorem dX12_program_169 : decode cX12_program 169 = .ok (.iload_n 1, 1) := by decide +kernel
theorem dX12_program_170 : decode cX12_program 170 = .ok (.imul, 1) := by decide +kernel
theorem dX12_program_171 : decode cX12_program 171 = .ok (.iload 6, 2) := by decide +kernel
theorem dX12_program_173 : decode cX12_program 173 = .ok (.iadd, 1) := by decide +kernel
theorem dX12_program_174 : decode cX12_program 174 = .ok (.aload_n 0, 1) := by decide +kernel
theorem dX12_program_175 : decode cX12_program 175 = .ok (.getfield 93, 3) := by decide +kernel
theorem dX12_program_178 : decode cX12_program 178 = .ok (.iload 6, 2) := by decide +kernel
theorem dX12_program_180 : decode cX12_program 180 = .ok (.iaload, 1) := by decide +kernel
theorem dX12_program_181 : decode cX12_program 181 = .ok (.iastore, 1) := by decide +kernel
theorem dX12_program_182 : decode cX12_program 182 = .ok (.aload_n 0, 1) := by decide +kernel
theorem dX12_program_183 : decode cX12_program 183 = .ok (.getfield 87, 3) := by decide +kernel
theorem dX12_program_186 : decode cX12_program 186 = .ok (.bipush 8, 2) := by decide +kernel
theorem dX12_program_188 : decode cX12_program 188 = .ok (.iload_n 1, 1) := by decide +kernel
theorem dX12_program_189 : decode cX12_program 189 = .ok (.imul, 1) := by decide +kernel
theorem dX12_program_190 : decode cX12_program 190 = .ok (.iload 6, 2) := by decide +kernel
theorem dX12_program_192 : decode cX12_program 192 = .ok (.iadd, 1) := by decide +kernel
theorem dX12_program_193 : decode cX12_program 193 = .ok (.aload_n 0, 1) := by decide +kernel
theorem dX12_program_194 : decode cX12_program 194 = .ok (.getfield 96, 3) := by decide +kernel
theorem dX12_program_197 : decode cX12_program 197 = .ok (.iload 6, 2) := by decide +kernel
theorem dX12_program_199 : decode cX12_program 199 = .ok (.iaload, 1) := by decide +kernel
theorem dX12_program_200 : decode cX12_program 200 = .ok (.iastore, 1) := by decide +kernel
theorem dX12_program_201 : decode cX12_program 201 = .ok (.iinc 6 1, 3) := by decide +kernel
theorem dX12_program_204 : decode cX12_program 204 = .ok (.goto (-47), 3) := by decide +kernel
theorem dX12_program_207 : decode cX12_program 207 = .ok (.aload_n 0, 1) := by decide +kernel
theorem dX12_program_208 : decode cX12_program 208 = .ok (.getfield 81, 3) := by decide +kernel
theorem dX12_program_211 : decode cX12_program 211 = .ok (.iload_n 1, 1) := by decide +kernel
theorem dX12_program_212 : decode cX12_program 212 = .ok (.iload_n 3, 1) := by decide +kernel
theorem dX12_program_213 : decode cX12_program 213 = .ok (.iastore, 1) := by decide +kernel
theorem dX12_program_214 : decode cX12_program 214 = .ok (.aload_n 0, 1) := by decide +kernel
theorem dX12_program_215 : decode cX12_program 215 = .ok (.getfield 90, 3) := by decide +kernel
theorem dX12_program_218 : decode cX12_program 218 = .ok (.iload_n 1, 1) := by decide +kernel
theorem dX12_program_219 : decode cX12_program 219 = .ok (.iload 4, 2) := by decide +kernel
theorem dX12_program_221 : decode cX12_program 221 = .ok (.iastore, 1) := by decide +kernel
theorem dX12_program_222 : decode cX12_program 222 = .ok (.iload 4, 2) := by decide +kernel
theorem dX12_program_224 : decode cX12_program 224 = .ok (.ireturn, 1) := by decide +kernel
theorem dX12_goes_0 : decode cX12_goes 0 = .ok (.aload_n 0, 1) := by decide +kernel
theorem dX12_goes_1 : decode cX12_goes 1 = .ok (.iload_n 1, 1) := by decide +kernel
theorem dX12_goes_2 : decode cX12_goes 2 = .ok (.invokevirtual 348, 3) := by decide +kernel
theorem dX12_goes_5 : decode cX12_goes 5 = .ok (.aload_n 0, 1) := by decide +kernel
theorem dX12_goes_6 : decode cX12_goes 6 = .ok (.iconst 0, 1) := by decide +kernel
theorem dX12_goes_7 : decode cX12_goes 7 = .ok (.putfield 364, 3) := by decide +kernel
theorem dX12_goes_10 : decode cX12_goes 10 = .ok (.aload_n 0, 1) := by decide +kernel
theorem dX12_goes_11 : decode cX12_goes 11 = .ok (.iconst 0, 1) := by decide +kernel
theorem dX12_goes_12 : decode cX12_goes 12 = .ok (.putfield 367, 3) := by decide +kernel
theorem dX12_goes_15 : decode cX12_goes 15 = .ok (.iload_n 3, 1) := by decide +kernel
theorem dX12_goes_16 : decode cX12_goes 16 = .ok (.iconst (-1), 1) := by decide +kernel
theorem dX12_goes_17 : decode cX12_goes 17 = .ok (.if_icmp .ne 7, 3) := by decide +kernel
theorem dX12_goes_20 : decode cX12_goes 20 = .ok (.iconst 0, 1) := by decide +kernel
theorem dX12_goes_21 : decode cX12_goes 21 = .ok (.goto 9, 3) := by decide +kernel
theorem dX12_goes_24 : decode cX12_goes 24 = .ok (.aload_n 0, 1) := by decide +kernel
theorem dX12_goes_25 : decode cX12_goes 25 = .ok (.getfield 81, 3) := by decide +kernel
theorem dX12_goes_28 : decode cX12_goes 28 = .ok (.iload_n 3, 1) := by decide +kernel
theorem dX12_goes_29 : decode cX12_goes 29 = .ok (.iaload, 1) := by decide +kernel
theorem dX12_goes_30 : decode cX12_goes 30 = .ok (.istore 6, 2) := by decide +kernel
theorem dX12_goes_32 : decode cX12_goes 32 = .ok (.iconst 0, 1) := by decide +kernel
theorem dX12_goes_33 : decode cX12_goes 33 = .ok (.istore 7, 2) := by decide +kernel
theorem dX12_goes_35 : decode cX12_goes 35 = .ok (.iload 7, 2) := by decide +kernel
theorem dX12_goes_37 : decode cX12_goes 37 = .ok (.iload 6, 2) := by decide +kernel
theorem dX12_goes_39 : decode cX12_goes 39 = .ok (.if_icmp .gt 145, 3) := by decide +kernel
theorem dX12_goes_42 : decode cX12_goes 42 = .ok (.aload_n 0, 1) := by decide +kernel
theorem dX12_goes_43 : decode cX12_goes 43 = .ok (.getfield 367, 3) := by decide +kernel
theorem dX12_goes_46 : decode cX12_goes 46 = .ok (.ifCond .ne 138, 3) := by decide +kernel
theorem dX12_goes_49 : decode cX12_goes 49 = .ok (.aload_n 0, 1) := by decide +kernel
theorem dX12_goes_50 : decode cX12_goes 50 = .ok (.iload 7, 2) := by decide +kernel
theorem dX12_goes_52 : decode cX12_goes 52 = .ok (.iload 6, 2) := by decide +kernel
theorem dX12_goes_54 : decode cX12_goes 54 = .ok (.if_icmp .ne 8, 3) := by decide +kernel
theorem dX12_goes_57 : decode cX12_goes 57 = .ok (.iload 4, 2) := by decide +kernel
theorem dX12_goes_59 : decode cX12_goes 59 = .ok (.goto 15, 3) := by decide +kernel
theorem dX12_goes_62 : decode cX12_goes 62 = .ok (.aload_n 0, 1) := by decide +kernel
theorem dX12_goes_63 : decode cX12_goes 63 = .ok (.getfield 84, 3) := by decide +kernel
theorem dX12_goes_66 : decode cX12_goes 66 = .ok (.bipush 8, 2) := by decide +kernel
theorem dX12_goes_68 : decode cX12_goes 68 = .ok (.iload_n 3, 1) := by decide +kernel
theorem dX12_goes_69 : decode cX12_goes 69 = .ok (.imul, 1) := by decide +kernel
theorem dX12_goes_70 : decode cX12_goes 70 = .ok (.iload 7, 2) := by decide +kernel
theorem dX12_goes_72 : decode cX12_goes 72 = .ok (.iadd, 1) := by decide +kernel
theorem dX12_goes_73 : decode cX12_goes 73 = .ok (.iaload, 1) := by decide +kernel
theorem dX12_goes_74 : decode cX12_goes 74 = .ok (.putfield 302, 3) := by decide +kernel
theorem dX12_goes_77 : decode cX12_goes 77 = .ok (.iload 7, 2) := by decide +kernel
theorem dX12_goes_79 : decode cX12_goes 79 = .ok (.iload 6, 2) := by decide +kernel
theorem dX12_goes_81 : decode cX12_goes 81 = .ok (.if_icmp .ne 8, 3) := by decide +kernel
theorem dX12_goes_84 : decode cX12_goes 84 = .ok (.iload 5, 2) := by decide +kernel
theorem dX12_goes_86 : decode cX12_goes 86 = .ok (.goto 15, 3) := by decide +kernel
theorem dX12_goes_89 : decode cX12_goes 89 = .ok (.aload_n 0, 1) := by decide +kernel
theorem dX12_goes_90 : decode cX12_goes 90 = .ok (.getfield 87, 3) := by decide +kernel
theorem dX12_goes_93 : decode cX12_goes 93 = .ok (.bipush 8, 2) := by decide +kernel
theorem dX12_goes_95 : decode cX12_goes 95 = .ok (.iload_n 3, 1) := by decide +kernel
theorem dX12_goes_96 : decode cX12_goes 96 = .ok (.imul, 1) := by decide +kernel
theorem dX12_goes_97 : decode cX12_goes 97 = .ok (.iload 7, 2) := by decide +kernel
theorem dX12_goes_99 : decode cX12_goes 99 = .ok (.iadd, 1) := by decide +kernel
theorem dX12_goes_100 : decode cX12_goes 100 = .ok (.iaload, 1) := by decide +kernel
theorem dX12_goes_101 : decode cX12_goes 101 = .ok (.istore 8, 2) := by decide +kernel
theorem dX12_goes_103 : decode cX12_goes 103 = .ok (.iconst 0, 1) := by decide +kernel
theorem dX12_goes_104 : decode cX12_goes 104 = .ok (.istore 9, 2) := by decide +kernel
theorem dX12_goes_106 : decode cX12_goes 106 = .ok (.iload 9, 2) := by decide +kernel
theorem dX12_goes_108 : decode cX12_goes 108 = .ok (.iload 8, 2) := by decide +kernel
theorem dX12_goes_110 : decode cX12_goes 110 = .ok (.if_icmp .ge 68, 3) := by decide +kernel
theorem dX12_goes_113 : decode cX12_goes 113 = .ok (.aload_n 0, 1) := by decide +kernel
theorem dX12_goes_114 : decode cX12_goes 114 = .ok (.getfield 367, 3) := by decide +kernel
theorem dX12_goes_117 : decode cX12_goes 117 = .ok (.ifCond .ne 61, 3) := by decide +kernel
theorem dX12_goes_120 : decode cX12_goes 120 = .ok (.aload_n 0, 1) := by decide +kernel
theorem dX12_goes_121 : decode cX12_goes 121 = .ok (.iload_n 2, 1) := by decide +kernel
theorem dX12_goes_122 : decode cX12_goes 122 = .ok (.invokevirtual 370, 3) := by decide +kernel
theorem dX12_goes_125 : decode cX12_goes 125 = .ok (.aload_n 0, 1) := by decide +kernel
theorem dX12_goes_126 : decode cX12_goes 126 = .ok (.dup, 1) := by decide +kernel
theorem dX12_goes_127 : decode cX12_goes 127 = .ok (.getfield 308, 3) := by decide +kernel
theorem dX12_goes_130 : decode cX12_goes 130 = .ok (.iconst 1, 1) := by decide +kernel
theorem dX12_goes_131 : decode cX12_goes 131 = .ok (.iadd, 1) := by decide +kernel
theorem dX12_goes_132 : decode cX12_goes 132 = .ok (.putfield 308, 3) := by decide +kernel
theorem dX12_goes_135 : decode cX12_goes 135 = .ok (.aload_n 0, 1) := by decide +kernel
theorem dX12_goes_136 : decode cX12_goes 136 = .ok (.getfield 317, 3) := by decide +kernel
theorem dX12_goes_139 : decode cX12_goes 139 = .ok (.ifCond .le 18, 3) := by decide +kernel
theorem dX12_goes_142 : decode cX12_goes 142 = .ok (.aload_n 0, 1) := by decide +kernel
theorem dX12_goes_143 : decode cX12_goes 143 = .ok (.getfield 364, 3) := by decide +kernel
theorem dX12_goes_146 : decode cX12_goes 146 = .ok (.ifCond .ne 11, 3) := by decide +kernel
theorem dX12_goes_149 : decode cX12_goes 149 = .ok (.aload_n 0, 1) := by decide +kernel
theorem dX12_goes_150 : decode cX12_goes 150 = .ok (.aload_n 0, 1) := by decide +kernel
theorem dX12_goes_151 : decode cX12_goes 151 = .ok (.getfield 308, 3) := by decide +kernel
theorem dX12_goes_154 : decode cX12_goes 154 = .ok (.putfield 364, 3) := by decide +kernel
theorem dX12_goes_157 : decode cX12_goes 157 = .ok (.aload_n 0, 1) := by decide +kernel
theorem dX12_goes_158 : decode cX12_goes 158 = .ok (.invokevirtual 373, 3) := by decide +kernel
theorem dX12_goes_161 : decode cX12_goes 161 = .ok (.ifCond .eq 11, 3) := by decide +kernel
theorem dX12_goes_164 : decode cX12_goes 164 = .ok (.aload_n 0, 1) := by decide +kernel
theorem dX12_goes_165 : decode cX12_goes 165 = .ok (.aload_n 0, 1) := by decide +kernel
theorem dX12_goes_166 : decode cX12_goes 166 = .ok (.getfield 308, 3) := by decide +kernel
theorem dX12_goes_169 : decode cX12_goes 169 = .ok (.putfield 367, 3) := by decide +kernel
theorem dX12_goes_172 : decode cX12_goes 172 = .ok (.iinc 9 1, 3) := by decide +kernel
theorem dX12_goes_175 : decode cX12_goes 175 = .ok (.goto (-69), 3) := by decide +kernel
theorem dX12_goes_178 : decode cX12_goes 178 = .ok (.iinc 7 1, 3) := by decide +kernel
theorem dX12_goes_181 : decode cX12_goes 181 = .ok (.goto (-146), 3) := by decide +kernel
theorem dX12_goes_184 : decode cX12_goes 184 = .ok (.return_, 1) := by decide +kernel
theorem dX12_runs_0 : decode cX12_runs 0 = .ok (.iload_n 1, 1) := by decide +kernel
theorem dX12_runs_1 : decode cX12_runs 1 = .ok (.invokestatic 356, 3) := by decide +kernel
theorem dX12_runs_4 : decode cX12_runs 4 = .ok (.ifCond .eq 40, 3) := by decide +kernel
theorem dX12_runs_7 : decode cX12_runs 7 = .ok (.aload_n 0, 1) := by decide +kernel
theorem dX12_runs_8 : decode cX12_runs 8 = .ok (.iload_n 2, 1) := by decide +kernel
theorem dX12_runs_9 : decode cX12_runs 9 = .ok (.invokevirtual 177, 3) := by decide +kernel
theorem dX12_runs_12 : decode cX12_runs 12 = .ok (.ifCond .eq 32, 3) := by decide +kernel
theorem dX12_runs_15 : decode cX12_runs 15 = .ok (.iload_n 3, 1) := by decide +kernel
theorem dX12_runs_16 : decode cX12_runs 16 = .ok (.i2l, 1) := by decide +kernel
theorem dX12_runs_17 : decode cX12_runs 17 = .ok (.lconst 0, 1) := by decide +kernel
theorem dX12_runs_18 : decode cX12_runs 18 = .ok (.aload_n 0, 1) := by decide +kernel
theorem dX12_runs_19 : decode cX12_runs 19 = .ok (.getfield 26, 3) := by decide +kernel
theorem dX12_runs_22 : decode cX12_runs 22 = .ok (.iload_n 2, 1) := by decide +kernel
theorem dX12_runs_23 : decode cX12_runs 23 = .ok (.iaload, 1) := by decide +kernel
theorem dX12_runs_24 : decode cX12_runs 24 = .ok (.iconst 1, 1) := by decide +kernel
theorem dX12_runs_25 : decode cX12_runs 25 = .ok (.isub, 1) := by decide +kernel
theorem dX12_runs_26 : decode cX12_runs 26 = .ok (.i2l, 1) := by decide +kernel
theorem dX12_runs_27 : decode cX12_runs 27 = .ok (.invokestatic 164, 3) := by decide +kernel
theorem dX12_runs_30 : decode cX12_runs 30 = .ok (.ifCond .eq 14, 3) := by decide +kernel
theorem dX12_runs_33 : decode cX12_runs 33 = .ok (.iload 4, 2) := by decide +kernel
theorem dX12_runs_35 : decode cX12_runs 35 = .ok (.i2l, 1) := by decide +kernel
theorem dX12_runs_36 : decode cX12_runs 36 = .ok (.lconst 0, 1) := by decide +kernel
theorem dX12_runs_37 : decode cX12_runs 37 = .ok (.lconst 1, 1) := by decide +kernel
theorem dX12_runs_38 : decode cX12_runs 38 = .ok (.invokestatic 164, 3) := by decide +kernel
theorem dX12_runs_41 : decode cX12_runs 41 = .ok (.ifCond .ne 5, 3) := by decide +kernel
theorem dX12_runs_44 : decode cX12_runs 44 = .ok (.iconst (-1), 1) := by decide +kernel
theorem dX12_runs_45 : decode cX12_runs 45 = .ok (.ireturn, 1) := by decide +kernel
theorem dX12_runs_46 : decode cX12_runs 46 = .ok (.aload_n 0, 1) := by decide +kernel
theorem dX12_runs_47 : decode cX12_runs 47 = .ok (.iload_n 2, 1) := by decide +kernel
theorem dX12_runs_48 : decode cX12_runs 48 = .ok (.aload_n 0, 1) := by decide +kernel
theorem dX12_runs_49 : decode cX12_runs 49 = .ok (.getfield 29, 3) := by decide +kernel
theorem dX12_runs_52 : decode cX12_runs 52 = .ok (.iconst 4, 1) := by decide +kernel
theorem dX12_runs_53 : decode cX12_runs 53 = .ok (.iload_n 2, 1) := by decide +kernel
theorem dX12_runs_54 : decode cX12_runs 54 = .ok (.imul, 1) := by decide +kernel
theorem dX12_runs_55 : decode cX12_runs 55 = .ok (.iload_n 3, 1) := by decide +kernel
theorem dX12_runs_56 : decode cX12_runs 56 = .ok (.iadd, 1) := by decide +kernel
theorem dX12_runs_57 : decode cX12_runs 57 = .ok (.iaload, 1) := by decide +kernel
theorem dX12_runs_58 : decode cX12_runs 58 = .ok (.iload_n 1, 1) := by decide +kernel
theorem dX12_runs_59 : decode cX12_runs 59 = .ok (.iconst 0, 1) := by decide +kernel
theorem dX12_runs_60 : decode cX12_runs 60 = .ok (.iconst 0, 1) := by decide +kernel
theorem dX12_runs_61 : decode cX12_runs 61 = .ok (.invokevirtual 376, 3) := by decide +kernel
theorem dX12_runs_64 : decode cX12_runs 64 = .ok (.iload 4, 2) := by decide +kernel
theorem dX12_runs_66 : decode cX12_runs 66 = .ok (.ifCond .ne 10, 3) := by decide +kernel
theorem dX12_runs_69 : decode cX12_runs 69 = .ok (.aload_n 0, 1) := by decide +kernel
theorem dX12_runs_70 : decode cX12_runs 70 = .ok (.getfield 364, 3) := by decide +kernel
theorem dX12_runs_73 : decode cX12_runs 73 = .ok (.goto 7, 3) := by decide +kernel
theorem dX12_runs_76 : decode cX12_runs 76 = .ok (.aload_n 0, 1) := by decide +kernel
theorem dX12_runs_77 : decode cX12_runs 77 = .ok (.getfield 367, 3) := by decide +kernel
theorem dX12_runs_80 : decode cX12_runs 80 = .ok (.ireturn, 1) := by decide +kernel
theorem dX12_pullsIn_0 : decode cX12_pullsIn 0 = .ok (.iload_n 1, 1) := by decide +kernel
theorem dX12_pullsIn_1 : decode cX12_pullsIn 1 = .ok (.iconst (-1), 1) := by decide +kernel
theorem dX12_pullsIn_2 : decode cX12_pullsIn 2 = .ok (.if_icmp .ne 7, 3) := by decide +kernel
theorem dX12_pullsIn_5 : decode cX12_pullsIn 5 = .ok (.iconst 0, 1) := by decide +kernel
theorem dX12_pullsIn_6 : decode cX12_pullsIn 6 = .ok (.goto 9, 3) := by decide +kernel
theorem dX12_pullsIn_9 : decode cX12_pullsIn 9 = .ok (.aload_n 0, 1) := by decide +kernel
theorem dX12_pullsIn_10 : decode cX12_pullsIn 10 = .ok (.getfield 90, 3) := by decide +kernel
theorem dX12_pullsIn_13 : decode cX12_pullsIn 13 = .ok (.iload_n 1, 1) := by decide +kernel
theorem dX12_pullsIn_14 : decode cX12_pullsIn 14 = .ok (.iaload, 1) := by decide +kernel
theorem dX12_pullsIn_15 : decode cX12_pullsIn 15 = .ok (.ireturn, 1) := by decide +kernel
theorem dX12_all_0 : decode cX12_all 0 = .ok (.iconst 0, 1) := by decide +kernel
theorem dX12_all_1 : decode cX12_all 1 = .ok (.istore 5, 2) := by decide +kernel
theorem dX12_all_3 : decode cX12_all 3 = .ok (.iload 5, 2) := by decide +kernel
theorem dX12_all_5 : decode cX12_all 5 = .ok (.aload_n 0, 1) := by decide +kernel
theorem dX12_all_6 : decode cX12_all 6 = .ok (.getfield 161, 3) := by decide +kernel
theorem dX12_all_9 : decode cX12_all 9 = .ok (.if_icmp .ge 77, 3) := by decide +kernel
theorem dX12_all_12 : decode cX12_all 12 = .ok (.iconst 0, 1) := by decide +kernel
theorem dX12_all_13 : decode cX12_all 13 = .ok (.istore 6, 2) := by decide +kernel
theorem dX12_all_15 : decode cX12_all 15 = .ok (.iload 6, 2) := by decide +kernel
theorem dX12_all_17 : decode cX12_all 17 = .ok (.aload_n 0, 1) := by decide +kernel
theorem dX12_all_18 : decode cX12_all 18 = .ok (.getfield 26, 3) := by decide +kernel
theorem dX12_all_21 : decode cX12_all 21 = .ok (.iload 5, 2) := by decide +kernel
theorem dX12_all_23 : decode cX12_all 23 = .ok (.iaload, 1) := by decide +kernel
theorem dX12_all_24 : decode cX12_all 24 = .ok (.if_icmp .ge 56, 3) := by decide +kernel
theorem dX12_all_27 : decode cX12_all 27 = .ok (.iload_n 1, 1) := by decide +kernel
theorem dX12_all_28 : decode cX12_all 28 = .ok (.iload 5, 2) := by decide +kernel
theorem dX12_all_30 : decode cX12_all 30 = .ok (.invokestatic 380, 3) := by decide +kernel
theorem dX12_all_33 : decode cX12_all 33 = .ok (.ifCond .eq 47, 3) := by decide +kernel
theorem dX12_all_36 : decode cX12_all 36 = .ok (.aload_n 0, 1) := by decide +kernel
theorem dX12_all_37 : decode cX12_all 37 = .ok (.iload 5, 2) := by decide +kernel
theorem dX12_all_39 : decode cX12_all 39 = .ok (.aload_n 0, 1) := by decide +kernel
theorem dX12_all_40 : decode cX12_all 40 = .ok (.getfield 29, 3) := by decide +kernel
theorem dX12_all_43 : decode cX12_all 43 = .ok (.iconst 4, 1) := by decide +kernel
theorem dX12_all_44 : decode cX12_all 44 = .ok (.iload 5, 2) := by decide +kernel
theorem dX12_all_46 : decode cX12_all 46 = .ok (.imul, 1) := by decide +kernel
theorem dX12_all_47 : decode cX12_all 47 = .ok (.iload 6, 2) := by decide +kernel
theorem dX12_all_49 : decode cX12_all 49 = .ok (.iadd, 1) := by decide +kernel
theorem dX12_all_50 : decode cX12_all 50 = .ok (.iaload, 1) := by decide +kernel
theorem dX12_all_51 : decode cX12_all 51 = .ok (.iload_n 2, 1) := by decide +kernel
theorem dX12_all_52 : decode cX12_all 52 = .ok (.iload_n 3, 1) := by decide +kernel
theorem dX12_all_53 : decode cX12_all 53 = .ok (.iload 4, 2) := by decide +kernel
theorem dX12_all_55 : decode cX12_all 55 = .ok (.invokevirtual 376, 3) := by decide +kernel
theorem dX12_all_58 : decode cX12_all 58 = .ok (.aload_n 0, 1) := by decide +kernel
theorem dX12_all_59 : decode cX12_all 59 = .ok (.getfield 99, 3) := by decide +kernel
theorem dX12_all_62 : decode cX12_all 62 = .ok (.iconst 4, 1) := by decide +kernel
theorem dX12_all_63 : decode cX12_all 63 = .ok (.iload 5, 2) := by decide +kernel
theorem dX12_all_65 : decode cX12_all 65 = .ok (.imul, 1) := by decide +kernel
theorem dX12_all_66 : decode cX12_all 66 = .ok (.iload 6, 2) := by decide +kernel
theorem dX12_all_68 : decode cX12_all 68 = .ok (.iadd, 1) := by decide +kernel
theorem dX12_all_69 : decode cX12_all 69 = .ok (.aload_n 0, 1) := by decide +kernel
theorem dX12_all_70 : decode cX12_all 70 = .ok (.getfield 367, 3) := by decide +kernel
theorem dX12_all_73 : decode cX12_all 73 = .ok (.iastore, 1) := by decide +kernel
theorem dX12_all_74 : decode cX12_all 74 = .ok (.iinc 6 1, 3) := by decide +kernel
theorem dX12_all_77 : decode cX12_all 77 = .ok (.goto (-62), 3) := by decide +kernel
theorem dX12_all_80 : decode cX12_all 80 = .ok (.iinc 5 1, 3) := by decide +kernel
theorem dX12_all_83 : decode cX12_all 83 = .ok (.goto (-80), 3) := by decide +kernel
theorem dX12_all_86 : decode cX12_all 86 = .ok (.return_, 1) := by decide +kernel
theorem dX12_waysOf_0 : decode cX12_waysOf 0 = .ok (.lconst 1, 1) := by decide +kernel
theorem dX12_waysOf_1 : decode cX12_waysOf 1 = .ok (.lstore_n 2, 1) := by decide +kernel
theorem dX12_waysOf_2 : decode cX12_waysOf 2 = .ok (.iconst 0, 1) := by decide +kernel
theorem dX12_waysOf_3 : decode cX12_waysOf 3 = .ok (.istore 4, 2) := by decide +kernel
theorem dX12_waysOf_5 : decode cX12_waysOf 5 = .ok (.iload 4, 2) := by decide +kernel
theorem dX12_waysOf_7 : decode cX12_waysOf 7 = .ok (.aload_n 0, 1) := by decide +kernel
theorem dX12_waysOf_8 : decode cX12_waysOf 8 = .ok (.getfield 161, 3) := by decide +kernel
theorem dX12_waysOf_11 : decode cX12_waysOf 11 = .ok (.if_icmp .ge 78, 3) := by decide +kernel
theorem dX12_waysOf_14 : decode cX12_waysOf 14 = .ok (.aload_n 0, 1) := by decide +kernel
theorem dX12_waysOf_15 : decode cX12_waysOf 15 = .ok (.getfield 26, 3) := by decide +kernel
theorem dX12_waysOf_18 : decode cX12_waysOf 18 = .ok (.iload 4, 2) := by decide +kernel
theorem dX12_waysOf_20 : decode cX12_waysOf 20 = .ok (.iaload, 1) := by decide +kernel
theorem dX12_waysOf_21 : decode cX12_waysOf 21 = .ok (.ifCond .eq 62, 3) := by decide +kernel
theorem dX12_waysOf_24 : decode cX12_waysOf 24 = .ok (.iload_n 1, 1) := by decide +kernel
theorem dX12_waysOf_25 : decode cX12_waysOf 25 = .ok (.iload 4, 2) := by decide +kernel
theorem dX12_waysOf_27 : decode cX12_waysOf 27 = .ok (.invokestatic 380, 3) := by decide +kernel
theorem dX12_waysOf_30 : decode cX12_waysOf 30 = .ok (.ifCond .ne 6, 3) := by decide +kernel
theorem dX12_waysOf_33 : decode cX12_waysOf 33 = .ok (.goto 50, 3) := by decide +kernel
theorem dX12_waysOf_36 : decode cX12_waysOf 36 = .ok (.lconst 0, 1) := by decide +kernel
theorem dX12_waysOf_37 : decode cX12_waysOf 37 = .ok (.lstore 5, 2) := by decide +kernel
theorem dX12_waysOf_39 : decode cX12_waysOf 39 = .ok (.iconst 0, 1) := by decide +kernel
theorem dX12_waysOf_40 : decode cX12_waysOf 40 = .ok (.istore 7, 2) := by decide +kernel
theorem dX12_waysOf_42 : decode cX12_waysOf 42 = .ok (.iload 7, 2) := by decide +kernel
theorem dX12_waysOf_44 : decode cX12_waysOf 44 = .ok (.aload_n 0, 1) := by decide +kernel
theorem dX12_waysOf_45 : decode cX12_waysOf 45 = .ok (.getfield 26, 3) := by decide +kernel
theorem dX12_waysOf_48 : decode cX12_waysOf 48 = .ok (.iload 4, 2) := by decide +kernel
theorem dX12_waysOf_50 : decode cX12_waysOf 50 = .ok (.iaload, 1) := by decide +kernel
theorem dX12_waysOf_51 : decode cX12_waysOf 51 = .ok (.if_icmp .ge 27, 3) := by decide +kernel
theorem dX12_waysOf_54 : decode cX12_waysOf 54 = .ok (.lload 5, 2) := by decide +kernel
theorem dX12_waysOf_56 : decode cX12_waysOf 56 = .ok (.aload_n 0, 1) := by decide +kernel
theorem dX12_waysOf_57 : decode cX12_waysOf 57 = .ok (.getfield 32, 3) := by decide +kernel
theorem dX12_waysOf_60 : decode cX12_waysOf 60 = .ok (.iconst 4, 1) := by decide +kernel
theorem dX12_waysOf_61 : decode cX12_waysOf 61 = .ok (.iload 4, 2) := by decide +kernel
theorem dX12_waysOf_63 : decode cX12_waysOf 63 = .ok (.imul, 1) := by decide +kernel
theorem dX12_waysOf_64 : decode cX12_waysOf 64 = .ok (.iload 7, 2) := by decide +kernel
theorem dX12_waysOf_66 : decode cX12_waysOf 66 = .ok (.iadd, 1) := by decide +kernel
theorem dX12_waysOf_67 : decode cX12_waysOf 67 = .ok (.iaload, 1) := by decide +kernel
theorem dX12_waysOf_68 : decode cX12_waysOf 68 = .ok (.i2l, 1) := by decide +kernel
theorem dX12_waysOf_69 : decode cX12_waysOf 69 = .ok (.ladd, 1) := by decide +kernel
theorem dX12_waysOf_70 : decode cX12_waysOf 70 = .ok (.lstore 5, 2) := by decide +kernel
theorem dX12_waysOf_72 : decode cX12_waysOf 72 = .ok (.iinc 7 1, 3) := by decide +kernel
theorem dX12_waysOf_75 : decode cX12_waysOf 75 = .ok (.goto (-33), 3) := by decide +kernel
theorem dX12_waysOf_78 : decode cX12_waysOf 78 = .ok (.lload_n 2, 1) := by decide +kernel
theorem dX12_waysOf_79 : decode cX12_waysOf 79 = .ok (.lload 5, 2) := by decide +kernel
theorem dX12_waysOf_81 : decode cX12_waysOf 81 = .ok (.lmul, 1) := by decide +kernel
theorem dX12_waysOf_82 : decode cX12_waysOf 82 = .ok (.lstore_n 2, 1) := by decide +kernel
theorem dX12_waysOf_83 : decode cX12_waysOf 83 = .ok (.iinc 4 1, 3) := by decide +kernel
theorem dX12_waysOf_86 : decode cX12_waysOf 86 = .ok (.goto (-81), 3) := by decide +kernel
theorem dX12_waysOf_89 : decode cX12_waysOf 89 = .ok (.lload_n 2, 1) := by decide +kernel
theorem dX12_waysOf_90 : decode cX12_waysOf 90 = .ok (.lreturn, 1) := by decide +kernel
theorem dX12_waysLeft_0 : decode cX12_waysLeft 0 = .ok (.lconst 1, 1) := by decide +kernel
theorem dX12_waysLeft_1 : decode cX12_waysLeft 1 = .ok (.lstore_n 3, 1) := by decide +kernel
theorem dX12_waysLeft_2 : decode cX12_waysLeft 2 = .ok (.iconst 0, 1) := by decide +kernel
theorem dX12_waysLeft_3 : decode cX12_waysLeft 3 = .ok (.istore 5, 2) := by decide +kernel
theorem dX12_waysLeft_5 : decode cX12_waysLeft 5 = .ok (.iload 5, 2) := by decide +kernel
theorem dX12_waysLeft_7 : decode cX12_waysLeft 7 = .ok (.aload_n 0, 1) := by decide +kernel
theorem dX12_waysLeft_8 : decode cX12_waysLeft 8 = .ok (.getfield 161, 3) := by decide +kernel
theorem dX12_waysLeft_11 : decode cX12_waysLeft 11 = .ok (.if_icmp .ge 113, 3) := by decide +kernel
theorem dX12_waysLeft_14 : decode cX12_waysLeft 14 = .ok (.aload_n 0, 1) := by decide +kernel
theorem dX12_waysLeft_15 : decode cX12_waysLeft 15 = .ok (.getfield 26, 3) := by decide +kernel
theorem dX12_waysLeft_18 : decode cX12_waysLeft 18 = .ok (.iload 5, 2) := by decide +kernel
theorem dX12_waysLeft_20 : decode cX12_waysLeft 20 = .ok (.iaload, 1) := by decide +kernel
theorem dX12_waysLeft_21 : decode cX12_waysLeft 21 = .ok (.ifCond .eq 97, 3) := by decide +kernel
theorem dX12_waysLeft_24 : decode cX12_waysLeft 24 = .ok (.iload_n 1, 1) := by decide +kernel
theorem dX12_waysLeft_25 : decode cX12_waysLeft 25 = .ok (.iload 5, 2) := by decide +kernel
theorem dX12_waysLeft_27 : decode cX12_waysLeft 27 = .ok (.invokestatic 380, 3) := by decide +kernel
theorem dX12_waysLeft_30 : decode cX12_waysLeft 30 = .ok (.ifCond .ne 6, 3) := by decide +kernel
theorem dX12_waysLeft_33 : decode cX12_waysLeft 33 = .ok (.goto 85, 3) := by decide +kernel
theorem dX12_waysLeft_36 : decode cX12_waysLeft 36 = .ok (.lconst 0, 1) := by decide +kernel
theorem dX12_waysLeft_37 : decode cX12_waysLeft 37 = .ok (.lstore 6, 2) := by decide +kernel
theorem dX12_waysLeft_39 : decode cX12_waysLeft 39 = .ok (.iconst 0, 1) := by decide +kernel
theorem dX12_waysLeft_40 : decode cX12_waysLeft 40 = .ok (.istore 8, 2) := by decide +kernel
theorem dX12_waysLeft_42 : decode cX12_waysLeft 42 = .ok (.iload 8, 2) := by decide +kernel
theorem dX12_waysLeft_44 : decode cX12_waysLeft 44 = .ok (.aload_n 0, 1) := by decide +kernel
theorem dX12_waysLeft_45 : decode cX12_waysLeft 45 = .ok (.getfield 26, 3) := by decide +kernel
theorem dX12_waysLeft_48 : decode cX12_waysLeft 48 = .ok (.iload 5, 2) := by decide +kernel
theorem dX12_waysLeft_50 : decode cX12_waysLeft 50 = .ok (.iaload, 1) := by decide +kernel
theorem dX12_waysLeft_51 : decode cX12_waysLeft 51 = .ok (.if_icmp .ge 62, 3) := by decide +kernel
theorem dX12_waysLeft_54 : decode cX12_waysLeft 54 = .ok (.lload 6, 2) := by decide +kernel
theorem dX12_waysLeft_56 : decode cX12_waysLeft 56 = .ok (.aload_n 0, 1) := by decide +kernel
theorem dX12_waysLeft_57 : decode cX12_waysLeft 57 = .ok (.getfield 99, 3) := by decide +kernel
theorem dX12_waysLeft_60 : decode cX12_waysLeft 60 = .ok (.iconst 4, 1) := by decide +kernel
theorem dX12_waysLeft_61 : decode cX12_waysLeft 61 = .ok (.iload 5, 2) := by decide +kernel
theorem dX12_waysLeft_63 : decode cX12_waysLeft 63 = .ok (.imul, 1) := by decide +kernel
theorem dX12_waysLeft_64 : decode cX12_waysLeft 64 = .ok (.iload 8, 2) := by decide +kernel
theorem dX12_waysLeft_66 : decode cX12_waysLeft 66 = .ok (.iadd, 1) := by decide +kernel
theorem dX12_waysLeft_67 : decode cX12_waysLeft 67 = .ok (.iaload, 1) := by decide +kernel
theorem dX12_waysLeft_68 : decode cX12_waysLeft 68 = .ok (.ifCond .eq 19, 3) := by decide +kernel
theorem dX12_waysLeft_71 : decode cX12_waysLeft 71 = .ok (.aload_n 0, 1) := by decide +kernel
theorem dX12_waysLeft_72 : decode cX12_waysLeft 72 = .ok (.getfield 99, 3) := by decide +kernel
theorem dX12_waysLeft_75 : decode cX12_waysLeft 75 = .ok (.iconst 4, 1) := by decide +kernel
theorem dX12_waysLeft_76 : decode cX12_waysLeft 76 = .ok (.iload 5, 2) := by decide +kernel
theorem dX12_waysLeft_78 : decode cX12_waysLeft 78 = .ok (.imul, 1) := by decide +kernel
theorem dX12_waysLeft_79 : decode cX12_waysLeft 79 = .ok (.iload 8, 2) := by decide +kernel
theorem dX12_waysLeft_81 : decode cX12_waysLeft 81 = .ok (.iadd, 1) := by decide +kernel
theorem dX12_waysLeft_82 : decode cX12_waysLeft 82 = .ok (.iaload, 1) := by decide +kernel
theorem dX12_waysLeft_83 : decode cX12_waysLeft 83 = .ok (.iload_n 2, 1) := by decide +kernel
theorem dX12_waysLeft_84 : decode cX12_waysLeft 84 = .ok (.if_icmp .le 19, 3) := by decide +kernel
theorem dX12_waysLeft_87 : decode cX12_waysLeft 87 = .ok (.aload_n 0, 1) := by decide +kernel
theorem dX12_waysLeft_88 : decode cX12_waysLeft 88 = .ok (.getfield 32, 3) := by decide +kernel
theorem dX12_waysLeft_91 : decode cX12_waysLeft 91 = .ok (.iconst 4, 1) := by decide +kernel
theorem dX12_waysLeft_92 : decode cX12_waysLeft 92 = .ok (.iload 5, 2) := by decide +kernel
theorem dX12_waysLeft_94 : decode cX12_waysLeft 94 = .ok (.imul, 1) := by decide +kernel
theorem dX12_waysLeft_95 : decode cX12_waysLeft 95 = .ok (.iload 8, 2) := by decide +kernel
theorem dX12_waysLeft_97 : decode cX12_waysLeft 97 = .ok (.iadd, 1) := by decide +kernel
theorem dX12_waysLeft_98 : decode cX12_waysLeft 98 = .ok (.iaload, 1) := by decide +kernel
theorem dX12_waysLeft_99 : decode cX12_waysLeft 99 = .ok (.i2l, 1) := by decide +kernel
theorem dX12_waysLeft_100 : decode cX12_waysLeft 100 = .ok (.goto 4, 3) := by decide +kernel
theorem dX12_waysLeft_103 : decode cX12_waysLeft 103 = .ok (.lconst 0, 1) := by decide +kernel
theorem dX12_waysLeft_104 : decode cX12_waysLeft 104 = .ok (.ladd, 1) := by decide +kernel
theorem dX12_waysLeft_105 : decode cX12_waysLeft 105 = .ok (.lstore 6, 2) := by decide +kernel
theorem dX12_waysLeft_107 : decode cX12_waysLeft 107 = .ok (.iinc 8 1, 3) := by decide +kernel
theorem dX12_waysLeft_110 : decode cX12_waysLeft 110 = .ok (.goto (-68), 3) := by decide +kernel
theorem dX12_waysLeft_113 : decode cX12_waysLeft 113 = .ok (.lload_n 3, 1) := by decide +kernel
theorem dX12_waysLeft_114 : decode cX12_waysLeft 114 = .ok (.lload 6, 2) := by decide +kernel
theorem dX12_waysLeft_116 : decode cX12_waysLeft 116 = .ok (.lmul, 1) := by decide +kernel
theorem dX12_waysLeft_117 : decode cX12_waysLeft 117 = .ok (.lstore_n 3, 1) := by decide +kernel
theorem dX12_waysLeft_118 : decode cX12_waysLeft 118 = .ok (.iinc 5 1, 3) := by decide +kernel
theorem dX12_waysLeft_121 : decode cX12_waysLeft 121 = .ok (.goto (-116), 3) := by decide +kernel
theorem dX12_waysLeft_124 : decode cX12_waysLeft 124 = .ok (.lload_n 3, 1) := by decide +kernel
theorem dX12_waysLeft_125 : decode cX12_waysLeft 125 = .ok (.lreturn, 1) := by decide +kernel
theorem dX12_whole_0 : decode cX12_whole 0 = .ok (.iconst 1, 1) := by decide +kernel
theorem dX12_whole_1 : decode cX12_whole 1 = .ok (.aload_n 0, 1) := by decide +kernel
theorem dX12_whole_2 : decode cX12_whole 2 = .ok (.getfield 161, 3) := by decide +kernel
theorem dX12_whole_5 : decode cX12_whole 5 = .ok (.ishl, 1) := by decide +kernel
theorem dX12_whole_6 : decode cX12_whole 6 = .ok (.iconst 1, 1) := by decide +kernel
theorem dX12_whole_7 : decode cX12_whole 7 = .ok (.isub, 1) := by decide +kernel
theorem dX12_whole_8 : decode cX12_whole 8 = .ok (.ireturn, 1) := by decide +kernel
theorem dX12_first_0 : decode cX12_first 0 = .ok (.lconst 0, 1) := by decide +kernel
theorem dX12_first_1 : decode cX12_first 1 = .ok (.lstore_n 2, 1) := by decide +kernel
theorem dX12_first_2 : decode cX12_first 2 = .ok (.iconst 0, 1) := by decide +kernel
theorem dX12_first_3 : decode cX12_first 3 = .ok (.istore 4, 2) := by decide +kernel
theorem dX12_first_5 : decode cX12_first 5 = .ok (.iload 4, 2) := by decide +kernel
theorem dX12_first_7 : decode cX12_first 7 = .ok (.aload_n 0, 1) := by decide +kernel
theorem dX12_first_8 : decode cX12_first 8 = .ok (.getfield 26, 3) := by decide +kernel
theorem dX12_first_11 : decode cX12_first 11 = .ok (.iload_n 1, 1) := by decide +kernel
theorem dX12_first_12 : decode cX12_first 12 = .ok (.iaload, 1) := by decide +kernel
theorem dX12_first_13 : decode cX12_first 13 = .ok (.if_icmp .ge 178, 3) := by decide +kernel
theorem dX12_first_16 : decode cX12_first 16 = .ok (.aload_n 0, 1) := by decide +kernel
theorem dX12_first_17 : decode cX12_first 17 = .ok (.getfield 99, 3) := by decide +kernel
theorem dX12_first_20 : decode cX12_first 20 = .ok (.iconst 4, 1) := by decide +kernel
theorem dX12_first_21 : decode cX12_first 21 = .ok (.iload_n 1, 1) := by decide +kernel
theorem dX12_first_22 : decode cX12_first 22 = .ok (.imul, 1) := by decide +kernel
theorem dX12_first_23 : decode cX12_first 23 = .ok (.iload 4, 2) := by decide +kernel
theorem dX12_first_25 : decode cX12_first 25 = .ok (.iadd, 1) := by decide +kernel
theorem dX12_first_26 : decode cX12_first 26 = .ok (.iaload, 1) := by decide +kernel
theorem dX12_first_27 : decode cX12_first 27 = .ok (.istore 5, 2) := by decide +kernel
theorem dX12_first_29 : decode cX12_first 29 = .ok (.iload 5, 2) := by decide +kernel
theorem dX12_first_31 : decode cX12_first 31 = .ok (.ifCond .ne 6, 3) := by decide +kernel
theorem dX12_first_34 : decode cX12_first 34 = .ok (.goto 151, 3) := by decide +kernel
theorem dX12_first_37 : decode cX12_first 37 = .ok (.aload_n 0, 1) := by decide +kernel
theorem dX12_first_38 : decode cX12_first 38 = .ok (.getfield 32, 3) := by decide +kernel
theorem dX12_first_41 : decode cX12_first 41 = .ok (.iconst 4, 1) := by decide +kernel
theorem dX12_first_42 : decode cX12_first 42 = .ok (.iload_n 1, 1) := by decide +kernel
theorem dX12_first_43 : decode cX12_first 43 = .ok (.imul, 1) := by decide +kernel
theorem dX12_first_44 : decode cX12_first 44 = .ok (.iload 4, 2) := by decide +kernel
theorem dX12_first_46 : decode cX12_first 46 = .ok (.iadd, 1) := by decide +kernel
theorem dX12_first_47 : decode cX12_first 47 = .ok (.iaload, 1) := by decide +kernel
theorem dX12_first_48 : decode cX12_first 48 = .ok (.i2l, 1) := by decide +kernel
theorem dX12_first_49 : decode cX12_first 49 = .ok (.lstore 6, 2) := by decide +kernel
theorem dX12_first_51 : decode cX12_first 51 = .ok (.iconst 0, 1) := by decide +kernel
theorem dX12_first_52 : decode cX12_first 52 = .ok (.istore 8, 2) := by decide +kernel
theorem dX12_first_54 : decode cX12_first 54 = .ok (.iload 8, 2) := by decide +kernel
theorem dX12_first_56 : decode cX12_first 56 = .ok (.aload_n 0, 1) := by decide +kernel
theorem dX12_first_57 : decode cX12_first 57 = .ok (.getfield 161, 3) := by decide +kernel
theorem dX12_first_60 : decode cX12_first 60 = .ok (.if_icmp .ge 120, 3) := by decide +kernel
theorem dX12_first_63 : decode cX12_first 63 = .ok (.iload 8, 2) := by decide +kernel
theorem dX12_first_65 : decode cX12_first 65 = .ok (.iload_n 1, 1) := by decide +kernel
theorem dX12_first_66 : decode cX12_first 66 = .ok (.if_icmp .eq 108, 3) := by decide +kernel
theorem dX12_first_69 : decode cX12_first 69 = .ok (.aload_n 0, 1) := by decide +kernel
theorem dX12_first_70 : decode cX12_first 70 = .ok (.getfield 26, 3) := by decide +kernel
theorem dX12_first_73 : decode cX12_first 73 = .ok (.iload 8, 2) := by decide +kernel
theorem dX12_first_75 : decode cX12_first 75 = .ok (.iaload, 1) := by decide +kernel
theorem dX12_first_76 : decode cX12_first 76 = .ok (.ifCond .ne 6, 3) := by decide +kernel
theorem dX12_first_79 : decode cX12_first 79 = .ok (.goto 95, 3) := by decide +kernel
theorem dX12_first_82 : decode cX12_first 82 = .ok (.lconst 0, 1) := by decide +kernel
theorem dX12_first_83 : decode cX12_first 83 = .ok (.lstore 9, 2) := by decide +kernel
theorem dX12_first_85 : decode cX12_first 85 = .ok (.iconst 0, 1) := by decide +kernel
theorem dX12_first_86 : decode cX12_first 86 = .ok (.istore 11, 2) := by decide +kernel
theorem dX12_first_88 : decode cX12_first 88 = .ok (.iload 11, 2) := by decide +kernel
theorem dX12_first_90 : decode cX12_first 90 = .ok (.aload_n 0, 1) := by decide +kernel
theorem dX12_first_91 : decode cX12_first 91 = .ok (.getfield 26, 3) := by decide +kernel
theorem dX12_first_94 : decode cX12_first 94 = .ok (.iload 8, 2) := by decide +kernel
theorem dX12_first_96 : decode cX12_first 96 = .ok (.iaload, 1) := by decide +kernel
theorem dX12_first_97 : decode cX12_first 97 = .ok (.if_icmp .ge 70, 3) := by decide +kernel
theorem dX12_first_100 : decode cX12_first 100 = .ok (.aload_n 0, 1) := by decide +kernel
theorem dX12_first_101 : decode cX12_first 101 = .ok (.getfield 99, 3) := by decide +kernel
theorem dX12_first_104 : decode cX12_first 104 = .ok (.iconst 4, 1) := by decide +kernel
theorem dX12_first_105 : decode cX12_first 105 = .ok (.iload 8, 2) := by decide +kernel
theorem dX12_first_107 : decode cX12_first 107 = .ok (.imul, 1) := by decide +kernel
theorem dX12_first_108 : decode cX12_first 108 = .ok (.iload 11, 2) := by decide +kernel
theorem dX12_first_110 : decode cX12_first 110 = .ok (.iadd, 1) := by decide +kernel
theorem dX12_first_111 : decode cX12_first 111 = .ok (.iaload, 1) := by decide +kernel
theorem dX12_first_112 : decode cX12_first 112 = .ok (.istore 12, 2) := by decide +kernel
theorem dX12_first_114 : decode cX12_first 114 = .ok (.lload 9, 2) := by decide +kernel
theorem dX12_first_116 : decode cX12_first 116 = .ok (.iload 12, 2) := by decide +kernel
theorem dX12_first_118 : decode cX12_first 118 = .ok (.ifCond .eq 23, 3) := by decide +kernel
theorem dX12_first_121 : decode cX12_first 121 = .ok (.iload 12, 2) := by decide +kernel
theorem dX12_first_123 : decode cX12_first 123 = .ok (.iload 5, 2) := by decide +kernel
theorem dX12_first_125 : decode cX12_first 125 = .ok (.if_icmp .gt 16, 3) := by decide +kernel
theorem dX12_first_128 : decode cX12_first 128 = .ok (.iload 12, 2) := by decide +kernel
theorem dX12_first_130 : decode cX12_first 130 = .ok (.iload 5, 2) := by decide +kernel
theorem dX12_first_132 : decode cX12_first 132 = .ok (.if_icmp .ne 25, 3) := by decide +kernel
theorem dX12_first_135 : decode cX12_first 135 = .ok (.iload 8, 2) := by decide +kernel
theorem dX12_first_137 : decode cX12_first 137 = .ok (.iload_n 1, 1) := by decide +kernel
theorem dX12_first_138 : decode cX12_first 138 = .ok (.if_icmp .le 19, 3) := by decide +kernel
theorem dX12_first_141 : decode cX12_first 141 = .ok (.aload_n 0, 1) := by decide +kernel
theorem dX12_first_142 : decode cX12_first 142 = .ok (.getfield 32, 3) := by decide +kernel
theorem dX12_first_145 : decode cX12_first 145 = .ok (.iconst 4, 1) := by decide +kernel
theorem dX12_first_146 : decode cX12_first 146 = .ok (.iload 8, 2) := by decide +kernel
theorem dX12_first_148 : decode cX12_first 148 = .ok (.imul, 1) := by decide +kernel
theorem dX12_first_149 : decode cX12_first 149 = .ok (.iload 11, 2) := by decide +kernel
theorem dX12_first_151 : decode cX12_first 151 = .ok (.iadd, 1) := by decide +kernel
theorem dX12_first_152 : decode cX12_first 152 = .ok (.iaload, 1) := by decide +kernel
theorem dX12_first_153 : decode cX12_first 153 = .ok (.i2l, 1) := by decide +kernel
theorem dX12_first_154 : decode cX12_first 154 = .ok (.goto 4, 3) := by decide +kernel
theorem dX12_first_157 : decode cX12_first 157 = .ok (.lconst 0, 1) := by decide +kernel
theorem dX12_first_158 : decode cX12_first 158 = .ok (.ladd, 1) := by decide +kernel
theorem dX12_first_159 : decode cX12_first 159 = .ok (.lstore 9, 2) := by decide +kernel
theorem dX12_first_161 : decode cX12_first 161 = .ok (.iinc 11 1, 3) := by decide +kernel
theorem dX12_first_164 : decode cX12_first 164 = .ok (.goto (-76), 3) := by decide +kernel
theorem dX12_first_167 : decode cX12_first 167 = .ok (.lload 6, 2) := by decide +kernel
theorem dX12_first_169 : decode cX12_first 169 = .ok (.lload 9, 2) := by decide +kernel
theorem dX12_first_171 : decode cX12_first 171 = .ok (.lmul, 1) := by decide +kernel
theorem dX12_first_172 : decode cX12_first 172 = .ok (.lstore 6, 2) := by decide +kernel
theorem dX12_first_174 : decode cX12_first 174 = .ok (.iinc 8 1, 3) := by decide +kernel
theorem dX12_first_177 : decode cX12_first 177 = .ok (.goto (-123), 3) := by decide +kernel
theorem dX12_first_180 : decode cX12_first 180 = .ok (.lload_n 2, 1) := by decide +kernel
theorem dX12_first_181 : decode cX12_first 181 = .ok (.lload 6, 2) := by decide +kernel
theorem dX12_first_183 : decode cX12_first 183 = .ok (.ladd, 1) := by decide +kernel
theorem dX12_first_184 : decode cX12_first 184 = .ok (.lstore_n 2, 1) := by decide +kernel
theorem dX12_first_185 : decode cX12_first 185 = .ok (.iinc 4 1, 3) := by decide +kernel
theorem dX12_first_188 : decode cX12_first 188 = .ok (.goto (-183), 3) := by decide +kernel
theorem dX12_first_191 : decode cX12_first 191 = .ok (.lload_n 2, 1) := by decide +kernel
theorem dX12_first_192 : decode cX12_first 192 = .ok (.lreturn, 1) := by decide +kernel
theorem dX12_canFly_0 : decode cX12_canFly 0 = .ok (.iload_n 1, 1) := by decide +kernel
theorem dX12_canFly_1 : decode cX12_canFly 1 = .ok (.invokestatic 356, 3) := by decide +kernel
theorem dX12_canFly_4 : decode cX12_canFly 4 = .ok (.ifCond .eq 34, 3) := by decide +kernel
theorem dX12_canFly_7 : decode cX12_canFly 7 = .ok (.iload_n 2, 1) := by decide +kernel
theorem dX12_canFly_8 : decode cX12_canFly 8 = .ok (.invokestatic 345, 3) := by decide +kernel
theorem dX12_canFly_11 : decode cX12_canFly 11 = .ok (.ifCond .eq 27, 3) := by decide +kernel
theorem dX12_canFly_14 : decode cX12_canFly 14 = .ok (.iload_n 3, 1) := by decide +kernel
theorem dX12_canFly_15 : decode cX12_canFly 15 = .ok (.i2l, 1) := by decide +kernel
theorem dX12_canFly_16 : decode cX12_canFly 16 = .ok (.lconst 0, 1) := by decide +kernel
theorem dX12_canFly_17 : decode cX12_canFly 17 = .ok (.sipush 2000, 3) := by decide +kernel
theorem dX12_canFly_20 : decode cX12_canFly 20 = .ok (.aload_n 0, 1) := by decide +kernel
theorem dX12_canFly_21 : decode cX12_canFly 21 = .ok (.getfield 90, 3) := by decide +kernel
theorem dX12_canFly_24 : decode cX12_canFly 24 = .ok (.iload_n 1, 1) := by decide +kernel
theorem dX12_canFly_25 : decode cX12_canFly 25 = .ok (.iaload, 1) := by decide +kernel
theorem dX12_canFly_26 : decode cX12_canFly 26 = .ok (.isub, 1) := by decide +kernel
theorem dX12_canFly_27 : decode cX12_canFly 27 = .ok (.i2l, 1) := by decide +kernel
theorem dX12_canFly_28 : decode cX12_canFly 28 = .ok (.invokestatic 164, 3) := by decide +kernel
theorem dX12_canFly_31 : decode cX12_canFly 31 = .ok (.ifCond .eq 7, 3) := by decide +kernel
theorem dX12_canFly_34 : decode cX12_canFly 34 = .ok (.iconst 1, 1) := by decide +kernel
theorem dX12_canFly_35 : decode cX12_canFly 35 = .ok (.goto 4, 3) := by decide +kernel
theorem dX12_canFly_38 : decode cX12_canFly 38 = .ok (.iconst 0, 1) := by decide +kernel
theorem dX12_canFly_39 : decode cX12_canFly 39 = .ok (.ireturn, 1) := by decide +kernel
theorem dX12_odds_0 : decode cX12_odds 0 = .ok (.aload_n 0, 1) := by decide +kernel
theorem dX12_odds_1 : decode cX12_odds 1 = .ok (.iload_n 1, 1) := by decide +kernel
theorem dX12_odds_2 : decode cX12_odds 2 = .ok (.iload_n 2, 1) := by decide +kernel
theorem dX12_odds_3 : decode cX12_odds 3 = .ok (.iload_n 3, 1) := by decide +kernel
theorem dX12_odds_4 : decode cX12_odds 4 = .ok (.invokevirtual 384, 3) := by decide +kernel
theorem dX12_odds_7 : decode cX12_odds 7 = .ok (.ifCond .eq 25, 3) := by decide +kernel
theorem dX12_odds_10 : decode cX12_odds 10 = .ok (.iload 4, 2) := by decide +kernel
theorem dX12_odds_12 : decode cX12_odds 12 = .ok (.iconst (-1), 1) := by decide +kernel
theorem dX12_odds_13 : decode cX12_odds 13 = .ok (.if_icmp .eq 23, 3) := by decide +kernel
theorem dX12_odds_16 : decode cX12_odds 16 = .ok (.iload 4, 2) := by decide +kernel
theorem dX12_odds_18 : decode cX12_odds 18 = .ok (.bipush 8, 2) := by decide +kernel
theorem dX12_odds_20 : decode cX12_odds 20 = .ok (.if_icmp .eq 16, 3) := by decide +kernel
theorem dX12_odds_23 : decode cX12_odds 23 = .ok (.aload_n 0, 1) := by decide +kernel
theorem dX12_odds_24 : decode cX12_odds 24 = .ok (.iload 4, 2) := by decide +kernel
theorem dX12_odds_26 : decode cX12_odds 26 = .ok (.invokevirtual 177, 3) := by decide +kernel
theorem dX12_odds_29 : decode cX12_odds 29 = .ok (.ifCond .ne 7, 3) := by decide +kernel
theorem dX12_odds_32 : decode cX12_odds 32 = .ok (.ldc2_w 388, 3) := by decide +kernel
theorem dX12_odds_35 : decode cX12_odds 35 = .ok (.lreturn, 1) := by decide +kernel
theorem dX12_odds_36 : decode cX12_odds 36 = .ok (.aload_n 0, 1) := by decide +kernel
theorem dX12_odds_37 : decode cX12_odds 37 = .ok (.aload_n 0, 1) := by decide +kernel
theorem dX12_odds_38 : decode cX12_odds 38 = .ok (.invokevirtual 390, 3) := by decide +kernel
theorem dX12_odds_41 : decode cX12_odds 41 = .ok (.iload_n 1, 1) := by decide +kernel
theorem dX12_odds_42 : decode cX12_odds 42 = .ok (.iload_n 2, 1) := by decide +kernel
theorem dX12_odds_43 : decode cX12_odds 43 = .ok (.iload_n 3, 1) := by decide +kernel
theorem dX12_odds_44 : decode cX12_odds 44 = .ok (.invokevirtual 393, 3) := by decide +kernel
theorem dX12_odds_47 : decode cX12_odds 47 = .ok (.iload 4, 2) := by decide +kernel
theorem dX12_odds_49 : decode cX12_odds 49 = .ok (.iconst (-1), 1) := by decide +kernel
theorem dX12_odds_50 : decode cX12_odds 50 = .ok (.if_icmp .ne 14, 3) := by decide +kernel
theorem dX12_odds_53 : decode cX12_odds 53 = .ok (.aload_n 0, 1) := by decide +kernel
theorem dX12_odds_54 : decode cX12_odds 54 = .ok (.aload_n 0, 1) := by decide +kernel
theorem dX12_odds_55 : decode cX12_odds 55 = .ok (.invokevirtual 390, 3) := by decide +kernel
theorem dX12_odds_58 : decode cX12_odds 58 = .ok (.invokevirtual 397, 3) := by decide +kernel
theorem dX12_odds_61 : decode cX12_odds 61 = .ok (.goto 39, 3) := by decide +kernel
theorem dX12_odds_64 : decode cX12_odds 64 = .ok (.iload 4, 2) := by decide +kernel
theorem dX12_odds_66 : decode cX12_odds 66 = .ok (.bipush 8, 2) := by decide +kernel
theorem dX12_odds_68 : decode cX12_odds 68 = .ok (.if_icmp .ne 26, 3) := by decide +kernel
theorem dX12_odds_71 : decode cX12_odds 71 = .ok (.aload_n 0, 1) := by decide +kernel
theorem dX12_odds_72 : decode cX12_odds 72 = .ok (.aload_n 0, 1) := by decide +kernel
theorem dX12_odds_73 : decode cX12_odds 73 = .ok (.invokevirtual 390, 3) := by decide +kernel
theorem dX12_odds_76 : decode cX12_odds 76 = .ok (.invokevirtual 397, 3) := by decide +kernel
theorem dX12_odds_79 : decode cX12_odds 79 = .ok (.aload_n 0, 1) := by decide +kernel
theorem dX12_odds_80 : decode cX12_odds 80 = .ok (.aload_n 0, 1) := by decide +kernel
theorem dX12_odds_81 : decode cX12_odds 81 = .ok (.invokevirtual 390, 3) := by decide +kernel
theorem dX12_odds_84 : decode cX12_odds 84 = .ok (.sipush 2000, 3) := by decide +kernel
theorem dX12_odds_87 : decode cX12_odds 87 = .ok (.invokevirtual 401, 3) := by decide +kernel
theorem dX12_odds_90 : decode cX12_odds 90 = .ok (.lsub, 1) := by decide +kernel
theorem dX12_odds_91 : decode cX12_odds 91 = .ok (.goto 9, 3) := by decide +kernel
theorem dX12_odds_94 : decode cX12_odds 94 = .ok (.aload_n 0, 1) := by decide +kernel
theorem dX12_odds_95 : decode cX12_odds 95 = .ok (.iload 4, 2) := by decide +kernel
theorem dX12_odds_97 : decode cX12_odds 97 = .ok (.invokevirtual 405, 3) := by decide +kernel
theorem dX12_odds_100 : decode cX12_odds 100 = .ok (.lreturn, 1) := by decide +kernel
theorem dX12_divisor_0 : decode cX12_divisor 0 = .ok (.lload_n 0, 1) := by decide +kernel
theorem dX12_divisor_1 : decode cX12_divisor 1 = .ok (.lstore 4, 2) := by decide +kernel
theorem dX12_divisor_3 : decode cX12_divisor 3 = .ok (.lload_n 2, 1) := by decide +kernel
theorem dX12_divisor_4 : decode cX12_divisor 4 = .ok (.lstore 6, 2) := by decide +kernel
theorem dX12_divisor_6 : decode cX12_divisor 6 = .ok (.lload 6, 2) := by decide +kernel
theorem dX12_divisor_8 : decode cX12_divisor 8 = .ok (.lconst 0, 1) := by decide +kernel
theorem dX12_divisor_9 : decode cX12_divisor 9 = .ok (.lcmp, 1) := by decide +kernel
theorem dX12_divisor_10 : decode cX12_divisor 10 = .ok (.ifCond .eq 21, 3) := by decide +kernel
theorem dX12_divisor_13 : decode cX12_divisor 13 = .ok (.lload 4, 2) := by decide +kernel
theorem dX12_divisor_15 : decode cX12_divisor 15 = .ok (.lload 6, 2) := by decide +kernel
theorem dX12_divisor_17 : decode cX12_divisor 17 = .ok (.lrem, 1) := by decide +kernel
theorem dX12_divisor_18 : decode cX12_divisor 18 = .ok (.lstore 8, 2) := by decide +kernel
theorem dX12_divisor_20 : decode cX12_divisor 20 = .ok (.lload 6, 2) := by decide +kernel
theorem dX12_divisor_22 : decode cX12_divisor 22 = .ok (.lstore 4, 2) := by decide +kernel
theorem dX12_divisor_24 : decode cX12_divisor 24 = .ok (.lload 8, 2) := by decide +kernel
theorem dX12_divisor_26 : decode cX12_divisor 26 = .ok (.lstore 6, 2) := by decide +kernel
theorem dX12_divisor_28 : decode cX12_divisor 28 = .ok (.goto (-22), 3) := by decide +kernel
theorem dX12_divisor_31 : decode cX12_divisor 31 = .ok (.lload 4, 2) := by decide +kernel
theorem dX12_divisor_33 : decode cX12_divisor 33 = .ok (.lreturn, 1) := by decide +kernel
theorem dX12_left_0 : decode cX12_left 0 = .ok (.aload_n 0, 1) := by decide +kernel
theorem dX12_left_1 : decode cX12_left 1 = .ok (.iload_n 1, 1) := by decide +kernel
theorem dX12_left_2 : decode cX12_left 2 = .ok (.iload_n 2, 1) := by decide +kernel
theorem dX12_left_3 : decode cX12_left 3 = .ok (.iload_n 3, 1) := by decide +kernel
theorem dX12_left_4 : decode cX12_left 4 = .ok (.invokevirtual 384, 3) := by decide +kernel
theorem dX12_left_7 : decode cX12_left 7 = .ok (.ifCond .eq 14, 3) := by decide +kernel
theorem dX12_left_10 : decode cX12_left 10 = .ok (.iload 4, 2) := by decide +kernel
theorem dX12_left_12 : decode cX12_left 12 = .ok (.i2l, 1) := by decide +kernel
theorem dX12_left_13 : decode cX12_left 13 = .ok (.lconst 0, 1) := by decide +kernel
theorem dX12_left_14 : decode cX12_left 14 = .ok (.lconst 1, 1) := by decide +kernel
theorem dX12_left_15 : decode cX12_left 15 = .ok (.invokestatic 164, 3) := by decide +kernel
theorem dX12_left_18 : decode cX12_left 18 = .ok (.ifCond .ne 7, 3) := by decide +kernel
theorem dX12_left_21 : decode cX12_left 21 = .ok (.ldc2_w 388, 3) := by decide +kernel
theorem dX12_left_24 : decode cX12_left 24 = .ok (.lreturn, 1) := by decide +kernel
theorem dX12_left_25 : decode cX12_left 25 = .ok (.aload_n 0, 1) := by decide +kernel
theorem dX12_left_26 : decode cX12_left 26 = .ok (.aload_n 0, 1) := by decide +kernel
theorem dX12_left_27 : decode cX12_left 27 = .ok (.invokevirtual 390, 3) := by decide +kernel
theorem dX12_left_30 : decode cX12_left 30 = .ok (.iload_n 1, 1) := by decide +kernel
theorem dX12_left_31 : decode cX12_left 31 = .ok (.iload_n 2, 1) := by decide +kernel
theorem dX12_left_32 : decode cX12_left 32 = .ok (.iload_n 3, 1) := by decide +kernel
theorem dX12_left_33 : decode cX12_left 33 = .ok (.invokevirtual 393, 3) := by decide +kernel
theorem dX12_left_36 : decode cX12_left 36 = .ok (.aload_n 0, 1) := by decide +kernel
theorem dX12_left_37 : decode cX12_left 37 = .ok (.aload_n 0, 1) := by decide +kernel
theorem dX12_left_38 : decode cX12_left 38 = .ok (.invokevirtual 390, 3) := by decide +kernel
theorem dX12_left_41 : decode cX12_left 41 = .ok (.aload_n 0, 1) := by decide +kernel
theorem dX12_left_42 : decode cX12_left 42 = .ok (.getfield 90, 3) := by decide +kernel
theorem dX12_left_45 : decode cX12_left 45 = .ok (.iload_n 1, 1) := by decide +kernel
theorem dX12_left_46 : decode cX12_left 46 = .ok (.iaload, 1) := by decide +kernel
theorem dX12_left_47 : decode cX12_left 47 = .ok (.invokevirtual 401, 3) := by decide +kernel
theorem dX12_left_50 : decode cX12_left 50 = .ok (.lstore 5, 2) := by decide +kernel
theorem dX12_left_52 : decode cX12_left 52 = .ok (.lload 5, 2) := by decide +kernel
theorem dX12_left_54 : decode cX12_left 54 = .ok (.lconst 0, 1) := by decide +kernel
theorem dX12_left_55 : decode cX12_left 55 = .ok (.lcmp, 1) := by decide +kernel
theorem dX12_left_56 : decode cX12_left 56 = .ok (.ifCond .ne 7, 3) := by decide +kernel
theorem dX12_left_59 : decode cX12_left 59 = .ok (.ldc2_w 408, 3) := by decide +kernel
theorem dX12_left_62 : decode cX12_left 62 = .ok (.lreturn, 1) := by decide +kernel
theorem dX12_left_63 : decode cX12_left 63 = .ok (.lload 5, 2) := by decide +kernel
theorem dX12_left_65 : decode cX12_left 65 = .ok (.aload_n 0, 1) := by decide +kernel
theorem dX12_left_66 : decode cX12_left 66 = .ok (.aload_n 0, 1) := by decide +kernel
theorem dX12_left_67 : decode cX12_left 67 = .ok (.invokevirtual 390, 3) := by decide +kernel
theorem dX12_left_70 : decode cX12_left 70 = .ok (.sipush 2000, 3) := by decide +kernel
theorem dX12_left_73 : decode cX12_left 73 = .ok (.invokevirtual 401, 3) := by decide +kernel
theorem dX12_left_76 : decode cX12_left 76 = .ok (.lsub, 1) := by decide +kernel
theorem dX12_left_77 : decode cX12_left 77 = .ok (.lstore 7, 2) := by decide +kernel
theorem dX12_left_79 : decode cX12_left 79 = .ok (.lload 7, 2) := by decide +kernel
theorem dX12_left_81 : decode cX12_left 81 = .ok (.lload 5, 2) := by decide +kernel
theorem dX12_left_83 : decode cX12_left 83 = .ok (.invokestatic 410, 3) := by decide +kernel
theorem dX12_left_86 : decode cX12_left 86 = .ok (.lstore 9, 2) := by decide +kernel
theorem dX12_left_88 : decode cX12_left 88 = .ok (.iload 4, 2) := by decide +kernel
theorem dX12_left_90 : decode cX12_left 90 = .ok (.ifCond .ne 11, 3) := by decide +kernel
theorem dX12_left_93 : decode cX12_left 93 = .ok (.lload 7, 2) := by decide +kernel
theorem dX12_left_95 : decode cX12_left 95 = .ok (.lload 9, 2) := by decide +kernel
theorem dX12_left_97 : decode cX12_left 97 = .ok (.ldiv, 1) := by decide +kernel
theorem dX12_left_98 : decode cX12_left 98 = .ok (.goto 8, 3) := by decide +kernel
theorem dX12_left_101 : decode cX12_left 101 = .ok (.lload 5, 2) := by decide +kernel
theorem dX12_left_103 : decode cX12_left 103 = .ok (.lload 9, 2) := by decide +kernel
theorem dX12_left_105 : decode cX12_left 105 = .ok (.ldiv, 1) := by decide +kernel
theorem dX12_left_106 : decode cX12_left 106 = .ok (.lreturn, 1) := by decide +kernel
theorem dX12_isPiece_0 : decode cX12_isPiece 0 = .ok (.iload_n 1, 1) := by decide +kernel
theorem dX12_isPiece_1 : decode cX12_isPiece 1 = .ok (.i2l, 1) := by decide +kernel
theorem dX12_isPiece_2 : decode cX12_isPiece 2 = .ok (.lconst 1, 1) := by decide +kernel
theorem dX12_isPiece_3 : decode cX12_isPiece 3 = .ok (.aload_n 0, 1) := by decide +kernel
theorem dX12_isPiece_4 : decode cX12_isPiece 4 = .ok (.invokevirtual 390, 3) := by decide +kernel
theorem dX12_isPiece_7 : decode cX12_isPiece 7 = .ok (.i2l, 1) := by decide +kernel
theorem dX12_isPiece_8 : decode cX12_isPiece 8 = .ok (.invokestatic 164, 3) := by decide +kernel
theorem dX12_isPiece_11 : decode cX12_isPiece 11 = .ok (.ireturn, 1) := by decide +kernel
theorem dX12_likelyOf_0 : decode cX12_likelyOf 0 = .ok (.aload_n 0, 1) := by decide +kernel
theorem dX12_likelyOf_1 : decode cX12_likelyOf 1 = .ok (.iload_n 2, 1) := by decide +kernel
theorem dX12_likelyOf_2 : decode cX12_likelyOf 2 = .ok (.invokevirtual 414, 3) := by decide +kernel
theorem dX12_likelyOf_5 : decode cX12_likelyOf 5 = .ok (.istore 5, 2) := by decide +kernel
theorem dX12_likelyOf_7 : decode cX12_likelyOf 7 = .ok (.aload_n 0, 1) := by decide +kernel
theorem dX12_likelyOf_8 : decode cX12_likelyOf 8 = .ok (.iload_n 1, 1) := by decide +kernel
theorem dX12_likelyOf_9 : decode cX12_likelyOf 9 = .ok (.iload_n 2, 1) := by decide +kernel
theorem dX12_likelyOf_10 : decode cX12_likelyOf 10 = .ok (.iload_n 3, 1) := by decide +kernel
theorem dX12_likelyOf_11 : decode cX12_likelyOf 11 = .ok (.sipush 2000, 3) := by decide +kernel
theorem dX12_likelyOf_14 : decode cX12_likelyOf 14 = .ok (.iload 5, 2) := by decide +kernel
theorem dX12_likelyOf_16 : decode cX12_likelyOf 16 = .ok (.isub, 1) := by decide +kernel
theorem dX12_likelyOf_17 : decode cX12_likelyOf 17 = .ok (.invokevirtual 393, 3) := by decide +kernel
theorem dX12_likelyOf_20 : decode cX12_likelyOf 20 = .ok (.aload_n 0, 1) := by decide +kernel
theorem dX12_likelyOf_21 : decode cX12_likelyOf 21 = .ok (.iload_n 1, 1) := by decide +kernel
theorem dX12_likelyOf_22 : decode cX12_likelyOf 22 = .ok (.iload 5, 2) := by decide +kernel
theorem dX12_likelyOf_24 : decode cX12_likelyOf 24 = .ok (.invokevirtual 401, 3) := by decide +kernel
theorem dX12_likelyOf_27 : decode cX12_likelyOf 27 = .ok (.lstore 6, 2) := by decide +kernel
theorem dX12_likelyOf_29 : decode cX12_likelyOf 29 = .ok (.lload 6, 2) := by decide +kernel
theorem dX12_likelyOf_31 : decode cX12_likelyOf 31 = .ok (.lconst 0, 1) := by decide +kernel
theorem dX12_likelyOf_32 : decode cX12_likelyOf 32 = .ok (.lcmp, 1) := by decide +kernel
theorem dX12_likelyOf_33 : decode cX12_likelyOf 33 = .ok (.ifCond .ne 6, 3) := by decide +kernel
theorem dX12_likelyOf_36 : decode cX12_likelyOf 36 = .ok (.bipush (-2), 2) := by decide +kernel
theorem dX12_likelyOf_38 : decode cX12_likelyOf 38 = .ok (.ireturn, 1) := by decide +kernel
theorem dX12_likelyOf_39 : decode cX12_likelyOf 39 = .ok (.iconst 0, 1) := by decide +kernel
theorem dX12_likelyOf_40 : decode cX12_likelyOf 40 = .ok (.istore 8, 2) := by decide +kernel
theorem dX12_likelyOf_42 : decode cX12_likelyOf 42 = .ok (.iload 8, 2) := by decide +kernel
theorem dX12_likelyOf_44 : decode cX12_likelyOf 44 = .ok (.sipush 2000, 3) := by decide +kernel
theorem dX12_likelyOf_47 : decode cX12_likelyOf 47 = .ok (.iload 5, 2) := by decide +kernel
theorem dX12_likelyOf_49 : decode cX12_likelyOf 49 = .ok (.isub, 1) := by decide +kernel
theorem dX12_likelyOf_50 : decode cX12_likelyOf 50 = .ok (.if_icmp .gt 39, 3) := by decide +kernel
theorem dX12_likelyOf_53 : decode cX12_likelyOf 53 = .ok (.lload 6, 2) := by decide +kernel
theorem dX12_likelyOf_55 : decode cX12_likelyOf 55 = .ok (.aload_n 0, 1) := by decide +kernel
theorem dX12_likelyOf_56 : decode cX12_likelyOf 56 = .ok (.iload_n 1, 1) := by decide +kernel
theorem dX12_likelyOf_57 : decode cX12_likelyOf 57 = .ok (.iload 5, 2) := by decide +kernel
theorem dX12_likelyOf_59 : decode cX12_likelyOf 59 = .ok (.iload 8, 2) := by decide +kernel
theorem dX12_likelyOf_61 : decode cX12_likelyOf 61 = .ok (.iadd, 1) := by decide +kernel
theorem dX12_likelyOf_62 : decode cX12_likelyOf 62 = .ok (.invokevirtual 401, 3) := by decide +kernel
theorem dX12_likelyOf_65 : decode cX12_likelyOf 65 = .ok (.lsub, 1) := by decide +kernel
theorem dX12_likelyOf_66 : decode cX12_likelyOf 66 = .ok (.ldc2_w 417, 3) := by decide +kernel
theorem dX12_likelyOf_69 : decode cX12_likelyOf 69 = .ok (.lmul, 1) := by decide +kernel
theorem dX12_likelyOf_70 : decode cX12_likelyOf 70 = .ok (.iload 4, 2) := by decide +kernel
theorem dX12_likelyOf_72 : decode cX12_likelyOf 72 = .ok (.i2l, 1) := by decide +kernel
theorem dX12_likelyOf_73 : decode cX12_likelyOf 73 = .ok (.lload 6, 2) := by decide +kernel
theorem dX12_likelyOf_75 : decode cX12_likelyOf 75 = .ok (.lmul, 1) := by decide +kernel
theorem dX12_likelyOf_76 : decode cX12_likelyOf 76 = .ok (.lcmp, 1) := by decide +kernel
theorem dX12_likelyOf_77 : decode cX12_likelyOf 77 = .ok (.ifCond .lt 6, 3) := by decide +kernel
theorem dX12_likelyOf_80 : decode cX12_likelyOf 80 = .ok (.iload 8, 2) := by decide +kernel
theorem dX12_likelyOf_82 : decode cX12_likelyOf 82 = .ok (.ireturn, 1) := by decide +kernel
theorem dX12_likelyOf_83 : decode cX12_likelyOf 83 = .ok (.iinc 8 1, 3) := by decide +kernel
theorem dX12_likelyOf_86 : decode cX12_likelyOf 86 = .ok (.goto (-44), 3) := by decide +kernel
theorem dX12_likelyOf_89 : decode cX12_likelyOf 89 = .ok (.bipush (-2), 2) := by decide +kernel
theorem dX12_likelyOf_91 : decode cX12_likelyOf 91 = .ok (.ireturn, 1) := by decide +kernel
theorem dX12_likely_0 : decode cX12_likely 0 = .ok (.aload_n 0, 1) := by decide +kernel
theorem dX12_likely_1 : decode cX12_likely 1 = .ok (.iload_n 1, 1) := by decide +kernel
theorem dX12_likely_2 : decode cX12_likely 2 = .ok (.invokevirtual 419, 3) := by decide +kernel
theorem dX12_likely_5 : decode cX12_likely 5 = .ok (.ifCond .eq 30, 3) := by decide +kernel
theorem dX12_likely_8 : decode cX12_likely 8 = .ok (.iload_n 2, 1) := by decide +kernel
theorem dX12_likely_9 : decode cX12_likely 9 = .ok (.invokestatic 356, 3) := by decide +kernel
theorem dX12_likely_12 : decode cX12_likely 12 = .ok (.ifCond .eq 23, 3) := by decide +kernel
theorem dX12_likely_15 : decode cX12_likely 15 = .ok (.iload_n 3, 1) := by decide +kernel
theorem dX12_likely_16 : decode cX12_likely 16 = .ok (.invokestatic 345, 3) := by decide +kernel
theorem dX12_likely_19 : decode cX12_likely 19 = .ok (.ifCond .eq 16, 3) := by decide +kernel
theorem dX12_likely_22 : decode cX12_likely 22 = .ok (.iload 4, 2) := by decide +kernel
theorem dX12_likely_24 : decode cX12_likely 24 = .ok (.i2l, 1) := by decide +kernel
theorem dX12_likely_25 : decode cX12_likely 25 = .ok (.lconst 1, 1) := by decide +kernel
theorem dX12_likely_26 : decode cX12_likely 26 = .ok (.ldc2_w 417, 3) := by decide +kernel
theorem dX12_likely_29 : decode cX12_likely 29 = .ok (.invokestatic 164, 3) := by decide +kernel
theorem dX12_likely_32 : decode cX12_likely 32 = .ok (.ifCond .ne 5, 3) := by decide +kernel
theorem dX12_likely_35 : decode cX12_likely 35 = .ok (.iconst (-1), 1) := by decide +kernel
theorem dX12_likely_36 : decode cX12_likely 36 = .ok (.ireturn, 1) := by decide +kernel
theorem dX12_likely_37 : decode cX12_likely 37 = .ok (.aload_n 0, 1) := by decide +kernel
theorem dX12_likely_38 : decode cX12_likely 38 = .ok (.iload_n 1, 1) := by decide +kernel
theorem dX12_likely_39 : decode cX12_likely 39 = .ok (.iload_n 2, 1) := by decide +kernel
theorem dX12_likely_40 : decode cX12_likely 40 = .ok (.iload_n 3, 1) := by decide +kernel
theorem dX12_likely_41 : decode cX12_likely 41 = .ok (.iload 4, 2) := by decide +kernel
theorem dX12_likely_43 : decode cX12_likely 43 = .ok (.invokevirtual 422, 3) := by decide +kernel
theorem dX12_likely_46 : decode cX12_likely 46 = .ok (.ireturn, 1) := by decide +kernel
theorem dX12_off_0 : decode cX12_off 0 = .ok (.aload_n 0, 1) := by decide +kernel
theorem dX12_off_1 : decode cX12_off 1 = .ok (.iload_n 1, 1) := by decide +kernel
theorem dX12_off_2 : decode cX12_off 2 = .ok (.invokevirtual 419, 3) := by decide +kernel
theorem dX12_off_5 : decode cX12_off 5 = .ok (.ifCond .eq 17, 3) := by decide +kernel
theorem dX12_off_8 : decode cX12_off 8 = .ok (.iload_n 2, 1) := by decide +kernel
theorem dX12_off_9 : decode cX12_off 9 = .ok (.invokestatic 356, 3) := by decide +kernel
theorem dX12_off_12 : decode cX12_off 12 = .ok (.ifCond .eq 10, 3) := by decide +kernel
theorem dX12_off_15 : decode cX12_off 15 = .ok (.iload_n 3, 1) := by decide +kernel
theorem dX12_off_16 : decode cX12_off 16 = .ok (.invokestatic 345, 3) := by decide +kernel
theorem dX12_off_19 : decode cX12_off 19 = .ok (.ifCond .ne 7, 3) := by decide +kernel
theorem dX12_off_22 : decode cX12_off 22 = .ok (.ldc_w 426, 3) := by decide +kernel
theorem dX12_off_25 : decode cX12_off 25 = .ok (.ireturn, 1) := by decide +kernel
theorem dX12_off_26 : decode cX12_off 26 = .ok (.aload_n 0, 1) := by decide +kernel
theorem dX12_off_27 : decode cX12_off 27 = .ok (.iload_n 1, 1) := by decide +kernel
theorem dX12_off_28 : decode cX12_off 28 = .ok (.iload_n 2, 1) := by decide +kernel
theorem dX12_off_29 : decode cX12_off 29 = .ok (.iload_n 3, 1) := by decide +kernel
theorem dX12_off_30 : decode cX12_off 30 = .ok (.sipush 500, 3) := by decide +kernel
theorem dX12_off_33 : decode cX12_off 33 = .ok (.invokevirtual 422, 3) := by decide +kernel
theorem dX12_off_36 : decode cX12_off 36 = .ok (.istore 4, 2) := by decide +kernel
theorem dX12_off_38 : decode cX12_off 38 = .ok (.aload_n 0, 1) := by decide +kernel
theorem dX12_off_39 : decode cX12_off 39 = .ok (.aload_n 0, 1) := by decide +kernel
theorem dX12_off_40 : decode cX12_off 40 = .ok (.invokevirtual 390, 3) := by decide +kernel
theorem dX12_off_43 : decode cX12_off 43 = .ok (.iconst (-1), 1) := by decide +kernel
theorem dX12_off_44 : decode cX12_off 44 = .ok (.iload_n 3, 1) := by decide +kernel
theorem dX12_off_45 : decode cX12_off 45 = .ok (.sipush 500, 3) := by decide +kernel
theorem dX12_off_48 : decode cX12_off 48 = .ok (.invokevirtual 422, 3) := by decide +kernel
theorem dX12_off_51 : decode cX12_off 51 = .ok (.istore 5, 2) := by decide +kernel
theorem dX12_off_53 : decode cX12_off 53 = .ok (.iload 4, 2) := by decide +kernel
theorem dX12_off_55 : decode cX12_off 55 = .ok (.ifCond .lt 8, 3) := by decide +kernel
theorem dX12_off_58 : decode cX12_off 58 = .ok (.iload 5, 2) := by decide +kernel
theorem dX12_off_60 : decode cX12_off 60 = .ok (.ifCond .ge 9, 3) := by decide +kernel
theorem dX12_off_63 : decode cX12_off 63 = .ok (.ldc_w 426, 3) := by decide +kernel
theorem dX12_off_66 : decode cX12_off 66 = .ok (.goto 8, 3) := by decide +kernel
theorem dX12_off_69 : decode cX12_off 69 = .ok (.iload 4, 2) := by decide +kernel
theorem dX12_off_71 : decode cX12_off 71 = .ok (.iload 5, 2) := by decide +kernel
theorem dX12_off_73 : decode cX12_off 73 = .ok (.isub, 1) := by decide +kernel
theorem dX12_off_74 : decode cX12_off 74 = .ok (.ireturn, 1) := by decide +kernel
theorem dX12_trial_0 : decode cX12_trial 0 = .ok (.aload_n 0, 1) := by decide +kernel
theorem dX12_trial_1 : decode cX12_trial 1 = .ok (.getfield 427, 3) := by decide +kernel
theorem dX12_trial_4 : decode cX12_trial 4 = .ok (.bipush 8, 2) := by decide +kernel
theorem dX12_trial_6 : decode cX12_trial 6 = .ok (.if_icmp .eq 35, 3) := by decide +kernel
theorem dX12_trial_9 : decode cX12_trial 9 = .ok (.aload_n 0, 1) := by decide +kernel
theorem dX12_trial_10 : decode cX12_trial 10 = .ok (.iload_n 1, 1) := by decide +kernel
theorem dX12_trial_11 : decode cX12_trial 11 = .ok (.invokevirtual 419, 3) := by decide +kernel
theorem dX12_trial_14 : decode cX12_trial 14 = .ok (.ifCond .eq 27, 3) := by decide +kernel
theorem dX12_trial_17 : decode cX12_trial 17 = .ok (.aload_n 0, 1) := by decide +kernel
theorem dX12_trial_18 : decode cX12_trial 18 = .ok (.iload_n 2, 1) := by decide +kernel
theorem dX12_trial_19 : decode cX12_trial 19 = .ok (.iload_n 3, 1) := by decide +kernel
theorem dX12_trial_20 : decode cX12_trial 20 = .ok (.iload 4, 2) := by decide +kernel
theorem dX12_trial_22 : decode cX12_trial 22 = .ok (.invokevirtual 384, 3) := by decide +kernel
theorem dX12_trial_25 : decode cX12_trial 25 = .ok (.ifCond .eq 16, 3) := by decide +kernel
theorem dX12_trial_28 : decode cX12_trial 28 = .ok (.iload 5, 2) := by decide +kernel
theorem dX12_trial_30 : decode cX12_trial 30 = .ok (.i2l, 1) := by decide +kernel
theorem dX12_trial_31 : decode cX12_trial 31 = .ok (.lconst 1, 1) := by decide +kernel
theorem dX12_trial_32 : decode cX12_trial 32 = .ok (.ldc2_w 175, 3) := by decide +kernel
theorem dX12_trial_35 : decode cX12_trial 35 = .ok (.invokestatic 164, 3) := by decide +kernel
theorem dX12_trial_38 : decode cX12_trial 38 = .ok (.ifCond .ne 5, 3) := by decide +kernel
theorem dX12_trial_41 : decode cX12_trial 41 = .ok (.iconst (-1), 1) := by decide +kernel
theorem dX12_trial_42 : decode cX12_trial 42 = .ok (.ireturn, 1) := by decide +kernel
theorem dX12_trial_43 : decode cX12_trial 43 = .ok (.bipush 8, 2) := by decide +kernel
theorem dX12_trial_45 : decode cX12_trial 45 = .ok (.aload_n 0, 1) := by decide +kernel
theorem dX12_trial_46 : decode cX12_trial 46 = .ok (.getfield 427, 3) := by decide +kernel
theorem dX12_trial_49 : decode cX12_trial 49 = .ok (.iadd, 1) := by decide +kernel
theorem dX12_trial_50 : decode cX12_trial 50 = .ok (.istore 6, 2) := by decide +kernel
theorem dX12_trial_52 : decode cX12_trial 52 = .ok (.iconst 0, 1) := by decide +kernel
theorem dX12_trial_53 : decode cX12_trial 53 = .ok (.istore 7, 2) := by decide +kernel
theorem dX12_trial_55 : decode cX12_trial 55 = .ok (.iload 7, 2) := by decide +kernel
theorem dX12_trial_57 : decode cX12_trial 57 = .ok (.bipush 8, 2) := by decide +kernel
theorem dX12_trial_59 : decode cX12_trial 59 = .ok (.if_icmp .ge 59, 3) := by decide +kernel
theorem dX12_trial_62 : decode cX12_trial 62 = .ok (.aload_n 0, 1) := by decide +kernel
theorem dX12_trial_63 : decode cX12_trial 63 = .ok (.getfield 84, 3) := by decide +kernel
theorem dX12_trial_66 : decode cX12_trial 66 = .ok (.bipush 8, 2) := by decide +kernel
theorem dX12_trial_68 : decode cX12_trial 68 = .ok (.iload 6, 2) := by decide +kernel
theorem dX12_trial_70 : decode cX12_trial 70 = .ok (.imul, 1) := by decide +kernel
theorem dX12_trial_71 : decode cX12_trial 71 = .ok (.iload 7, 2) := by decide +kernel
theorem dX12_trial_73 : decode cX12_trial 73 = .ok (.iadd, 1) := by decide +kernel
theorem dX12_trial_74 : decode cX12_trial 74 = .ok (.aload_n 0, 1) := by decide +kernel
theorem dX12_trial_75 : decode cX12_trial 75 = .ok (.getfield 84, 3) := by decide +kernel
theorem dX12_trial_78 : decode cX12_trial 78 = .ok (.bipush 8, 2) := by decide +kernel
theorem dX12_trial_80 : decode cX12_trial 80 = .ok (.iload_n 2, 1) := by decide +kernel
theorem dX12_trial_81 : decode cX12_trial 81 = .ok (.imul, 1) := by decide +kernel
theorem dX12_trial_82 : decode cX12_trial 82 = .ok (.iload 7, 2) := by decide +kernel
theorem dX12_trial_84 : decode cX12_trial 84 = .ok (.iadd, 1) := by decide +kernel
theorem dX12_trial_85 : decode cX12_trial 85 = .ok (.iaload, 1) := by decide +kernel
theorem dX12_trial_86 : decode cX12_trial 86 = .ok (.iastore, 1) := by decide +kernel
theorem dX12_trial_87 : decode cX12_trial 87 = .ok (.aload_n 0, 1) := by decide +kernel
theorem dX12_trial_88 : decode cX12_trial 88 = .ok (.getfield 87, 3) := by decide +kernel
theorem dX12_trial_91 : decode cX12_trial 91 = .ok (.bipush 8, 2) := by decide +kernel
theorem dX12_trial_93 : decode cX12_trial 93 = .ok (.iload 6, 2) := by decide +kernel
theorem dX12_trial_95 : decode cX12_trial 95 = .ok (.imul, 1) := by decide +kernel
theorem dX12_trial_96 : decode cX12_trial 96 = .ok (.iload 7, 2) := by decide +kernel
theorem dX12_trial_98 : decode cX12_trial 98 = .ok (.iadd, 1) := by decide +kernel
theorem dX12_trial_99 : decode cX12_trial 99 = .ok (.aload_n 0, 1) := by decide +kernel
theorem dX12_trial_100 : decode cX12_trial 100 = .ok (.getfield 87, 3) := by decide +kernel
theorem dX12_trial_103 : decode cX12_trial 103 = .ok (.bipush 8, 2) := by decide +kernel
theorem dX12_trial_105 : decode cX12_trial 105 = .ok (.iload_n 2, 1) := by decide +kernel
theorem dX12_trial_106 : decode cX12_trial 106 = .ok (.imul, 1) := by decide +kernel
theorem dX12_trial_107 : decode cX12_trial 107 = .ok (.iload 7, 2) := by decide +kernel
theorem dX12_trial_109 : decode cX12_trial 109 = .ok (.iadd, 1) := by decide +kernel
theorem dX12_trial_110 : decode cX12_trial 110 = .ok (.iaload, 1) := by decide +kernel
theorem dX12_trial_111 : decode cX12_trial 111 = .ok (.iastore, 1) := by decide +kernel
theorem dX12_trial_112 : decode cX12_trial 112 = .ok (.iinc 7 1, 3) := by decide +kernel
theorem dX12_trial_115 : decode cX12_trial 115 = .ok (.goto (-60), 3) := by decide +kernel
theorem dX12_trial_118 : decode cX12_trial 118 = .ok (.aload_n 0, 1) := by decide +kernel
theorem dX12_trial_119 : decode cX12_trial 119 = .ok (.getfield 81, 3) := by decide +kernel
theorem dX12_trial_122 : decode cX12_trial 122 = .ok (.iload 6, 2) := by decide +kernel
theorem dX12_trial_124 : decode cX12_trial 124 = .ok (.aload_n 0, 1) := by decide +kernel
theorem dX12_trial_125 : decode cX12_trial 125 = .ok (.getfield 81, 3) := by decide +kernel
theorem dX12_trial_128 : decode cX12_trial 128 = .ok (.iload_n 2, 1) := by decide +kernel
theorem dX12_trial_129 : decode cX12_trial 129 = .ok (.iaload, 1) := by decide +kernel
theorem dX12_trial_130 : decode cX12_trial 130 = .ok (.iastore, 1) := by decide +kernel
theorem dX12_trial_131 : decode cX12_trial 131 = .ok (.aload_n 0, 1) := by decide +kernel
theorem dX12_trial_132 : decode cX12_trial 132 = .ok (.getfield 90, 3) := by decide +kernel
theorem dX12_trial_135 : decode cX12_trial 135 = .ok (.iload 6, 2) := by decide +kernel
theorem dX12_trial_137 : decode cX12_trial 137 = .ok (.aload_n 0, 1) := by decide +kernel
theorem dX12_trial_138 : decode cX12_trial 138 = .ok (.getfield 90, 3) := by decide +kernel
theorem dX12_trial_141 : decode cX12_trial 141 = .ok (.iload_n 2, 1) := by decide +kernel
theorem dX12_trial_142 : decode cX12_trial 142 = .ok (.iaload, 1) := by decide +kernel
theorem dX12_trial_143 : decode cX12_trial 143 = .ok (.iastore, 1) := by decide +kernel
theorem dX12_trial_144 : decode cX12_trial 144 = .ok (.aload_n 0, 1) := by decide +kernel
theorem dX12_trial_145 : decode cX12_trial 145 = .ok (.getfield 102, 3) := by decide +kernel
theorem dX12_trial_148 : decode cX12_trial 148 = .ok (.aload_n 0, 1) := by decide +kernel
theorem dX12_trial_149 : decode cX12_trial 149 = .ok (.getfield 427, 3) := by decide +kernel
theorem dX12_trial_152 : decode cX12_trial 152 = .ok (.iload_n 1, 1) := by decide +kernel
theorem dX12_trial_153 : decode cX12_trial 153 = .ok (.iastore, 1) := by decide +kernel
theorem dX12_trial_154 : decode cX12_trial 154 = .ok (.aload_n 0, 1) := by decide +kernel
theorem dX12_trial_155 : decode cX12_trial 155 = .ok (.getfield 105, 3) := by decide +kernel
theorem dX12_trial_158 : decode cX12_trial 158 = .ok (.aload_n 0, 1) := by decide +kernel
theorem dX12_trial_159 : decode cX12_trial 159 = .ok (.getfield 427, 3) := by decide +kernel
theorem dX12_trial_162 : decode cX12_trial 162 = .ok (.iload_n 3, 1) := by decide +kernel
theorem dX12_trial_163 : decode cX12_trial 163 = .ok (.iastore, 1) := by decide +kernel
theorem dX12_trial_164 : decode cX12_trial 164 = .ok (.aload_n 0, 1) := by decide +kernel
theorem dX12_trial_165 : decode cX12_trial 165 = .ok (.getfield 108, 3) := by decide +kernel
theorem dX12_trial_168 : decode cX12_trial 168 = .ok (.aload_n 0, 1) := by decide +kernel
theorem dX12_trial_169 : decode cX12_trial 169 = .ok (.getfield 427, 3) := by decide +kernel
theorem dX12_trial_172 : decode cX12_trial 172 = .ok (.iload 4, 2) := by decide +kernel
theorem dX12_trial_174 : decode cX12_trial 174 = .ok (.iastore, 1) := by decide +kernel
theorem dX12_trial_175 : decode cX12_trial 175 = .ok (.aload_n 0, 1) := by decide +kernel
theorem dX12_trial_176 : decode cX12_trial 176 = .ok (.getfield 111, 3) := by decide +kernel
theorem dX12_trial_179 : decode cX12_trial 179 = .ok (.aload_n 0, 1) := by decide +kernel
theorem dX12_trial_180 : decode cX12_trial 180 = .ok (.getfield 427, 3) := by decide +kernel
theorem dX12_trial_183 : decode cX12_trial 183 = .ok (.iload 5, 2) := by decide +kernel
theorem dX12_trial_185 : decode cX12_trial 185 = .ok (.iastore, 1) := by decide +kernel
theorem dX12_trial_186 : decode cX12_trial 186 = .ok (.aload_n 0, 1) := by decide +kernel
theorem dX12_trial_187 : decode cX12_trial 187 = .ok (.dup, 1) := by decide +kernel
theorem dX12_trial_188 : decode cX12_trial 188 = .ok (.getfield 427, 3) := by decide +kernel
theorem dX12_trial_191 : decode cX12_trial 191 = .ok (.iconst 1, 1) := by decide +kernel
theorem dX12_trial_192 : decode cX12_trial 192 = .ok (.iadd, 1) := by decide +kernel
theorem dX12_trial_193 : decode cX12_trial 193 = .ok (.putfield 427, 3) := by decide +kernel
theorem dX12_trial_196 : decode cX12_trial 196 = .ok (.aload_n 0, 1) := by decide +kernel
theorem dX12_trial_197 : decode cX12_trial 197 = .ok (.getfield 427, 3) := by decide +kernel
theorem dX12_trial_200 : decode cX12_trial 200 = .ok (.iconst 1, 1) := by decide +kernel
theorem dX12_trial_201 : decode cX12_trial 201 = .ok (.isub, 1) := by decide +kernel
theorem dX12_trial_202 : decode cX12_trial 202 = .ok (.ireturn, 1) := by decide +kernel
theorem dX12_lostBy_0 : decode cX12_lostBy 0 = .ok (.aload_n 0, 1) := by decide +kernel
theorem dX12_lostBy_1 : decode cX12_lostBy 1 = .ok (.aload_n 0, 1) := by decide +kernel
theorem dX12_lostBy_2 : decode cX12_lostBy 2 = .ok (.getfield 102, 3) := by decide +kernel
theorem dX12_lostBy_5 : decode cX12_lostBy 5 = .ok (.iload_n 1, 1) := by decide +kernel
theorem dX12_lostBy_6 : decode cX12_lostBy 6 = .ok (.iaload, 1) := by decide +kernel
theorem dX12_lostBy_7 : decode cX12_lostBy 7 = .ok (.bipush 8, 2) := by decide +kernel
theorem dX12_lostBy_9 : decode cX12_lostBy 9 = .ok (.iload_n 1, 1) := by decide +kernel
theorem dX12_lostBy_10 : decode cX12_lostBy 10 = .ok (.iadd, 1) := by decide +kernel
theorem dX12_lostBy_11 : decode cX12_lostBy 11 = .ok (.aload_n 0, 1) := by decide +kernel
