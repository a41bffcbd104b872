theorem dX12_lostBy_12 : decode cX12_lostBy 12 = .ok (.getfield 105, 3) := by decide +kernel
theorem dX12_lostBy_15 : decode cX12_lostBy 15 = .ok (.iload_n 1, 1) := by decide +kernel
theorem dX12_lostBy_16 : decode cX12_lostBy 16 = .ok (.iaload, 1) := by decide +kernel
theorem dX12_lostBy_17 : decode cX12_lostBy 17 = .ok (.aload_n 0, 1) := by decide +kernel
theorem dX12_lostBy_18 : decode cX12_lostBy 18 = .ok (.getfield 108, 3) := by decide +kernel
theorem dX12_lostBy_21 : decode cX12_lostBy 21 = .ok (.iload_n 1, 1) := by decide +kernel
theorem dX12_lostBy_22 : decode cX12_lostBy 22 = .ok (.iaload, 1) := by decide +kernel
theorem dX12_lostBy_23 : decode cX12_lostBy 23 = .ok (.invokevirtual 393, 3) := by decide +kernel
theorem dX12_lostBy_26 : decode cX12_lostBy 26 = .ok (.aload_n 0, 1) := by decide +kernel
theorem dX12_lostBy_27 : decode cX12_lostBy 27 = .ok (.aload_n 0, 1) := by decide +kernel
theorem dX12_lostBy_28 : decode cX12_lostBy 28 = .ok (.getfield 102, 3) := by decide +kernel
theorem dX12_lostBy_31 : decode cX12_lostBy 31 = .ok (.iload_n 1, 1) := by decide +kernel
theorem dX12_lostBy_32 : decode cX12_lostBy 32 = .ok (.iaload, 1) := by decide +kernel
theorem dX12_lostBy_33 : decode cX12_lostBy 33 = .ok (.invokevirtual 397, 3) := by decide +kernel
theorem dX12_lostBy_36 : decode cX12_lostBy 36 = .ok (.aload_n 0, 1) := by decide +kernel
theorem dX12_lostBy_37 : decode cX12_lostBy 37 = .ok (.aload_n 0, 1) := by decide +kernel
theorem dX12_lostBy_38 : decode cX12_lostBy 38 = .ok (.getfield 102, 3) := by decide +kernel
theorem dX12_lostBy_41 : decode cX12_lostBy 41 = .ok (.iload_n 1, 1) := by decide +kernel
theorem dX12_lostBy_42 : decode cX12_lostBy 42 = .ok (.iaload, 1) := by decide +kernel
theorem dX12_lostBy_43 : decode cX12_lostBy 43 = .ok (.sipush 2000, 3) := by decide +kernel
theorem dX12_lostBy_46 : decode cX12_lostBy 46 = .ok (.invokevirtual 401, 3) := by decide +kernel
theorem dX12_lostBy_49 : decode cX12_lostBy 49 = .ok (.lsub, 1) := by decide +kernel
theorem dX12_lostBy_50 : decode cX12_lostBy 50 = .ok (.lreturn, 1) := by decide +kernel
theorem dX12_says_0 : decode cX12_says 0 = .ok (.iload_n 1, 1) := by decide +kernel
theorem dX12_says_1 : decode cX12_says 1 = .ok (.i2l, 1) := by decide +kernel
theorem dX12_says_2 : decode cX12_says 2 = .ok (.lconst 0, 1) := by decide +kernel
theorem dX12_says_3 : decode cX12_says 3 = .ok (.aload_n 0, 1) := by decide +kernel
theorem dX12_says_4 : decode cX12_says 4 = .ok (.getfield 427, 3) := by decide +kernel
theorem dX12_says_7 : decode cX12_says 7 = .ok (.iconst 1, 1) := by decide +kernel
theorem dX12_says_8 : decode cX12_says 8 = .ok (.isub, 1) := by decide +kernel
theorem dX12_says_9 : decode cX12_says 9 = .ok (.i2l, 1) := by decide +kernel
theorem dX12_says_10 : decode cX12_says 10 = .ok (.invokestatic 164, 3) := by decide +kernel
theorem dX12_says_13 : decode cX12_says 13 = .ok (.ifCond .eq 13, 3) := by decide +kernel
theorem dX12_says_16 : decode cX12_says 16 = .ok (.iload_n 2, 1) := by decide +kernel
theorem dX12_says_17 : decode cX12_says 17 = .ok (.i2l, 1) := by decide +kernel
theorem dX12_says_18 : decode cX12_says 18 = .ok (.lconst 0, 1) := by decide +kernel
theorem dX12_says_19 : decode cX12_says 19 = .ok (.lconst 1, 1) := by decide +kernel
theorem dX12_says_20 : decode cX12_says 20 = .ok (.invokestatic 164, 3) := by decide +kernel
theorem dX12_says_23 : decode cX12_says 23 = .ok (.ifCond .ne 7, 3) := by decide +kernel
theorem dX12_says_26 : decode cX12_says 26 = .ok (.ldc2_w 388, 3) := by decide +kernel
theorem dX12_says_29 : decode cX12_says 29 = .ok (.lreturn, 1) := by decide +kernel
theorem dX12_says_30 : decode cX12_says 30 = .ok (.aload_n 0, 1) := by decide +kernel
theorem dX12_says_31 : decode cX12_says 31 = .ok (.iload_n 1, 1) := by decide +kernel
theorem dX12_says_32 : decode cX12_says 32 = .ok (.invokevirtual 430, 3) := by decide +kernel
theorem dX12_says_35 : decode cX12_says 35 = .ok (.lstore_n 3, 1) := by decide +kernel
theorem dX12_says_36 : decode cX12_says 36 = .ok (.aload_n 0, 1) := by decide +kernel
theorem dX12_says_37 : decode cX12_says 37 = .ok (.aload_n 0, 1) := by decide +kernel
theorem dX12_says_38 : decode cX12_says 38 = .ok (.getfield 102, 3) := by decide +kernel
theorem dX12_says_41 : decode cX12_says 41 = .ok (.iload_n 1, 1) := by decide +kernel
theorem dX12_says_42 : decode cX12_says 42 = .ok (.iaload, 1) := by decide +kernel
theorem dX12_says_43 : decode cX12_says 43 = .ok (.invokevirtual 397, 3) := by decide +kernel
theorem dX12_says_46 : decode cX12_says 46 = .ok (.lstore 5, 2) := by decide +kernel
theorem dX12_says_48 : decode cX12_says 48 = .ok (.lload_n 3, 1) := by decide +kernel
theorem dX12_says_49 : decode cX12_says 49 = .ok (.lload 5, 2) := by decide +kernel
theorem dX12_says_51 : decode cX12_says 51 = .ok (.invokestatic 410, 3) := by decide +kernel
theorem dX12_says_54 : decode cX12_says 54 = .ok (.lstore 7, 2) := by decide +kernel
theorem dX12_says_56 : decode cX12_says 56 = .ok (.iload_n 2, 1) := by decide +kernel
theorem dX12_says_57 : decode cX12_says 57 = .ok (.ifCond .ne 10, 3) := by decide +kernel
theorem dX12_says_60 : decode cX12_says 60 = .ok (.lload_n 3, 1) := by decide +kernel
theorem dX12_says_61 : decode cX12_says 61 = .ok (.lload 7, 2) := by decide +kernel
theorem dX12_says_63 : decode cX12_says 63 = .ok (.ldiv, 1) := by decide +kernel
theorem dX12_says_64 : decode cX12_says 64 = .ok (.goto 8, 3) := by decide +kernel
theorem dX12_says_67 : decode cX12_says 67 = .ok (.lload 5, 2) := by decide +kernel
theorem dX12_says_69 : decode cX12_says 69 = .ok (.lload 7, 2) := by decide +kernel
theorem dX12_says_71 : decode cX12_says 71 = .ok (.ldiv, 1) := by decide +kernel
theorem dX12_says_72 : decode cX12_says 72 = .ok (.lreturn, 1) := by decide +kernel
theorem dX12_cheapest_0 : decode cX12_cheapest 0 = .ok (.iload_n 1, 1) := by decide +kernel
theorem dX12_cheapest_1 : decode cX12_cheapest 1 = .ok (.i2l, 1) := by decide +kernel
theorem dX12_cheapest_2 : decode cX12_cheapest 2 = .ok (.lconst 1, 1) := by decide +kernel
theorem dX12_cheapest_3 : decode cX12_cheapest 3 = .ok (.ldc2_w 417, 3) := by decide +kernel
theorem dX12_cheapest_6 : decode cX12_cheapest 6 = .ok (.invokestatic 164, 3) := by decide +kernel
theorem dX12_cheapest_9 : decode cX12_cheapest 9 = .ok (.ifCond .ne 5, 3) := by decide +kernel
theorem dX12_cheapest_12 : decode cX12_cheapest 12 = .ok (.iconst (-1), 1) := by decide +kernel
theorem dX12_cheapest_13 : decode cX12_cheapest 13 = .ok (.ireturn, 1) := by decide +kernel
theorem dX12_cheapest_14 : decode cX12_cheapest 14 = .ok (.iconst (-1), 1) := by decide +kernel
theorem dX12_cheapest_15 : decode cX12_cheapest 15 = .ok (.istore_n 2, 1) := by decide +kernel
theorem dX12_cheapest_16 : decode cX12_cheapest 16 = .ok (.iconst 0, 1) := by decide +kernel
theorem dX12_cheapest_17 : decode cX12_cheapest 17 = .ok (.istore_n 3, 1) := by decide +kernel
theorem dX12_cheapest_18 : decode cX12_cheapest 18 = .ok (.iload_n 3, 1) := by decide +kernel
theorem dX12_cheapest_19 : decode cX12_cheapest 19 = .ok (.aload_n 0, 1) := by decide +kernel
theorem dX12_cheapest_20 : decode cX12_cheapest 20 = .ok (.getfield 427, 3) := by decide +kernel
theorem dX12_cheapest_23 : decode cX12_cheapest 23 = .ok (.if_icmp .ge 57, 3) := by decide +kernel
theorem dX12_cheapest_26 : decode cX12_cheapest 26 = .ok (.iload_n 2, 1) := by decide +kernel
theorem dX12_cheapest_27 : decode cX12_cheapest 27 = .ok (.iconst (-1), 1) := by decide +kernel
theorem dX12_cheapest_28 : decode cX12_cheapest 28 = .ok (.if_icmp .eq 18, 3) := by decide +kernel
theorem dX12_cheapest_31 : decode cX12_cheapest 31 = .ok (.aload_n 0, 1) := by decide +kernel
theorem dX12_cheapest_32 : decode cX12_cheapest 32 = .ok (.getfield 111, 3) := by decide +kernel
theorem dX12_cheapest_35 : decode cX12_cheapest 35 = .ok (.iload_n 3, 1) := by decide +kernel
theorem dX12_cheapest_36 : decode cX12_cheapest 36 = .ok (.iaload, 1) := by decide +kernel
theorem dX12_cheapest_37 : decode cX12_cheapest 37 = .ok (.aload_n 0, 1) := by decide +kernel
theorem dX12_cheapest_38 : decode cX12_cheapest 38 = .ok (.getfield 111, 3) := by decide +kernel
theorem dX12_cheapest_41 : decode cX12_cheapest 41 = .ok (.iload_n 2, 1) := by decide +kernel
theorem dX12_cheapest_42 : decode cX12_cheapest 42 = .ok (.iaload, 1) := by decide +kernel
theorem dX12_cheapest_43 : decode cX12_cheapest 43 = .ok (.if_icmp .ge 31, 3) := by decide +kernel
theorem dX12_cheapest_46 : decode cX12_cheapest 46 = .ok (.aload_n 0, 1) := by decide +kernel
theorem dX12_cheapest_47 : decode cX12_cheapest 47 = .ok (.iload_n 3, 1) := by decide +kernel
theorem dX12_cheapest_48 : decode cX12_cheapest 48 = .ok (.invokevirtual 430, 3) := by decide +kernel
theorem dX12_cheapest_51 : decode cX12_cheapest 51 = .ok (.ldc2_w 417, 3) := by decide +kernel
theorem dX12_cheapest_54 : decode cX12_cheapest 54 = .ok (.lmul, 1) := by decide +kernel
theorem dX12_cheapest_55 : decode cX12_cheapest 55 = .ok (.iload_n 1, 1) := by decide +kernel
theorem dX12_cheapest_56 : decode cX12_cheapest 56 = .ok (.i2l, 1) := by decide +kernel
theorem dX12_cheapest_57 : decode cX12_cheapest 57 = .ok (.aload_n 0, 1) := by decide +kernel
theorem dX12_cheapest_58 : decode cX12_cheapest 58 = .ok (.aload_n 0, 1) := by decide +kernel
theorem dX12_cheapest_59 : decode cX12_cheapest 59 = .ok (.getfield 102, 3) := by decide +kernel
theorem dX12_cheapest_62 : decode cX12_cheapest 62 = .ok (.iload_n 3, 1) := by decide +kernel
theorem dX12_cheapest_63 : decode cX12_cheapest 63 = .ok (.iaload, 1) := by decide +kernel
theorem dX12_cheapest_64 : decode cX12_cheapest 64 = .ok (.invokevirtual 397, 3) := by decide +kernel
theorem dX12_cheapest_67 : decode cX12_cheapest 67 = .ok (.lmul, 1) := by decide +kernel
theorem dX12_cheapest_68 : decode cX12_cheapest 68 = .ok (.lcmp, 1) := by decide +kernel
theorem dX12_cheapest_69 : decode cX12_cheapest 69 = .ok (.ifCond .lt 5, 3) := by decide +kernel
theorem dX12_cheapest_72 : decode cX12_cheapest 72 = .ok (.iload_n 3, 1) := by decide +kernel
theorem dX12_cheapest_73 : decode cX12_cheapest 73 = .ok (.istore_n 2, 1) := by decide +kernel
theorem dX12_cheapest_74 : decode cX12_cheapest 74 = .ok (.iinc 3 1, 3) := by decide +kernel
theorem dX12_cheapest_77 : decode cX12_cheapest 77 = .ok (.goto (-59), 3) := by decide +kernel
theorem dX12_cheapest_80 : decode cX12_cheapest 80 = .ok (.iload_n 2, 1) := by decide +kernel
theorem dX12_cheapest_81 : decode cX12_cheapest 81 = .ok (.ireturn, 1) := by decide +kernel
theorem dX12_fly_0 : decode cX12_fly 0 = .ok (.iload_n 3, 1) := by decide +kernel
theorem dX12_fly_1 : decode cX12_fly 1 = .ok (.i2l, 1) := by decide +kernel
theorem dX12_fly_2 : decode cX12_fly 2 = .ok (.lconst 0, 1) := by decide +kernel
theorem dX12_fly_3 : decode cX12_fly 3 = .ok (.ldc2_w 433, 3) := by decide +kernel
theorem dX12_fly_6 : decode cX12_fly 6 = .ok (.invokestatic 164, 3) := by decide +kernel
theorem dX12_fly_9 : decode cX12_fly 9 = .ok (.ifCond .eq 39, 3) := by decide +kernel
theorem dX12_fly_12 : decode cX12_fly 12 = .ok (.aload_n 0, 1) := by decide +kernel
theorem dX12_fly_13 : decode cX12_fly 13 = .ok (.iload_n 1, 1) := by decide +kernel
theorem dX12_fly_14 : decode cX12_fly 14 = .ok (.iload_n 2, 1) := by decide +kernel
theorem dX12_fly_15 : decode cX12_fly 15 = .ok (.iload_n 3, 1) := by decide +kernel
theorem dX12_fly_16 : decode cX12_fly 16 = .ok (.invokevirtual 384, 3) := by decide +kernel
theorem dX12_fly_19 : decode cX12_fly 19 = .ok (.ifCond .eq 29, 3) := by decide +kernel
theorem dX12_fly_22 : decode cX12_fly 22 = .ok (.iload 4, 2) := by decide +kernel
theorem dX12_fly_24 : decode cX12_fly 24 = .ok (.i2l, 1) := by decide +kernel
theorem dX12_fly_25 : decode cX12_fly 25 = .ok (.lconst 0, 1) := by decide +kernel
theorem dX12_fly_26 : decode cX12_fly 26 = .ok (.ldc2_w 181, 3) := by decide +kernel
theorem dX12_fly_29 : decode cX12_fly 29 = .ok (.invokestatic 164, 3) := by decide +kernel
theorem dX12_fly_32 : decode cX12_fly 32 = .ok (.ifCond .eq 16, 3) := by decide +kernel
theorem dX12_fly_35 : decode cX12_fly 35 = .ok (.iload 5, 2) := by decide +kernel
theorem dX12_fly_37 : decode cX12_fly 37 = .ok (.i2l, 1) := by decide +kernel
theorem dX12_fly_38 : decode cX12_fly 38 = .ok (.lconst 0, 1) := by decide +kernel
theorem dX12_fly_39 : decode cX12_fly 39 = .ok (.ldc2_w 417, 3) := by decide +kernel
theorem dX12_fly_42 : decode cX12_fly 42 = .ok (.invokestatic 164, 3) := by decide +kernel
theorem dX12_fly_45 : decode cX12_fly 45 = .ok (.ifCond .ne 5, 3) := by decide +kernel
theorem dX12_fly_48 : decode cX12_fly 48 = .ok (.iconst (-1), 1) := by decide +kernel
theorem dX12_fly_49 : decode cX12_fly 49 = .ok (.ireturn, 1) := by decide +kernel
theorem dX12_fly_50 : decode cX12_fly 50 = .ok (.aload_n 0, 1) := by decide +kernel
theorem dX12_fly_51 : decode cX12_fly 51 = .ok (.aload_n 0, 1) := by decide +kernel
theorem dX12_fly_52 : decode cX12_fly 52 = .ok (.invokevirtual 390, 3) := by decide +kernel
theorem dX12_fly_55 : decode cX12_fly 55 = .ok (.iload_n 1, 1) := by decide +kernel
theorem dX12_fly_56 : decode cX12_fly 56 = .ok (.iload_n 2, 1) := by decide +kernel
theorem dX12_fly_57 : decode cX12_fly 57 = .ok (.iload_n 3, 1) := by decide +kernel
theorem dX12_fly_58 : decode cX12_fly 58 = .ok (.invokevirtual 393, 3) := by decide +kernel
theorem dX12_fly_61 : decode cX12_fly 61 = .ok (.aload_n 0, 1) := by decide +kernel
theorem dX12_fly_62 : decode cX12_fly 62 = .ok (.getfield 90, 3) := by decide +kernel
theorem dX12_fly_65 : decode cX12_fly 65 = .ok (.iload_n 1, 1) := by decide +kernel
theorem dX12_fly_66 : decode cX12_fly 66 = .ok (.iaload, 1) := by decide +kernel
theorem dX12_fly_67 : decode cX12_fly 67 = .ok (.istore 6, 2) := by decide +kernel
theorem dX12_fly_69 : decode cX12_fly 69 = .ok (.aload_n 0, 1) := by decide +kernel
theorem dX12_fly_70 : decode cX12_fly 70 = .ok (.aload_n 0, 1) := by decide +kernel
theorem dX12_fly_71 : decode cX12_fly 71 = .ok (.invokevirtual 390, 3) := by decide +kernel
theorem dX12_fly_74 : decode cX12_fly 74 = .ok (.iload 6, 2) := by decide +kernel
theorem dX12_fly_76 : decode cX12_fly 76 = .ok (.invokevirtual 401, 3) := by decide +kernel
theorem dX12_fly_79 : decode cX12_fly 79 = .ok (.lstore 7, 2) := by decide +kernel
theorem dX12_fly_81 : decode cX12_fly 81 = .ok (.lload 7, 2) := by decide +kernel
theorem dX12_fly_83 : decode cX12_fly 83 = .ok (.lconst 0, 1) := by decide +kernel
theorem dX12_fly_84 : decode cX12_fly 84 = .ok (.lcmp, 1) := by decide +kernel
theorem dX12_fly_85 : decode cX12_fly 85 = .ok (.ifCond .ne 6, 3) := by decide +kernel
theorem dX12_fly_88 : decode cX12_fly 88 = .ok (.bipush (-2), 2) := by decide +kernel
theorem dX12_fly_90 : decode cX12_fly 90 = .ok (.ireturn, 1) := by decide +kernel
theorem dX12_fly_91 : decode cX12_fly 91 = .ok (.iconst 0, 1) := by decide +kernel
theorem dX12_fly_92 : decode cX12_fly 92 = .ok (.istore 9, 2) := by decide +kernel
theorem dX12_fly_94 : decode cX12_fly 94 = .ok (.lconst 0, 1) := by decide +kernel
theorem dX12_fly_95 : decode cX12_fly 95 = .ok (.lstore 10, 2) := by decide +kernel
theorem dX12_fly_97 : decode cX12_fly 97 = .ok (.iconst 0, 1) := by decide +kernel
theorem dX12_fly_98 : decode cX12_fly 98 = .ok (.istore 12, 2) := by decide +kernel
theorem dX12_fly_100 : decode cX12_fly 100 = .ok (.iload 12, 2) := by decide +kernel
theorem dX12_fly_102 : decode cX12_fly 102 = .ok (.iload_n 3, 1) := by decide +kernel
theorem dX12_fly_103 : decode cX12_fly 103 = .ok (.if_icmp .gt 68, 3) := by decide +kernel
theorem dX12_fly_106 : decode cX12_fly 106 = .ok (.iload 4, 2) := by decide +kernel
theorem dX12_fly_108 : decode cX12_fly 108 = .ok (.i2l, 1) := by decide +kernel
theorem dX12_fly_109 : decode cX12_fly 109 = .ok (.lload 7, 2) := by decide +kernel
theorem dX12_fly_111 : decode cX12_fly 111 = .ok (.aload_n 0, 1) := by decide +kernel
theorem dX12_fly_112 : decode cX12_fly 112 = .ok (.aload_n 0, 1) := by decide +kernel
theorem dX12_fly_113 : decode cX12_fly 113 = .ok (.invokevirtual 390, 3) := by decide +kernel
theorem dX12_fly_116 : decode cX12_fly 116 = .ok (.iload 6, 2) := by decide +kernel
theorem dX12_fly_118 : decode cX12_fly 118 = .ok (.iload 12, 2) := by decide +kernel
theorem dX12_fly_120 : decode cX12_fly 120 = .ok (.iadd, 1) := by decide +kernel
theorem dX12_fly_121 : decode cX12_fly 121 = .ok (.invokevirtual 401, 3) := by decide +kernel
theorem dX12_fly_124 : decode cX12_fly 124 = .ok (.lsub, 1) := by decide +kernel
theorem dX12_fly_125 : decode cX12_fly 125 = .ok (.lmul, 1) := by decide +kernel
theorem dX12_fly_126 : decode cX12_fly 126 = .ok (.iload 5, 2) := by decide +kernel
theorem dX12_fly_128 : decode cX12_fly 128 = .ok (.i2l, 1) := by decide +kernel
theorem dX12_fly_129 : decode cX12_fly 129 = .ok (.iload_n 3, 1) := by decide +kernel
theorem dX12_fly_130 : decode cX12_fly 130 = .ok (.iload 12, 2) := by decide +kernel
theorem dX12_fly_132 : decode cX12_fly 132 = .ok (.isub, 1) := by decide +kernel
theorem dX12_fly_133 : decode cX12_fly 133 = .ok (.i2l, 1) := by decide +kernel
theorem dX12_fly_134 : decode cX12_fly 134 = .ok (.lmul, 1) := by decide +kernel
theorem dX12_fly_135 : decode cX12_fly 135 = .ok (.lload 7, 2) := by decide +kernel
theorem dX12_fly_137 : decode cX12_fly 137 = .ok (.lmul, 1) := by decide +kernel
theorem dX12_fly_138 : decode cX12_fly 138 = .ok (.ladd, 1) := by decide +kernel
theorem dX12_fly_139 : decode cX12_fly 139 = .ok (.lstore 13, 2) := by decide +kernel
theorem dX12_fly_141 : decode cX12_fly 141 = .ok (.iload 12, 2) := by decide +kernel
theorem dX12_fly_143 : decode cX12_fly 143 = .ok (.ifCond .le 14, 3) := by decide +kernel
theorem dX12_fly_146 : decode cX12_fly 146 = .ok (.lload 13, 2) := by decide +kernel
theorem dX12_fly_148 : decode cX12_fly 148 = .ok (.lload 10, 2) := by decide +kernel
theorem dX12_fly_150 : decode cX12_fly 150 = .ok (.lcmp, 1) := by decide +kernel
theorem dX12_fly_151 : decode cX12_fly 151 = .ok (.ifCond .lt 6, 3) := by decide +kernel
theorem dX12_fly_154 : decode cX12_fly 154 = .ok (.goto 11, 3) := by decide +kernel
theorem dX12_fly_157 : decode cX12_fly 157 = .ok (.iload 12, 2) := by decide +kernel
theorem dX12_fly_159 : decode cX12_fly 159 = .ok (.istore 9, 2) := by decide +kernel
theorem dX12_fly_161 : decode cX12_fly 161 = .ok (.lload 13, 2) := by decide +kernel
theorem dX12_fly_163 : decode cX12_fly 163 = .ok (.lstore 10, 2) := by decide +kernel
theorem dX12_fly_165 : decode cX12_fly 165 = .ok (.iinc 12 1, 3) := by decide +kernel
theorem dX12_fly_168 : decode cX12_fly 168 = .ok (.goto (-68), 3) := by decide +kernel
theorem dX12_fly_171 : decode cX12_fly 171 = .ok (.iload 9, 2) := by decide +kernel
theorem dX12_fly_173 : decode cX12_fly 173 = .ok (.ireturn, 1) := by decide +kernel
theorem dX12_isHull_0 : decode cX12_isHull 0 = .ok (.iload_n 1, 1) := by decide +kernel
theorem dX12_isHull_1 : decode cX12_isHull 1 = .ok (.i2l, 1) := by decide +kernel
theorem dX12_isHull_2 : decode cX12_isHull 2 = .ok (.lconst 0, 1) := by decide +kernel
theorem dX12_isHull_3 : decode cX12_isHull 3 = .ok (.aload_n 0, 1) := by decide +kernel
theorem dX12_isHull_4 : decode cX12_isHull 4 = .ok (.getfield 168, 3) := by decide +kernel
theorem dX12_isHull_7 : decode cX12_isHull 7 = .ok (.iconst 1, 1) := by decide +kernel
theorem dX12_isHull_8 : decode cX12_isHull 8 = .ok (.isub, 1) := by decide +kernel
theorem dX12_isHull_9 : decode cX12_isHull 9 = .ok (.i2l, 1) := by decide +kernel
theorem dX12_isHull_10 : decode cX12_isHull 10 = .ok (.invokestatic 164, 3) := by decide +kernel
theorem dX12_isHull_13 : decode cX12_isHull 13 = .ok (.ireturn, 1) := by decide +kernel
theorem dX12_hull_0 : decode cX12_hull 0 = .ok (.aload_n 0, 1) := by decide +kernel
theorem dX12_hull_1 : decode cX12_hull 1 = .ok (.getfield 168, 3) := by decide +kernel
theorem dX12_hull_4 : decode cX12_hull 4 = .ok (.bipush 10, 2) := by decide +kernel
theorem dX12_hull_6 : decode cX12_hull 6 = .ok (.if_icmp .eq 30, 3) := by decide +kernel
theorem dX12_hull_9 : decode cX12_hull 9 = .ok (.aload_n 0, 1) := by decide +kernel
theorem dX12_hull_10 : decode cX12_hull 10 = .ok (.getfield 161, 3) := by decide +kernel
theorem dX12_hull_13 : decode cX12_hull 13 = .ok (.ifCond .eq 23, 3) := by decide +kernel
theorem dX12_hull_16 : decode cX12_hull 16 = .ok (.iload_n 1, 1) := by decide +kernel
theorem dX12_hull_17 : decode cX12_hull 17 = .ok (.i2l, 1) := by decide +kernel
theorem dX12_hull_18 : decode cX12_hull 18 = .ok (.lconst 0, 1) := by decide +kernel
theorem dX12_hull_19 : decode cX12_hull 19 = .ok (.iconst 1, 1) := by decide +kernel
theorem dX12_hull_20 : decode cX12_hull 20 = .ok (.iconst 2, 1) := by decide +kernel
theorem dX12_hull_21 : decode cX12_hull 21 = .ok (.aload_n 0, 1) := by decide +kernel
theorem dX12_hull_22 : decode cX12_hull 22 = .ok (.getfield 161, 3) := by decide +kernel
theorem dX12_hull_25 : decode cX12_hull 25 = .ok (.imul, 1) := by decide +kernel
theorem dX12_hull_26 : decode cX12_hull 26 = .ok (.ishl, 1) := by decide +kernel
theorem dX12_hull_27 : decode cX12_hull 27 = .ok (.iconst 1, 1) := by decide +kernel
theorem dX12_hull_28 : decode cX12_hull 28 = .ok (.isub, 1) := by decide +kernel
theorem dX12_hull_29 : decode cX12_hull 29 = .ok (.i2l, 1) := by decide +kernel
theorem dX12_hull_30 : decode cX12_hull 30 = .ok (.invokestatic 164, 3) := by decide +kernel
theorem dX12_hull_33 : decode cX12_hull 33 = .ok (.ifCond .ne 5, 3) := by decide +kernel
theorem dX12_hull_36 : decode cX12_hull 36 = .ok (.iconst (-1), 1) := by decide +kernel
theorem dX12_hull_37 : decode cX12_hull 37 = .ok (.ireturn, 1) := by decide +kernel
theorem dX12_hull_38 : decode cX12_hull 38 = .ok (.iconst 0, 1) := by decide +kernel
theorem dX12_hull_39 : decode cX12_hull 39 = .ok (.istore_n 2, 1) := by decide +kernel
theorem dX12_hull_40 : decode cX12_hull 40 = .ok (.iload_n 2, 1) := by decide +kernel
theorem dX12_hull_41 : decode cX12_hull 41 = .ok (.aload_n 0, 1) := by decide +kernel
theorem dX12_hull_42 : decode cX12_hull 42 = .ok (.getfield 161, 3) := by decide +kernel
theorem dX12_hull_45 : decode cX12_hull 45 = .ok (.if_icmp .ge 115, 3) := by decide +kernel
theorem dX12_hull_48 : decode cX12_hull 48 = .ok (.iload_n 1, 1) := by decide +kernel
theorem dX12_hull_49 : decode cX12_hull 49 = .ok (.iconst 2, 1) := by decide +kernel
theorem dX12_hull_50 : decode cX12_hull 50 = .ok (.iload_n 2, 1) := by decide +kernel
theorem dX12_hull_51 : decode cX12_hull 51 = .ok (.imul, 1) := by decide +kernel
theorem dX12_hull_52 : decode cX12_hull 52 = .ok (.ishr, 1) := by decide +kernel
theorem dX12_hull_53 : decode cX12_hull 53 = .ok (.iconst 3, 1) := by decide +kernel
theorem dX12_hull_54 : decode cX12_hull 54 = .ok (.iand, 1) := by decide +kernel
theorem dX12_hull_55 : decode cX12_hull 55 = .ok (.istore_n 3, 1) := by decide +kernel
theorem dX12_hull_56 : decode cX12_hull 56 = .ok (.iload_n 3, 1) := by decide +kernel
theorem dX12_hull_57 : decode cX12_hull 57 = .ok (.aload_n 0, 1) := by decide +kernel
theorem dX12_hull_58 : decode cX12_hull 58 = .ok (.getfield 26, 3) := by decide +kernel
theorem dX12_hull_61 : decode cX12_hull 61 = .ok (.iload_n 2, 1) := by decide +kernel
theorem dX12_hull_62 : decode cX12_hull 62 = .ok (.iaload, 1) := by decide +kernel
theorem dX12_hull_63 : decode cX12_hull 63 = .ok (.if_icmp .lt 9, 3) := by decide +kernel
theorem dX12_hull_66 : decode cX12_hull 66 = .ok (.iload_n 3, 1) := by decide +kernel
theorem dX12_hull_67 : decode cX12_hull 67 = .ok (.ifCond .le 5, 3) := by decide +kernel
theorem dX12_hull_70 : decode cX12_hull 70 = .ok (.iconst (-1), 1) := by decide +kernel
theorem dX12_hull_71 : decode cX12_hull 71 = .ok (.ireturn, 1) := by decide +kernel
theorem dX12_hull_72 : decode cX12_hull 72 = .ok (.aload_n 0, 1) := by decide +kernel
theorem dX12_hull_73 : decode cX12_hull 73 = .ok (.getfield 120, 3) := by decide +kernel
theorem dX12_hull_76 : decode cX12_hull 76 = .ok (.bipush 8, 2) := by decide +kernel
theorem dX12_hull_78 : decode cX12_hull 78 = .ok (.aload_n 0, 1) := by decide +kernel
theorem dX12_hull_79 : decode cX12_hull 79 = .ok (.getfield 168, 3) := by decide +kernel
theorem dX12_hull_82 : decode cX12_hull 82 = .ok (.imul, 1) := by decide +kernel
theorem dX12_hull_83 : decode cX12_hull 83 = .ok (.iload_n 2, 1) := by decide +kernel
theorem dX12_hull_84 : decode cX12_hull 84 = .ok (.iadd, 1) := by decide +kernel
theorem dX12_hull_85 : decode cX12_hull 85 = .ok (.aload_n 0, 1) := by decide +kernel
theorem dX12_hull_86 : decode cX12_hull 86 = .ok (.getfield 26, 3) := by decide +kernel
theorem dX12_hull_89 : decode cX12_hull 89 = .ok (.iload_n 2, 1) := by decide +kernel
theorem dX12_hull_90 : decode cX12_hull 90 = .ok (.iaload, 1) := by decide +kernel
theorem dX12_hull_91 : decode cX12_hull 91 = .ok (.ifCond .ne 7, 3) := by decide +kernel
theorem dX12_hull_94 : decode cX12_hull 94 = .ok (.iconst 0, 1) := by decide +kernel
theorem dX12_hull_95 : decode cX12_hull 95 = .ok (.goto 13, 3) := by decide +kernel
theorem dX12_hull_98 : decode cX12_hull 98 = .ok (.aload_n 0, 1) := by decide +kernel
theorem dX12_hull_99 : decode cX12_hull 99 = .ok (.getfield 29, 3) := by decide +kernel
theorem dX12_hull_102 : decode cX12_hull 102 = .ok (.iconst 4, 1) := by decide +kernel
theorem dX12_hull_103 : decode cX12_hull 103 = .ok (.iload_n 2, 1) := by decide +kernel
theorem dX12_hull_104 : decode cX12_hull 104 = .ok (.imul, 1) := by decide +kernel
theorem dX12_hull_105 : decode cX12_hull 105 = .ok (.iload_n 3, 1) := by decide +kernel
theorem dX12_hull_106 : decode cX12_hull 106 = .ok (.iadd, 1) := by decide +kernel
theorem dX12_hull_107 : decode cX12_hull 107 = .ok (.iaload, 1) := by decide +kernel
theorem dX12_hull_108 : decode cX12_hull 108 = .ok (.iastore, 1) := by decide +kernel
theorem dX12_hull_109 : decode cX12_hull 109 = .ok (.aload_n 0, 1) := by decide +kernel
theorem dX12_hull_110 : decode cX12_hull 110 = .ok (.getfield 123, 3) := by decide +kernel
theorem dX12_hull_113 : decode cX12_hull 113 = .ok (.bipush 8, 2) := by decide +kernel
theorem dX12_hull_115 : decode cX12_hull 115 = .ok (.aload_n 0, 1) := by decide +kernel
theorem dX12_hull_116 : decode cX12_hull 116 = .ok (.getfield 168, 3) := by decide +kernel
theorem dX12_hull_119 : decode cX12_hull 119 = .ok (.imul, 1) := by decide +kernel
theorem dX12_hull_120 : decode cX12_hull 120 = .ok (.iload_n 2, 1) := by decide +kernel
theorem dX12_hull_121 : decode cX12_hull 121 = .ok (.iadd, 1) := by decide +kernel
theorem dX12_hull_122 : decode cX12_hull 122 = .ok (.iconst 0, 1) := by decide +kernel
theorem dX12_hull_123 : decode cX12_hull 123 = .ok (.iastore, 1) := by decide +kernel
theorem dX12_hull_124 : decode cX12_hull 124 = .ok (.aload_n 0, 1) := by decide +kernel
theorem dX12_hull_125 : decode cX12_hull 125 = .ok (.getfield 126, 3) := by decide +kernel
theorem dX12_hull_128 : decode cX12_hull 128 = .ok (.bipush 8, 2) := by decide +kernel
theorem dX12_hull_130 : decode cX12_hull 130 = .ok (.aload_n 0, 1) := by decide +kernel
theorem dX12_hull_131 : decode cX12_hull 131 = .ok (.getfield 168, 3) := by decide +kernel
theorem dX12_hull_134 : decode cX12_hull 134 = .ok (.imul, 1) := by decide +kernel
theorem dX12_hull_135 : decode cX12_hull 135 = .ok (.iload_n 2, 1) := by decide +kernel
theorem dX12_hull_136 : decode cX12_hull 136 = .ok (.iadd, 1) := by decide +kernel
theorem dX12_hull_137 : decode cX12_hull 137 = .ok (.iconst 0, 1) := by decide +kernel
theorem dX12_hull_138 : decode cX12_hull 138 = .ok (.iastore, 1) := by decide +kernel
theorem dX12_hull_139 : decode cX12_hull 139 = .ok (.aload_n 0, 1) := by decide +kernel
theorem dX12_hull_140 : decode cX12_hull 140 = .ok (.getfield 129, 3) := by decide +kernel
theorem dX12_hull_143 : decode cX12_hull 143 = .ok (.bipush 8, 2) := by decide +kernel
theorem dX12_hull_145 : decode cX12_hull 145 = .ok (.aload_n 0, 1) := by decide +kernel
theorem dX12_hull_146 : decode cX12_hull 146 = .ok (.getfield 168, 3) := by decide +kernel
theorem dX12_hull_149 : decode cX12_hull 149 = .ok (.imul, 1) := by decide +kernel
theorem dX12_hull_150 : decode cX12_hull 150 = .ok (.iload_n 2, 1) := by decide +kernel
theorem dX12_hull_151 : decode cX12_hull 151 = .ok (.iadd, 1) := by decide +kernel
theorem dX12_hull_152 : decode cX12_hull 152 = .ok (.iconst 0, 1) := by decide +kernel
theorem dX12_hull_153 : decode cX12_hull 153 = .ok (.iastore, 1) := by decide +kernel
theorem dX12_hull_154 : decode cX12_hull 154 = .ok (.iinc 2 1, 3) := by decide +kernel
theorem dX12_hull_157 : decode cX12_hull 157 = .ok (.goto (-117), 3) := by decide +kernel
theorem dX12_hull_160 : decode cX12_hull 160 = .ok (.aload_n 0, 1) := by decide +kernel
theorem dX12_hull_161 : decode cX12_hull 161 = .ok (.getfield 114, 3) := by decide +kernel
theorem dX12_hull_164 : decode cX12_hull 164 = .ok (.aload_n 0, 1) := by decide +kernel
theorem dX12_hull_165 : decode cX12_hull 165 = .ok (.getfield 168, 3) := by decide +kernel
theorem dX12_hull_168 : decode cX12_hull 168 = .ok (.iconst 0, 1) := by decide +kernel
theorem dX12_hull_169 : decode cX12_hull 169 = .ok (.iastore, 1) := by decide +kernel
theorem dX12_hull_170 : decode cX12_hull 170 = .ok (.aload_n 0, 1) := by decide +kernel
theorem dX12_hull_171 : decode cX12_hull 171 = .ok (.getfield 117, 3) := by decide +kernel
theorem dX12_hull_174 : decode cX12_hull 174 = .ok (.aload_n 0, 1) := by decide +kernel
theorem dX12_hull_175 : decode cX12_hull 175 = .ok (.getfield 168, 3) := by decide +kernel
theorem dX12_hull_178 : decode cX12_hull 178 = .ok (.iconst (-1), 1) := by decide +kernel
theorem dX12_hull_179 : decode cX12_hull 179 = .ok (.iastore, 1) := by decide +kernel
theorem dX12_hull_180 : decode cX12_hull 180 = .ok (.aload_n 0, 1) := by decide +kernel
theorem dX12_hull_181 : decode cX12_hull 181 = .ok (.dup, 1) := by decide +kernel
theorem dX12_hull_182 : decode cX12_hull 182 = .ok (.getfield 168, 3) := by decide +kernel
theorem dX12_hull_185 : decode cX12_hull 185 = .ok (.iconst 1, 1) := by decide +kernel
theorem dX12_hull_186 : decode cX12_hull 186 = .ok (.iadd, 1) := by decide +kernel
theorem dX12_hull_187 : decode cX12_hull 187 = .ok (.putfield 168, 3) := by decide +kernel
theorem dX12_hull_190 : decode cX12_hull 190 = .ok (.aload_n 0, 1) := by decide +kernel
theorem dX12_hull_191 : decode cX12_hull 191 = .ok (.getfield 168, 3) := by decide +kernel
theorem dX12_hull_194 : decode cX12_hull 194 = .ok (.iconst 1, 1) := by decide +kernel
theorem dX12_hull_195 : decode cX12_hull 195 = .ok (.isub, 1) := by decide +kernel
theorem dX12_hull_196 : decode cX12_hull 196 = .ok (.ireturn, 1) := by decide +kernel
theorem dX12_pullsHull_0 : decode cX12_pullsHull 0 = .ok (.iconst 0, 1) := by decide +kernel
theorem dX12_pullsHull_1 : decode cX12_pullsHull 1 = .ok (.istore_n 3, 1) := by decide +kernel
theorem dX12_pullsHull_2 : decode cX12_pullsHull 2 = .ok (.iload_n 3, 1) := by decide +kernel
theorem dX12_pullsHull_3 : decode cX12_pullsHull 3 = .ok (.aload_n 0, 1) := by decide +kernel
theorem dX12_pullsHull_4 : decode cX12_pullsHull 4 = .ok (.getfield 161, 3) := by decide +kernel
theorem dX12_pullsHull_7 : decode cX12_pullsHull 7 = .ok (.if_icmp .ge 151, 3) := by decide +kernel
theorem dX12_pullsHull_10 : decode cX12_pullsHull 10 = .ok (.bipush 8, 2) := by decide +kernel
theorem dX12_pullsHull_12 : decode cX12_pullsHull 12 = .ok (.iload_n 1, 1) := by decide +kernel
theorem dX12_pullsHull_13 : decode cX12_pullsHull 13 = .ok (.imul, 1) := by decide +kernel
theorem dX12_pullsHull_14 : decode cX12_pullsHull 14 = .ok (.iload_n 3, 1) := by decide +kernel
theorem dX12_pullsHull_15 : decode cX12_pullsHull 15 = .ok (.iadd, 1) := by decide +kernel
theorem dX12_pullsHull_16 : decode cX12_pullsHull 16 = .ok (.istore 4, 2) := by decide +kernel
theorem dX12_pullsHull_18 : decode cX12_pullsHull 18 = .ok (.aload_n 0, 1) := by decide +kernel
theorem dX12_pullsHull_19 : decode cX12_pullsHull 19 = .ok (.getfield 120, 3) := by decide +kernel
theorem dX12_pullsHull_22 : decode cX12_pullsHull 22 = .ok (.iload 4, 2) := by decide +kernel
theorem dX12_pullsHull_24 : decode cX12_pullsHull 24 = .ok (.iaload, 1) := by decide +kernel
theorem dX12_pullsHull_25 : decode cX12_pullsHull 25 = .ok (.ifCond .ne 6, 3) := by decide +kernel
theorem dX12_pullsHull_28 : decode cX12_pullsHull 28 = .ok (.goto 124, 3) := by decide +kernel
theorem dX12_pullsHull_31 : decode cX12_pullsHull 31 = .ok (.aload_n 0, 1) := by decide +kernel
theorem dX12_pullsHull_32 : decode cX12_pullsHull 32 = .ok (.iload_n 3, 1) := by decide +kernel
theorem dX12_pullsHull_33 : decode cX12_pullsHull 33 = .ok (.putfield 305, 3) := by decide +kernel
theorem dX12_pullsHull_36 : decode cX12_pullsHull 36 = .ok (.aload_n 0, 1) := by decide +kernel
theorem dX12_pullsHull_37 : decode cX12_pullsHull 37 = .ok (.iload_n 2, 1) := by decide +kernel
theorem dX12_pullsHull_38 : decode cX12_pullsHull 38 = .ok (.putfield 302, 3) := by decide +kernel
theorem dX12_pullsHull_41 : decode cX12_pullsHull 41 = .ok (.aload_n 0, 1) := by decide +kernel
theorem dX12_pullsHull_42 : decode cX12_pullsHull 42 = .ok (.aload_n 0, 1) := by decide +kernel
theorem dX12_pullsHull_43 : decode cX12_pullsHull 43 = .ok (.getfield 114, 3) := by decide +kernel
theorem dX12_pullsHull_46 : decode cX12_pullsHull 46 = .ok (.iload_n 1, 1) := by decide +kernel
theorem dX12_pullsHull_47 : decode cX12_pullsHull 47 = .ok (.iaload, 1) := by decide +kernel
theorem dX12_pullsHull_48 : decode cX12_pullsHull 48 = .ok (.putfield 308, 3) := by decide +kernel
theorem dX12_pullsHull_51 : decode cX12_pullsHull 51 = .ok (.aload_n 0, 1) := by decide +kernel
theorem dX12_pullsHull_52 : decode cX12_pullsHull 52 = .ok (.aload_n 0, 1) := by decide +kernel
theorem dX12_pullsHull_53 : decode cX12_pullsHull 53 = .ok (.getfield 129, 3) := by decide +kernel
theorem dX12_pullsHull_56 : decode cX12_pullsHull 56 = .ok (.iload 4, 2) := by decide +kernel
theorem dX12_pullsHull_58 : decode cX12_pullsHull 58 = .ok (.iaload, 1) := by decide +kernel
theorem dX12_pullsHull_59 : decode cX12_pullsHull 59 = .ok (.putfield 314, 3) := by decide +kernel
theorem dX12_pullsHull_62 : decode cX12_pullsHull 62 = .ok (.aload_n 0, 1) := by decide +kernel
theorem dX12_pullsHull_63 : decode cX12_pullsHull 63 = .ok (.aload_n 0, 1) := by decide +kernel
theorem dX12_pullsHull_64 : decode cX12_pullsHull 64 = .ok (.getfield 126, 3) := by decide +kernel
theorem dX12_pullsHull_67 : decode cX12_pullsHull 67 = .ok (.iload 4, 2) := by decide +kernel
theorem dX12_pullsHull_69 : decode cX12_pullsHull 69 = .ok (.iaload, 1) := by decide +kernel
theorem dX12_pullsHull_70 : decode cX12_pullsHull 70 = .ok (.putfield 317, 3) := by decide +kernel
theorem dX12_pullsHull_73 : decode cX12_pullsHull 73 = .ok (.aload_n 0, 1) := by decide +kernel
theorem dX12_pullsHull_74 : decode cX12_pullsHull 74 = .ok (.aload_n 0, 1) := by decide +kernel
theorem dX12_pullsHull_75 : decode cX12_pullsHull 75 = .ok (.getfield 123, 3) := by decide +kernel
theorem dX12_pullsHull_78 : decode cX12_pullsHull 78 = .ok (.iload 4, 2) := by decide +kernel
theorem dX12_pullsHull_80 : decode cX12_pullsHull 80 = .ok (.iaload, 1) := by decide +kernel
theorem dX12_pullsHull_81 : decode cX12_pullsHull 81 = .ok (.putfield 320, 3) := by decide +kernel
theorem dX12_pullsHull_84 : decode cX12_pullsHull 84 = .ok (.aload_n 0, 1) := by decide +kernel
theorem dX12_pullsHull_85 : decode cX12_pullsHull 85 = .ok (.aload_n 0, 1) := by decide +kernel
theorem dX12_pullsHull_86 : decode cX12_pullsHull 86 = .ok (.getfield 120, 3) := by decide +kernel
theorem dX12_pullsHull_89 : decode cX12_pullsHull 89 = .ok (.iload 4, 2) := by decide +kernel
theorem dX12_pullsHull_91 : decode cX12_pullsHull 91 = .ok (.iaload, 1) := by decide +kernel
theorem dX12_pullsHull_92 : decode cX12_pullsHull 92 = .ok (.invokevirtual 370, 3) := by decide +kernel
theorem dX12_pullsHull_95 : decode cX12_pullsHull 95 = .ok (.aload_n 0, 1) := by decide +kernel
theorem dX12_pullsHull_96 : decode cX12_pullsHull 96 = .ok (.getfield 129, 3) := by decide +kernel
theorem dX12_pullsHull_99 : decode cX12_pullsHull 99 = .ok (.iload 4, 2) := by decide +kernel
theorem dX12_pullsHull_101 : decode cX12_pullsHull 101 = .ok (.aload_n 0, 1) := by decide +kernel
theorem dX12_pullsHull_102 : decode cX12_pullsHull 102 = .ok (.getfield 314, 3) := by decide +kernel
theorem dX12_pullsHull_105 : decode cX12_pullsHull 105 = .ok (.iastore, 1) := by decide +kernel
theorem dX12_pullsHull_106 : decode cX12_pullsHull 106 = .ok (.aload_n 0, 1) := by decide +kernel
theorem dX12_pullsHull_107 : decode cX12_pullsHull 107 = .ok (.getfield 126, 3) := by decide +kernel
theorem dX12_pullsHull_110 : decode cX12_pullsHull 110 = .ok (.iload 4, 2) := by decide +kernel
theorem dX12_pullsHull_112 : decode cX12_pullsHull 112 = .ok (.aload_n 0, 1) := by decide +kernel
theorem dX12_pullsHull_113 : decode cX12_pullsHull 113 = .ok (.getfield 317, 3) := by decide +kernel
theorem dX12_pullsHull_116 : decode cX12_pullsHull 116 = .ok (.iastore, 1) := by decide +kernel
theorem dX12_pullsHull_117 : decode cX12_pullsHull 117 = .ok (.aload_n 0, 1) := by decide +kernel
theorem dX12_pullsHull_118 : decode cX12_pullsHull 118 = .ok (.getfield 123, 3) := by decide +kernel
theorem dX12_pullsHull_121 : decode cX12_pullsHull 121 = .ok (.iload 4, 2) := by decide +kernel
theorem dX12_pullsHull_123 : decode cX12_pullsHull 123 = .ok (.aload_n 0, 1) := by decide +kernel
theorem dX12_pullsHull_124 : decode cX12_pullsHull 124 = .ok (.getfield 320, 3) := by decide +kernel
theorem dX12_pullsHull_127 : decode cX12_pullsHull 127 = .ok (.iastore, 1) := by decide +kernel
theorem dX12_pullsHull_128 : decode cX12_pullsHull 128 = .ok (.aload_n 0, 1) := by decide +kernel
theorem dX12_pullsHull_129 : decode cX12_pullsHull 129 = .ok (.invokevirtual 373, 3) := by decide +kernel
theorem dX12_pullsHull_132 : decode cX12_pullsHull 132 = .ok (.ifCond .eq 20, 3) := by decide +kernel
theorem dX12_pullsHull_135 : decode cX12_pullsHull 135 = .ok (.aload_n 0, 1) := by decide +kernel
theorem dX12_pullsHull_136 : decode cX12_pullsHull 136 = .ok (.getfield 117, 3) := by decide +kernel
theorem dX12_pullsHull_139 : decode cX12_pullsHull 139 = .ok (.iload_n 1, 1) := by decide +kernel
theorem dX12_pullsHull_140 : decode cX12_pullsHull 140 = .ok (.iaload, 1) := by decide +kernel
theorem dX12_pullsHull_141 : decode cX12_pullsHull 141 = .ok (.iconst (-1), 1) := by decide +kernel
theorem dX12_pullsHull_142 : decode cX12_pullsHull 142 = .ok (.if_icmp .ne 10, 3) := by decide +kernel
theorem dX12_pullsHull_145 : decode cX12_pullsHull 145 = .ok (.aload_n 0, 1) := by decide +kernel
theorem dX12_pullsHull_146 : decode cX12_pullsHull 146 = .ok (.getfield 117, 3) := by decide +kernel
theorem dX12_pullsHull_149 : decode cX12_pullsHull 149 = .ok (.iload_n 1, 1) := by decide +kernel
theorem dX12_pullsHull_150 : decode cX12_pullsHull 150 = .ok (.iload_n 3, 1) := by decide +kernel
theorem dX12_pullsHull_151 : decode cX12_pullsHull 151 = .ok (.iastore, 1) := by decide +kernel
theorem dX12_pullsHull_152 : decode cX12_pullsHull 152 = .ok (.iinc 3 1, 3) := by decide +kernel
theorem dX12_pullsHull_155 : decode cX12_pullsHull 155 = .ok (.goto (-153), 3) := by decide +kernel
theorem dX12_pullsHull_158 : decode cX12_pullsHull 158 = .ok (.aload_n 0, 1) := by decide +kernel
theorem dX12_pullsHull_159 : decode cX12_pullsHull 159 = .ok (.getfield 114, 3) := by decide +kernel
theorem dX12_pullsHull_162 : decode cX12_pullsHull 162 = .ok (.iload_n 1, 1) := by decide +kernel
theorem dX12_pullsHull_163 : decode cX12_pullsHull 163 = .ok (.dup2, 1) := by decide +kernel
theorem dX12_pullsHull_164 : decode cX12_pullsHull 164 = .ok (.iaload, 1) := by decide +kernel
theorem dX12_pullsHull_165 : decode cX12_pullsHull 165 = .ok (.iconst 1, 1) := by decide +kernel
theorem dX12_pullsHull_166 : decode cX12_pullsHull 166 = .ok (.iadd, 1) := by decide +kernel
theorem dX12_pullsHull_167 : decode cX12_pullsHull 167 = .ok (.iastore, 1) := by decide +kernel
theorem dX12_pullsHull_168 : decode cX12_pullsHull 168 = .ok (.return_, 1) := by decide +kernel
theorem dX12_flown_0 : decode cX12_flown 0 = .ok (.aload_n 0, 1) := by decide +kernel
theorem dX12_flown_1 : decode cX12_flown 1 = .ok (.iload_n 1, 1) := by decide +kernel
theorem dX12_flown_2 : decode cX12_flown 2 = .ok (.invokevirtual 435, 3) := by decide +kernel
theorem dX12_flown_5 : decode cX12_flown 5 = .ok (.ifCond .eq 46, 3) := by decide +kernel
theorem dX12_flown_8 : decode cX12_flown 8 = .ok (.aload_n 0, 1) := by decide +kernel
theorem dX12_flown_9 : decode cX12_flown 9 = .ok (.getfield 117, 3) := by decide +kernel
theorem dX12_flown_12 : decode cX12_flown 12 = .ok (.iload_n 1, 1) := by decide +kernel
theorem dX12_flown_13 : decode cX12_flown 13 = .ok (.iaload, 1) := by decide +kernel
theorem dX12_flown_14 : decode cX12_flown 14 = .ok (.iconst (-1), 1) := by decide +kernel
theorem dX12_flown_15 : decode cX12_flown 15 = .ok (.if_icmp .ne 36, 3) := by decide +kernel
theorem dX12_flown_18 : decode cX12_flown 18 = .ok (.iload_n 2, 1) := by decide +kernel
theorem dX12_flown_19 : decode cX12_flown 19 = .ok (.invokestatic 345, 3) := by decide +kernel
theorem dX12_flown_22 : decode cX12_flown 22 = .ok (.ifCond .eq 29, 3) := by decide +kernel
theorem dX12_flown_25 : decode cX12_flown 25 = .ok (.iload_n 3, 1) := by decide +kernel
theorem dX12_flown_26 : decode cX12_flown 26 = .ok (.i2l, 1) := by decide +kernel
theorem dX12_flown_27 : decode cX12_flown 27 = .ok (.lconst 1, 1) := by decide +kernel
theorem dX12_flown_28 : decode cX12_flown 28 = .ok (.ldc2_w 438, 3) := by decide +kernel
theorem dX12_flown_31 : decode cX12_flown 31 = .ok (.invokestatic 164, 3) := by decide +kernel
theorem dX12_flown_34 : decode cX12_flown 34 = .ok (.ifCond .eq 17, 3) := by decide +kernel
theorem dX12_flown_37 : decode cX12_flown 37 = .ok (.aload_n 0, 1) := by decide +kernel
theorem dX12_flown_38 : decode cX12_flown 38 = .ok (.getfield 114, 3) := by decide +kernel
theorem dX12_flown_41 : decode cX12_flown 41 = .ok (.iload_n 1, 1) := by decide +kernel
theorem dX12_flown_42 : decode cX12_flown 42 = .ok (.iaload, 1) := by decide +kernel
theorem dX12_flown_43 : decode cX12_flown 43 = .ok (.iload_n 3, 1) := by decide +kernel
theorem dX12_flown_44 : decode cX12_flown 44 = .ok (.iadd, 1) := by decide +kernel
theorem dX12_flown_45 : decode cX12_flown 45 = .ok (.ldc_w 341, 3) := by decide +kernel
theorem dX12_flown_48 : decode cX12_flown 48 = .ok (.if_icmp .le 5, 3) := by decide +kernel
theorem dX12_flown_51 : decode cX12_flown 51 = .ok (.iconst (-1), 1) := by decide +kernel
theorem dX12_flown_52 : decode cX12_flown 52 = .ok (.ireturn, 1) := by decide +kernel
theorem dX12_flown_53 : decode cX12_flown 53 = .ok (.iconst 0, 1) := by decide +kernel
theorem dX12_flown_54 : decode cX12_flown 54 = .ok (.istore 4, 2) := by decide +kernel
theorem dX12_flown_56 : decode cX12_flown 56 = .ok (.iload 4, 2) := by decide +kernel
theorem dX12_flown_58 : decode cX12_flown 58 = .ok (.iload_n 3, 1) := by decide +kernel
theorem dX12_flown_59 : decode cX12_flown 59 = .ok (.if_icmp .ge 25, 3) := by decide +kernel
theorem dX12_flown_62 : decode cX12_flown 62 = .ok (.aload_n 0, 1) := by decide +kernel
theorem dX12_flown_63 : decode cX12_flown 63 = .ok (.getfield 117, 3) := by decide +kernel
theorem dX12_flown_66 : decode cX12_flown 66 = .ok (.iload_n 1, 1) := by decide +kernel
theorem dX12_flown_67 : decode cX12_flown 67 = .ok (.iaload, 1) := by decide +kernel
theorem dX12_flown_68 : decode cX12_flown 68 = .ok (.iconst (-1), 1) := by decide +kernel
theorem dX12_flown_69 : decode cX12_flown 69 = .ok (.if_icmp .ne 15, 3) := by decide +kernel
theorem dX12_flown_72 : decode cX12_flown 72 = .ok (.aload_n 0, 1) := by decide +kernel
theorem dX12_flown_73 : decode cX12_flown 73 = .ok (.iload_n 1, 1) := by decide +kernel
theorem dX12_flown_74 : decode cX12_flown 74 = .ok (.iload_n 2, 1) := by decide +kernel
theorem dX12_flown_75 : decode cX12_flown 75 = .ok (.invokevirtual 440, 3) := by decide +kernel
theorem dX12_flown_78 : decode cX12_flown 78 = .ok (.iinc 4 1, 3) := by decide +kernel
theorem dX12_flown_81 : decode cX12_flown 81 = .ok (.goto (-25), 3) := by decide +kernel
theorem dX12_flown_84 : decode cX12_flown 84 = .ok (.iload 4, 2) := by decide +kernel
theorem dX12_flown_86 : decode cX12_flown 86 = .ok (.ireturn, 1) := by decide +kernel
theorem dX12_hullIs_0 : decode cX12_hullIs 0 = .ok (.aload_n 0, 1) := by decide +kernel
theorem dX12_hullIs_1 : decode cX12_hullIs 1 = .ok (.iload_n 1, 1) := by decide +kernel
theorem dX12_hullIs_2 : decode cX12_hullIs 2 = .ok (.invokevirtual 435, 3) := by decide +kernel
theorem dX12_hullIs_5 : decode cX12_hullIs 5 = .ok (.ifCond .ne 7, 3) := by decide +kernel
theorem dX12_hullIs_8 : decode cX12_hullIs 8 = .ok (.iconst (-1), 1) := by decide +kernel
theorem dX12_hullIs_9 : decode cX12_hullIs 9 = .ok (.goto 31, 3) := by decide +kernel
theorem dX12_hullIs_12 : decode cX12_hullIs 12 = .ok (.iload_n 2, 1) := by decide +kernel
theorem dX12_hullIs_13 : decode cX12_hullIs 13 = .ok (.ifCond .ne 12, 3) := by decide +kernel
theorem dX12_hullIs_16 : decode cX12_hullIs 16 = .ok (.aload_n 0, 1) := by decide +kernel
theorem dX12_hullIs_17 : decode cX12_hullIs 17 = .ok (.getfield 114, 3) := by decide +kernel
theorem dX12_hullIs_20 : decode cX12_hullIs 20 = .ok (.iload_n 1, 1) := by decide +kernel
theorem dX12_hullIs_21 : decode cX12_hullIs 21 = .ok (.iaload, 1) := by decide +kernel
theorem dX12_hullIs_22 : decode cX12_hullIs 22 = .ok (.goto 18, 3) := by decide +kernel
theorem dX12_hullIs_25 : decode cX12_hullIs 25 = .ok (.iload_n 2, 1) := by decide +kernel
theorem dX12_hullIs_26 : decode cX12_hullIs 26 = .ok (.iconst 1, 1) := by decide +kernel
theorem dX12_hullIs_27 : decode cX12_hullIs 27 = .ok (.if_icmp .ne 12, 3) := by decide +kernel
theorem dX12_hullIs_30 : decode cX12_hullIs 30 = .ok (.aload_n 0, 1) := by decide +kernel
theorem dX12_hullIs_31 : decode cX12_hullIs 31 = .ok (.getfield 117, 3) := by decide +kernel
theorem dX12_hullIs_34 : decode cX12_hullIs 34 = .ok (.iload_n 1, 1) := by decide +kernel
theorem dX12_hullIs_35 : decode cX12_hullIs 35 = .ok (.iaload, 1) := by decide +kernel
theorem dX12_hullIs_36 : decode cX12_hullIs 36 = .ok (.goto 4, 3) := by decide +kernel
theorem dX12_hullIs_39 : decode cX12_hullIs 39 = .ok (.iconst (-1), 1) := by decide +kernel
theorem dX12_hullIs_40 : decode cX12_hullIs 40 = .ok (.ireturn, 1) := by decide +kernel
theorem dX12_cornerIs_0 : decode cX12_cornerIs 0 = .ok (.aload_n 0, 1) := by decide +kernel
theorem dX12_cornerIs_1 : decode cX12_cornerIs 1 = .ok (.iload_n 1, 1) := by decide +kernel
theorem dX12_cornerIs_2 : decode cX12_cornerIs 2 = .ok (.invokevirtual 435, 3) := by decide +kernel
theorem dX12_cornerIs_5 : decode cX12_cornerIs 5 = .ok (.ifCond .eq 11, 3) := by decide +kernel
theorem dX12_cornerIs_8 : decode cX12_cornerIs 8 = .ok (.aload_n 0, 1) := by decide +kernel
theorem dX12_cornerIs_9 : decode cX12_cornerIs 9 = .ok (.iload_n 2, 1) := by decide +kernel
theorem dX12_cornerIs_10 : decode cX12_cornerIs 10 = .ok (.invokevirtual 177, 3) := by decide +kernel
theorem dX12_cornerIs_13 : decode cX12_cornerIs 13 = .ok (.ifCond .ne 5, 3) := by decide +kernel
theorem dX12_cornerIs_16 : decode cX12_cornerIs 16 = .ok (.iconst (-1), 1) := by decide +kernel
theorem dX12_cornerIs_17 : decode cX12_cornerIs 17 = .ok (.ireturn, 1) := by decide +kernel
theorem dX12_cornerIs_18 : decode cX12_cornerIs 18 = .ok (.bipush 8, 2) := by decide +kernel
theorem dX12_cornerIs_20 : decode cX12_cornerIs 20 = .ok (.iload_n 1, 1) := by decide +kernel
theorem dX12_cornerIs_21 : decode cX12_cornerIs 21 = .ok (.imul, 1) := by decide +kernel
theorem dX12_cornerIs_22 : decode cX12_cornerIs 22 = .ok (.iload_n 2, 1) := by decide +kernel
theorem dX12_cornerIs_23 : decode cX12_cornerIs 23 = .ok (.iadd, 1) := by decide +kernel
theorem dX12_cornerIs_24 : decode cX12_cornerIs 24 = .ok (.istore 4, 2) := by decide +kernel
theorem dX12_cornerIs_26 : decode cX12_cornerIs 26 = .ok (.iload_n 3, 1) := by decide +kernel
theorem dX12_cornerIs_27 : decode cX12_cornerIs 27 = .ok (.ifCond .ne 13, 3) := by decide +kernel
theorem dX12_cornerIs_30 : decode cX12_cornerIs 30 = .ok (.aload_n 0, 1) := by decide +kernel
theorem dX12_cornerIs_31 : decode cX12_cornerIs 31 = .ok (.getfield 123, 3) := by decide +kernel
theorem dX12_cornerIs_34 : decode cX12_cornerIs 34 = .ok (.iload 4, 2) := by decide +kernel
theorem dX12_cornerIs_36 : decode cX12_cornerIs 36 = .ok (.iaload, 1) := by decide +kernel
theorem dX12_cornerIs_37 : decode cX12_cornerIs 37 = .ok (.goto 34, 3) := by decide +kernel
theorem dX12_cornerIs_40 : decode cX12_cornerIs 40 = .ok (.iload_n 3, 1) := by decide +kernel
theorem dX12_cornerIs_41 : decode cX12_cornerIs 41 = .ok (.iconst 1, 1) := by decide +kernel
theorem dX12_cornerIs_42 : decode cX12_cornerIs 42 = .ok (.if_icmp .ne 13, 3) := by decide +kernel
theorem dX12_cornerIs_45 : decode cX12_cornerIs 45 = .ok (.aload_n 0, 1) := by decide +kernel
theorem dX12_cornerIs_46 : decode cX12_cornerIs 46 = .ok (.getfield 126, 3) := by decide +kernel
theorem dX12_cornerIs_49 : decode cX12_cornerIs 49 = .ok (.iload 4, 2) := by decide +kernel
theorem dX12_cornerIs_51 : decode cX12_cornerIs 51 = .ok (.iaload, 1) := by decide +kernel
theorem dX12_cornerIs_52 : decode cX12_cornerIs 52 = .ok (.goto 19, 3) := by decide +kernel
theorem dX12_cornerIs_55 : decode cX12_cornerIs 55 = .ok (.iload_n 3, 1) := by decide +kernel
theorem dX12_cornerIs_56 : decode cX12_cornerIs 56 = .ok (.iconst 2, 1) := by decide +kernel
theorem dX12_cornerIs_57 : decode cX12_cornerIs 57 = .ok (.if_icmp .ne 13, 3) := by decide +kernel
theorem dX12_cornerIs_60 : decode cX12_cornerIs 60 = .ok (.aload_n 0, 1) := by decide +kernel
theorem dX12_cornerIs_61 : decode cX12_cornerIs 61 = .ok (.getfield 129, 3) := by decide +kernel
theorem dX12_cornerIs_64 : decode cX12_cornerIs 64 = .ok (.iload 4, 2) := by decide +kernel
theorem dX12_cornerIs_66 : decode cX12_cornerIs 66 = .ok (.iaload, 1) := by decide +kernel
theorem dX12_cornerIs_67 : decode cX12_cornerIs 67 = .ok (.goto 4, 3) := by decide +kernel
theorem dX12_cornerIs_70 : decode cX12_cornerIs 70 = .ok (.iconst (-1), 1) := by decide +kernel
theorem dX12_cornerIs_71 : decode cX12_cornerIs 71 = .ok (.ireturn, 1) := by decide +kernel
theorem dX12_isStory_0 : decode cX12_isStory 0 = .ok (.iload_n 1, 1) := by decide +kernel
theorem dX12_isStory_1 : decode cX12_isStory 1 = .ok (.i2l, 1) := by decide +kernel
theorem dX12_isStory_2 : decode cX12_isStory 2 = .ok (.lconst 0, 1) := by decide +kernel
theorem dX12_isStory_3 : decode cX12_isStory 3 = .ok (.aload_n 0, 1) := by decide +kernel
theorem dX12_isStory_4 : decode cX12_isStory 4 = .ok (.getfield 443, 3) := by decide +kernel
theorem dX12_isStory_7 : decode cX12_isStory 7 = .ok (.iconst 1, 1) := by decide +kernel
theorem dX12_isStory_8 : decode cX12_isStory 8 = .ok (.isub, 1) := by decide +kernel
theorem dX12_isStory_9 : decode cX12_isStory 9 = .ok (.i2l, 1) := by decide +kernel
theorem dX12_isStory_10 : decode cX12_isStory 10 = .ok (.invokestatic 164, 3) := by decide +kernel
theorem dX12_isStory_13 : decode cX12_isStory 13 = .ok (.ireturn, 1) := by decide +kernel
theorem dX12_isFind_0 : decode cX12_isFind 0 = .ok (.iload_n 1, 1) := by decide +kernel
theorem dX12_isFind_1 : decode cX12_isFind 1 = .ok (.i2l, 1) := by decide +kernel
theorem dX12_isFind_2 : decode cX12_isFind 2 = .ok (.lconst 0, 1) := by decide +kernel
theorem dX12_isFind_3 : decode cX12_isFind 3 = .ok (.aload_n 0, 1) := by decide +kernel
theorem dX12_isFind_4 : decode cX12_isFind 4 = .ok (.getfield 446, 3) := by decide +kernel
theorem dX12_isFind_7 : decode cX12_isFind 7 = .ok (.iconst 1, 1) := by decide +kernel
theorem dX12_isFind_8 : decode cX12_isFind 8 = .ok (.isub, 1) := by decide +kernel
theorem dX12_isFind_9 : decode cX12_isFind 9 = .ok (.i2l, 1) := by decide +kernel
theorem dX12_isFind_10 : decode cX12_isFind 10 = .ok (.invokestatic 164, 3) := by decide +kernel
theorem dX12_isFind_13 : decode cX12_isFind 13 = .ok (.ireturn, 1) := by decide +kernel
theorem dX12_story_0 : decode cX12_story 0 = .ok (.aload_n 0, 1) := by decide +kernel
theorem dX12_story_1 : decode cX12_story 1 = .ok (.getfield 443, 3) := by decide +kernel
theorem dX12_story_4 : decode cX12_story 4 = .ok (.bipush 6, 2) := by decide +kernel
theorem dX12_story_6 : decode cX12_story 6 = .ok (.if_icmp .eq 15, 3) := by decide +kernel
theorem dX12_story_9 : decode cX12_story 9 = .ok (.iload_n 1, 1) := by decide +kernel
theorem dX12_story_10 : decode cX12_story 10 = .ok (.i2l, 1) := by decide +kernel
theorem dX12_story_11 : decode cX12_story 11 = .ok (.lconst 1, 1) := by decide +kernel
theorem dX12_story_12 : decode cX12_story 12 = .ok (.ldc2_w 449, 3) := by decide +kernel
theorem dX12_story_15 : decode cX12_story 15 = .ok (.invokestatic 164, 3) := by decide +kernel
theorem dX12_story_18 : decode cX12_story 18 = .ok (.ifCond .ne 5, 3) := by decide +kernel
theorem dX12_story_21 : decode cX12_story 21 = .ok (.iconst (-1), 1) := by decide +kernel
theorem dX12_story_22 : decode cX12_story 22 = .ok (.ireturn, 1) := by decide +kernel
theorem dX12_story_23 : decode cX12_story 23 = .ok (.aload_n 0, 1) := by decide +kernel
theorem dX12_story_24 : decode cX12_story 24 = .ok (.getfield 132, 3) := by decide +kernel
theorem dX12_story_27 : decode cX12_story 27 = .ok (.aload_n 0, 1) := by decide +kernel
theorem dX12_story_28 : decode cX12_story 28 = .ok (.getfield 443, 3) := by decide +kernel
theorem dX12_story_31 : decode cX12_story 31 = .ok (.iload_n 1, 1) := by decide +kernel
theorem dX12_story_32 : decode cX12_story 32 = .ok (.iastore, 1) := by decide +kernel
theorem dX12_story_33 : decode cX12_story 33 = .ok (.aload_n 0, 1) := by decide +kernel
theorem dX12_story_34 : decode cX12_story 34 = .ok (.dup, 1) := by decide +kernel
theorem dX12_story_35 : decode cX12_story 35 = .ok (.getfield 443, 3) := by decide +kernel
theorem dX12_story_38 : decode cX12_story 38 = .ok (.iconst 1, 1) := by decide +kernel
theorem dX12_story_39 : decode cX12_story 39 = .ok (.iadd, 1) := by decide +kernel
theorem dX12_story_40 : decode cX12_story 40 = .ok (.putfield 443, 3) := by decide +kernel
theorem dX12_story_43 : decode cX12_story 43 = .ok (.aload_n 0, 1) := by decide +kernel
theorem dX12_story_44 : decode cX12_story 44 = .ok (.getfield 443, 3) := by decide +kernel
theorem dX12_story_47 : decode cX12_story 47 = .ok (.iconst 1, 1) := by decide +kernel
theorem dX12_story_48 : decode cX12_story 48 = .ok (.isub, 1) := by decide +kernel
theorem dX12_story_49 : decode cX12_story 49 = .ok (.ireturn, 1) := by decide +kernel
theorem dX12_find_0 : decode cX12_find 0 = .ok (.aload_n 0, 1) := by decide +kernel
theorem dX12_find_1 : decode cX12_find 1 = .ok (.getfield 446, 3) := by decide +kernel
theorem dX12_find_4 : decode cX12_find 4 = .ok (.bipush 10, 2) := by decide +kernel
theorem dX12_find_6 : decode cX12_find 6 = .ok (.if_icmp .ne 5, 3) := by decide +kernel
theorem dX12_find_9 : decode cX12_find 9 = .ok (.iconst (-1), 1) := by decide +kernel
theorem dX12_find_10 : decode cX12_find 10 = .ok (.ireturn, 1) := by decide +kernel
theorem dX12_find_11 : decode cX12_find 11 = .ok (.aload_n 0, 1) := by decide +kernel
theorem dX12_find_12 : decode cX12_find 12 = .ok (.dup, 1) := by decide +kernel
theorem dX12_find_13 : decode cX12_find 13 = .ok (.getfield 446, 3) := by decide +kernel
theorem dX12_find_16 : decode cX12_find 16 = .ok (.iconst 1, 1) := by decide +kernel
theorem dX12_find_17 : decode cX12_find 17 = .ok (.iadd, 1) := by decide +kernel
theorem dX12_find_18 : decode cX12_find 18 = .ok (.putfield 446, 3) := by decide +kernel
theorem dX12_find_21 : decode cX12_find 21 = .ok (.aload_n 0, 1) := by decide +kernel
theorem dX12_find_22 : decode cX12_find 22 = .ok (.getfield 446, 3) := by decide +kernel
theorem dX12_find_25 : decode cX12_find 25 = .ok (.iconst 1, 1) := by decide +kernel
theorem dX12_find_26 : decode cX12_find 26 = .ok (.isub, 1) := by decide +kernel
theorem dX12_find_27 : decode cX12_find 27 = .ok (.ireturn, 1) := by decide +kernel
theorem dX12_tells_0 : decode cX12_tells 0 = .ok (.aload_n 0, 1) := by decide +kernel
theorem dX12_tells_1 : decode cX12_tells 1 = .ok (.iload_n 1, 1) := by decide +kernel
theorem dX12_tells_2 : decode cX12_tells 2 = .ok (.invokevirtual 451, 3) := by decide +kernel
theorem dX12_tells_5 : decode cX12_tells 5 = .ok (.ifCond .eq 23, 3) := by decide +kernel
theorem dX12_tells_8 : decode cX12_tells 8 = .ok (.aload_n 0, 1) := by decide +kernel
theorem dX12_tells_9 : decode cX12_tells 9 = .ok (.iload_n 2, 1) := by decide +kernel
theorem dX12_tells_10 : decode cX12_tells 10 = .ok (.invokevirtual 454, 3) := by decide +kernel
theorem dX12_tells_13 : decode cX12_tells 13 = .ok (.ifCond .eq 15, 3) := by decide +kernel
theorem dX12_tells_16 : decode cX12_tells 16 = .ok (.iload_n 3, 1) := by decide +kernel
theorem dX12_tells_17 : decode cX12_tells 17 = .ok (.i2l, 1) := by decide +kernel
theorem dX12_tells_18 : decode cX12_tells 18 = .ok (.lconst 0, 1) := by decide +kernel
theorem dX12_tells_19 : decode cX12_tells 19 = .ok (.ldc2_w 457, 3) := by decide +kernel
theorem dX12_tells_22 : decode cX12_tells 22 = .ok (.invokestatic 164, 3) := by decide +kernel
theorem dX12_tells_25 : decode cX12_tells 25 = .ok (.ifCond .ne 5, 3) := by decide +kernel
theorem dX12_tells_28 : decode cX12_tells 28 = .ok (.iconst 0, 1) := by decide +kernel
theorem dX12_tells_29 : decode cX12_tells 29 = .ok (.ireturn, 1) := by decide +kernel
theorem dX12_tells_30 : decode cX12_tells 30 = .ok (.aload_n 0, 1) := by decide +kernel
theorem dX12_tells_31 : decode cX12_tells 31 = .ok (.getfield 135, 3) := by decide +kernel
theorem dX12_tells_34 : decode cX12_tells 34 = .ok (.bipush 6, 2) := by decide +kernel
theorem dX12_tells_36 : decode cX12_tells 36 = .ok (.iload_n 1, 1) := by decide +kernel
theorem dX12_tells_37 : decode cX12_tells 37 = .ok (.imul, 1) := by decide +kernel
theorem dX12_tells_38 : decode cX12_tells 38 = .ok (.iload_n 2, 1) := by decide +kernel
theorem dX12_tells_39 : decode cX12_tells 39 = .ok (.iadd, 1) := by decide +kernel
theorem dX12_tells_40 : decode cX12_tells 40 = .ok (.iload_n 3, 1) := by decide +kernel
theorem dX12_tells_41 : decode cX12_tells 41 = .ok (.iastore, 1) := by decide +kernel
theorem dX12_tells_42 : decode cX12_tells 42 = .ok (.iconst 1, 1) := by decide +kernel
theorem dX12_tells_43 : decode cX12_tells 43 = .ok (.ireturn, 1) := by decide +kernel
theorem dX12_seen_0 : decode cX12_seen 0 = .ok (.aload_n 0, 1) := by decide +kernel
theorem dX12_seen_1 : decode cX12_seen 1 = .ok (.iload_n 1, 1) := by decide +kernel
theorem dX12_seen_2 : decode cX12_seen 2 = .ok (.invokevirtual 451, 3) := by decide +kernel
theorem dX12_seen_5 : decode cX12_seen 5 = .ok (.ifCond .eq 15, 3) := by decide +kernel
theorem dX12_seen_8 : decode cX12_seen 8 = .ok (.iload_n 2, 1) := by decide +kernel
theorem dX12_seen_9 : decode cX12_seen 9 = .ok (.i2l, 1) := by decide +kernel
theorem dX12_seen_10 : decode cX12_seen 10 = .ok (.ldc2_w 388, 3) := by decide +kernel
theorem dX12_seen_13 : decode cX12_seen 13 = .ok (.lconst 1, 1) := by decide +kernel
theorem dX12_seen_14 : decode cX12_seen 14 = .ok (.invokestatic 164, 3) := by decide +kernel
theorem dX12_seen_17 : decode cX12_seen 17 = .ok (.ifCond .ne 5, 3) := by decide +kernel
theorem dX12_seen_20 : decode cX12_seen 20 = .ok (.iconst 0, 1) := by decide +kernel
theorem dX12_seen_21 : decode cX12_seen 21 = .ok (.ireturn, 1) := by decide +kernel
theorem dX12_seen_22 : decode cX12_seen 22 = .ok (.aload_n 0, 1) := by decide +kernel
theorem dX12_seen_23 : decode cX12_seen 23 = .ok (.getfield 138, 3) := by decide +kernel
theorem dX12_seen_26 : decode cX12_seen 26 = .ok (.iload_n 1, 1) := by decide +kernel
theorem dX12_seen_27 : decode cX12_seen 27 = .ok (.iload_n 2, 1) := by decide +kernel
theorem dX12_seen_28 : decode cX12_seen 28 = .ok (.iastore, 1) := by decide +kernel
theorem dX12_seen_29 : decode cX12_seen 29 = .ok (.iconst 1, 1) := by decide +kernel
theorem dX12_seen_30 : decode cX12_seen 30 = .ok (.ireturn, 1) := by decide +kernel
theorem dX12_weightOf_0 : decode cX12_weightOf 0 = .ok (.aload_n 0, 1) := by decide +kernel
theorem dX12_weightOf_1 : decode cX12_weightOf 1 = .ok (.getfield 132, 3) := by decide +kernel
theorem dX12_weightOf_4 : decode cX12_weightOf 4 = .ok (.iload_n 1, 1) := by decide +kernel
theorem dX12_weightOf_5 : decode cX12_weightOf 5 = .ok (.iaload, 1) := by decide +kernel
theorem dX12_weightOf_6 : decode cX12_weightOf 6 = .ok (.i2l, 1) := by decide +kernel
theorem dX12_weightOf_7 : decode cX12_weightOf 7 = .ok (.lstore_n 2, 1) := by decide +kernel
theorem dX12_weightOf_8 : decode cX12_weightOf 8 = .ok (.iconst 0, 1) := by decide +kernel
theorem dX12_weightOf_9 : decode cX12_weightOf 9 = .ok (.istore 4, 2) := by decide +kernel
theorem dX12_weightOf_11 : decode cX12_weightOf 11 = .ok (.iload 4, 2) := by decide +kernel
theorem dX12_weightOf_13 : decode cX12_weightOf 13 = .ok (.aload_n 0, 1) := by decide +kernel
theorem dX12_weightOf_14 : decode cX12_weightOf 14 = .ok (.getfield 446, 3) := by decide +kernel
theorem dX12_weightOf_17 : decode cX12_weightOf 17 = .ok (.if_icmp .ge 66, 3) := by decide +kernel
theorem dX12_weightOf_20 : decode cX12_weightOf 20 = .ok (.aload_n 0, 1) := by decide +kernel
theorem dX12_weightOf_21 : decode cX12_weightOf 21 = .ok (.getfield 138, 3) := by decide +kernel
theorem dX12_weightOf_24 : decode cX12_weightOf 24 = .ok (.iload 4, 2) := by decide +kernel
theorem dX12_weightOf_26 : decode cX12_weightOf 26 = .ok (.iaload, 1) := by decide +kernel
theorem dX12_weightOf_27 : decode cX12_weightOf 27 = .ok (.iconst (-1), 1) := by decide +kernel
theorem dX12_weightOf_28 : decode cX12_weightOf 28 = .ok (.if_icmp .eq 49, 3) := by decide +kernel
theorem dX12_weightOf_31 : decode cX12_weightOf 31 = .ok (.lload_n 2, 1) := by decide +kernel
theorem dX12_weightOf_32 : decode cX12_weightOf 32 = .ok (.aload_n 0, 1) := by decide +kernel
theorem dX12_weightOf_33 : decode cX12_weightOf 33 = .ok (.getfield 138, 3) := by decide +kernel
theorem dX12_weightOf_36 : decode cX12_weightOf 36 = .ok (.iload 4, 2) := by decide +kernel
theorem dX12_weightOf_38 : decode cX12_weightOf 38 = .ok (.iaload, 1) := by decide +kernel
theorem dX12_weightOf_39 : decode cX12_weightOf 39 = .ok (.iconst 1, 1) := by decide +kernel
theorem dX12_weightOf_40 : decode cX12_weightOf 40 = .ok (.if_icmp .ne 19, 3) := by decide +kernel
theorem dX12_weightOf_43 : decode cX12_weightOf 43 = .ok (.aload_n 0, 1) := by decide +kernel
theorem dX12_weightOf_44 : decode cX12_weightOf 44 = .ok (.getfield 135, 3) := by decide +kernel
theorem dX12_weightOf_47 : decode cX12_weightOf 47 = .ok (.bipush 6, 2) := by decide +kernel
theorem dX12_weightOf_49 : decode cX12_weightOf 49 = .ok (.iload 4, 2) := by decide +kernel
theorem dX12_weightOf_51 : decode cX12_weightOf 51 = .ok (.imul, 1) := by decide +kernel
theorem dX12_weightOf_52 : decode cX12_weightOf 52 = .ok (.iload_n 1, 1) := by decide +kernel
theorem dX12_weightOf_53 : decode cX12_weightOf 53 = .ok (.iadd, 1) := by decide +kernel
theorem dX12_weightOf_54 : decode cX12_weightOf 54 = .ok (.iaload, 1) := by decide +kernel
theorem dX12_weightOf_55 : decode cX12_weightOf 55 = .ok (.i2l, 1) := by decide +kernel
theorem dX12_weightOf_56 : decode cX12_weightOf 56 = .ok (.goto 19, 3) := by decide +kernel
theorem dX12_weightOf_59 : decode cX12_weightOf 59 = .ok (.bipush 10, 2) := by decide +kernel
theorem dX12_weightOf_61 : decode cX12_weightOf 61 = .ok (.aload_n 0, 1) := by decide +kernel
theorem dX12_weightOf_62 : decode cX12_weightOf 62 = .ok (.getfield 135, 3) := by decide +kernel
theorem dX12_weightOf_65 : decode cX12_weightOf 65 = .ok (.bipush 6, 2) := by decide +kernel
theorem dX12_weightOf_67 : decode cX12_weightOf 67 = .ok (.iload 4, 2) := by decide +kernel
theorem dX12_weightOf_69 : decode cX12_weightOf 69 = .ok (.imul, 1) := by decide +kernel
theorem dX12_weightOf_70 : decode cX12_weightOf 70 = .ok (.iload_n 1, 1) := by decide +kernel
theorem dX12_weightOf_71 : decode cX12_weightOf 71 = .ok (.iadd, 1) := by decide +kernel
theorem dX12_weightOf_72 : decode cX12_weightOf 72 = .ok (.iaload, 1) := by decide +kernel
theorem dX12_weightOf_73 : decode cX12_weightOf 73 = .ok (.isub, 1) := by decide +kernel
theorem dX12_weightOf_74 : decode cX12_weightOf 74 = .ok (.i2l, 1) := by decide +kernel
theorem dX12_weightOf_75 : decode cX12_weightOf 75 = .ok (.lmul, 1) := by decide +kernel
theorem dX12_weightOf_76 : decode cX12_weightOf 76 = .ok (.lstore_n 2, 1) := by decide +kernel
theorem dX12_weightOf_77 : decode cX12_weightOf 77 = .ok (.iinc 4 1, 3) := by decide +kernel
theorem dX12_weightOf_80 : decode cX12_weightOf 80 = .ok (.goto (-69), 3) := by decide +kernel
theorem dX12_weightOf_83 : decode cX12_weightOf 83 = .ok (.lload_n 2, 1) := by decide +kernel
theorem dX12_weightOf_84 : decode cX12_weightOf 84 = .ok (.lreturn, 1) := by decide +kernel
theorem dX12_weighs_0 : decode cX12_weighs 0 = .ok (.iload_n 1, 1) := by decide +kernel
theorem dX12_weighs_1 : decode cX12_weighs 1 = .ok (.iconst (-1), 1) := by decide +kernel
theorem dX12_weighs_2 : decode cX12_weighs 2 = .ok (.if_icmp .eq 23, 3) := by decide +kernel
theorem dX12_weighs_5 : decode cX12_weighs 5 = .ok (.aload_n 0, 1) := by decide +kernel
theorem dX12_weighs_6 : decode cX12_weighs 6 = .ok (.iload_n 1, 1) := by decide +kernel
theorem dX12_weighs_7 : decode cX12_weighs 7 = .ok (.invokevirtual 454, 3) := by decide +kernel
theorem dX12_weighs_10 : decode cX12_weighs 10 = .ok (.ifCond .eq 11, 3) := by decide +kernel
theorem dX12_weighs_13 : decode cX12_weighs 13 = .ok (.aload_n 0, 1) := by decide +kernel
theorem dX12_weighs_14 : decode cX12_weighs 14 = .ok (.iload_n 1, 1) := by decide +kernel
theorem dX12_weighs_15 : decode cX12_weighs 15 = .ok (.invokevirtual 459, 3) := by decide +kernel
theorem dX12_weighs_18 : decode cX12_weighs 18 = .ok (.goto 6, 3) := by decide +kernel
theorem dX12_weighs_21 : decode cX12_weighs 21 = .ok (.ldc2_w 388, 3) := by decide +kernel
theorem dX12_weighs_24 : decode cX12_weighs 24 = .ok (.lreturn, 1) := by decide +kernel
theorem dX12_weighs_25 : decode cX12_weighs 25 = .ok (.lconst 0, 1) := by decide +kernel
theorem dX12_weighs_26 : decode cX12_weighs 26 = .ok (.lstore_n 2, 1) := by decide +kernel
theorem dX12_weighs_27 : decode cX12_weighs 27 = .ok (.iconst 0, 1) := by decide +kernel
theorem dX12_weighs_28 : decode cX12_weighs 28 = .ok (.istore 4, 2) := by decide +kernel
theorem dX12_weighs_30 : decode cX12_weighs 30 = .ok (.iload 4, 2) := by decide +kernel
theorem dX12_weighs_32 : decode cX12_weighs 32 = .ok (.aload_n 0, 1) := by decide +kernel
theorem dX12_weighs_33 : decode cX12_weighs 33 = .ok (.getfield 443, 3) := by decide +kernel
theorem dX12_weighs_36 : decode cX12_weighs 36 = .ok (.if_icmp .ge 18, 3) := by decide +kernel
theorem dX12_weighs_39 : decode cX12_weighs 39 = .ok (.lload_n 2, 1) := by decide +kernel
theorem dX12_weighs_40 : decode cX12_weighs 40 = .ok (.aload_n 0, 1) := by decide +kernel
theorem dX12_weighs_41 : decode cX12_weighs 41 = .ok (.iload 4, 2) := by decide +kernel
theorem dX12_weighs_43 : decode cX12_weighs 43 = .ok (.invokevirtual 459, 3) := by decide +kernel
theorem dX12_weighs_46 : decode cX12_weighs 46 = .ok (.ladd, 1) := by decide +kernel
theorem dX12_weighs_47 : decode cX12_weighs 47 = .ok (.lstore_n 2, 1) := by decide +kernel
theorem dX12_weighs_48 : decode cX12_weighs 48 = .ok (.iinc 4 1, 3) := by decide +kernel
theorem dX12_weighs_51 : decode cX12_weighs 51 = .ok (.goto (-21), 3) := by decide +kernel
theorem dX12_weighs_54 : decode cX12_weighs 54 = .ok (.lload_n 2, 1) := by decide +kernel
theorem dX12_weighs_55 : decode cX12_weighs 55 = .ok (.lreturn, 1) := by decide +kernel
theorem dX12_moves_0 : decode cX12_moves 0 = .ok (.iconst (-1), 1) := by decide +kernel
theorem dX12_moves_1 : decode cX12_moves 1 = .ok (.istore_n 1, 1) := by decide +kernel
theorem dX12_moves_2 : decode cX12_moves 2 = .ok (.lconst 0, 1) := by decide +kernel
theorem dX12_moves_3 : decode cX12_moves 3 = .ok (.lstore_n 2, 1) := by decide +kernel
theorem dX12_moves_4 : decode cX12_moves 4 = .ok (.iconst 0, 1) := by decide +kernel
theorem dX12_moves_5 : decode cX12_moves 5 = .ok (.istore 4, 2) := by decide +kernel
theorem dX12_moves_7 : decode cX12_moves 7 = .ok (.iload 4, 2) := by decide +kernel
theorem dX12_moves_9 : decode cX12_moves 9 = .ok (.aload_n 0, 1) := by decide +kernel
theorem dX12_moves_10 : decode cX12_moves 10 = .ok (.getfield 446, 3) := by decide +kernel
theorem dX12_moves_13 : decode cX12_moves 13 = .ok (.if_icmp .ge 164, 3) := by decide +kernel
theorem dX12_moves_16 : decode cX12_moves 16 = .ok (.aload_n 0, 1) := by decide +kernel
theorem dX12_moves_17 : decode cX12_moves 17 = .ok (.getfield 443, 3) := by decide +kernel
theorem dX12_moves_20 : decode cX12_moves 20 = .ok (.ifCond .le 157, 3) := by decide +kernel
theorem dX12_moves_23 : decode cX12_moves 23 = .ok (.aload_n 0, 1) := by decide +kernel
theorem dX12_moves_24 : decode cX12_moves 24 = .ok (.getfield 138, 3) := by decide +kernel
theorem dX12_moves_27 : decode cX12_moves 27 = .ok (.iload 4, 2) := by decide +kernel
theorem dX12_moves_29 : decode cX12_moves 29 = .ok (.iaload, 1) := by decide +kernel
theorem dX12_moves_30 : decode cX12_moves 30 = .ok (.iconst (-1), 1) := by decide +kernel
theorem dX12_moves_31 : decode cX12_moves 31 = .ok (.if_icmp .eq 6, 3) := by decide +kernel
theorem dX12_moves_34 : decode cX12_moves 34 = .ok (.goto 137, 3) := by decide +kernel
theorem dX12_moves_37 : decode cX12_moves 37 = .ok (.lconst 0, 1) := by decide +kernel
theorem dX12_moves_38 : decode cX12_moves 38 = .ok (.lstore 5, 2) := by decide +kernel
theorem dX12_moves_40 : decode cX12_moves 40 = .ok (.lconst 0, 1) := by decide +kernel
theorem dX12_moves_41 : decode cX12_moves 41 = .ok (.lstore 7, 2) := by decide +kernel
theorem dX12_moves_43 : decode cX12_moves 43 = .ok (.iconst 0, 1) := by decide +kernel
theorem dX12_moves_44 : decode cX12_moves 44 = .ok (.istore 9, 2) := by decide +kernel
theorem dX12_moves_46 : decode cX12_moves 46 = .ok (.iload 9, 2) := by decide +kernel
theorem dX12_moves_48 : decode cX12_moves 48 = .ok (.aload_n 0, 1) := by decide +kernel
theorem dX12_moves_49 : decode cX12_moves 49 = .ok (.getfield 443, 3) := by decide +kernel
theorem dX12_moves_52 : decode cX12_moves 52 = .ok (.if_icmp .ge 92, 3) := by decide +kernel
theorem dX12_moves_55 : decode cX12_moves 55 = .ok (.aload_n 0, 1) := by decide +kernel
theorem dX12_moves_56 : decode cX12_moves 56 = .ok (.iload 9, 2) := by decide +kernel
theorem dX12_moves_58 : decode cX12_moves 58 = .ok (.invokevirtual 459, 3) := by decide +kernel
theorem dX12_moves_61 : decode cX12_moves 61 = .ok (.aload_n 0, 1) := by decide +kernel
theorem dX12_moves_62 : decode cX12_moves 62 = .ok (.getfield 135, 3) := by decide +kernel
theorem dX12_moves_65 : decode cX12_moves 65 = .ok (.bipush 6, 2) := by decide +kernel
theorem dX12_moves_67 : decode cX12_moves 67 = .ok (.iload 4, 2) := by decide +kernel
theorem dX12_moves_69 : decode cX12_moves 69 = .ok (.imul, 1) := by decide +kernel
theorem dX12_moves_70 : decode cX12_moves 70 = .ok (.iload 9, 2) := by decide +kernel
theorem dX12_moves_72 : decode cX12_moves 72 = .ok (.iadd, 1) := by decide +kernel
theorem dX12_moves_73 : decode cX12_moves 73 = .ok (.iaload, 1) := by decide +kernel
theorem dX12_moves_74 : decode cX12_moves 74 = .ok (.i2l, 1) := by decide +kernel
theorem dX12_moves_75 : decode cX12_moves 75 = .ok (.lmul, 1) := by decide +kernel
theorem dX12_moves_76 : decode cX12_moves 76 = .ok (.lstore 10, 2) := by decide +kernel
theorem dX12_moves_78 : decode cX12_moves 78 = .ok (.aload_n 0, 1) := by decide +kernel
theorem dX12_moves_79 : decode cX12_moves 79 = .ok (.iload 9, 2) := by decide +kernel
theorem dX12_moves_81 : decode cX12_moves 81 = .ok (.invokevirtual 459, 3) := by decide +kernel
theorem dX12_moves_84 : decode cX12_moves 84 = .ok (.bipush 10, 2) := by decide +kernel
theorem dX12_moves_86 : decode cX12_moves 86 = .ok (.aload_n 0, 1) := by decide +kernel
theorem dX12_moves_87 : decode cX12_moves 87 = .ok (.getfield 135, 3) := by decide +kernel
theorem dX12_moves_90 : decode cX12_moves 90 = .ok (.bipush 6, 2) := by decide +kernel
theorem dX12_moves_92 : decode cX12_moves 92 = .ok (.iload 4, 2) := by decide +kernel
theorem dX12_moves_94 : decode cX12_moves 94 = .ok (.imul, 1) := by decide +kernel
theorem dX12_moves_95 : decode cX12_moves 95 = .ok (.iload 9, 2) := by decide +kernel
theorem dX12_moves_97 : decode cX12_moves 97 = .ok (.iadd, 1) := by decide +kernel
theorem dX12_moves_98 : decode cX12_moves 98 = .ok (.iaload, 1) := by decide +kernel
theorem dX12_moves_99 : decode cX12_moves 99 = .ok (.isub, 1) := by decide +kernel
theorem dX12_moves_100 : decode cX12_moves 100 = .ok (.i2l, 1) := by decide +kernel
theorem dX12_moves_101 : decode cX12_moves 101 = .ok (.lmul, 1) := by decide +kernel
theorem dX12_moves_102 : decode cX12_moves 102 = .ok (.lstore 12, 2) := by decide +kernel
theorem dX12_moves_104 : decode cX12_moves 104 = .ok (.lload 10, 2) := by decide +kernel
theorem dX12_moves_106 : decode cX12_moves 106 = .ok (.lload 5, 2) := by decide +kernel
theorem dX12_moves_108 : decode cX12_moves 108 = .ok (.lcmp, 1) := by decide +kernel
theorem dX12_moves_109 : decode cX12_moves 109 = .ok (.ifCond .le 8, 3) := by decide +kernel
theorem dX12_moves_112 : decode cX12_moves 112 = .ok (.lload 10, 2) := by decide +kernel
theorem dX12_moves_114 : decode cX12_moves 114 = .ok (.goto 5, 3) := by decide +kernel
theorem dX12_moves_117 : decode cX12_moves 117 = .ok (.lload 5, 2) := by decide +kernel
theorem dX12_moves_119 : decode cX12_moves 119 = .ok (.lstore 5, 2) := by decide +kernel
theorem dX12_moves_121 : decode cX12_moves 121 = .ok (.lload 12, 2) := by decide +kernel
theorem dX12_moves_123 : decode cX12_moves 123 = .ok (.lload 7, 2) := by decide +kernel
theorem dX12_moves_125 : decode cX12_moves 125 = .ok (.lcmp, 1) := by decide +kernel
theorem dX12_moves_126 : decode cX12_moves 126 = .ok (.ifCond .le 8, 3) := by decide +kernel
theorem dX12_moves_129 : decode cX12_moves 129 = .ok (.lload 12, 2) := by decide +kernel
theorem dX12_moves_131 : decode cX12_moves 131 = .ok (.goto 5, 3) := by decide +kernel
theorem dX12_moves_134 : decode cX12_moves 134 = .ok (.lload 7, 2) := by decide +kernel
theorem dX12_moves_136 : decode cX12_moves 136 = .ok (.lstore 7, 2) := by decide +kernel
theorem dX12_moves_138 : decode cX12_moves 138 = .ok (.iinc 9 1, 3) := by decide +kernel
theorem dX12_moves_141 : decode cX12_moves 141 = .ok (.goto (-95), 3) := by decide +kernel
theorem dX12_moves_144 : decode cX12_moves 144 = .ok (.iload_n 1, 1) := by decide +kernel
theorem dX12_moves_145 : decode cX12_moves 145 = .ok (.iconst (-1), 1) := by decide +kernel
theorem dX12_moves_146 : decode cX12_moves 146 = .ok (.if_icmp .eq 16, 3) := by decide +kernel
theorem dX12_moves_149 : decode cX12_moves 149 = .ok (.lload 5, 2) := by decide +kernel
theorem dX12_moves_151 : decode cX12_moves 151 = .ok (.lload 7, 2) := by decide +kernel
theorem dX12_moves_153 : decode cX12_moves 153 = .ok (.ladd, 1) := by decide +kernel
theorem dX12_moves_154 : decode cX12_moves 154 = .ok (.lload_n 2, 1) := by decide +kernel
theorem dX12_moves_155 : decode cX12_moves 155 = .ok (.lcmp, 1) := by decide +kernel
theorem dX12_moves_156 : decode cX12_moves 156 = .ok (.ifCond .gt 6, 3) := by decide +kernel
theorem dX12_moves_159 : decode cX12_moves 159 = .ok (.goto 12, 3) := by decide +kernel
theorem dX12_moves_162 : decode cX12_moves 162 = .ok (.iload 4, 2) := by decide +kernel
theorem dX12_moves_164 : decode cX12_moves 164 = .ok (.istore_n 1, 1) := by decide +kernel
theorem dX12_moves_165 : decode cX12_moves 165 = .ok (.lload 5, 2) := by decide +kernel
theorem dX12_moves_167 : decode cX12_moves 167 = .ok (.lload 7, 2) := by decide +kernel
theorem dX12_moves_169 : decode cX12_moves 169 = .ok (.ladd, 1) := by decide +kernel
theorem dX12_moves_170 : decode cX12_moves 170 = .ok (.lstore_n 2, 1) := by decide +kernel
theorem dX12_moves_171 : decode cX12_moves 171 = .ok (.iinc 4 1, 3) := by decide +kernel
theorem dX12_moves_174 : decode cX12_moves 174 = .ok (.goto (-167), 3) := by decide +kernel
theorem dX12_moves_177 : decode cX12_moves 177 = .ok (.iload_n 1, 1) := by decide +kernel
theorem dX12_moves_178 : decode cX12_moves 178 = .ok (.ireturn, 1) := by decide +kernel
theorem dX12_wind_0 : decode cX12_wind 0 = .ok (.iload_n 1, 1) := by decide +kernel
theorem dX12_wind_1 : decode cX12_wind 1 = .ok (.i2l, 1) := by decide +kernel
theorem dX12_wind_2 : decode cX12_wind 2 = .ok (.lconst 1, 1) := by decide +kernel
theorem dX12_wind_3 : decode cX12_wind 3 = .ok (.ldc2_w 173, 3) := by decide +kernel
theorem dX12_wind_6 : decode cX12_wind 6 = .ok (.invokestatic 164, 3) := by decide +kernel
theorem dX12_wind_9 : decode cX12_wind 9 = .ok (.ifCond .eq 30, 3) := by decide +kernel
theorem dX12_wind_12 : decode cX12_wind 12 = .ok (.iload_n 2, 1) := by decide +kernel
theorem dX12_wind_13 : decode cX12_wind 13 = .ok (.i2l, 1) := by decide +kernel
theorem dX12_wind_14 : decode cX12_wind 14 = .ok (.ldc2_w 462, 3) := by decide +kernel
theorem dX12_wind_17 : decode cX12_wind 17 = .ok (.ldc2_w 464, 3) := by decide +kernel
theorem dX12_wind_20 : decode cX12_wind 20 = .ok (.invokestatic 164, 3) := by decide +kernel
theorem dX12_wind_23 : decode cX12_wind 23 = .ok (.ifCond .eq 16, 3) := by decide +kernel
theorem dX12_wind_26 : decode cX12_wind 26 = .ok (.iload_n 3, 1) := by decide +kernel
theorem dX12_wind_27 : decode cX12_wind 27 = .ok (.i2l, 1) := by decide +kernel
theorem dX12_wind_28 : decode cX12_wind 28 = .ok (.iload_n 2, 1) := by decide +kernel
theorem dX12_wind_29 : decode cX12_wind 29 = .ok (.i2l, 1) := by decide +kernel
theorem dX12_wind_30 : decode cX12_wind 30 = .ok (.ldc2_w 464, 3) := by decide +kernel
theorem dX12_wind_33 : decode cX12_wind 33 = .ok (.invokestatic 164, 3) := by decide +kernel
theorem dX12_wind_36 : decode cX12_wind 36 = .ok (.ifCond .ne 5, 3) := by decide +kernel
theorem dX12_wind_39 : decode cX12_wind 39 = .ok (.iconst 0, 1) := by decide +kernel
theorem dX12_wind_40 : decode cX12_wind 40 = .ok (.ireturn, 1) := by decide +kernel
theorem dX12_wind_41 : decode cX12_wind 41 = .ok (.aload_n 0, 1) := by decide +kernel
theorem dX12_wind_42 : decode cX12_wind 42 = .ok (.iload_n 1, 1) := by decide +kernel
theorem dX12_wind_43 : decode cX12_wind 43 = .ok (.putfield 141, 3) := by decide +kernel
theorem dX12_wind_46 : decode cX12_wind 46 = .ok (.aload_n 0, 1) := by decide +kernel
theorem dX12_wind_47 : decode cX12_wind 47 = .ok (.iload_n 2, 1) := by decide +kernel
theorem dX12_wind_48 : decode cX12_wind 48 = .ok (.putfield 466, 3) := by decide +kernel
theorem dX12_wind_51 : decode cX12_wind 51 = .ok (.aload_n 0, 1) := by decide +kernel
theorem dX12_wind_52 : decode cX12_wind 52 = .ok (.iload_n 3, 1) := by decide +kernel
theorem dX12_wind_53 : decode cX12_wind 53 = .ok (.putfield 469, 3) := by decide +kernel
theorem dX12_wind_56 : decode cX12_wind 56 = .ok (.iconst 1, 1) := by decide +kernel
theorem dX12_wind_57 : decode cX12_wind 57 = .ok (.ireturn, 1) := by decide +kernel
theorem dX12_isOnBed_0 : decode cX12_isOnBed 0 = .ok (.iload_n 1, 1) := by decide +kernel
theorem dX12_isOnBed_1 : decode cX12_isOnBed 1 = .ok (.i2l, 1) := by decide +kernel
theorem dX12_isOnBed_2 : decode cX12_isOnBed 2 = .ok (.lconst 0, 1) := by decide +kernel
theorem dX12_isOnBed_3 : decode cX12_isOnBed 3 = .ok (.aload_n 0, 1) := by decide +kernel
theorem dX12_isOnBed_4 : decode cX12_isOnBed 4 = .ok (.getfield 472, 3) := by decide +kernel
theorem dX12_isOnBed_7 : decode cX12_isOnBed 7 = .ok (.iconst 1, 1) := by decide +kernel
theorem dX12_isOnBed_8 : decode cX12_isOnBed 8 = .ok (.isub, 1) := by decide +kernel
theorem dX12_isOnBed_9 : decode cX12_isOnBed 9 = .ok (.i2l, 1) := by decide +kernel
theorem dX12_isOnBed_10 : decode cX12_isOnBed 10 = .ok (.invokestatic 164, 3) := by decide +kernel
theorem dX12_isOnBed_13 : decode cX12_isOnBed 13 = .ok (.ireturn, 1) := by decide +kernel
theorem dX12_lies_0 : decode cX12_lies 0 = .ok (.aload_n 0, 1) := by decide +kernel
theorem dX12_lies_1 : decode cX12_lies 1 = .ok (.getfield 472, 3) := by decide +kernel
theorem dX12_lies_4 : decode cX12_lies 4 = .ok (.bipush 10, 2) := by decide +kernel
theorem dX12_lies_6 : decode cX12_lies 6 = .ok (.if_icmp .eq 27, 3) := by decide +kernel
theorem dX12_lies_9 : decode cX12_lies 9 = .ok (.iload_n 1, 1) := by decide +kernel
theorem dX12_lies_10 : decode cX12_lies 10 = .ok (.i2l, 1) := by decide +kernel
theorem dX12_lies_11 : decode cX12_lies 11 = .ok (.lconst 0, 1) := by decide +kernel
theorem dX12_lies_12 : decode cX12_lies 12 = .ok (.ldc2_w 475, 3) := by decide +kernel
theorem dX12_lies_15 : decode cX12_lies 15 = .ok (.invokestatic 164, 3) := by decide +kernel
theorem dX12_lies_18 : decode cX12_lies 18 = .ok (.ifCond .eq 15, 3) := by decide +kernel
theorem dX12_lies_21 : decode cX12_lies 21 = .ok (.iload_n 2, 1) := by decide +kernel
theorem dX12_lies_22 : decode cX12_lies 22 = .ok (.i2l, 1) := by decide +kernel
theorem dX12_lies_23 : decode cX12_lies 23 = .ok (.lconst 0, 1) := by decide +kernel
theorem dX12_lies_24 : decode cX12_lies 24 = .ok (.ldc2_w 417, 3) := by decide +kernel
theorem dX12_lies_27 : decode cX12_lies 27 = .ok (.invokestatic 164, 3) := by decide +kernel
theorem dX12_lies_30 : decode cX12_lies 30 = .ok (.ifCond .ne 5, 3) := by decide +kernel
theorem dX12_lies_33 : decode cX12_lies 33 = .ok (.iconst (-1), 1) := by decide +kernel
theorem dX12_lies_34 : decode cX12_lies 34 = .ok (.ireturn, 1) := by decide +kernel
theorem dX12_lies_35 : decode cX12_lies 35 = .ok (.aload_n 0, 1) := by decide +kernel
theorem dX12_lies_36 : decode cX12_lies 36 = .ok (.getfield 145, 3) := by decide +kernel
theorem dX12_lies_39 : decode cX12_lies 39 = .ok (.aload_n 0, 1) := by decide +kernel
theorem dX12_lies_40 : decode cX12_lies 40 = .ok (.getfield 472, 3) := by decide +kernel
theorem dX12_lies_43 : decode cX12_lies 43 = .ok (.iload_n 1, 1) := by decide +kernel
theorem dX12_lies_44 : decode cX12_lies 44 = .ok (.iastore, 1) := by decide +kernel
theorem dX12_lies_45 : decode cX12_lies 45 = .ok (.aload_n 0, 1) := by decide +kernel
theorem dX12_lies_46 : decode cX12_lies 46 = .ok (.getfield 148, 3) := by decide +kernel
theorem dX12_lies_49 : decode cX12_lies 49 = .ok (.aload_n 0, 1) := by decide +kernel
theorem dX12_lies_50 : decode cX12_lies 50 = .ok (.getfield 472, 3) := by decide +kernel
theorem dX12_lies_53 : decode cX12_lies 53 = .ok (.iload_n 2, 1) := by decide +kernel
theorem dX12_lies_54 : decode cX12_lies 54 = .ok (.iastore, 1) := by decide +kernel
theorem dX12_lies_55 : decode cX12_lies 55 = .ok (.aload_n 0, 1) := by decide +kernel
theorem dX12_lies_56 : decode cX12_lies 56 = .ok (.dup, 1) := by decide +kernel
theorem dX12_lies_57 : decode cX12_lies 57 = .ok (.getfield 472, 3) := by decide +kernel
theorem dX12_lies_60 : decode cX12_lies 60 = .ok (.iconst 1, 1) := by decide +kernel
theorem dX12_lies_61 : decode cX12_lies 61 = .ok (.iadd, 1) := by decide +kernel
theorem dX12_lies_62 : decode cX12_lies 62 = .ok (.putfield 472, 3) := by decide +kernel
theorem dX12_lies_65 : decode cX12_lies 65 = .ok (.aload_n 0, 1) := by decide +kernel
theorem dX12_lies_66 : decode cX12_lies 66 = .ok (.getfield 472, 3) := by decide +kernel
theorem dX12_lies_69 : decode cX12_lies 69 = .ok (.iconst 1, 1) := by decide +kernel
theorem dX12_lies_70 : decode cX12_lies 70 = .ok (.isub, 1) := by decide +kernel
theorem dX12_lies_71 : decode cX12_lies 71 = .ok (.ireturn, 1) := by decide +kernel
theorem dX12_secondOf_0 : decode cX12_secondOf 0 = .ok (.aload_n 0, 1) := by decide +kernel
theorem dX12_secondOf_1 : decode cX12_secondOf 1 = .ok (.getfield 145, 3) := by decide +kernel
theorem dX12_secondOf_4 : decode cX12_secondOf 4 = .ok (.iload_n 1, 1) := by decide +kernel
theorem dX12_secondOf_5 : decode cX12_secondOf 5 = .ok (.iaload, 1) := by decide +kernel
theorem dX12_secondOf_6 : decode cX12_secondOf 6 = .ok (.iload_n 2, 1) := by decide +kernel
theorem dX12_secondOf_7 : decode cX12_secondOf 7 = .ok (.aload_n 0, 1) := by decide +kernel
theorem dX12_secondOf_8 : decode cX12_secondOf 8 = .ok (.getfield 148, 3) := by decide +kernel
theorem dX12_secondOf_11 : decode cX12_secondOf 11 = .ok (.iload_n 1, 1) := by decide +kernel
theorem dX12_secondOf_12 : decode cX12_secondOf 12 = .ok (.iaload, 1) := by decide +kernel
theorem dX12_secondOf_13 : decode cX12_secondOf 13 = .ok (.imul, 1) := by decide +kernel
theorem dX12_secondOf_14 : decode cX12_secondOf 14 = .ok (.isub, 1) := by decide +kernel
theorem dX12_secondOf_15 : decode cX12_secondOf 15 = .ok (.istore_n 3, 1) := by decide +kernel
theorem dX12_secondOf_16 : decode cX12_secondOf 16 = .ok (.iload_n 3, 1) := by decide +kernel
theorem dX12_secondOf_17 : decode cX12_secondOf 17 = .ok (.ifCond .lt 24, 3) := by decide +kernel
theorem dX12_secondOf_20 : decode cX12_secondOf 20 = .ok (.iload_n 3, 1) := by decide +kernel
theorem dX12_secondOf_21 : decode cX12_secondOf 21 = .ok (.aload_n 0, 1) := by decide +kernel
theorem dX12_secondOf_22 : decode cX12_secondOf 22 = .ok (.getfield 141, 3) := by decide +kernel
theorem dX12_secondOf_25 : decode cX12_secondOf 25 = .ok (.irem, 1) := by decide +kernel
theorem dX12_secondOf_26 : decode cX12_secondOf 26 = .ok (.ifCond .ne 15, 3) := by decide +kernel
theorem dX12_secondOf_29 : decode cX12_secondOf 29 = .ok (.iload_n 3, 1) := by decide +kernel
theorem dX12_secondOf_30 : decode cX12_secondOf 30 = .ok (.aload_n 0, 1) := by decide +kernel
theorem dX12_secondOf_31 : decode cX12_secondOf 31 = .ok (.getfield 141, 3) := by decide +kernel
theorem dX12_secondOf_34 : decode cX12_secondOf 34 = .ok (.idiv, 1) := by decide +kernel
theorem dX12_secondOf_35 : decode cX12_secondOf 35 = .ok (.sipush 10000, 3) := by decide +kernel
theorem dX12_secondOf_38 : decode cX12_secondOf 38 = .ok (.if_icmp .lt 7, 3) := by decide +kernel
theorem dX12_secondOf_41 : decode cX12_secondOf 41 = .ok (.iconst (-1), 1) := by decide +kernel
theorem dX12_secondOf_42 : decode cX12_secondOf 42 = .ok (.goto 9, 3) := by decide +kernel
theorem dX12_secondOf_45 : decode cX12_secondOf 45 = .ok (.iload_n 3, 1) := by decide +kernel
theorem dX12_secondOf_46 : decode cX12_secondOf 46 = .ok (.aload_n 0, 1) := by decide +kernel
theorem dX12_secondOf_47 : decode cX12_secondOf 47 = .ok (.getfield 141, 3) := by decide +kernel
theorem dX12_secondOf_50 : decode cX12_secondOf 50 = .ok (.idiv, 1) := by decide +kernel
theorem dX12_secondOf_51 : decode cX12_secondOf 51 = .ok (.ireturn, 1) := by decide +kernel
theorem dX12_span_0 : decode cX12_span 0 = .ok (.aload_n 0, 1) := by decide +kernel
theorem dX12_span_1 : decode cX12_span 1 = .ok (.iload_n 1, 1) := by decide +kernel
theorem dX12_span_2 : decode cX12_span 2 = .ok (.invokevirtual 477, 3) := by decide +kernel
theorem dX12_span_5 : decode cX12_span 5 = .ok (.ifCond .eq 13, 3) := by decide +kernel
theorem dX12_span_8 : decode cX12_span 8 = .ok (.iload_n 2, 1) := by decide +kernel
theorem dX12_span_9 : decode cX12_span 9 = .ok (.i2l, 1) := by decide +kernel
theorem dX12_span_10 : decode cX12_span 10 = .ok (.lconst 0, 1) := by decide +kernel
theorem dX12_span_11 : decode cX12_span 11 = .ok (.lconst 1, 1) := by decide +kernel
theorem dX12_span_12 : decode cX12_span 12 = .ok (.invokestatic 164, 3) := by decide +kernel
theorem dX12_span_15 : decode cX12_span 15 = .ok (.ifCond .ne 5, 3) := by decide +kernel
theorem dX12_span_18 : decode cX12_span 18 = .ok (.iconst (-1), 1) := by decide +kernel
theorem dX12_span_19 : decode cX12_span 19 = .ok (.ireturn, 1) := by decide +kernel
theorem dX12_span_20 : decode cX12_span 20 = .ok (.bipush (-2), 2) := by decide +kernel
theorem dX12_span_22 : decode cX12_span 22 = .ok (.istore_n 3, 1) := by decide +kernel
theorem dX12_span_23 : decode cX12_span 23 = .ok (.bipush (-2), 2) := by decide +kernel
theorem dX12_span_25 : decode cX12_span 25 = .ok (.istore 4, 2) := by decide +kernel
theorem dX12_span_27 : decode cX12_span 27 = .ok (.aload_n 0, 1) := by decide +kernel
theorem dX12_span_28 : decode cX12_span 28 = .ok (.getfield 466, 3) := by decide +kernel
theorem dX12_span_31 : decode cX12_span 31 = .ok (.istore 5, 2) := by decide +kernel
theorem dX12_span_33 : decode cX12_span 33 = .ok (.iload 5, 2) := by decide +kernel
theorem dX12_span_35 : decode cX12_span 35 = .ok (.aload_n 0, 1) := by decide +kernel
theorem dX12_span_36 : decode cX12_span 36 = .ok (.getfield 469, 3) := by decide +kernel
theorem dX12_span_39 : decode cX12_span 39 = .ok (.if_icmp .gt 60, 3) := by decide +kernel
theorem dX12_span_42 : decode cX12_span 42 = .ok (.aload_n 0, 1) := by decide +kernel
theorem dX12_span_43 : decode cX12_span 43 = .ok (.iload_n 1, 1) := by decide +kernel
theorem dX12_span_44 : decode cX12_span 44 = .ok (.iload 5, 2) := by decide +kernel
theorem dX12_span_46 : decode cX12_span 46 = .ok (.invokevirtual 480, 3) := by decide +kernel
theorem dX12_span_49 : decode cX12_span 49 = .ok (.istore 6, 2) := by decide +kernel
theorem dX12_span_51 : decode cX12_span 51 = .ok (.iload 6, 2) := by decide +kernel
theorem dX12_span_53 : decode cX12_span 53 = .ok (.iconst (-1), 1) := by decide +kernel
theorem dX12_span_54 : decode cX12_span 54 = .ok (.if_icmp .ne 6, 3) := by decide +kernel
theorem dX12_span_57 : decode cX12_span 57 = .ok (.goto 36, 3) := by decide +kernel
theorem dX12_span_60 : decode cX12_span 60 = .ok (.iload_n 3, 1) := by decide +kernel
theorem dX12_span_61 : decode cX12_span 61 = .ok (.ifCond .lt 9, 3) := by decide +kernel
theorem dX12_span_64 : decode cX12_span 64 = .ok (.iload 6, 2) := by decide +kernel
theorem dX12_span_66 : decode cX12_span 66 = .ok (.iload_n 3, 1) := by decide +kernel
theorem dX12_span_67 : decode cX12_span 67 = .ok (.if_icmp .ge 8, 3) := by decide +kernel
theorem dX12_span_70 : decode cX12_span 70 = .ok (.iload 6, 2) := by decide +kernel
theorem dX12_span_72 : decode cX12_span 72 = .ok (.goto 4, 3) := by decide +kernel
theorem dX12_span_75 : decode cX12_span 75 = .ok (.iload_n 3, 1) := by decide +kernel
theorem dX12_span_76 : decode cX12_span 76 = .ok (.istore_n 3, 1) := by decide +kernel
theorem dX12_span_77 : decode cX12_span 77 = .ok (.iload 6, 2) := by decide +kernel
theorem dX12_span_79 : decode cX12_span 79 = .ok (.iload 4, 2) := by decide +kernel
theorem dX12_span_81 : decode cX12_span 81 = .ok (.if_icmp .le 8, 3) := by decide +kernel
theorem dX12_span_84 : decode cX12_span 84 = .ok (.iload 6, 2) := by decide +kernel
theorem dX12_span_86 : decode cX12_span 86 = .ok (.goto 5, 3) := by decide +kernel
theorem dX12_span_89 : decode cX12_span 89 = .ok (.iload 4, 2) := by decide +kernel
theorem dX12_span_91 : decode cX12_span 91 = .ok (.istore 4, 2) := by decide +kernel
theorem dX12_span_93 : decode cX12_span 93 = .ok (.iinc 5 1, 3) := by decide +kernel
theorem dX12_span_96 : decode cX12_span 96 = .ok (.goto (-63), 3) := by decide +kernel
theorem dX12_span_99 : decode cX12_span 99 = .ok (.iload_n 2, 1) := by decide +kernel
theorem dX12_span_100 : decode cX12_span 100 = .ok (.ifCond .ne 7, 3) := by decide +kernel
theorem dX12_span_103 : decode cX12_span 103 = .ok (.iload_n 3, 1) := by decide +kernel
theorem dX12_span_104 : decode cX12_span 104 = .ok (.goto 5, 3) := by decide +kernel
theorem dX12_span_107 : decode cX12_span 107 = .ok (.iload 4, 2) := by decide +kernel
theorem dX12_span_109 : decode cX12_span 109 = .ok (.ireturn, 1) := by decide +kernel
theorem dX12_order_0 : decode cX12_order 0 = .ok (.aload_n 0, 1) := by decide +kernel
theorem dX12_order_1 : decode cX12_order 1 = .ok (.iload_n 1, 1) := by decide +kernel
theorem dX12_order_2 : decode cX12_order 2 = .ok (.invokevirtual 477, 3) := by decide +kernel
theorem dX12_order_5 : decode cX12_order 5 = .ok (.ifCond .eq 11, 3) := by decide +kernel
theorem dX12_order_8 : decode cX12_order 8 = .ok (.aload_n 0, 1) := by decide +kernel
theorem dX12_order_9 : decode cX12_order 9 = .ok (.iload_n 2, 1) := by decide +kernel
theorem dX12_order_10 : decode cX12_order 10 = .ok (.invokevirtual 477, 3) := by decide +kernel
theorem dX12_order_13 : decode cX12_order 13 = .ok (.ifCond .ne 5, 3) := by decide +kernel
theorem dX12_order_16 : decode cX12_order 16 = .ok (.iconst (-1), 1) := by decide +kernel
theorem dX12_order_17 : decode cX12_order 17 = .ok (.ireturn, 1) := by decide +kernel
theorem dX12_order_18 : decode cX12_order 18 = .ok (.iconst 0, 1) := by decide +kernel
theorem dX12_order_19 : decode cX12_order 19 = .ok (.istore_n 3, 1) := by decide +kernel
theorem dX12_order_20 : decode cX12_order 20 = .ok (.aload_n 0, 1) := by decide +kernel
theorem dX12_order_21 : decode cX12_order 21 = .ok (.getfield 466, 3) := by decide +kernel
theorem dX12_order_24 : decode cX12_order 24 = .ok (.istore 4, 2) := by decide +kernel
theorem dX12_order_26 : decode cX12_order 26 = .ok (.iload 4, 2) := by decide +kernel
theorem dX12_order_28 : decode cX12_order 28 = .ok (.aload_n 0, 1) := by decide +kernel
theorem dX12_order_29 : decode cX12_order 29 = .ok (.getfield 469, 3) := by decide +kernel
theorem dX12_order_32 : decode cX12_order 32 = .ok (.if_icmp .gt 68, 3) := by decide +kernel
theorem dX12_order_35 : decode cX12_order 35 = .ok (.aload_n 0, 1) := by decide +kernel
theorem dX12_order_36 : decode cX12_order 36 = .ok (.iload_n 1, 1) := by decide +kernel
theorem dX12_order_37 : decode cX12_order 37 = .ok (.iload 4, 2) := by decide +kernel
theorem dX12_order_39 : decode cX12_order 39 = .ok (.invokevirtual 480, 3) := by decide +kernel
theorem dX12_order_42 : decode cX12_order 42 = .ok (.istore 5, 2) := by decide +kernel
theorem dX12_order_44 : decode cX12_order 44 = .ok (.aload_n 0, 1) := by decide +kernel
theorem dX12_order_45 : decode cX12_order 45 = .ok (.iload_n 2, 1) := by decide +kernel
theorem dX12_order_46 : decode cX12_order 46 = .ok (.iload 4, 2) := by decide +kernel
theorem dX12_order_48 : decode cX12_order 48 = .ok (.invokevirtual 480, 3) := by decide +kernel
theorem dX12_order_51 : decode cX12_order 51 = .ok (.istore 6, 2) := by decide +kernel
theorem dX12_order_53 : decode cX12_order 53 = .ok (.iload 5, 2) := by decide +kernel
theorem dX12_order_55 : decode cX12_order 55 = .ok (.iconst (-1), 1) := by decide +kernel
theorem dX12_order_56 : decode cX12_order 56 = .ok (.if_icmp .eq 38, 3) := by decide +kernel
theorem dX12_order_59 : decode cX12_order 59 = .ok (.iload 6, 2) := by decide +kernel
theorem dX12_order_61 : decode cX12_order 61 = .ok (.iconst (-1), 1) := by decide +kernel
theorem dX12_order_62 : decode cX12_order 62 = .ok (.if_icmp .ne 6, 3) := by decide +kernel
theorem dX12_order_65 : decode cX12_order 65 = .ok (.goto 29, 3) := by decide +kernel
theorem dX12_order_68 : decode cX12_order 68 = .ok (.iload_n 3, 1) := by decide +kernel
theorem dX12_order_69 : decode cX12_order 69 = .ok (.iload 5, 2) := by decide +kernel
theorem dX12_order_71 : decode cX12_order 71 = .ok (.iload 6, 2) := by decide +kernel
theorem dX12_order_73 : decode cX12_order 73 = .ok (.if_icmp .ge 7, 3) := by decide +kernel
theorem dX12_order_76 : decode cX12_order 76 = .ok (.iconst 1, 1) := by decide +kernel
theorem dX12_order_77 : decode cX12_order 77 = .ok (.goto 15, 3) := by decide +kernel
theorem dX12_order_80 : decode cX12_order 80 = .ok (.iload 5, 2) := by decide +kernel
theorem dX12_order_82 : decode cX12_order 82 = .ok (.iload 6, 2) := by decide +kernel
theorem dX12_order_84 : decode cX12_order 84 = .ok (.if_icmp .le 7, 3) := by decide +kernel
theorem dX12_order_87 : decode cX12_order 87 = .ok (.iconst 2, 1) := by decide +kernel
theorem dX12_order_88 : decode cX12_order 88 = .ok (.goto 4, 3) := by decide +kernel
theorem dX12_order_91 : decode cX12_order 91 = .ok (.iconst 4, 1) := by decide +kernel
theorem dX12_order_92 : decode cX12_order 92 = .ok (.ior, 1) := by decide +kernel
theorem dX12_order_93 : decode cX12_order 93 = .ok (.istore_n 3, 1) := by decide +kernel
theorem dX12_order_94 : decode cX12_order 94 = .ok (.iinc 4 1, 3) := by decide +kernel
theorem dX12_order_97 : decode cX12_order 97 = .ok (.goto (-71), 3) := by decide +kernel
theorem dX12_order_100 : decode cX12_order 100 = .ok (.iload_n 3, 1) := by decide +kernel
theorem dX12_order_101 : decode cX12_order 101 = .ok (.ifCond .ne 7, 3) := by decide +kernel
theorem dX12_order_104 : decode cX12_order 104 = .ok (.iconst 4, 1) := by decide +kernel
theorem dX12_order_105 : decode cX12_order 105 = .ok (.goto 31, 3) := by decide +kernel
theorem dX12_order_108 : decode cX12_order 108 = .ok (.iload_n 3, 1) := by decide +kernel
theorem dX12_order_109 : decode cX12_order 109 = .ok (.iconst 1, 1) := by decide +kernel
theorem dX12_order_110 : decode cX12_order 110 = .ok (.if_icmp .ne 7, 3) := by decide +kernel
theorem dX12_order_113 : decode cX12_order 113 = .ok (.iconst 0, 1) := by decide +kernel
theorem dX12_order_114 : decode cX12_order 114 = .ok (.goto 22, 3) := by decide +kernel
theorem dX12_order_117 : decode cX12_order 117 = .ok (.iload_n 3, 1) := by decide +kernel
theorem dX12_order_118 : decode cX12_order 118 = .ok (.iconst 2, 1) := by decide +kernel
theorem dX12_order_119 : decode cX12_order 119 = .ok (.if_icmp .ne 7, 3) := by decide +kernel
theorem dX12_order_122 : decode cX12_order 122 = .ok (.iconst 1, 1) := by decide +kernel
theorem dX12_order_123 : decode cX12_order 123 = .ok (.goto 13, 3) := by decide +kernel
theorem dX12_order_126 : decode cX12_order 126 = .ok (.iload_n 3, 1) := by decide +kernel
theorem dX12_order_127 : decode cX12_order 127 = .ok (.iconst 4, 1) := by decide +kernel
theorem dX12_order_128 : decode cX12_order 128 = .ok (.if_icmp .ne 7, 3) := by decide +kernel
theorem dX12_order_131 : decode cX12_order 131 = .ok (.iconst 2, 1) := by decide +kernel
theorem dX12_order_132 : decode cX12_order 132 = .ok (.goto 4, 3) := by decide +kernel
theorem dX12_order_135 : decode cX12_order 135 = .ok (.iconst 3, 1) := by decide +kernel
theorem dX12_order_136 : decode cX12_order 136 = .ok (.ireturn, 1) := by decide +kernel
theorem dX12_cell_0 : decode cX12_cell 0 = .ok (.aload_n 0, 1) := by decide +kernel
theorem dX12_cell_1 : decode cX12_cell 1 = .ok (.iload_n 1, 1) := by decide +kernel
theorem dX12_cell_2 : decode cX12_cell 2 = .ok (.invokevirtual 454, 3) := by decide +kernel
theorem dX12_cell_5 : decode cX12_cell 5 = .ok (.ifCond .eq 27, 3) := by decide +kernel
theorem dX12_cell_8 : decode cX12_cell 8 = .ok (.iload_n 2, 1) := by decide +kernel
theorem dX12_cell_9 : decode cX12_cell 9 = .ok (.i2l, 1) := by decide +kernel
theorem dX12_cell_10 : decode cX12_cell 10 = .ok (.lconst 0, 1) := by decide +kernel
theorem dX12_cell_11 : decode cX12_cell 11 = .ok (.ldc2_w 483, 3) := by decide +kernel
theorem dX12_cell_14 : decode cX12_cell 14 = .ok (.invokestatic 164, 3) := by decide +kernel
theorem dX12_cell_17 : decode cX12_cell 17 = .ok (.ifCond .eq 15, 3) := by decide +kernel
theorem dX12_cell_20 : decode cX12_cell 20 = .ok (.iload_n 3, 1) := by decide +kernel
theorem dX12_cell_21 : decode cX12_cell 21 = .ok (.i2l, 1) := by decide +kernel
theorem dX12_cell_22 : decode cX12_cell 22 = .ok (.lconst 0, 1) := by decide +kernel
theorem dX12_cell_23 : decode cX12_cell 23 = .ok (.ldc2_w 449, 3) := by decide +kernel
theorem dX12_cell_26 : decode cX12_cell 26 = .ok (.invokestatic 164, 3) := by decide +kernel
theorem dX12_cell_29 : decode cX12_cell 29 = .ok (.ifCond .ne 5, 3) := by decide +kernel
theorem dX12_cell_32 : decode cX12_cell 32 = .ok (.iconst 0, 1) := by decide +kernel
theorem dX12_cell_33 : decode cX12_cell 33 = .ok (.ireturn, 1) := by decide +kernel
theorem dX12_cell_34 : decode cX12_cell 34 = .ok (.aload_n 0, 1) := by decide +kernel
theorem dX12_cell_35 : decode cX12_cell 35 = .ok (.getfield 151, 3) := by decide +kernel
theorem dX12_cell_38 : decode cX12_cell 38 = .ok (.bipush 40, 2) := by decide +kernel
theorem dX12_cell_40 : decode cX12_cell 40 = .ok (.iload_n 1, 1) := by decide +kernel
theorem dX12_cell_41 : decode cX12_cell 41 = .ok (.imul, 1) := by decide +kernel
theorem dX12_cell_42 : decode cX12_cell 42 = .ok (.iload_n 2, 1) := by decide +kernel
theorem dX12_cell_43 : decode cX12_cell 43 = .ok (.iadd, 1) := by decide +kernel
theorem dX12_cell_44 : decode cX12_cell 44 = .ok (.iload_n 3, 1) := by decide +kernel
theorem dX12_cell_45 : decode cX12_cell 45 = .ok (.iastore, 1) := by decide +kernel
theorem dX12_cell_46 : decode cX12_cell 46 = .ok (.iconst 1, 1) := by decide +kernel
theorem dX12_cell_47 : decode cX12_cell 47 = .ok (.ireturn, 1) := by decide +kernel
theorem dX12_worths_0 : decode cX12_worths 0 = .ok (.aload_n 0, 1) := by decide +kernel
theorem dX12_worths_1 : decode cX12_worths 1 = .ok (.getfield 154, 3) := by decide +kernel
theorem dX12_worths_4 : decode cX12_worths 4 = .ok (.iconst 0, 1) := by decide +kernel
theorem dX12_worths_5 : decode cX12_worths 5 = .ok (.lconst 0, 1) := by decide +kernel
theorem dX12_worths_6 : decode cX12_worths 6 = .ok (.lastore, 1) := by decide +kernel
theorem dX12_worths_7 : decode cX12_worths 7 = .ok (.iconst 0, 1) := by decide +kernel
theorem dX12_worths_8 : decode cX12_worths 8 = .ok (.istore_n 1, 1) := by decide +kernel
theorem dX12_worths_9 : decode cX12_worths 9 = .ok (.iload_n 1, 1) := by decide +kernel
theorem dX12_worths_10 : decode cX12_worths 10 = .ok (.bipush 40, 2) := by decide +kernel
theorem dX12_worths_12 : decode cX12_worths 12 = .ok (.if_icmp .ge 68, 3) := by decide +kernel
theorem dX12_worths_15 : decode cX12_worths 15 = .ok (.lconst 0, 1) := by decide +kernel
theorem dX12_worths_16 : decode cX12_worths 16 = .ok (.lstore_n 2, 1) := by decide +kernel
theorem dX12_worths_17 : decode cX12_worths 17 = .ok (.iconst 0, 1) := by decide +kernel
theorem dX12_worths_18 : decode cX12_worths 18 = .ok (.istore 4, 2) := by decide +kernel
theorem dX12_worths_20 : decode cX12_worths 20 = .ok (.iload 4, 2) := by decide +kernel
theorem dX12_worths_22 : decode cX12_worths 22 = .ok (.aload_n 0, 1) := by decide +kernel
theorem dX12_worths_23 : decode cX12_worths 23 = .ok (.getfield 443, 3) := by decide +kernel
theorem dX12_worths_26 : decode cX12_worths 26 = .ok (.if_icmp .ge 32, 3) := by decide +kernel
theorem dX12_worths_29 : decode cX12_worths 29 = .ok (.lload_n 2, 1) := by decide +kernel
theorem dX12_worths_30 : decode cX12_worths 30 = .ok (.aload_n 0, 1) := by decide +kernel
theorem dX12_worths_31 : decode cX12_worths 31 = .ok (.iload 4, 2) := by decide +kernel
theorem dX12_worths_33 : decode cX12_worths 33 = .ok (.invokevirtual 459, 3) := by decide +kernel
theorem dX12_worths_36 : decode cX12_worths 36 = .ok (.aload_n 0, 1) := by decide +kernel
theorem dX12_worths_37 : decode cX12_worths 37 = .ok (.getfield 151, 3) := by decide +kernel
theorem dX12_worths_40 : decode cX12_worths 40 = .ok (.bipush 40, 2) := by decide +kernel
theorem dX12_worths_42 : decode cX12_worths 42 = .ok (.iload 4, 2) := by decide +kernel
theorem dX12_worths_44 : decode cX12_worths 44 = .ok (.imul, 1) := by decide +kernel
theorem dX12_worths_45 : decode cX12_worths 45 = .ok (.iload_n 1, 1) := by decide +kernel
theorem dX12_worths_46 : decode cX12_worths 46 = .ok (.iadd, 1) := by decide +kernel
theorem dX12_worths_47 : decode cX12_worths 47 = .ok (.iaload, 1) := by decide +kernel
theorem dX12_worths_48 : decode cX12_worths 48 = .ok (.i2l, 1) := by decide +kernel
theorem dX12_worths_49 : decode cX12_worths 49 = .ok (.lmul, 1) := by decide +kernel
theorem dX12_worths_50 : decode cX12_worths 50 = .ok (.ladd, 1) := by decide +kernel
theorem dX12_worths_51 : decode cX12_worths 51 = .ok (.lstore_n 2, 1) := by decide +kernel
theorem dX12_worths_52 : decode cX12_worths 52 = .ok (.iinc 4 1, 3) := by decide +kernel
theorem dX12_worths_55 : decode cX12_worths 55 = .ok (.goto (-35), 3) := by decide +kernel
theorem dX12_worths_58 : decode cX12_worths 58 = .ok (.aload_n 0, 1) := by decide +kernel
theorem dX12_worths_59 : decode cX12_worths 59 = .ok (.getfield 154, 3) := by decide +kernel
theorem dX12_worths_62 : decode cX12_worths 62 = .ok (.iload_n 1, 1) := by decide +kernel
theorem dX12_worths_63 : decode cX12_worths 63 = .ok (.iconst 1, 1) := by decide +kernel
theorem dX12_worths_64 : decode cX12_worths 64 = .ok (.iadd, 1) := by decide +kernel
theorem dX12_worths_65 : decode cX12_worths 65 = .ok (.aload_n 0, 1) := by decide +kernel
theorem dX12_worths_66 : decode cX12_worths 66 = .ok (.getfield 154, 3) := by decide +kernel
theorem dX12_worths_69 : decode cX12_worths 69 = .ok (.iload_n 1, 1) := by decide +kernel
theorem dX12_worths_70 : decode cX12_worths 70 = .ok (.laload, 1) := by decide +kernel
theorem dX12_worths_71 : decode cX12_worths 71 = .ok (.lload_n 2, 1) := by decide +kernel
theorem dX12_worths_72 : decode cX12_worths 72 = .ok (.ladd, 1) := by decide +kernel
theorem dX12_worths_73 : decode cX12_worths 73 = .ok (.lastore, 1) := by decide +kernel
theorem dX12_worths_74 : decode cX12_worths 74 = .ok (.iinc 1 1, 3) := by decide +kernel
theorem dX12_worths_77 : decode cX12_worths 77 = .ok (.goto (-68), 3) := by decide +kernel
theorem dX12_worths_80 : decode cX12_worths 80 = .ok (.return_, 1) := by decide +kernel
theorem dX12_nets_0 : decode cX12_nets 0 = .ok (.iload_n 1, 1) := by decide +kernel
theorem dX12_nets_1 : decode cX12_nets 1 = .ok (.i2l, 1) := by decide +kernel
theorem dX12_nets_2 : decode cX12_nets 2 = .ok (.lconst 1, 1) := by decide +kernel
theorem dX12_nets_3 : decode cX12_nets 3 = .ok (.ldc2_w 485, 3) := by decide +kernel
theorem dX12_nets_6 : decode cX12_nets 6 = .ok (.invokestatic 164, 3) := by decide +kernel
theorem dX12_nets_9 : decode cX12_nets 9 = .ok (.ifCond .eq 38, 3) := by decide +kernel
theorem dX12_nets_12 : decode cX12_nets 12 = .ok (.iload_n 2, 1) := by decide +kernel
theorem dX12_nets_13 : decode cX12_nets 13 = .ok (.i2l, 1) := by decide +kernel
theorem dX12_nets_14 : decode cX12_nets 14 = .ok (.lconst 1, 1) := by decide +kernel
theorem dX12_nets_15 : decode cX12_nets 15 = .ok (.ldc2_w 457, 3) := by decide +kernel
theorem dX12_nets_18 : decode cX12_nets 18 = .ok (.invokestatic 164, 3) := by decide +kernel
theorem dX12_nets_21 : decode cX12_nets 21 = .ok (.ifCond .eq 26, 3) := by decide +kernel
theorem dX12_nets_24 : decode cX12_nets 24 = .ok (.iload_n 1, 1) := by decide +kernel
theorem dX12_nets_25 : decode cX12_nets 25 = .ok (.iload_n 2, 1) := by decide +kernel
theorem dX12_nets_26 : decode cX12_nets 26 = .ok (.imul, 1) := by decide +kernel
theorem dX12_nets_27 : decode cX12_nets 27 = .ok (.bipush 40, 2) := by decide +kernel
theorem dX12_nets_29 : decode cX12_nets 29 = .ok (.if_icmp .gt 18, 3) := by decide +kernel
theorem dX12_nets_32 : decode cX12_nets 32 = .ok (.iload_n 3, 1) := by decide +kernel
theorem dX12_nets_33 : decode cX12_nets 33 = .ok (.i2l, 1) := by decide +kernel
theorem dX12_nets_34 : decode cX12_nets 34 = .ok (.ldc2_w 388, 3) := by decide +kernel
theorem dX12_nets_37 : decode cX12_nets 37 = .ok (.iload_n 1, 1) := by decide +kernel
theorem dX12_nets_38 : decode cX12_nets 38 = .ok (.iconst 1, 1) := by decide +kernel
theorem dX12_nets_39 : decode cX12_nets 39 = .ok (.isub, 1) := by decide +kernel
theorem dX12_nets_40 : decode cX12_nets 40 = .ok (.i2l, 1) := by decide +kernel
theorem dX12_nets_41 : decode cX12_nets 41 = .ok (.invokestatic 164, 3) := by decide +kernel
theorem dX12_nets_44 : decode cX12_nets 44 = .ok (.ifCond .ne 7, 3) := by decide +kernel
theorem dX12_nets_47 : decode cX12_nets 47 = .ok (.ldc2_w 388, 3) := by decide +kernel
theorem dX12_nets_50 : decode cX12_nets 50 = .ok (.lreturn, 1) := by decide +kernel
theorem dX12_nets_51 : decode cX12_nets 51 = .ok (.aload_n 0, 1) := by decide +kernel
theorem dX12_nets_52 : decode cX12_nets 52 = .ok (.invokevirtual 487, 3) := by decide +kernel
theorem dX12_nets_55 : decode cX12_nets 55 = .ok (.iconst 0, 1) := by decide +kernel
theorem dX12_nets_56 : decode cX12_nets 56 = .ok (.istore 4, 2) := by decide +kernel
theorem dX12_nets_58 : decode cX12_nets 58 = .ok (.iload 4, 2) := by decide +kernel
theorem dX12_nets_60 : decode cX12_nets 60 = .ok (.iload_n 1, 1) := by decide +kernel
theorem dX12_nets_61 : decode cX12_nets 61 = .ok (.if_icmp .gt 172, 3) := by decide +kernel
theorem dX12_nets_64 : decode cX12_nets 64 = .ok (.bipush 40, 2) := by decide +kernel
theorem dX12_nets_66 : decode cX12_nets 66 = .ok (.istore 5, 2) := by decide +kernel
theorem dX12_nets_68 : decode cX12_nets 68 = .ok (.iload 5, 2) := by decide +kernel
theorem dX12_nets_70 : decode cX12_nets 70 = .ok (.ifCond .lt 157, 3) := by decide +kernel
theorem dX12_nets_73 : decode cX12_nets 73 = .ok (.iload 4, 2) := by decide +kernel
theorem dX12_nets_75 : decode cX12_nets 75 = .ok (.ifCond .ne 7, 3) := by decide +kernel
theorem dX12_nets_78 : decode cX12_nets 78 = .ok (.lconst 0, 1) := by decide +kernel
theorem dX12_nets_79 : decode cX12_nets 79 = .ok (.goto 6, 3) := by decide +kernel
theorem dX12_nets_82 : decode cX12_nets 82 = .ok (.ldc2_w 388, 3) := by decide +kernel
theorem dX12_nets_85 : decode cX12_nets 85 = .ok (.lstore 6, 2) := by decide +kernel
theorem dX12_nets_87 : decode cX12_nets 87 = .ok (.iload 4, 2) := by decide +kernel
theorem dX12_nets_89 : decode cX12_nets 89 = .ok (.ifCond .le 27, 3) := by decide +kernel
theorem dX12_nets_92 : decode cX12_nets 92 = .ok (.iload 5, 2) := by decide +kernel
theorem dX12_nets_94 : decode cX12_nets 94 = .ok (.bipush 40, 2) := by decide +kernel
theorem dX12_nets_96 : decode cX12_nets 96 = .ok (.if_icmp .ge 20, 3) := by decide +kernel
theorem dX12_nets_99 : decode cX12_nets 99 = .ok (.aload_n 0, 1) := by decide +kernel
theorem dX12_nets_100 : decode cX12_nets 100 = .ok (.getfield 158, 3) := by decide +kernel
theorem dX12_nets_103 : decode cX12_nets 103 = .ok (.bipush 41, 2) := by decide +kernel
theorem dX12_nets_105 : decode cX12_nets 105 = .ok (.iload 4, 2) := by decide +kernel
theorem dX12_nets_107 : decode cX12_nets 107 = .ok (.imul, 1) := by decide +kernel
theorem dX12_nets_108 : decode cX12_nets 108 = .ok (.iload 5, 2) := by decide +kernel
theorem dX12_nets_110 : decode cX12_nets 110 = .ok (.iadd, 1) := by decide +kernel
theorem dX12_nets_111 : decode cX12_nets 111 = .ok (.iconst 1, 1) := by decide +kernel
theorem dX12_nets_112 : decode cX12_nets 112 = .ok (.iadd, 1) := by decide +kernel
theorem dX12_nets_113 : decode cX12_nets 113 = .ok (.laload, 1) := by decide +kernel
theorem dX12_nets_114 : decode cX12_nets 114 = .ok (.lstore 6, 2) := by decide +kernel
theorem dX12_nets_116 : decode cX12_nets 116 = .ok (.iload 4, 2) := by decide +kernel
theorem dX12_nets_118 : decode cX12_nets 118 = .ok (.ifCond .le 88, 3) := by decide +kernel
theorem dX12_nets_121 : decode cX12_nets 121 = .ok (.iload 5, 2) := by decide +kernel
theorem dX12_nets_123 : decode cX12_nets 123 = .ok (.iload_n 2, 1) := by decide +kernel
theorem dX12_nets_124 : decode cX12_nets 124 = .ok (.iadd, 1) := by decide +kernel
theorem dX12_nets_125 : decode cX12_nets 125 = .ok (.bipush 40, 2) := by decide +kernel
theorem dX12_nets_127 : decode cX12_nets 127 = .ok (.if_icmp .gt 79, 3) := by decide +kernel
theorem dX12_nets_130 : decode cX12_nets 130 = .ok (.aload_n 0, 1) := by decide +kernel
theorem dX12_nets_131 : decode cX12_nets 131 = .ok (.getfield 158, 3) := by decide +kernel
theorem dX12_nets_134 : decode cX12_nets 134 = .ok (.bipush 41, 2) := by decide +kernel
theorem dX12_nets_136 : decode cX12_nets 136 = .ok (.iload 4, 2) := by decide +kernel
theorem dX12_nets_138 : decode cX12_nets 138 = .ok (.iconst 1, 1) := by decide +kernel
theorem dX12_nets_139 : decode cX12_nets 139 = .ok (.isub, 1) := by decide +kernel
theorem dX12_nets_140 : decode cX12_nets 140 = .ok (.imul, 1) := by decide +kernel
theorem dX12_nets_141 : decode cX12_nets 141 = .ok (.iload 5, 2) := by decide +kernel
theorem dX12_nets_143 : decode cX12_nets 143 = .ok (.iadd, 1) := by decide +kernel
theorem dX12_nets_144 : decode cX12_nets 144 = .ok (.iload_n 2, 1) := by decide +kernel
theorem dX12_nets_145 : decode cX12_nets 145 = .ok (.iadd, 1) := by decide +kernel
theorem dX12_nets_146 : decode cX12_nets 146 = .ok (.laload, 1) := by decide +kernel
theorem dX12_nets_147 : decode cX12_nets 147 = .ok (.lconst 0, 1) := by decide +kernel
theorem dX12_nets_148 : decode cX12_nets 148 = .ok (.lcmp, 1) := by decide +kernel
theorem dX12_nets_149 : decode cX12_nets 149 = .ok (.ifCond .lt 57, 3) := by decide +kernel
theorem dX12_nets_152 : decode cX12_nets 152 = .ok (.aload_n 0, 1) := by decide +kernel
theorem dX12_nets_153 : decode cX12_nets 153 = .ok (.getfield 154, 3) := by decide +kernel
theorem dX12_nets_156 : decode cX12_nets 156 = .ok (.iload 5, 2) := by decide +kernel
theorem dX12_nets_158 : decode cX12_nets 158 = .ok (.iload_n 2, 1) := by decide +kernel
theorem dX12_nets_159 : decode cX12_nets 159 = .ok (.iadd, 1) := by decide +kernel
theorem dX12_nets_160 : decode cX12_nets 160 = .ok (.laload, 1) := by decide +kernel
theorem dX12_nets_161 : decode cX12_nets 161 = .ok (.aload_n 0, 1) := by decide +kernel
theorem dX12_nets_162 : decode cX12_nets 162 = .ok (.getfield 154, 3) := by decide +kernel
theorem dX12_nets_165 : decode cX12_nets 165 = .ok (.iload 5, 2) := by decide +kernel
theorem dX12_nets_167 : decode cX12_nets 167 = .ok (.laload, 1) := by decide +kernel
theorem dX12_nets_168 : decode cX12_nets 168 = .ok (.lsub, 1) := by decide +kernel
theorem dX12_nets_169 : decode cX12_nets 169 = .ok (.aload_n 0, 1) := by decide +kernel
theorem dX12_nets_170 : decode cX12_nets 170 = .ok (.getfield 158, 3) := by decide +kernel
theorem dX12_nets_173 : decode cX12_nets 173 = .ok (.bipush 41, 2) := by decide +kernel
theorem dX12_nets_175 : decode cX12_nets 175 = .ok (.iload 4, 2) := by decide +kernel
theorem dX12_nets_177 : decode cX12_nets 177 = .ok (.iconst 1, 1) := by decide +kernel
theorem dX12_nets_178 : decode cX12_nets 178 = .ok (.isub, 1) := by decide +kernel
theorem dX12_nets_179 : decode cX12_nets 179 = .ok (.imul, 1) := by decide +kernel
theorem dX12_nets_180 : decode cX12_nets 180 = .ok (.iload 5, 2) := by decide +kernel
theorem dX12_nets_182 : decode cX12_nets 182 = .ok (.iadd, 1) := by decide +kernel
theorem dX12_nets_183 : decode cX12_nets 183 = .ok (.iload_n 2, 1) := by decide +kernel
theorem dX12_nets_184 : decode cX12_nets 184 = .ok (.iadd, 1) := by decide +kernel
theorem dX12_nets_185 : decode cX12_nets 185 = .ok (.laload, 1) := by decide +kernel
theorem dX12_nets_186 : decode cX12_nets 186 = .ok (.ladd, 1) := by decide +kernel
theorem dX12_nets_187 : decode cX12_nets 187 = .ok (.lstore 8, 2) := by decide +kernel
theorem dX12_nets_189 : decode cX12_nets 189 = .ok (.lload 8, 2) := by decide +kernel
theorem dX12_nets_191 : decode cX12_nets 191 = .ok (.lload 6, 2) := by decide +kernel
theorem dX12_nets_193 : decode cX12_nets 193 = .ok (.lcmp, 1) := by decide +kernel
theorem dX12_nets_194 : decode cX12_nets 194 = .ok (.ifCond .le 8, 3) := by decide +kernel
theorem dX12_nets_197 : decode cX12_nets 197 = .ok (.lload 8, 2) := by decide +kernel
theorem dX12_nets_199 : decode cX12_nets 199 = .ok (.goto 5, 3) := by decide +kernel
theorem dX12_nets_202 : decode cX12_nets 202 = .ok (.lload 6, 2) := by decide +kernel
theorem dX12_nets_204 : decode cX12_nets 204 = .ok (.lstore 6, 2) := by decide +kernel
theorem dX12_nets_206 : decode cX12_nets 206 = .ok (.aload_n 0, 1) := by decide +kernel
theorem dX12_nets_207 : decode cX12_nets 207 = .ok (.getfield 158, 3) := by decide +kernel
theorem dX12_nets_210 : decode cX12_nets 210 = .ok (.bipush 41, 2) := by decide +kernel
theorem dX12_nets_212 : decode cX12_nets 212 = .ok (.iload 4, 2) := by decide +kernel
theorem dX12_nets_214 : decode cX12_nets 214 = .ok (.imul, 1) := by decide +kernel
theorem dX12_nets_215 : decode cX12_nets 215 = .ok (.iload 5, 2) := by decide +kernel
theorem dX12_nets_217 : decode cX12_nets 217 = .ok (.iadd, 1) := by decide +kernel
theorem dX12_nets_218 : decode cX12_nets 218 = .ok (.lload 6, 2) := by decide +kernel
theorem dX12_nets_220 : decode cX12_nets 220 = .ok (.lastore, 1) := by decide +kernel
theorem dX12_nets_221 : decode cX12_nets 221 = .ok (.iinc 5 (-1), 3) := by decide +kernel
theorem dX12_nets_224 : decode cX12_nets 224 = .ok (.goto (-156), 3) := by decide +kernel
theorem dX12_nets_227 : decode cX12_nets 227 = .ok (.iinc 4 1, 3) := by decide +kernel
theorem dX12_nets_230 : decode cX12_nets 230 = .ok (.goto (-172), 3) := by decide +kernel
theorem dX12_nets_233 : decode cX12_nets 233 = .ok (.iload_n 3, 1) := by decide +kernel
theorem dX12_nets_234 : decode cX12_nets 234 = .ok (.iconst (-1), 1) := by decide +kernel
theorem dX12_nets_235 : decode cX12_nets 235 = .ok (.if_icmp .ne 13, 3) := by decide +kernel
theorem dX12_nets_238 : decode cX12_nets 238 = .ok (.aload_n 0, 1) := by decide +kernel
theorem dX12_nets_239 : decode cX12_nets 239 = .ok (.getfield 158, 3) := by decide +kernel
theorem dX12_nets_242 : decode cX12_nets 242 = .ok (.bipush 41, 2) := by decide +kernel
theorem dX12_nets_244 : decode cX12_nets 244 = .ok (.iload_n 1, 1) := by decide +kernel
theorem dX12_nets_245 : decode cX12_nets 245 = .ok (.imul, 1) := by decide +kernel
theorem dX12_nets_246 : decode cX12_nets 246 = .ok (.laload, 1) := by decide +kernel
theorem dX12_nets_247 : decode cX12_nets 247 = .ok (.lreturn, 1) := by decide +kernel
theorem dX12_nets_248 : decode cX12_nets 248 = .ok (.iconst 0, 1) := by decide +kernel
theorem dX12_nets_249 : decode cX12_nets 249 = .ok (.istore 4, 2) := by decide +kernel
theorem dX12_nets_251 : decode cX12_nets 251 = .ok (.iload_n 1, 1) := by decide +kernel
theorem dX12_nets_252 : decode cX12_nets 252 = .ok (.istore 5, 2) := by decide +kernel
theorem dX12_nets_254 : decode cX12_nets 254 = .ok (.iload 5, 2) := by decide +kernel
theorem dX12_nets_256 : decode cX12_nets 256 = .ok (.ifCond .le 107, 3) := by decide +kernel
theorem dX12_nets_259 : decode cX12_nets 259 = .ok (.aload_n 0, 1) := by decide +kernel
theorem dX12_nets_260 : decode cX12_nets 260 = .ok (.getfield 158, 3) := by decide +kernel
theorem dX12_nets_263 : decode cX12_nets 263 = .ok (.bipush 41, 2) := by decide +kernel
theorem dX12_nets_265 : decode cX12_nets 265 = .ok (.iload 5, 2) := by decide +kernel
theorem dX12_nets_267 : decode cX12_nets 267 = .ok (.iconst 1, 1) := by decide +kernel
theorem dX12_nets_268 : decode cX12_nets 268 = .ok (.isub, 1) := by decide +kernel
theorem dX12_nets_269 : decode cX12_nets 269 = .ok (.imul, 1) := by decide +kernel
theorem dX12_nets_270 : decode cX12_nets 270 = .ok (.iload 4, 2) := by decide +kernel
theorem dX12_nets_272 : decode cX12_nets 272 = .ok (.iadd, 1) := by decide +kernel
theorem dX12_nets_273 : decode cX12_nets 273 = .ok (.iload_n 2, 1) := by decide +kernel
theorem dX12_nets_274 : decode cX12_nets 274 = .ok (.iadd, 1) := by decide +kernel
theorem dX12_nets_275 : decode cX12_nets 275 = .ok (.laload, 1) := by decide +kernel
theorem dX12_nets_276 : decode cX12_nets 276 = .ok (.lconst 0, 1) := by decide +kernel
theorem dX12_nets_277 : decode cX12_nets 277 = .ok (.lcmp, 1) := by decide +kernel
theorem dX12_nets_278 : decode cX12_nets 278 = .ok (.ifCond .lt 55, 3) := by decide +kernel
theorem dX12_nets_281 : decode cX12_nets 281 = .ok (.aload_n 0, 1) := by decide +kernel
theorem dX12_nets_282 : decode cX12_nets 282 = .ok (.getfield 154, 3) := by decide +kernel
theorem dX12_nets_285 : decode cX12_nets 285 = .ok (.iload 4, 2) := by decide +kernel
theorem dX12_nets_287 : decode cX12_nets 287 = .ok (.iload_n 2, 1) := by decide +kernel
theorem dX12_nets_288 : decode cX12_nets 288 = .ok (.iadd, 1) := by decide +kernel
theorem dX12_nets_289 : decode cX12_nets 289 = .ok (.laload, 1) := by decide +kernel
theorem dX12_nets_290 : decode cX12_nets 290 = .ok (.aload_n 0, 1) := by decide +kernel
theorem dX12_nets_291 : decode cX12_nets 291 = .ok (.getfield 154, 3) := by decide +kernel
theorem dX12_nets_294 : decode cX12_nets 294 = .ok (.iload 4, 2) := by decide +kernel
theorem dX12_nets_296 : decode cX12_nets 296 = .ok (.laload, 1) := by decide +kernel
theorem dX12_nets_297 : decode cX12_nets 297 = .ok (.lsub, 1) := by decide +kernel
theorem dX12_nets_298 : decode cX12_nets 298 = .ok (.aload_n 0, 1) := by decide +kernel
theorem dX12_nets_299 : decode cX12_nets 299 = .ok (.getfield 158, 3) := by decide +kernel
theorem dX12_nets_302 : decode cX12_nets 302 = .ok (.bipush 41, 2) := by decide +kernel
theorem dX12_nets_304 : decode cX12_nets 304 = .ok (.iload 5, 2) := by decide +kernel
theorem dX12_nets_306 : decode cX12_nets 306 = .ok (.iconst 1, 1) := by decide +kernel
theorem dX12_nets_307 : decode cX12_nets 307 = .ok (.isub, 1) := by decide +kernel
theorem dX12_nets_308 : decode cX12_nets 308 = .ok (.imul, 1) := by decide +kernel
theorem dX12_nets_309 : decode cX12_nets 309 = .ok (.iload 4, 2) := by decide +kernel
theorem dX12_nets_311 : decode cX12_nets 311 = .ok (.iadd, 1) := by decide +kernel
theorem dX12_nets_312 : decode cX12_nets 312 = .ok (.iload_n 2, 1) := by decide +kernel
theorem dX12_nets_313 : decode cX12_nets 313 = .ok (.iadd, 1) := by decide +kernel
theorem dX12_nets_314 : decode cX12_nets 314 = .ok (.laload, 1) := by decide +kernel
theorem dX12_nets_315 : decode cX12_nets 315 = .ok (.ladd, 1) := by decide +kernel
theorem dX12_nets_316 : decode cX12_nets 316 = .ok (.aload_n 0, 1) := by decide +kernel
theorem dX12_nets_317 : decode cX12_nets 317 = .ok (.getfield 158, 3) := by decide +kernel
theorem dX12_nets_320 : decode cX12_nets 320 = .ok (.bipush 41, 2) := by decide +kernel
theorem dX12_nets_322 : decode cX12_nets 322 = .ok (.iload 5, 2) := by decide +kernel
theorem dX12_nets_324 : decode cX12_nets 324 = .ok (.imul, 1) := by decide +kernel
theorem dX12_nets_325 : decode cX12_nets 325 = .ok (.iload 4, 2) := by decide +kernel
theorem dX12_nets_327 : decode cX12_nets 327 = .ok (.iadd, 1) := by decide +kernel
theorem dX12_nets_328 : decode cX12_nets 328 = .ok (.laload, 1) := by decide +kernel
theorem dX12_nets_329 : decode cX12_nets 329 = .ok (.lcmp, 1) := by decide +kernel
theorem dX12_nets_330 : decode cX12_nets 330 = .ok (.ifCond .eq 9, 3) := by decide +kernel
theorem dX12_nets_333 : decode cX12_nets 333 = .ok (.iinc 4 1, 3) := by decide +kernel
theorem dX12_nets_336 : decode cX12_nets 336 = .ok (.goto (-77), 3) := by decide +kernel
theorem dX12_nets_339 : decode cX12_nets 339 = .ok (.iload_n 1, 1) := by decide +kernel
theorem dX12_nets_340 : decode cX12_nets 340 = .ok (.iload 5, 2) := by decide +kernel
theorem dX12_nets_342 : decode cX12_nets 342 = .ok (.isub, 1) := by decide +kernel
theorem dX12_nets_343 : decode cX12_nets 343 = .ok (.iload_n 3, 1) := by decide +kernel
theorem dX12_nets_344 : decode cX12_nets 344 = .ok (.if_icmp .ne 7, 3) := by decide +kernel
theorem dX12_nets_347 : decode cX12_nets 347 = .ok (.iload 4, 2) := by decide +kernel
theorem dX12_nets_349 : decode cX12_nets 349 = .ok (.i2l, 1) := by decide +kernel
theorem dX12_nets_350 : decode cX12_nets 350 = .ok (.lreturn, 1) := by decide +kernel
theorem dX12_nets_351 : decode cX12_nets 351 = .ok (.iload 4, 2) := by decide +kernel
theorem dX12_nets_353 : decode cX12_nets 353 = .ok (.iload_n 2, 1) := by decide +kernel
theorem dX12_nets_354 : decode cX12_nets 354 = .ok (.iadd, 1) := by decide +kernel
theorem dX12_nets_355 : decode cX12_nets 355 = .ok (.istore 4, 2) := by decide +kernel
theorem dX12_nets_357 : decode cX12_nets 357 = .ok (.iinc 5 (-1), 3) := by decide +kernel
theorem dX12_nets_360 : decode cX12_nets 360 = .ok (.goto (-106), 3) := by decide +kernel
theorem dX12_nets_363 : decode cX12_nets 363 = .ok (.ldc2_w 388, 3) := by decide +kernel
theorem dX12_nets_366 : decode cX12_nets 366 = .ok (.lreturn, 1) := by decide +kernel
theorem dX12_numberAt_0 : decode cX12_numberAt 0 = .ok (.iconst 0, 1) := by decide +kernel
theorem dX12_numberAt_1 : decode cX12_numberAt 1 = .ok (.istore_n 2, 1) := by decide +kernel
theorem dX12_numberAt_2 : decode cX12_numberAt 2 = .ok (.iconst 0, 1) := by decide +kernel
theorem dX12_numberAt_3 : decode cX12_numberAt 3 = .ok (.istore_n 3, 1) := by decide +kernel
theorem dX12_numberAt_4 : decode cX12_numberAt 4 = .ok (.iload_n 3, 1) := by decide +kernel
theorem dX12_numberAt_5 : decode cX12_numberAt 5 = .ok (.iconst 4, 1) := by decide +kernel
theorem dX12_numberAt_6 : decode cX12_numberAt 6 = .ok (.if_icmp .ge 29, 3) := by decide +kernel
theorem dX12_numberAt_9 : decode cX12_numberAt 9 = .ok (.iload_n 2, 1) := by decide +kernel
theorem dX12_numberAt_10 : decode cX12_numberAt 10 = .ok (.bipush 8, 2) := by decide +kernel
theorem dX12_numberAt_12 : decode cX12_numberAt 12 = .ok (.ishl, 1) := by decide +kernel
theorem dX12_numberAt_13 : decode cX12_numberAt 13 = .ok (.aload_n 0, 1) := by decide +kernel
theorem dX12_numberAt_14 : decode cX12_numberAt 14 = .ok (.getfield 7, 3) := by decide +kernel
theorem dX12_numberAt_17 : decode cX12_numberAt 17 = .ok (.iconst 4, 1) := by decide +kernel
theorem dX12_numberAt_18 : decode cX12_numberAt 18 = .ok (.iload_n 1, 1) := by decide +kernel
theorem dX12_numberAt_19 : decode cX12_numberAt 19 = .ok (.imul, 1) := by decide +kernel
theorem dX12_numberAt_20 : decode cX12_numberAt 20 = .ok (.iload_n 3, 1) := by decide +kernel
theorem dX12_numberAt_21 : decode cX12_numberAt 21 = .ok (.iadd, 1) := by decide +kernel
theorem dX12_numberAt_22 : decode cX12_numberAt 22 = .ok (.baload, 1) := by decide +kernel
theorem dX12_numberAt_23 : decode cX12_numberAt 23 = .ok (.sipush 255, 3) := by decide +kernel
theorem dX12_numberAt_26 : decode cX12_numberAt 26 = .ok (.iand, 1) := by decide +kernel
theorem dX12_numberAt_27 : decode cX12_numberAt 27 = .ok (.ior, 1) := by decide +kernel
theorem dX12_numberAt_28 : decode cX12_numberAt 28 = .ok (.istore_n 2, 1) := by decide +kernel
theorem dX12_numberAt_29 : decode cX12_numberAt 29 = .ok (.iinc 3 1, 3) := by decide +kernel
theorem dX12_numberAt_32 : decode cX12_numberAt 32 = .ok (.goto (-28), 3) := by decide +kernel
theorem dX12_numberAt_35 : decode cX12_numberAt 35 = .ok (.iload_n 2, 1) := by decide +kernel
theorem dX12_numberAt_36 : decode cX12_numberAt 36 = .ok (.ireturn, 1) := by decide +kernel
theorem dX12_check_0 : decode cX12_check 0 = .ok (.aload_n 0, 1) := by decide +kernel
theorem dX12_check_1 : decode cX12_check 1 = .ok (.iload_n 1, 1) := by decide +kernel
theorem dX12_check_2 : decode cX12_check 2 = .ok (.invokevirtual 435, 3) := by decide +kernel
theorem dX12_check_5 : decode cX12_check 5 = .ok (.ifCond .eq 18, 3) := by decide +kernel
theorem dX12_check_8 : decode cX12_check 8 = .ok (.iload_n 2, 1) := by decide +kernel
theorem dX12_check_9 : decode cX12_check 9 = .ok (.ifCond .lt 14, 3) := by decide +kernel
theorem dX12_check_12 : decode cX12_check 12 = .ok (.iload_n 2, 1) := by decide +kernel
theorem dX12_check_13 : decode cX12_check 13 = .ok (.aload_n 0, 1) := by decide +kernel
theorem dX12_check_14 : decode cX12_check 14 = .ok (.getfield 185, 3) := by decide +kernel
theorem dX12_check_17 : decode cX12_check 17 = .ok (.bipush 12, 2) := by decide +kernel
theorem dX12_check_19 : decode cX12_check 19 = .ok (.idiv, 1) := by decide +kernel
theorem dX12_check_20 : decode cX12_check 20 = .ok (.if_icmp .le 6, 3) := by decide +kernel
theorem dX12_check_23 : decode cX12_check 23 = .ok (.bipush (-2), 2) := by decide +kernel
theorem dX12_check_25 : decode cX12_check 25 = .ok (.ireturn, 1) := by decide +kernel
theorem dX12_check_26 : decode cX12_check 26 = .ok (.aload_n 0, 1) := by decide +kernel
theorem dX12_check_27 : decode cX12_check 27 = .ok (.iconst 0, 1) := by decide +kernel
theorem dX12_check_28 : decode cX12_check 28 = .ok (.putfield 185, 3) := by decide +kernel
theorem dX12_check_31 : decode cX12_check 31 = .ok (.iconst 0, 1) := by decide +kernel
theorem dX12_check_32 : decode cX12_check 32 = .ok (.istore_n 3, 1) := by decide +kernel
theorem dX12_check_33 : decode cX12_check 33 = .ok (.iload_n 3, 1) := by decide +kernel
theorem dX12_check_34 : decode cX12_check 34 = .ok (.aload_n 0, 1) := by decide +kernel
theorem dX12_check_35 : decode cX12_check 35 = .ok (.getfield 161, 3) := by decide +kernel
theorem dX12_check_38 : decode cX12_check 38 = .ok (.if_icmp .ge 91, 3) := by decide +kernel
theorem dX12_check_41 : decode cX12_check 41 = .ok (.iload_n 3, 1) := by decide +kernel
theorem dX12_check_42 : decode cX12_check 42 = .ok (.iload_n 2, 1) := by decide +kernel
theorem dX12_check_43 : decode cX12_check 43 = .ok (.if_icmp .ne 7, 3) := by decide +kernel
theorem dX12_check_46 : decode cX12_check 46 = .ok (.iconst 3, 1) := by decide +kernel
theorem dX12_check_47 : decode cX12_check 47 = .ok (.iload_n 2, 1) := by decide +kernel
theorem dX12_check_48 : decode cX12_check 48 = .ok (.imul, 1) := by decide +kernel
theorem dX12_check_49 : decode cX12_check 49 = .ok (.ireturn, 1) := by decide +kernel
theorem dX12_check_50 : decode cX12_check 50 = .ok (.aload_n 0, 1) := by decide +kernel
theorem dX12_check_51 : decode cX12_check 51 = .ok (.iconst 3, 1) := by decide +kernel
theorem dX12_check_52 : decode cX12_check 52 = .ok (.iload_n 3, 1) := by decide +kernel
theorem dX12_check_53 : decode cX12_check 53 = .ok (.imul, 1) := by decide +kernel
theorem dX12_check_54 : decode cX12_check 54 = .ok (.invokevirtual 490, 3) := by decide +kernel
theorem dX12_check_57 : decode cX12_check 57 = .ok (.iload_n 3, 1) := by decide +kernel
theorem dX12_check_58 : decode cX12_check 58 = .ok (.if_icmp .eq 7, 3) := by decide +kernel
theorem dX12_check_61 : decode cX12_check 61 = .ok (.iconst 3, 1) := by decide +kernel
theorem dX12_check_62 : decode cX12_check 62 = .ok (.iload_n 3, 1) := by decide +kernel
theorem dX12_check_63 : decode cX12_check 63 = .ok (.imul, 1) := by decide +kernel
theorem dX12_check_64 : decode cX12_check 64 = .ok (.ireturn, 1) := by decide +kernel
theorem dX12_check_65 : decode cX12_check 65 = .ok (.aload_n 0, 1) := by decide +kernel
theorem dX12_check_66 : decode cX12_check 66 = .ok (.iconst 3, 1) := by decide +kernel
theorem dX12_check_67 : decode cX12_check 67 = .ok (.iload_n 3, 1) := by decide +kernel
theorem dX12_check_68 : decode cX12_check 68 = .ok (.imul, 1) := by decide +kernel
theorem dX12_check_69 : decode cX12_check 69 = .ok (.iconst 1, 1) := by decide +kernel
theorem dX12_check_70 : decode cX12_check 70 = .ok (.iadd, 1) := by decide +kernel
theorem dX12_check_71 : decode cX12_check 71 = .ok (.invokevirtual 490, 3) := by decide +kernel
theorem dX12_check_74 : decode cX12_check 74 = .ok (.aload_n 0, 1) := by decide +kernel
theorem dX12_check_75 : decode cX12_check 75 = .ok (.getfield 123, 3) := by decide +kernel
theorem dX12_check_78 : decode cX12_check 78 = .ok (.bipush 8, 2) := by decide +kernel
theorem dX12_check_80 : decode cX12_check 80 = .ok (.iload_n 1, 1) := by decide +kernel
theorem dX12_check_81 : decode cX12_check 81 = .ok (.imul, 1) := by decide +kernel
theorem dX12_check_82 : decode cX12_check 82 = .ok (.iload_n 3, 1) := by decide +kernel
theorem dX12_check_83 : decode cX12_check 83 = .ok (.iadd, 1) := by decide +kernel
theorem dX12_check_84 : decode cX12_check 84 = .ok (.iaload, 1) := by decide +kernel
theorem dX12_check_85 : decode cX12_check 85 = .ok (.if_icmp .eq 9, 3) := by decide +kernel
theorem dX12_check_88 : decode cX12_check 88 = .ok (.iconst 3, 1) := by decide +kernel
theorem dX12_check_89 : decode cX12_check 89 = .ok (.iload_n 3, 1) := by decide +kernel
theorem dX12_check_90 : decode cX12_check 90 = .ok (.imul, 1) := by decide +kernel
theorem dX12_check_91 : decode cX12_check 91 = .ok (.iconst 1, 1) := by decide +kernel
theorem dX12_check_92 : decode cX12_check 92 = .ok (.iadd, 1) := by decide +kernel
theorem dX12_check_93 : decode cX12_check 93 = .ok (.ireturn, 1) := by decide +kernel
theorem dX12_check_94 : decode cX12_check 94 = .ok (.aload_n 0, 1) := by decide +kernel
theorem dX12_check_95 : decode cX12_check 95 = .ok (.iconst 3, 1) := by decide +kernel
theorem dX12_check_96 : decode cX12_check 96 = .ok (.iload_n 3, 1) := by decide +kernel
theorem dX12_check_97 : decode cX12_check 97 = .ok (.imul, 1) := by decide +kernel
theorem dX12_check_98 : decode cX12_check 98 = .ok (.iconst 2, 1) := by decide +kernel
theorem dX12_check_99 : decode cX12_check 99 = .ok (.iadd, 1) := by decide +kernel
theorem dX12_check_100 : decode cX12_check 100 = .ok (.invokevirtual 490, 3) := by decide +kernel
theorem dX12_check_103 : decode cX12_check 103 = .ok (.aload_n 0, 1) := by decide +kernel
theorem dX12_check_104 : decode cX12_check 104 = .ok (.getfield 126, 3) := by decide +kernel
theorem dX12_check_107 : decode cX12_check 107 = .ok (.bipush 8, 2) := by decide +kernel
theorem dX12_check_109 : decode cX12_check 109 = .ok (.iload_n 1, 1) := by decide +kernel
theorem dX12_check_110 : decode cX12_check 110 = .ok (.imul, 1) := by decide +kernel
theorem dX12_check_111 : decode cX12_check 111 = .ok (.iload_n 3, 1) := by decide +kernel
theorem dX12_check_112 : decode cX12_check 112 = .ok (.iadd, 1) := by decide +kernel
theorem dX12_check_113 : decode cX12_check 113 = .ok (.iaload, 1) := by decide +kernel
theorem dX12_check_114 : decode cX12_check 114 = .ok (.if_icmp .eq 9, 3) := by decide +kernel
theorem dX12_check_117 : decode cX12_check 117 = .ok (.iconst 3, 1) := by decide +kernel
theorem dX12_check_118 : decode cX12_check 118 = .ok (.iload_n 3, 1) := by decide +kernel
theorem dX12_check_119 : decode cX12_check 119 = .ok (.imul, 1) := by decide +kernel
theorem dX12_check_120 : decode cX12_check 120 = .ok (.iconst 2, 1) := by decide +kernel
theorem dX12_check_121 : decode cX12_check 121 = .ok (.iadd, 1) := by decide +kernel
theorem dX12_check_122 : decode cX12_check 122 = .ok (.ireturn, 1) := by decide +kernel
theorem dX12_check_123 : decode cX12_check 123 = .ok (.iinc 3 1, 3) := by decide +kernel
theorem dX12_check_126 : decode cX12_check 126 = .ok (.goto (-93), 3) := by decide +kernel
theorem dX12_check_129 : decode cX12_check 129 = .ok (.iload_n 2, 1) := by decide +kernel
theorem dX12_check_130 : decode cX12_check 130 = .ok (.aload_n 0, 1) := by decide +kernel
theorem dX12_check_131 : decode cX12_check 131 = .ok (.getfield 161, 3) := by decide +kernel
theorem dX12_check_134 : decode cX12_check 134 = .ok (.if_icmp .ne 7, 3) := by decide +kernel
theorem dX12_check_137 : decode cX12_check 137 = .ok (.iconst (-1), 1) := by decide +kernel
theorem dX12_check_138 : decode cX12_check 138 = .ok (.goto 9, 3) := by decide +kernel
theorem dX12_check_141 : decode cX12_check 141 = .ok (.iconst 3, 1) := by decide +kernel
theorem dX12_check_142 : decode cX12_check 142 = .ok (.aload_n 0, 1) := by decide +kernel
theorem dX12_check_143 : decode cX12_check 143 = .ok (.getfield 161, 3) := by decide +kernel
theorem dX12_check_146 : decode cX12_check 146 = .ok (.imul, 1) := by decide +kernel
theorem dX12_check_147 : decode cX12_check 147 = .ok (.ireturn, 1) := by decide +kernel
theorem dX12_count_0 : decode cX12_count 0 = .ok (.aload_n 0, 1) := by decide +kernel
theorem dX12_count_1 : decode cX12_count 1 = .ok (.iload_n 1, 1) := by decide +kernel
theorem dX12_count_2 : decode cX12_count 2 = .ok (.bipush 10, 2) := by decide +kernel
theorem dX12_count_4 : decode cX12_count 4 = .ok (.isub, 1) := by decide +kernel
theorem dX12_count_5 : decode cX12_count 5 = .ok (.invokevirtual 177, 3) := by decide +kernel
theorem dX12_count_8 : decode cX12_count 8 = .ok (.ifCond .eq 13, 3) := by decide +kernel
theorem dX12_count_11 : decode cX12_count 11 = .ok (.aload_n 0, 1) := by decide +kernel
theorem dX12_count_12 : decode cX12_count 12 = .ok (.getfield 26, 3) := by decide +kernel
theorem dX12_count_15 : decode cX12_count 15 = .ok (.iload_n 1, 1) := by decide +kernel
theorem dX12_count_16 : decode cX12_count 16 = .ok (.bipush 10, 2) := by decide +kernel
theorem dX12_count_18 : decode cX12_count 18 = .ok (.isub, 1) := by decide +kernel
theorem dX12_count_19 : decode cX12_count 19 = .ok (.iaload, 1) := by decide +kernel
theorem dX12_count_20 : decode cX12_count 20 = .ok (.ireturn, 1) := by decide +kernel
theorem dX12_count_21 : decode cX12_count 21 = .ok (.iload_n 1, 1) := by decide +kernel
theorem dX12_count_22 : decode cX12_count 22 = .ok (.bipush 20, 2) := by decide +kernel
theorem dX12_count_24 : decode cX12_count 24 = .ok (.isub, 1) := by decide +kernel
theorem dX12_count_25 : decode cX12_count 25 = .ok (.invokestatic 356, 3) := by decide +kernel
theorem dX12_count_28 : decode cX12_count 28 = .ok (.ifCond .eq 13, 3) := by decide +kernel
theorem dX12_count_31 : decode cX12_count 31 = .ok (.aload_n 0, 1) := by decide +kernel
theorem dX12_count_32 : decode cX12_count 32 = .ok (.getfield 90, 3) := by decide +kernel
theorem dX12_count_35 : decode cX12_count 35 = .ok (.iload_n 1, 1) := by decide +kernel
theorem dX12_count_36 : decode cX12_count 36 = .ok (.bipush 20, 2) := by decide +kernel
theorem dX12_count_38 : decode cX12_count 38 = .ok (.isub, 1) := by decide +kernel
theorem dX12_count_39 : decode cX12_count 39 = .ok (.iaload, 1) := by decide +kernel
theorem dX12_count_40 : decode cX12_count 40 = .ok (.ireturn, 1) := by decide +kernel
theorem dX12_count_41 : decode cX12_count 41 = .ok (.iload_n 1, 1) := by decide +kernel
theorem dX12_count_42 : decode cX12_count 42 = .ok (.tableswitch 86 0 7 #[46, 51, 56, 61, 66, 71, 76, 81], 46) := by decide +kernel
theorem dX12_count_88 : decode cX12_count 88 = .ok (.aload_n 0, 1) := by decide +kernel
theorem dX12_count_89 : decode cX12_count 89 = .ok (.getfield 161, 3) := by decide +kernel
theorem dX12_count_92 : decode cX12_count 92 = .ok (.ireturn, 1) := by decide +kernel
theorem dX12_count_93 : decode cX12_count 93 = .ok (.aload_n 0, 1) := by decide +kernel
theorem dX12_count_94 : decode cX12_count 94 = .ok (.getfield 168, 3) := by decide +kernel
theorem dX12_count_97 : decode cX12_count 97 = .ok (.ireturn, 1) := by decide +kernel
theorem dX12_count_98 : decode cX12_count 98 = .ok (.aload_n 0, 1) := by decide +kernel
theorem dX12_count_99 : decode cX12_count 99 = .ok (.getfield 427, 3) := by decide +kernel
theorem dX12_count_102 : decode cX12_count 102 = .ok (.ireturn, 1) := by decide +kernel
theorem dX12_count_103 : decode cX12_count 103 = .ok (.aload_n 0, 1) := by decide +kernel
theorem dX12_count_104 : decode cX12_count 104 = .ok (.getfield 443, 3) := by decide +kernel
theorem dX12_count_107 : decode cX12_count 107 = .ok (.ireturn, 1) := by decide +kernel
theorem dX12_count_108 : decode cX12_count 108 = .ok (.aload_n 0, 1) := by decide +kernel
theorem dX12_count_109 : decode cX12_count 109 = .ok (.getfield 446, 3) := by decide +kernel
theorem dX12_count_112 : decode cX12_count 112 = .ok (.ireturn, 1) := by decide +kernel
theorem dX12_count_113 : decode cX12_count 113 = .ok (.aload_n 0, 1) := by decide +kernel
theorem dX12_count_114 : decode cX12_count 114 = .ok (.getfield 472, 3) := by decide +kernel
theorem dX12_count_117 : decode cX12_count 117 = .ok (.ireturn, 1) := by decide +kernel
theorem dX12_count_118 : decode cX12_count 118 = .ok (.aload_n 0, 1) := by decide +kernel
theorem dX12_count_119 : decode cX12_count 119 = .ok (.getfield 299, 3) := by decide +kernel
theorem dX12_count_122 : decode cX12_count 122 = .ok (.ireturn, 1) := by decide +kernel
theorem dX12_count_123 : decode cX12_count 123 = .ok (.aload_n 0, 1) := by decide +kernel
theorem dX12_count_124 : decode cX12_count 124 = .ok (.getfield 185, 3) := by decide +kernel
theorem dX12_count_127 : decode cX12_count 127 = .ok (.ireturn, 1) := by decide +kernel
theorem dX12_count_128 : decode cX12_count 128 = .ok (.iconst (-1), 1) := by decide +kernel
theorem dX12_count_129 : decode cX12_count 129 = .ok (.ireturn, 1) := by decide +kernel
theorem dJ11_isValidCodePoint_9a6ad_0 : decode cJ11_isValidCodePoint_9a6ad 0 = .ok (.iload_n 0, 1) := by decide +kernel
theorem dJ11_isValidCodePoint_9a6ad_1 : decode cJ11_isValidCodePoint_9a6ad 1 = .ok (.bipush 16, 2) := by decide +kernel
theorem dJ11_isValidCodePoint_9a6ad_3 : decode cJ11_isValidCodePoint_9a6ad 3 = .ok (.iushr, 1) := by decide +kernel
theorem dJ11_isValidCodePoint_9a6ad_4 : decode cJ11_isValidCodePoint_9a6ad 4 = .ok (.istore_n 1, 1) := by decide +kernel
theorem dJ11_isValidCodePoint_9a6ad_5 : decode cJ11_isValidCodePoint_9a6ad 5 = .ok (.iload_n 1, 1) := by decide +kernel
theorem dJ11_isValidCodePoint_9a6ad_6 : decode cJ11_isValidCodePoint_9a6ad 6 = .ok (.bipush 17, 2) := by decide +kernel
theorem dJ11_isValidCodePoint_9a6ad_8 : decode cJ11_isValidCodePoint_9a6ad 8 = .ok (.if_icmp .ge 7, 3) := by decide +kernel
theorem dJ11_isValidCodePoint_9a6ad_11 : decode cJ11_isValidCodePoint_9a6ad 11 = .ok (.iconst 1, 1) := by decide +kernel
theorem dJ11_isValidCodePoint_9a6ad_12 : decode cJ11_isValidCodePoint_9a6ad 12 = .ok (.goto 4, 3) := by decide +kernel
theorem dJ11_isValidCodePoint_9a6ad_15 : decode cJ11_isValidCodePoint_9a6ad 15 = .ok (.iconst 0, 1) := by decide +kernel
theorem dJ11_isValidCodePoint_9a6ad_16 : decode cJ11_isValidCodePoint_9a6ad 16 = .ok (.ireturn, 1) := by decide +kernel
theorem dJ11_highSurrogate_5068e_0 : decode cJ11_highSurrogate_5068e 0 = .ok (.iload_n 0, 1) := by decide +kernel
theorem dJ11_highSurrogate_5068e_1 : decode cJ11_highSurrogate_5068e 1 = .ok (.bipush 10, 2) := by decide +kernel
theorem dJ11_highSurrogate_5068e_3 : decode cJ11_highSurrogate_5068e 3 = .ok (.iushr, 1) := by decide +kernel
theorem dJ11_highSurrogate_5068e_4 : decode cJ11_highSurrogate_5068e 4 = .ok (.ldc 110, 2) := by decide +kernel
theorem dJ11_highSurrogate_5068e_6 : decode cJ11_highSurrogate_5068e 6 = .ok (.iadd, 1) := by decide +kernel
theorem dJ11_highSurrogate_5068e_7 : decode cJ11_highSurrogate_5068e 7 = .ok (.i2c, 1) := by decide +kernel
theorem dJ11_highSurrogate_5068e_8 : decode cJ11_highSurrogate_5068e 8 = .ok (.ireturn, 1) := by decide +kernel
theorem dJ11_lowSurrogate_5068e_0 : decode cJ11_lowSurrogate_5068e 0 = .ok (.iload_n 0, 1) := by decide +kernel
theorem dJ11_lowSurrogate_5068e_1 : decode cJ11_lowSurrogate_5068e 1 = .ok (.sipush 1023, 3) := by decide +kernel
theorem dJ11_lowSurrogate_5068e_4 : decode cJ11_lowSurrogate_5068e 4 = .ok (.iand, 1) := by decide +kernel
theorem dJ11_lowSurrogate_5068e_5 : decode cJ11_lowSurrogate_5068e 5 = .ok (.ldc 76, 2) := by decide +kernel
theorem dJ11_lowSurrogate_5068e_7 : decode cJ11_lowSurrogate_5068e 7 = .ok (.iadd, 1) := by decide +kernel
theorem dJ11_lowSurrogate_5068e_8 : decode cJ11_lowSurrogate_5068e 8 = .ok (.i2c, 1) := by decide +kernel
theorem dJ11_lowSurrogate_5068e_9 : decode cJ11_lowSurrogate_5068e 9 = .ok (.ireturn, 1) := by decide +kernel
theorem dJ9_max_7cf53_0 : decode cJ9_max_7cf53 0 = .ok (.iload_n 0, 1) := by decide +kernel
theorem dJ9_max_7cf53_1 : decode cJ9_max_7cf53 1 = .ok (.iload_n 1, 1) := by decide +kernel
theorem dJ9_max_7cf53_2 : decode cJ9_max_7cf53 2 = .ok (.if_icmp .lt 7, 3) := by decide +kernel
theorem dJ9_max_7cf53_5 : decode cJ9_max_7cf53 5 = .ok (.iload_n 0, 1) := by decide +kernel
theorem dJ9_max_7cf53_6 : decode cJ9_max_7cf53 6 = .ok (.goto 4, 3) := by decide +kernel
theorem dJ9_max_7cf53_9 : decode cJ9_max_7cf53 9 = .ok (.iload_n 1, 1) := by decide +kernel
theorem dJ9_max_7cf53_10 : decode cJ9_max_7cf53 10 = .ok (.ireturn, 1) := by decide +kernel
theorem dJ9_max_f86c9_0 : decode cJ9_max_f86c9 0 = .ok (.lload_n 0, 1) := by decide +kernel
theorem dJ9_max_f86c9_1 : decode cJ9_max_f86c9 1 = .ok (.lload_n 2, 1) := by decide +kernel
theorem dJ9_max_f86c9_2 : decode cJ9_max_f86c9 2 = .ok (.lcmp, 1) := by decide +kernel
theorem dJ9_max_f86c9_3 : decode cJ9_max_f86c9 3 = .ok (.ifCond .lt 7, 3) := by decide +kernel
theorem dJ9_max_f86c9_6 : decode cJ9_max_f86c9 6 = .ok (.lload_n 0, 1) := by decide +kernel
theorem dJ9_max_f86c9_7 : decode cJ9_max_f86c9 7 = .ok (.goto 4, 3) := by decide +kernel
theorem dJ9_max_f86c9_10 : decode cJ9_max_f86c9 10 = .ok (.lload_n 2, 1) := by decide +kernel
theorem dJ9_max_f86c9_11 : decode cJ9_max_f86c9 11 = .ok (.lreturn, 1) := by decide +kernel
theorem dJ9_min_7cf53_0 : decode cJ9_min_7cf53 0 = .ok (.iload_n 0, 1) := by decide +kernel
theorem dJ9_min_7cf53_1 : decode cJ9_min_7cf53 1 = .ok (.iload_n 1, 1) := by decide +kernel
theorem dJ9_min_7cf53_2 : decode cJ9_min_7cf53 2 = .ok (.if_icmp .gt 7, 3) := by decide +kernel
theorem dJ9_min_7cf53_5 : decode cJ9_min_7cf53 5 = .ok (.iload_n 0, 1) := by decide +kernel
theorem dJ9_min_7cf53_6 : decode cJ9_min_7cf53 6 = .ok (.goto 4, 3) := by decide +kernel
theorem dJ9_min_7cf53_9 : decode cJ9_min_7cf53 9 = .ok (.iload_n 1, 1) := by decide +kernel
theorem dJ9_min_7cf53_10 : decode cJ9_min_7cf53 10 = .ok (.ireturn, 1) := by decide +kernel
theorem dJ0_length_8abf5_0 : decode cJ0_length_8abf5 0 = .ok (.aload_n 0, 1) := by decide +kernel
theorem dJ0_length_8abf5_1 : decode cJ0_length_8abf5 1 = .ok (.getfield 9, 3) := by decide +kernel
theorem dJ0_length_8abf5_4 : decode cJ0_length_8abf5 4 = .ok (.arraylength, 1) := by decide +kernel
theorem dJ0_length_8abf5_5 : decode cJ0_length_8abf5 5 = .ok (.aload_n 0, 1) := by decide +kernel
theorem dJ0_length_8abf5_6 : decode cJ0_length_8abf5 6 = .ok (.invokevirtual 335, 3) := by decide +kernel
theorem dJ0_length_8abf5_9 : decode cJ0_length_8abf5 9 = .ok (.ishr, 1) := by decide +kernel
theorem dJ0_length_8abf5_10 : decode cJ0_length_8abf5 10 = .ok (.ireturn, 1) := by decide +kernel
theorem dJ0_indexOf_0f7a4_0 : decode cJ0_indexOf_0f7a4 0 = .ok (.aload_n 0, 1) := by decide +kernel
theorem dJ0_indexOf_0f7a4_1 : decode cJ0_indexOf_0f7a4 1 = .ok (.iload_n 1, 1) := by decide +kernel
theorem dJ0_indexOf_0f7a4_2 : decode cJ0_indexOf_0f7a4 2 = .ok (.iconst 0, 1) := by decide +kernel
theorem dJ0_indexOf_0f7a4_3 : decode cJ0_indexOf_0f7a4 3 = .ok (.invokevirtual 633, 3) := by decide +kernel
theorem dJ0_indexOf_0f7a4_6 : decode cJ0_indexOf_0f7a4 6 = .ok (.ireturn, 1) := by decide +kernel
theorem dJ0_indexOf_7cf53_0 : decode cJ0_indexOf_7cf53 0 = .ok (.aload_n 0, 1) := by decide +kernel
theorem dJ0_indexOf_7cf53_1 : decode cJ0_indexOf_7cf53 1 = .ok (.invokevirtual 492, 3) := by decide +kernel
theorem dJ0_indexOf_7cf53_4 : decode cJ0_indexOf_7cf53 4 = .ok (.ifCond .eq 19, 3) := by decide +kernel
theorem dJ0_indexOf_7cf53_7 : decode cJ0_indexOf_7cf53 7 = .ok (.aload_n 0, 1) := by decide +kernel
theorem dJ0_indexOf_7cf53_8 : decode cJ0_indexOf_7cf53 8 = .ok (.getfield 9, 3) := by decide +kernel
theorem dJ0_indexOf_7cf53_11 : decode cJ0_indexOf_7cf53 11 = .ok (.iload_n 1, 1) := by decide +kernel
theorem dJ0_indexOf_7cf53_12 : decode cJ0_indexOf_7cf53 12 = .ok (.iload_n 2, 1) := by decide +kernel
theorem dJ0_indexOf_7cf53_13 : decode cJ0_indexOf_7cf53 13 = .ok (.aload_n 0, 1) := by decide +kernel
theorem dJ0_indexOf_7cf53_14 : decode cJ0_indexOf_7cf53 14 = .ok (.invokevirtual 505, 3) := by decide +kernel
theorem dJ0_indexOf_7cf53_17 : decode cJ0_indexOf_7cf53 17 = .ok (.invokestatic 637, 3) := by decide +kernel
theorem dJ0_indexOf_7cf53_20 : decode cJ0_indexOf_7cf53 20 = .ok (.goto 16, 3) := by decide +kernel
theorem dJ0_indexOf_7cf53_23 : decode cJ0_indexOf_7cf53 23 = .ok (.aload_n 0, 1) := by decide +kernel
theorem dJ0_indexOf_7cf53_24 : decode cJ0_indexOf_7cf53 24 = .ok (.getfield 9, 3) := by decide +kernel
theorem dJ0_indexOf_7cf53_27 : decode cJ0_indexOf_7cf53 27 = .ok (.iload_n 1, 1) := by decide +kernel
theorem dJ0_indexOf_7cf53_28 : decode cJ0_indexOf_7cf53 28 = .ok (.iload_n 2, 1) := by decide +kernel
theorem dJ0_indexOf_7cf53_29 : decode cJ0_indexOf_7cf53 29 = .ok (.aload_n 0, 1) := by decide +kernel
theorem dJ0_indexOf_7cf53_30 : decode cJ0_indexOf_7cf53 30 = .ok (.invokevirtual 505, 3) := by decide +kernel
theorem dJ0_indexOf_7cf53_33 : decode cJ0_indexOf_7cf53 33 = .ok (.invokestatic 640, 3) := by decide +kernel
theorem dJ0_indexOf_7cf53_36 : decode cJ0_indexOf_7cf53 36 = .ok (.ireturn, 1) := by decide +kernel
theorem dJ0_coder_7d493_0 : decode cJ0_coder_7d493 0 = .ok (.getstatic 38, 3) := by decide +kernel
theorem dJ0_coder_7d493_3 : decode cJ0_coder_7d493 3 = .ok (.ifCond .eq 10, 3) := by decide +kernel
theorem dJ0_coder_7d493_6 : decode cJ0_coder_7d493 6 = .ok (.aload_n 0, 1) := by decide +kernel
theorem dJ0_coder_7d493_7 : decode cJ0_coder_7d493 7 = .ok (.getfield 15, 3) := by decide +kernel
theorem dJ0_coder_7d493_10 : decode cJ0_coder_7d493 10 = .ok (.goto 4, 3) := by decide +kernel
theorem dJ0_coder_7d493_13 : decode cJ0_coder_7d493 13 = .ok (.iconst 1, 1) := by decide +kernel
theorem dJ0_coder_7d493_14 : decode cJ0_coder_7d493 14 = .ok (.ireturn, 1) := by decide +kernel
theorem dJ0_isLatin1_aae02_0 : decode cJ0_isLatin1_aae02 0 = .ok (.getstatic 38, 3) := by decide +kernel
theorem dJ0_isLatin1_aae02_3 : decode cJ0_isLatin1_aae02 3 = .ok (.ifCond .eq 14, 3) := by decide +kernel
theorem dJ0_isLatin1_aae02_6 : decode cJ0_isLatin1_aae02 6 = .ok (.aload_n 0, 1) := by decide +kernel
theorem dJ0_isLatin1_aae02_7 : decode cJ0_isLatin1_aae02 7 = .ok (.getfield 15, 3) := by decide +kernel
theorem dJ0_isLatin1_aae02_10 : decode cJ0_isLatin1_aae02 10 = .ok (.ifCond .ne 7, 3) := by decide +kernel
theorem dJ0_isLatin1_aae02_13 : decode cJ0_isLatin1_aae02 13 = .ok (.iconst 1, 1) := by decide +kernel
theorem dJ0_isLatin1_aae02_14 : decode cJ0_isLatin1_aae02 14 = .ok (.goto 4, 3) := by decide +kernel
theorem dJ0_isLatin1_aae02_17 : decode cJ0_isLatin1_aae02 17 = .ok (.iconst 0, 1) := by decide +kernel
theorem dJ0_isLatin1_aae02_18 : decode cJ0_isLatin1_aae02 18 = .ok (.ireturn, 1) := by decide +kernel
theorem dJ0_checkBoundsBeginEnd_23922_0 : decode cJ0_checkBoundsBeginEnd_23922 0 = .ok (.iload_n 0, 1) := by decide +kernel
theorem dJ0_checkBoundsBeginEnd_23922_1 : decode cJ0_checkBoundsBeginEnd_23922 1 = .ok (.iload_n 1, 1) := by decide +kernel
theorem dJ0_checkBoundsBeginEnd_23922_2 : decode cJ0_checkBoundsBeginEnd_23922 2 = .ok (.iload_n 2, 1) := by decide +kernel
theorem dJ0_checkBoundsBeginEnd_23922_3 : decode cJ0_checkBoundsBeginEnd_23922 3 = .ok (.getstatic 1053, 3) := by decide +kernel
theorem dJ0_checkBoundsBeginEnd_23922_6 : decode cJ0_checkBoundsBeginEnd_23922 6 = .ok (.invokestatic 1062, 3) := by decide +kernel
theorem dJ0_checkBoundsBeginEnd_23922_9 : decode cJ0_checkBoundsBeginEnd_23922 9 = .ok (.pop, 1) := by decide +kernel
theorem dJ0_checkBoundsBeginEnd_23922_10 : decode cJ0_checkBoundsBeginEnd_23922 10 = .ok (.return_, 1) := by decide +kernel
theorem dJ1_canEncode_9a6ad_0 : decode cJ1_canEncode_9a6ad 0 = .ok (.iload_n 0, 1) := by decide +kernel
theorem dJ1_canEncode_9a6ad_1 : decode cJ1_canEncode_9a6ad 1 = .ok (.ifCond .lt 14, 3) := by decide +kernel
theorem dJ1_canEncode_9a6ad_4 : decode cJ1_canEncode_9a6ad 4 = .ok (.iload_n 0, 1) := by decide +kernel
theorem dJ1_canEncode_9a6ad_5 : decode cJ1_canEncode_9a6ad 5 = .ok (.sipush 255, 3) := by decide +kernel
theorem dJ1_canEncode_9a6ad_8 : decode cJ1_canEncode_9a6ad 8 = .ok (.if_icmp .gt 7, 3) := by decide +kernel
theorem dJ1_canEncode_9a6ad_11 : decode cJ1_canEncode_9a6ad 11 = .ok (.iconst 1, 1) := by decide +kernel
theorem dJ1_canEncode_9a6ad_12 : decode cJ1_canEncode_9a6ad 12 = .ok (.goto 4, 3) := by decide +kernel
theorem dJ1_canEncode_9a6ad_15 : decode cJ1_canEncode_9a6ad 15 = .ok (.iconst 0, 1) := by decide +kernel
theorem dJ1_canEncode_9a6ad_16 : decode cJ1_canEncode_9a6ad 16 = .ok (.ireturn, 1) := by decide +kernel
theorem dJ1_indexOf_4cfef_0 : decode cJ1_indexOf_4cfef 0 = .ok (.iload_n 1, 1) := by decide +kernel
theorem dJ1_indexOf_4cfef_1 : decode cJ1_indexOf_4cfef 1 = .ok (.invokestatic 88, 3) := by decide +kernel
theorem dJ1_indexOf_4cfef_4 : decode cJ1_indexOf_4cfef 4 = .ok (.ifCond .ne 5, 3) := by decide +kernel
theorem dJ1_indexOf_4cfef_7 : decode cJ1_indexOf_4cfef 7 = .ok (.iconst (-1), 1) := by decide +kernel
theorem dJ1_indexOf_4cfef_8 : decode cJ1_indexOf_4cfef 8 = .ok (.ireturn, 1) := by decide +kernel
theorem dJ1_indexOf_4cfef_9 : decode cJ1_indexOf_4cfef 9 = .ok (.iload_n 2, 1) := by decide +kernel
theorem dJ1_indexOf_4cfef_10 : decode cJ1_indexOf_4cfef 10 = .ok (.iconst 0, 1) := by decide +kernel
theorem dJ1_indexOf_4cfef_11 : decode cJ1_indexOf_4cfef 11 = .ok (.invokestatic 92, 3) := by decide +kernel
theorem dJ1_indexOf_4cfef_14 : decode cJ1_indexOf_4cfef 14 = .ok (.istore_n 2, 1) := by decide +kernel
theorem dJ1_indexOf_4cfef_15 : decode cJ1_indexOf_4cfef 15 = .ok (.iload_n 3, 1) := by decide +kernel
theorem dJ1_indexOf_4cfef_16 : decode cJ1_indexOf_4cfef 16 = .ok (.aload_n 0, 1) := by decide +kernel
theorem dJ1_indexOf_4cfef_17 : decode cJ1_indexOf_4cfef 17 = .ok (.arraylength, 1) := by decide +kernel
theorem dJ1_indexOf_4cfef_18 : decode cJ1_indexOf_4cfef 18 = .ok (.invokestatic 38, 3) := by decide +kernel
theorem dJ1_indexOf_4cfef_21 : decode cJ1_indexOf_4cfef 21 = .ok (.istore_n 3, 1) := by decide +kernel
theorem dJ1_indexOf_4cfef_22 : decode cJ1_indexOf_4cfef 22 = .ok (.iload_n 2, 1) := by decide +kernel
theorem dJ1_indexOf_4cfef_23 : decode cJ1_indexOf_4cfef 23 = .ok (.iload_n 3, 1) := by decide +kernel
theorem dJ1_indexOf_4cfef_24 : decode cJ1_indexOf_4cfef 24 = .ok (.if_icmp .lt 5, 3) := by decide +kernel
theorem dJ1_indexOf_4cfef_27 : decode cJ1_indexOf_4cfef 27 = .ok (.iconst (-1), 1) := by decide +kernel
theorem dJ1_indexOf_4cfef_28 : decode cJ1_indexOf_4cfef 28 = .ok (.ireturn, 1) := by decide +kernel
theorem dJ1_indexOf_4cfef_29 : decode cJ1_indexOf_4cfef 29 = .ok (.aload_n 0, 1) := by decide +kernel
theorem dJ1_indexOf_4cfef_30 : decode cJ1_indexOf_4cfef 30 = .ok (.iload_n 1, 1) := by decide +kernel
theorem dJ1_indexOf_4cfef_31 : decode cJ1_indexOf_4cfef 31 = .ok (.iload_n 2, 1) := by decide +kernel
theorem dJ1_indexOf_4cfef_32 : decode cJ1_indexOf_4cfef 32 = .ok (.iload_n 3, 1) := by decide +kernel
theorem dJ1_indexOf_4cfef_33 : decode cJ1_indexOf_4cfef 33 = .ok (.invokestatic 95, 3) := by decide +kernel
theorem dJ1_indexOf_4cfef_36 : decode cJ1_indexOf_4cfef 36 = .ok (.ireturn, 1) := by decide +kernel
theorem dJ1_indexOfChar_4cfef_0 : decode cJ1_indexOfChar_4cfef 0 = .ok (.iload_n 1, 1) := by decide +kernel
theorem dJ1_indexOfChar_4cfef_1 : decode cJ1_indexOfChar_4cfef 1 = .ok (.i2b, 1) := by decide +kernel
theorem dJ1_indexOfChar_4cfef_2 : decode cJ1_indexOfChar_4cfef 2 = .ok (.istore 4, 2) := by decide +kernel
theorem dJ1_indexOfChar_4cfef_4 : decode cJ1_indexOfChar_4cfef 4 = .ok (.iload_n 2, 1) := by decide +kernel
theorem dJ1_indexOfChar_4cfef_5 : decode cJ1_indexOfChar_4cfef 5 = .ok (.istore 5, 2) := by decide +kernel
theorem dJ1_indexOfChar_4cfef_7 : decode cJ1_indexOfChar_4cfef 7 = .ok (.iload 5, 2) := by decide +kernel
theorem dJ1_indexOfChar_4cfef_9 : decode cJ1_indexOfChar_4cfef 9 = .ok (.iload_n 3, 1) := by decide +kernel
theorem dJ1_indexOfChar_4cfef_10 : decode cJ1_indexOfChar_4cfef 10 = .ok (.if_icmp .ge 21, 3) := by decide +kernel
theorem dJ1_indexOfChar_4cfef_13 : decode cJ1_indexOfChar_4cfef 13 = .ok (.aload_n 0, 1) := by decide +kernel
theorem dJ1_indexOfChar_4cfef_14 : decode cJ1_indexOfChar_4cfef 14 = .ok (.iload 5, 2) := by decide +kernel
theorem dJ1_indexOfChar_4cfef_16 : decode cJ1_indexOfChar_4cfef 16 = .ok (.baload, 1) := by decide +kernel
theorem dJ1_indexOfChar_4cfef_17 : decode cJ1_indexOfChar_4cfef 17 = .ok (.iload 4, 2) := by decide +kernel
theorem dJ1_indexOfChar_4cfef_19 : decode cJ1_indexOfChar_4cfef 19 = .ok (.if_icmp .ne 6, 3) := by decide +kernel
theorem dJ1_indexOfChar_4cfef_22 : decode cJ1_indexOfChar_4cfef 22 = .ok (.iload 5, 2) := by decide +kernel
theorem dJ1_indexOfChar_4cfef_24 : decode cJ1_indexOfChar_4cfef 24 = .ok (.ireturn, 1) := by decide +kernel
theorem dJ1_indexOfChar_4cfef_25 : decode cJ1_indexOfChar_4cfef 25 = .ok (.iinc 5 1, 3) := by decide +kernel
theorem dJ1_indexOfChar_4cfef_28 : decode cJ1_indexOfChar_4cfef 28 = .ok (.goto (-21), 3) := by decide +kernel
theorem dJ1_indexOfChar_4cfef_31 : decode cJ1_indexOfChar_4cfef 31 = .ok (.iconst (-1), 1) := by decide +kernel
theorem dJ1_indexOfChar_4cfef_32 : decode cJ1_indexOfChar_4cfef 32 = .ok (.ireturn, 1) := by decide +kernel
theorem dJ2_getChar_3b067_0 : decode cJ2_getChar_3b067 0 = .ok (.getstatic 44, 3) := by decide +kernel
theorem dJ2_getChar_3b067_3 : decode cJ2_getChar_3b067 3 = .ok (.ifCond .ne 25, 3) := by decide +kernel
theorem dJ2_getChar_3b067_6 : decode cJ2_getChar_3b067 6 = .ok (.iload_n 1, 1) := by decide +kernel
theorem dJ2_getChar_3b067_7 : decode cJ2_getChar_3b067 7 = .ok (.ifCond .lt 11, 3) := by decide +kernel
theorem dJ2_getChar_3b067_10 : decode cJ2_getChar_3b067 10 = .ok (.iload_n 1, 1) := by decide +kernel
theorem dJ2_getChar_3b067_11 : decode cJ2_getChar_3b067 11 = .ok (.aload_n 0, 1) := by decide +kernel
theorem dJ2_getChar_3b067_12 : decode cJ2_getChar_3b067 12 = .ok (.invokestatic 48, 3) := by decide +kernel
theorem dJ2_getChar_3b067_15 : decode cJ2_getChar_3b067 15 = .ok (.if_icmp .lt 13, 3) := by decide +kernel
theorem dJ2_getChar_3b067_18 : decode cJ2_getChar_3b067 18 = .ok (.new 52, 3) := by decide +kernel
theorem dJ2_getChar_3b067_21 : decode cJ2_getChar_3b067 21 = .ok (.dup, 1) := by decide +kernel
theorem dJ2_getChar_3b067_22 : decode cJ2_getChar_3b067 22 = .ok (.ldc 54, 2) := by decide +kernel
theorem dJ2_getChar_3b067_24 : decode cJ2_getChar_3b067 24 = .ok (.invokespecial 56, 3) := by decide +kernel
theorem dJ2_getChar_3b067_27 : decode cJ2_getChar_3b067 27 = .ok (.athrow, 1) := by decide +kernel
theorem dJ2_getChar_3b067_28 : decode cJ2_getChar_3b067 28 = .ok (.iload_n 1, 1) := by decide +kernel
theorem dJ2_getChar_3b067_29 : decode cJ2_getChar_3b067 29 = .ok (.iconst 1, 1) := by decide +kernel
theorem dJ2_getChar_3b067_30 : decode cJ2_getChar_3b067 30 = .ok (.ishl, 1) := by decide +kernel
theorem dJ2_getChar_3b067_31 : decode cJ2_getChar_3b067 31 = .ok (.istore_n 1, 1) := by decide +kernel
theorem dJ2_getChar_3b067_32 : decode cJ2_getChar_3b067 32 = .ok (.aload_n 0, 1) := by decide +kernel
theorem dJ2_getChar_3b067_33 : decode cJ2_getChar_3b067 33 = .ok (.iload_n 1, 1) := by decide +kernel
theorem dJ2_getChar_3b067_34 : decode cJ2_getChar_3b067 34 = .ok (.iinc 1 1, 3) := by decide +kernel
theorem dJ2_getChar_3b067_37 : decode cJ2_getChar_3b067 37 = .ok (.baload, 1) := by decide +kernel
theorem dJ2_getChar_3b067_38 : decode cJ2_getChar_3b067 38 = .ok (.sipush 255, 3) := by decide +kernel
theorem dJ2_getChar_3b067_41 : decode cJ2_getChar_3b067 41 = .ok (.iand, 1) := by decide +kernel
theorem dJ2_getChar_3b067_42 : decode cJ2_getChar_3b067 42 = .ok (.getstatic 59, 3) := by decide +kernel
theorem dJ2_getChar_3b067_45 : decode cJ2_getChar_3b067 45 = .ok (.ishl, 1) := by decide +kernel
theorem dJ2_getChar_3b067_46 : decode cJ2_getChar_3b067 46 = .ok (.aload_n 0, 1) := by decide +kernel
theorem dJ2_getChar_3b067_47 : decode cJ2_getChar_3b067 47 = .ok (.iload_n 1, 1) := by decide +kernel
theorem dJ2_getChar_3b067_48 : decode cJ2_getChar_3b067 48 = .ok (.baload, 1) := by decide +kernel
theorem dJ2_getChar_3b067_49 : decode cJ2_getChar_3b067 49 = .ok (.sipush 255, 3) := by decide +kernel
theorem dJ2_getChar_3b067_52 : decode cJ2_getChar_3b067 52 = .ok (.iand, 1) := by decide +kernel
theorem dJ2_getChar_3b067_53 : decode cJ2_getChar_3b067 53 = .ok (.getstatic 63, 3) := by decide +kernel
theorem dJ2_getChar_3b067_56 : decode cJ2_getChar_3b067 56 = .ok (.ishl, 1) := by decide +kernel
theorem dJ2_getChar_3b067_57 : decode cJ2_getChar_3b067 57 = .ok (.ior, 1) := by decide +kernel
theorem dJ2_getChar_3b067_58 : decode cJ2_getChar_3b067 58 = .ok (.i2c, 1) := by decide +kernel
theorem dJ2_getChar_3b067_59 : decode cJ2_getChar_3b067 59 = .ok (.ireturn, 1) := by decide +kernel
theorem dJ2_length_9d52b_0 : decode cJ2_length_9d52b 0 = .ok (.aload_n 0, 1) := by decide +kernel
theorem dJ2_length_9d52b_1 : decode cJ2_length_9d52b 1 = .ok (.arraylength, 1) := by decide +kernel
theorem dJ2_length_9d52b_2 : decode cJ2_length_9d52b 2 = .ok (.iconst 1, 1) := by decide +kernel
theorem dJ2_length_9d52b_3 : decode cJ2_length_9d52b 3 = .ok (.ishr, 1) := by decide +kernel
theorem dJ2_length_9d52b_4 : decode cJ2_length_9d52b 4 = .ok (.ireturn, 1) := by decide +kernel
theorem dJ2_indexOf_4cfef_0 : decode cJ2_indexOf_4cfef 0 = .ok (.iload_n 2, 1) := by decide +kernel
theorem dJ2_indexOf_4cfef_1 : decode cJ2_indexOf_4cfef 1 = .ok (.iconst 0, 1) := by decide +kernel
theorem dJ2_indexOf_4cfef_2 : decode cJ2_indexOf_4cfef 2 = .ok (.invokestatic 224, 3) := by decide +kernel
theorem dJ2_indexOf_4cfef_5 : decode cJ2_indexOf_4cfef 5 = .ok (.istore_n 2, 1) := by decide +kernel
theorem dJ2_indexOf_4cfef_6 : decode cJ2_indexOf_4cfef 6 = .ok (.iload_n 3, 1) := by decide +kernel
theorem dJ2_indexOf_4cfef_7 : decode cJ2_indexOf_4cfef 7 = .ok (.aload_n 0, 1) := by decide +kernel
theorem dJ2_indexOf_4cfef_8 : decode cJ2_indexOf_4cfef 8 = .ok (.arraylength, 1) := by decide +kernel
theorem dJ2_indexOf_4cfef_9 : decode cJ2_indexOf_4cfef 9 = .ok (.iconst 1, 1) := by decide +kernel
theorem dJ2_indexOf_4cfef_10 : decode cJ2_indexOf_4cfef 10 = .ok (.ishr, 1) := by decide +kernel
theorem dJ2_indexOf_4cfef_11 : decode cJ2_indexOf_4cfef 11 = .ok (.invokestatic 183, 3) := by decide +kernel
theorem dJ2_indexOf_4cfef_14 : decode cJ2_indexOf_4cfef 14 = .ok (.istore_n 3, 1) := by decide +kernel
theorem dJ2_indexOf_4cfef_15 : decode cJ2_indexOf_4cfef 15 = .ok (.iload_n 2, 1) := by decide +kernel
theorem dJ2_indexOf_4cfef_16 : decode cJ2_indexOf_4cfef 16 = .ok (.iload_n 3, 1) := by decide +kernel
theorem dJ2_indexOf_4cfef_17 : decode cJ2_indexOf_4cfef 17 = .ok (.if_icmp .lt 5, 3) := by decide +kernel
theorem dJ2_indexOf_4cfef_20 : decode cJ2_indexOf_4cfef 20 = .ok (.iconst (-1), 1) := by decide +kernel
theorem dJ2_indexOf_4cfef_21 : decode cJ2_indexOf_4cfef 21 = .ok (.ireturn, 1) := by decide +kernel
theorem dJ2_indexOf_4cfef_22 : decode cJ2_indexOf_4cfef 22 = .ok (.iload_n 1, 1) := by decide +kernel
theorem dJ2_indexOf_4cfef_23 : decode cJ2_indexOf_4cfef 23 = .ok (.ldc 227, 2) := by decide +kernel
theorem dJ2_indexOf_4cfef_25 : decode cJ2_indexOf_4cfef 25 = .ok (.if_icmp .ge 11, 3) := by decide +kernel
theorem dJ2_indexOf_4cfef_28 : decode cJ2_indexOf_4cfef 28 = .ok (.aload_n 0, 1) := by decide +kernel
theorem dJ2_indexOf_4cfef_29 : decode cJ2_indexOf_4cfef 29 = .ok (.iload_n 1, 1) := by decide +kernel
theorem dJ2_indexOf_4cfef_30 : decode cJ2_indexOf_4cfef 30 = .ok (.iload_n 2, 1) := by decide +kernel
theorem dJ2_indexOf_4cfef_31 : decode cJ2_indexOf_4cfef 31 = .ok (.iload_n 3, 1) := by decide +kernel
theorem dJ2_indexOf_4cfef_32 : decode cJ2_indexOf_4cfef 32 = .ok (.invokestatic 228, 3) := by decide +kernel
theorem dJ2_indexOf_4cfef_35 : decode cJ2_indexOf_4cfef 35 = .ok (.ireturn, 1) := by decide +kernel
theorem dJ2_indexOf_4cfef_36 : decode cJ2_indexOf_4cfef 36 = .ok (.aload_n 0, 1) := by decide +kernel
theorem dJ2_indexOf_4cfef_37 : decode cJ2_indexOf_4cfef 37 = .ok (.iload_n 1, 1) := by decide +kernel
theorem dJ2_indexOf_4cfef_38 : decode cJ2_indexOf_4cfef 38 = .ok (.iload_n 2, 1) := by decide +kernel
theorem dJ2_indexOf_4cfef_39 : decode cJ2_indexOf_4cfef 39 = .ok (.iload_n 3, 1) := by decide +kernel
theorem dJ2_indexOf_4cfef_40 : decode cJ2_indexOf_4cfef 40 = .ok (.invokestatic 232, 3) := by decide +kernel
theorem dJ2_indexOf_4cfef_43 : decode cJ2_indexOf_4cfef 43 = .ok (.ireturn, 1) := by decide +kernel
theorem dJ2_indexOfChar_4cfef_0 : decode cJ2_indexOfChar_4cfef 0 = .ok (.iload_n 2, 1) := by decide +kernel
theorem dJ2_indexOfChar_4cfef_1 : decode cJ2_indexOfChar_4cfef 1 = .ok (.iload_n 3, 1) := by decide +kernel
theorem dJ2_indexOfChar_4cfef_2 : decode cJ2_indexOfChar_4cfef 2 = .ok (.aload_n 0, 1) := by decide +kernel
theorem dJ2_indexOfChar_4cfef_3 : decode cJ2_indexOfChar_4cfef 3 = .ok (.invokestatic 96, 3) := by decide +kernel
theorem dJ2_indexOfChar_4cfef_6 : decode cJ2_indexOfChar_4cfef 6 = .ok (.aload_n 0, 1) := by decide +kernel
theorem dJ2_indexOfChar_4cfef_7 : decode cJ2_indexOfChar_4cfef 7 = .ok (.iload_n 1, 1) := by decide +kernel
theorem dJ2_indexOfChar_4cfef_8 : decode cJ2_indexOfChar_4cfef 8 = .ok (.iload_n 2, 1) := by decide +kernel
theorem dJ2_indexOfChar_4cfef_9 : decode cJ2_indexOfChar_4cfef 9 = .ok (.iload_n 3, 1) := by decide +kernel
theorem dJ2_indexOfChar_4cfef_10 : decode cJ2_indexOfChar_4cfef 10 = .ok (.invokestatic 244, 3) := by decide +kernel
theorem dJ2_indexOfChar_4cfef_13 : decode cJ2_indexOfChar_4cfef 13 = .ok (.ireturn, 1) := by decide +kernel
theorem dJ2_indexOfCharUnsafe_4cfef_0 : decode cJ2_indexOfCharUnsafe_4cfef 0 = .ok (.iload_n 2, 1) := by decide +kernel
theorem dJ2_indexOfCharUnsafe_4cfef_1 : decode cJ2_indexOfCharUnsafe_4cfef 1 = .ok (.istore 4, 2) := by decide +kernel
theorem dJ2_indexOfCharUnsafe_4cfef_3 : decode cJ2_indexOfCharUnsafe_4cfef 3 = .ok (.iload 4, 2) := by decide +kernel
theorem dJ2_indexOfCharUnsafe_4cfef_5 : decode cJ2_indexOfCharUnsafe_4cfef 5 = .ok (.iload_n 3, 1) := by decide +kernel
theorem dJ2_indexOfCharUnsafe_4cfef_6 : decode cJ2_indexOfCharUnsafe_4cfef 6 = .ok (.if_icmp .ge 22, 3) := by decide +kernel
theorem dJ2_indexOfCharUnsafe_4cfef_9 : decode cJ2_indexOfCharUnsafe_4cfef 9 = .ok (.aload_n 0, 1) := by decide +kernel
theorem dJ2_indexOfCharUnsafe_4cfef_10 : decode cJ2_indexOfCharUnsafe_4cfef 10 = .ok (.iload 4, 2) := by decide +kernel
theorem dJ2_indexOfCharUnsafe_4cfef_12 : decode cJ2_indexOfCharUnsafe_4cfef 12 = .ok (.invokestatic 71, 3) := by decide +kernel
theorem dJ2_indexOfCharUnsafe_4cfef_15 : decode cJ2_indexOfCharUnsafe_4cfef 15 = .ok (.iload_n 1, 1) := by decide +kernel
theorem dJ2_indexOfCharUnsafe_4cfef_16 : decode cJ2_indexOfCharUnsafe_4cfef 16 = .ok (.if_icmp .ne 6, 3) := by decide +kernel
theorem dJ2_indexOfCharUnsafe_4cfef_19 : decode cJ2_indexOfCharUnsafe_4cfef 19 = .ok (.iload 4, 2) := by decide +kernel
theorem dJ2_indexOfCharUnsafe_4cfef_21 : decode cJ2_indexOfCharUnsafe_4cfef 21 = .ok (.ireturn, 1) := by decide +kernel
theorem dJ2_indexOfCharUnsafe_4cfef_22 : decode cJ2_indexOfCharUnsafe_4cfef 22 = .ok (.iinc 4 1, 3) := by decide +kernel
theorem dJ2_indexOfCharUnsafe_4cfef_25 : decode cJ2_indexOfCharUnsafe_4cfef 25 = .ok (.goto (-22), 3) := by decide +kernel
theorem dJ2_indexOfCharUnsafe_4cfef_28 : decode cJ2_indexOfCharUnsafe_4cfef 28 = .ok (.iconst (-1), 1) := by decide +kernel
theorem dJ2_indexOfCharUnsafe_4cfef_29 : decode cJ2_indexOfCharUnsafe_4cfef 29 = .ok (.ireturn, 1) := by decide +kernel
theorem dJ2_indexOfSupplementary_4cfef_0 : decode cJ2_indexOfSupplementary_4cfef 0 = .ok (.iload_n 1, 1) := by decide +kernel
theorem dJ2_indexOfSupplementary_4cfef_1 : decode cJ2_indexOfSupplementary_4cfef 1 = .ok (.invokestatic 164, 3) := by decide +kernel
theorem dJ2_indexOfSupplementary_4cfef_4 : decode cJ2_indexOfSupplementary_4cfef 4 = .ok (.ifCond .eq 65, 3) := by decide +kernel
theorem dJ2_indexOfSupplementary_4cfef_7 : decode cJ2_indexOfSupplementary_4cfef 7 = .ok (.iload_n 1, 1) := by decide +kernel
theorem dJ2_indexOfSupplementary_4cfef_8 : decode cJ2_indexOfSupplementary_4cfef 8 = .ok (.invokestatic 157, 3) := by decide +kernel
theorem dJ2_indexOfSupplementary_4cfef_11 : decode cJ2_indexOfSupplementary_4cfef 11 = .ok (.istore 4, 2) := by decide +kernel
theorem dJ2_indexOfSupplementary_4cfef_13 : decode cJ2_indexOfSupplementary_4cfef 13 = .ok (.iload_n 1, 1) := by decide +kernel
theorem dJ2_indexOfSupplementary_4cfef_14 : decode cJ2_indexOfSupplementary_4cfef 14 = .ok (.invokestatic 161, 3) := by decide +kernel
theorem dJ2_indexOfSupplementary_4cfef_17 : decode cJ2_indexOfSupplementary_4cfef 17 = .ok (.istore 5, 2) := by decide +kernel
theorem dJ2_indexOfSupplementary_4cfef_19 : decode cJ2_indexOfSupplementary_4cfef 19 = .ok (.iload_n 2, 1) := by decide +kernel
theorem dJ2_indexOfSupplementary_4cfef_20 : decode cJ2_indexOfSupplementary_4cfef 20 = .ok (.iload_n 3, 1) := by decide +kernel
theorem dJ2_indexOfSupplementary_4cfef_21 : decode cJ2_indexOfSupplementary_4cfef 21 = .ok (.aload_n 0, 1) := by decide +kernel
theorem dJ2_indexOfSupplementary_4cfef_22 : decode cJ2_indexOfSupplementary_4cfef 22 = .ok (.invokestatic 96, 3) := by decide +kernel
theorem dJ2_indexOfSupplementary_4cfef_25 : decode cJ2_indexOfSupplementary_4cfef 25 = .ok (.iload_n 2, 1) := by decide +kernel
theorem dJ2_indexOfSupplementary_4cfef_26 : decode cJ2_indexOfSupplementary_4cfef 26 = .ok (.istore 6, 2) := by decide +kernel
theorem dJ2_indexOfSupplementary_4cfef_28 : decode cJ2_indexOfSupplementary_4cfef 28 = .ok (.iload 6, 2) := by decide +kernel
theorem dJ2_indexOfSupplementary_4cfef_30 : decode cJ2_indexOfSupplementary_4cfef 30 = .ok (.iload_n 3, 1) := by decide +kernel
theorem dJ2_indexOfSupplementary_4cfef_31 : decode cJ2_indexOfSupplementary_4cfef 31 = .ok (.iconst 1, 1) := by decide +kernel
theorem dJ2_indexOfSupplementary_4cfef_32 : decode cJ2_indexOfSupplementary_4cfef 32 = .ok (.isub, 1) := by decide +kernel
theorem dJ2_indexOfSupplementary_4cfef_33 : decode cJ2_indexOfSupplementary_4cfef 33 = .ok (.if_icmp .ge 36, 3) := by decide +kernel
theorem dJ2_indexOfSupplementary_4cfef_36 : decode cJ2_indexOfSupplementary_4cfef 36 = .ok (.aload_n 0, 1) := by decide +kernel
theorem dJ2_indexOfSupplementary_4cfef_37 : decode cJ2_indexOfSupplementary_4cfef 37 = .ok (.iload 6, 2) := by decide +kernel
theorem dJ2_indexOfSupplementary_4cfef_39 : decode cJ2_indexOfSupplementary_4cfef 39 = .ok (.invokestatic 71, 3) := by decide +kernel
theorem dJ2_indexOfSupplementary_4cfef_42 : decode cJ2_indexOfSupplementary_4cfef 42 = .ok (.iload 4, 2) := by decide +kernel
theorem dJ2_indexOfSupplementary_4cfef_44 : decode cJ2_indexOfSupplementary_4cfef 44 = .ok (.if_icmp .ne 19, 3) := by decide +kernel
theorem dJ2_indexOfSupplementary_4cfef_47 : decode cJ2_indexOfSupplementary_4cfef 47 = .ok (.aload_n 0, 1) := by decide +kernel
theorem dJ2_indexOfSupplementary_4cfef_48 : decode cJ2_indexOfSupplementary_4cfef 48 = .ok (.iload 6, 2) := by decide +kernel
theorem dJ2_indexOfSupplementary_4cfef_50 : decode cJ2_indexOfSupplementary_4cfef 50 = .ok (.iconst 1, 1) := by decide +kernel
theorem dJ2_indexOfSupplementary_4cfef_51 : decode cJ2_indexOfSupplementary_4cfef 51 = .ok (.iadd, 1) := by decide +kernel
theorem dJ2_indexOfSupplementary_4cfef_52 : decode cJ2_indexOfSupplementary_4cfef 52 = .ok (.invokestatic 71, 3) := by decide +kernel
theorem dJ2_indexOfSupplementary_4cfef_55 : decode cJ2_indexOfSupplementary_4cfef 55 = .ok (.iload 5, 2) := by decide +kernel
theorem dJ2_indexOfSupplementary_4cfef_57 : decode cJ2_indexOfSupplementary_4cfef 57 = .ok (.if_icmp .ne 6, 3) := by decide +kernel
theorem dJ2_indexOfSupplementary_4cfef_60 : decode cJ2_indexOfSupplementary_4cfef 60 = .ok (.iload 6, 2) := by decide +kernel
theorem dJ2_indexOfSupplementary_4cfef_62 : decode cJ2_indexOfSupplementary_4cfef 62 = .ok (.ireturn, 1) := by decide +kernel
theorem dJ2_indexOfSupplementary_4cfef_63 : decode cJ2_indexOfSupplementary_4cfef 63 = .ok (.iinc 6 1, 3) := by decide +kernel
theorem dJ2_indexOfSupplementary_4cfef_66 : decode cJ2_indexOfSupplementary_4cfef 66 = .ok (.goto (-38), 3) := by decide +kernel
theorem dJ2_indexOfSupplementary_4cfef_69 : decode cJ2_indexOfSupplementary_4cfef 69 = .ok (.iconst (-1), 1) := by decide +kernel
theorem dJ2_indexOfSupplementary_4cfef_70 : decode cJ2_indexOfSupplementary_4cfef 70 = .ok (.ireturn, 1) := by decide +kernel
theorem dJ2_checkBoundsBeginEnd_d044e_0 : decode cJ2_checkBoundsBeginEnd_d044e 0 = .ok (.iload_n 0, 1) := by decide +kernel
theorem dJ2_checkBoundsBeginEnd_d044e_1 : decode cJ2_checkBoundsBeginEnd_d044e 1 = .ok (.iload_n 1, 1) := by decide +kernel
theorem dJ2_checkBoundsBeginEnd_d044e_2 : decode cJ2_checkBoundsBeginEnd_d044e 2 = .ok (.aload_n 2, 1) := by decide +kernel
theorem dJ2_checkBoundsBeginEnd_d044e_3 : decode cJ2_checkBoundsBeginEnd_d044e 3 = .ok (.invokestatic 48, 3) := by decide +kernel
theorem dJ2_checkBoundsBeginEnd_d044e_6 : decode cJ2_checkBoundsBeginEnd_d044e 6 = .ok (.invokestatic 241, 3) := by decide +kernel
theorem dJ2_checkBoundsBeginEnd_d044e_9 : decode cJ2_checkBoundsBeginEnd_d044e 9 = .ok (.return_, 1) := by decide +kernel
theorem dJ3_checkFromToIndex_8c36e_0 : decode cJ3_checkFromToIndex_8c36e 0 = .ok (.iload_n 0, 1) := by decide +kernel
theorem dJ3_checkFromToIndex_8c36e_1 : decode cJ3_checkFromToIndex_8c36e 1 = .ok (.ifCond .lt 13, 3) := by decide +kernel
theorem dJ3_checkFromToIndex_8c36e_4 : decode cJ3_checkFromToIndex_8c36e 4 = .ok (.iload_n 0, 1) := by decide +kernel
theorem dJ3_checkFromToIndex_8c36e_5 : decode cJ3_checkFromToIndex_8c36e 5 = .ok (.iload_n 1, 1) := by decide +kernel
theorem dJ3_checkFromToIndex_8c36e_6 : decode cJ3_checkFromToIndex_8c36e 6 = .ok (.if_icmp .gt 8, 3) := by decide +kernel
theorem dJ3_checkFromToIndex_8c36e_9 : decode cJ3_checkFromToIndex_8c36e 9 = .ok (.iload_n 1, 1) := by decide +kernel
theorem dJ3_checkFromToIndex_8c36e_10 : decode cJ3_checkFromToIndex_8c36e 10 = .ok (.iload_n 2, 1) := by decide +kernel
theorem dJ3_checkFromToIndex_8c36e_11 : decode cJ3_checkFromToIndex_8c36e 11 = .ok (.if_icmp .le 11, 3) := by decide +kernel
theorem dJ3_checkFromToIndex_8c36e_14 : decode cJ3_checkFromToIndex_8c36e 14 = .ok (.aload_n 3, 1) := by decide +kernel
theorem dJ3_checkFromToIndex_8c36e_15 : decode cJ3_checkFromToIndex_8c36e 15 = .ok (.iload_n 0, 1) := by decide +kernel
theorem dJ3_checkFromToIndex_8c36e_16 : decode cJ3_checkFromToIndex_8c36e 16 = .ok (.iload_n 1, 1) := by decide +kernel
theorem dJ3_checkFromToIndex_8c36e_17 : decode cJ3_checkFromToIndex_8c36e 17 = .ok (.iload_n 2, 1) := by decide +kernel
theorem dJ3_checkFromToIndex_8c36e_18 : decode cJ3_checkFromToIndex_8c36e 18 = .ok (.invokestatic 99, 3) := by decide +kernel
theorem dJ3_checkFromToIndex_8c36e_21 : decode cJ3_checkFromToIndex_8c36e 21 = .ok (.athrow, 1) := by decide +kernel
theorem dJ3_checkFromToIndex_8c36e_22 : decode cJ3_checkFromToIndex_8c36e 22 = .ok (.iload_n 0, 1) := by decide +kernel
theorem dJ3_checkFromToIndex_8c36e_23 : decode cJ3_checkFromToIndex_8c36e 23 = .ok (.ireturn, 1) := by decide +kernel
theorem dL_law_0 : decode cL_law 0 = .ok (.new 7, 3) := by decide +kernel
theorem dL_law_3 : decode cL_law 3 = .ok (.dup, 1) := by decide +kernel
theorem dL_law_4 : decode cL_law 4 = .ok (.invokespecial 9, 3) := by decide +kernel
theorem dL_law_7 : decode cL_law 7 = .ok (.astore_n 1, 1) := by decide +kernel
theorem dL_law_8 : decode cL_law 8 = .ok (.new 10, 3) := by decide +kernel
theorem dL_law_11 : decode cL_law 11 = .ok (.dup, 1) := by decide +kernel
theorem dL_law_12 : decode cL_law 12 = .ok (.invokespecial 12, 3) := by decide +kernel
theorem dL_law_15 : decode cL_law 15 = .ok (.astore_n 2, 1) := by decide +kernel
theorem dL_law_16 : decode cL_law 16 = .ok (.iconst 0, 1) := by decide +kernel
theorem dL_law_17 : decode cL_law 17 = .ok (.istore_n 3, 1) := by decide +kernel
theorem dL_law_18 : decode cL_law 18 = .ok (.iload_n 3, 1) := by decide +kernel
theorem dL_law_19 : decode cL_law 19 = .ok (.aload_n 0, 1) := by decide +kernel
theorem dL_law_20 : decode cL_law 20 = .ok (.arraylength, 1) := by decide +kernel
theorem dL_law_21 : decode cL_law 21 = .ok (.bipush 6, 2) := by decide +kernel
theorem dL_law_23 : decode cL_law 23 = .ok (.isub, 1) := by decide +kernel
theorem dL_law_24 : decode cL_law 24 = .ok (.if_icmp .gt 1436, 3) := by decide +kernel
theorem dL_law_27 : decode cL_law 27 = .ok (.aload_n 0, 1) := by decide +kernel
theorem dL_law_28 : decode cL_law 28 = .ok (.iload_n 3, 1) := by decide +kernel
theorem dL_law_29 : decode cL_law 29 = .ok (.iaload, 1) := by decide +kernel
theorem dL_law_30 : decode cL_law 30 = .ok (.bipush 63, 2) := by decide +kernel
theorem dL_law_32 : decode cL_law 32 = .ok (.iand, 1) := by decide +kernel
theorem dL_law_33 : decode cL_law 33 = .ok (.tableswitch 1421 0 32 #[147, 200, 243, 306, 329, 362, 405, 428, 471, 504, 547, 600, 654, 708, 761, 804, 867, 901, 924, 947, 960, 1003, 1036, 1060, 1073, 1116, 1149, 1182, 1215, 1258, 1302, 1365, 1398], 147) := by decide +kernel
theorem dL_law_180 : decode cL_law 180 = .ok (.aload_n 1, 1) := by decide +kernel
theorem dL_law_181 : decode cL_law 181 = .ok (.aload_n 0, 1) := by decide +kernel
theorem dL_law_182 : decode cL_law 182 = .ok (.iload_n 3, 1) := by decide +kernel
theorem dL_law_183 : decode cL_law 183 = .ok (.iconst 1, 1) := by decide +kernel
theorem dL_law_184 : decode cL_law 184 = .ok (.iadd, 1) := by decide +kernel
theorem dL_law_185 : decode cL_law 185 = .ok (.iaload, 1) := by decide +kernel
theorem dL_law_186 : decode cL_law 186 = .ok (.aload_n 0, 1) := by decide +kernel
theorem dL_law_187 : decode cL_law 187 = .ok (.iload_n 3, 1) := by decide +kernel
theorem dL_law_188 : decode cL_law 188 = .ok (.iconst 2, 1) := by decide +kernel
theorem dL_law_189 : decode cL_law 189 = .ok (.iadd, 1) := by decide +kernel
theorem dL_law_190 : decode cL_law 190 = .ok (.iaload, 1) := by decide +kernel
theorem dL_law_191 : decode cL_law 191 = .ok (.aload_n 0, 1) := by decide +kernel
theorem dL_law_192 : decode cL_law 192 = .ok (.iload_n 3, 1) := by decide +kernel
theorem dL_law_193 : decode cL_law 193 = .ok (.iconst 3, 1) := by decide +kernel
theorem dL_law_194 : decode cL_law 194 = .ok (.iadd, 1) := by decide +kernel
theorem dL_law_195 : decode cL_law 195 = .ok (.iaload, 1) := by decide +kernel
theorem dL_law_196 : decode cL_law 196 = .ok (.aload_n 0, 1) := by decide +kernel
theorem dL_law_197 : decode cL_law 197 = .ok (.iload_n 3, 1) := by decide +kernel
theorem dL_law_198 : decode cL_law 198 = .ok (.iconst 4, 1) := by decide +kernel
theorem dL_law_199 : decode cL_law 199 = .ok (.iadd, 1) := by decide +kernel
theorem dL_law_200 : decode cL_law 200 = .ok (.iaload, 1) := by decide +kernel
theorem dL_law_201 : decode cL_law 201 = .ok (.invokevirtual 13, 3) := by decide +kernel
theorem dL_law_204 : decode cL_law 204 = .ok (.aload_n 2, 1) := by decide +kernel
theorem dL_law_205 : decode cL_law 205 = .ok (.aload_n 0, 1) := by decide +kernel
theorem dL_law_206 : decode cL_law 206 = .ok (.iload_n 3, 1) := by decide +kernel
theorem dL_law_207 : decode cL_law 207 = .ok (.iconst 1, 1) := by decide +kernel
theorem dL_law_208 : decode cL_law 208 = .ok (.iadd, 1) := by decide +kernel
theorem dL_law_209 : decode cL_law 209 = .ok (.iaload, 1) := by decide +kernel
theorem dL_law_210 : decode cL_law 210 = .ok (.aload_n 0, 1) := by decide +kernel
theorem dL_law_211 : decode cL_law 211 = .ok (.iload_n 3, 1) := by decide +kernel
theorem dL_law_212 : decode cL_law 212 = .ok (.iconst 2, 1) := by decide +kernel
theorem dL_law_213 : decode cL_law 213 = .ok (.iadd, 1) := by decide +kernel
theorem dL_law_214 : decode cL_law 214 = .ok (.iaload, 1) := by decide +kernel
theorem dL_law_215 : decode cL_law 215 = .ok (.aload_n 0, 1) := by decide +kernel
theorem dL_law_216 : decode cL_law 216 = .ok (.iload_n 3, 1) := by decide +kernel
theorem dL_law_217 : decode cL_law 217 = .ok (.iconst 3, 1) := by decide +kernel
theorem dL_law_218 : decode cL_law 218 = .ok (.iadd, 1) := by decide +kernel
theorem dL_law_219 : decode cL_law 219 = .ok (.iaload, 1) := by decide +kernel
theorem dL_law_220 : decode cL_law 220 = .ok (.aload_n 0, 1) := by decide +kernel
theorem dL_law_221 : decode cL_law 221 = .ok (.iload_n 3, 1) := by decide +kernel
theorem dL_law_222 : decode cL_law 222 = .ok (.iconst 4, 1) := by decide +kernel
theorem dL_law_223 : decode cL_law 223 = .ok (.iadd, 1) := by decide +kernel
theorem dL_law_224 : decode cL_law 224 = .ok (.iaload, 1) := by decide +kernel
theorem dL_law_225 : decode cL_law 225 = .ok (.invokevirtual 17, 3) := by decide +kernel
theorem dL_law_228 : decode cL_law 228 = .ok (.if_icmp .eq 1226, 3) := by decide +kernel
theorem dL_law_231 : decode cL_law 231 = .ok (.iconst 0, 1) := by decide +kernel
theorem dL_law_232 : decode cL_law 232 = .ok (.ireturn, 1) := by decide +kernel
theorem dL_law_233 : decode cL_law 233 = .ok (.aload_n 1, 1) := by decide +kernel
theorem dL_law_234 : decode cL_law 234 = .ok (.aload_n 0, 1) := by decide +kernel
theorem dL_law_235 : decode cL_law 235 = .ok (.iload_n 3, 1) := by decide +kernel
theorem dL_law_236 : decode cL_law 236 = .ok (.iconst 1, 1) := by decide +kernel
theorem dL_law_237 : decode cL_law 237 = .ok (.iadd, 1) := by decide +kernel
theorem dL_law_238 : decode cL_law 238 = .ok (.iaload, 1) := by decide +kernel
theorem dL_law_239 : decode cL_law 239 = .ok (.aload_n 0, 1) := by decide +kernel
theorem dL_law_240 : decode cL_law 240 = .ok (.iload_n 3, 1) := by decide +kernel
theorem dL_law_241 : decode cL_law 241 = .ok (.iconst 2, 1) := by decide +kernel
theorem dL_law_242 : decode cL_law 242 = .ok (.iadd, 1) := by decide +kernel
theorem dL_law_243 : decode cL_law 243 = .ok (.iaload, 1) := by decide +kernel
theorem dL_law_244 : decode cL_law 244 = .ok (.aload_n 0, 1) := by decide +kernel
theorem dL_law_245 : decode cL_law 245 = .ok (.iload_n 3, 1) := by decide +kernel
theorem dL_law_246 : decode cL_law 246 = .ok (.iconst 3, 1) := by decide +kernel
theorem dL_law_247 : decode cL_law 247 = .ok (.iadd, 1) := by decide +kernel
theorem dL_law_248 : decode cL_law 248 = .ok (.iaload, 1) := by decide +kernel
theorem dL_law_249 : decode cL_law 249 = .ok (.invokevirtual 18, 3) := by decide +kernel
theorem dL_law_252 : decode cL_law 252 = .ok (.aload_n 2, 1) := by decide +kernel
theorem dL_law_253 : decode cL_law 253 = .ok (.aload_n 0, 1) := by decide +kernel
theorem dL_law_254 : decode cL_law 254 = .ok (.iload_n 3, 1) := by decide +kernel
theorem dL_law_255 : decode cL_law 255 = .ok (.iconst 1, 1) := by decide +kernel
theorem dL_law_256 : decode cL_law 256 = .ok (.iadd, 1) := by decide +kernel
theorem dL_law_257 : decode cL_law 257 = .ok (.iaload, 1) := by decide +kernel
theorem dL_law_258 : decode cL_law 258 = .ok (.aload_n 0, 1) := by decide +kernel
theorem dL_law_259 : decode cL_law 259 = .ok (.iload_n 3, 1) := by decide +kernel
theorem dL_law_260 : decode cL_law 260 = .ok (.iconst 2, 1) := by decide +kernel
theorem dL_law_261 : decode cL_law 261 = .ok (.iadd, 1) := by decide +kernel
theorem dL_law_262 : decode cL_law 262 = .ok (.iaload, 1) := by decide +kernel
theorem dL_law_263 : decode cL_law 263 = .ok (.aload_n 0, 1) := by decide +kernel
theorem dL_law_264 : decode cL_law 264 = .ok (.iload_n 3, 1) := by decide +kernel
theorem dL_law_265 : decode cL_law 265 = .ok (.iconst 3, 1) := by decide +kernel
theorem dL_law_266 : decode cL_law 266 = .ok (.iadd, 1) := by decide +kernel
theorem dL_law_267 : decode cL_law 267 = .ok (.iaload, 1) := by decide +kernel
theorem dL_law_268 : decode cL_law 268 = .ok (.invokevirtual 22, 3) := by decide +kernel
theorem dL_law_271 : decode cL_law 271 = .ok (.if_icmp .eq 1183, 3) := by decide +kernel
theorem dL_law_274 : decode cL_law 274 = .ok (.iconst 0, 1) := by decide +kernel
theorem dL_law_275 : decode cL_law 275 = .ok (.ireturn, 1) := by decide +kernel
theorem dL_law_276 : decode cL_law 276 = .ok (.aload_n 1, 1) := by decide +kernel
theorem dL_law_277 : decode cL_law 277 = .ok (.aload_n 0, 1) := by decide +kernel
theorem dL_law_278 : decode cL_law 278 = .ok (.iload_n 3, 1) := by decide +kernel
theorem dL_law_279 : decode cL_law 279 = .ok (.iconst 1, 1) := by decide +kernel
theorem dL_law_280 : decode cL_law 280 = .ok (.iadd, 1) := by decide +kernel
theorem dL_law_281 : decode cL_law 281 = .ok (.iaload, 1) := by decide +kernel
theorem dL_law_282 : decode cL_law 282 = .ok (.aload_n 0, 1) := by decide +kernel
theorem dL_law_283 : decode cL_law 283 = .ok (.iload_n 3, 1) := by decide +kernel
theorem dL_law_284 : decode cL_law 284 = .ok (.iconst 2, 1) := by decide +kernel
theorem dL_law_285 : decode cL_law 285 = .ok (.iadd, 1) := by decide +kernel
theorem dL_law_286 : decode cL_law 286 = .ok (.iaload, 1) := by decide +kernel
theorem dL_law_287 : decode cL_law 287 = .ok (.aload_n 0, 1) := by decide +kernel
theorem dL_law_288 : decode cL_law 288 = .ok (.iload_n 3, 1) := by decide +kernel
theorem dL_law_289 : decode cL_law 289 = .ok (.iconst 3, 1) := by decide +kernel
theorem dL_law_290 : decode cL_law 290 = .ok (.iadd, 1) := by decide +kernel
theorem dL_law_291 : decode cL_law 291 = .ok (.iaload, 1) := by decide +kernel
theorem dL_law_292 : decode cL_law 292 = .ok (.aload_n 0, 1) := by decide +kernel
theorem dL_law_293 : decode cL_law 293 = .ok (.iload_n 3, 1) := by decide +kernel
theorem dL_law_294 : decode cL_law 294 = .ok (.iconst 4, 1) := by decide +kernel
theorem dL_law_295 : decode cL_law 295 = .ok (.iadd, 1) := by decide +kernel
theorem dL_law_296 : decode cL_law 296 = .ok (.iaload, 1) := by decide +kernel
theorem dL_law_297 : decode cL_law 297 = .ok (.aload_n 0, 1) := by decide +kernel
theorem dL_law_298 : decode cL_law 298 = .ok (.iload_n 3, 1) := by decide +kernel
theorem dL_law_299 : decode cL_law 299 = .ok (.iconst 5, 1) := by decide +kernel
theorem dL_law_300 : decode cL_law 300 = .ok (.iadd, 1) := by decide +kernel
theorem dL_law_301 : decode cL_law 301 = .ok (.iaload, 1) := by decide +kernel
theorem dL_law_302 : decode cL_law 302 = .ok (.invokevirtual 23, 3) := by decide +kernel
theorem dL_law_305 : decode cL_law 305 = .ok (.aload_n 2, 1) := by decide +kernel
theorem dL_law_306 : decode cL_law 306 = .ok (.aload_n 0, 1) := by decide +kernel
theorem dL_law_307 : decode cL_law 307 = .ok (.iload_n 3, 1) := by decide +kernel
theorem dL_law_308 : decode cL_law 308 = .ok (.iconst 1, 1) := by decide +kernel
theorem dL_law_309 : decode cL_law 309 = .ok (.iadd, 1) := by decide +kernel
theorem dL_law_310 : decode cL_law 310 = .ok (.iaload, 1) := by decide +kernel
theorem dL_law_311 : decode cL_law 311 = .ok (.aload_n 0, 1) := by decide +kernel
theorem dL_law_312 : decode cL_law 312 = .ok (.iload_n 3, 1) := by decide +kernel
theorem dL_law_313 : decode cL_law 313 = .ok (.iconst 2, 1) := by decide +kernel
theorem dL_law_314 : decode cL_law 314 = .ok (.iadd, 1) := by decide +kernel
theorem dL_law_315 : decode cL_law 315 = .ok (.iaload, 1) := by decide +kernel
theorem dL_law_316 : decode cL_law 316 = .ok (.aload_n 0, 1) := by decide +kernel
theorem dL_law_317 : decode cL_law 317 = .ok (.iload_n 3, 1) := by decide +kernel
theorem dL_law_318 : decode cL_law 318 = .ok (.iconst 3, 1) := by decide +kernel
theorem dL_law_319 : decode cL_law 319 = .ok (.iadd, 1) := by decide +kernel
theorem dL_law_320 : decode cL_law 320 = .ok (.iaload, 1) := by decide +kernel
theorem dL_law_321 : decode cL_law 321 = .ok (.aload_n 0, 1) := by decide +kernel
theorem dL_law_322 : decode cL_law 322 = .ok (.iload_n 3, 1) := by decide +kernel
theorem dL_law_323 : decode cL_law 323 = .ok (.iconst 4, 1) := by decide +kernel
theorem dL_law_324 : decode cL_law 324 = .ok (.iadd, 1) := by decide +kernel
theorem dL_law_325 : decode cL_law 325 = .ok (.iaload, 1) := by decide +kernel
theorem dL_law_326 : decode cL_law 326 = .ok (.aload_n 0, 1) := by decide +kernel
theorem dL_law_327 : decode cL_law 327 = .ok (.iload_n 3, 1) := by decide +kernel
theorem dL_law_328 : decode cL_law 328 = .ok (.iconst 5, 1) := by decide +kernel
theorem dL_law_329 : decode cL_law 329 = .ok (.iadd, 1) := by decide +kernel
theorem dL_law_330 : decode cL_law 330 = .ok (.iaload, 1) := by decide +kernel
theorem dL_law_331 : decode cL_law 331 = .ok (.invokevirtual 27, 3) := by decide +kernel
theorem dL_law_334 : decode cL_law 334 = .ok (.if_icmp .eq 1120, 3) := by decide +kernel
theorem dL_law_337 : decode cL_law 337 = .ok (.iconst 0, 1) := by decide +kernel
theorem dL_law_338 : decode cL_law 338 = .ok (.ireturn, 1) := by decide +kernel
theorem dL_law_339 : decode cL_law 339 = .ok (.aload_n 1, 1) := by decide +kernel
theorem dL_law_340 : decode cL_law 340 = .ok (.aload_n 0, 1) := by decide +kernel
theorem dL_law_341 : decode cL_law 341 = .ok (.iload_n 3, 1) := by decide +kernel
theorem dL_law_342 : decode cL_law 342 = .ok (.iconst 1, 1) := by decide +kernel
theorem dL_law_343 : decode cL_law 343 = .ok (.iadd, 1) := by decide +kernel
theorem dL_law_344 : decode cL_law 344 = .ok (.iaload, 1) := by decide +kernel
theorem dL_law_345 : decode cL_law 345 = .ok (.invokevirtual 28, 3) := by decide +kernel
theorem dL_law_348 : decode cL_law 348 = .ok (.aload_n 2, 1) := by decide +kernel
theorem dL_law_349 : decode cL_law 349 = .ok (.aload_n 0, 1) := by decide +kernel
theorem dL_law_350 : decode cL_law 350 = .ok (.iload_n 3, 1) := by decide +kernel
theorem dL_law_351 : decode cL_law 351 = .ok (.iconst 1, 1) := by decide +kernel
theorem dL_law_352 : decode cL_law 352 = .ok (.iadd, 1) := by decide +kernel
theorem dL_law_353 : decode cL_law 353 = .ok (.iaload, 1) := by decide +kernel
theorem dL_law_354 : decode cL_law 354 = .ok (.invokevirtual 32, 3) := by decide +kernel
theorem dL_law_357 : decode cL_law 357 = .ok (.if_icmp .eq 1097, 3) := by decide +kernel
theorem dL_law_360 : decode cL_law 360 = .ok (.iconst 0, 1) := by decide +kernel
theorem dL_law_361 : decode cL_law 361 = .ok (.ireturn, 1) := by decide +kernel
theorem dL_law_362 : decode cL_law 362 = .ok (.aload_n 1, 1) := by decide +kernel
theorem dL_law_363 : decode cL_law 363 = .ok (.aload_n 0, 1) := by decide +kernel
theorem dL_law_364 : decode cL_law 364 = .ok (.iload_n 3, 1) := by decide +kernel
theorem dL_law_365 : decode cL_law 365 = .ok (.iconst 1, 1) := by decide +kernel
theorem dL_law_366 : decode cL_law 366 = .ok (.iadd, 1) := by decide +kernel
theorem dL_law_367 : decode cL_law 367 = .ok (.iaload, 1) := by decide +kernel
theorem dL_law_368 : decode cL_law 368 = .ok (.aload_n 0, 1) := by decide +kernel
theorem dL_law_369 : decode cL_law 369 = .ok (.iload_n 3, 1) := by decide +kernel
theorem dL_law_370 : decode cL_law 370 = .ok (.iconst 2, 1) := by decide +kernel
theorem dL_law_371 : decode cL_law 371 = .ok (.iadd, 1) := by decide +kernel
theorem dL_law_372 : decode cL_law 372 = .ok (.iaload, 1) := by decide +kernel
theorem dL_law_373 : decode cL_law 373 = .ok (.invokevirtual 33, 3) := by decide +kernel
theorem dL_law_376 : decode cL_law 376 = .ok (.aload_n 2, 1) := by decide +kernel
theorem dL_law_377 : decode cL_law 377 = .ok (.aload_n 0, 1) := by decide +kernel
theorem dL_law_378 : decode cL_law 378 = .ok (.iload_n 3, 1) := by decide +kernel
theorem dL_law_379 : decode cL_law 379 = .ok (.iconst 1, 1) := by decide +kernel
theorem dL_law_380 : decode cL_law 380 = .ok (.iadd, 1) := by decide +kernel
theorem dL_law_381 : decode cL_law 381 = .ok (.iaload, 1) := by decide +kernel
theorem dL_law_382 : decode cL_law 382 = .ok (.aload_n 0, 1) := by decide +kernel
theorem dL_law_383 : decode cL_law 383 = .ok (.iload_n 3, 1) := by decide +kernel
theorem dL_law_384 : decode cL_law 384 = .ok (.iconst 2, 1) := by decide +kernel
theorem dL_law_385 : decode cL_law 385 = .ok (.iadd, 1) := by decide +kernel
theorem dL_law_386 : decode cL_law 386 = .ok (.iaload, 1) := by decide +kernel
theorem dL_law_387 : decode cL_law 387 = .ok (.invokevirtual 37, 3) := by decide +kernel
theorem dL_law_390 : decode cL_law 390 = .ok (.if_icmp .eq 1064, 3) := by decide +kernel
theorem dL_law_393 : decode cL_law 393 = .ok (.iconst 0, 1) := by decide +kernel
theorem dL_law_394 : decode cL_law 394 = .ok (.ireturn, 1) := by decide +kernel
theorem dL_law_395 : decode cL_law 395 = .ok (.aload_n 1, 1) := by decide +kernel
theorem dL_law_396 : decode cL_law 396 = .ok (.aload_n 0, 1) := by decide +kernel
theorem dL_law_397 : decode cL_law 397 = .ok (.iload_n 3, 1) := by decide +kernel
theorem dL_law_398 : decode cL_law 398 = .ok (.iconst 1, 1) := by decide +kernel
theorem dL_law_399 : decode cL_law 399 = .ok (.iadd, 1) := by decide +kernel
theorem dL_law_400 : decode cL_law 400 = .ok (.iaload, 1) := by decide +kernel
theorem dL_law_401 : decode cL_law 401 = .ok (.aload_n 0, 1) := by decide +kernel
theorem dL_law_402 : decode cL_law 402 = .ok (.iload_n 3, 1) := by decide +kernel
theorem dL_law_403 : decode cL_law 403 = .ok (.iconst 2, 1) := by decide +kernel
theorem dL_law_404 : decode cL_law 404 = .ok (.iadd, 1) := by decide +kernel
theorem dL_law_405 : decode cL_law 405 = .ok (.iaload, 1) := by decide +kernel
theorem dL_law_406 : decode cL_law 406 = .ok (.aload_n 0, 1) := by decide +kernel
theorem dL_law_407 : decode cL_law 407 = .ok (.iload_n 3, 1) := by decide +kernel
theorem dL_law_408 : decode cL_law 408 = .ok (.iconst 3, 1) := by decide +kernel
theorem dL_law_409 : decode cL_law 409 = .ok (.iadd, 1) := by decide +kernel
theorem dL_law_410 : decode cL_law 410 = .ok (.iaload, 1) := by decide +kernel
theorem dL_law_411 : decode cL_law 411 = .ok (.invokevirtual 38, 3) := by decide +kernel
theorem dL_law_414 : decode cL_law 414 = .ok (.aload_n 2, 1) := by decide +kernel
theorem dL_law_415 : decode cL_law 415 = .ok (.aload_n 0, 1) := by decide +kernel
theorem dL_law_416 : decode cL_law 416 = .ok (.iload_n 3, 1) := by decide +kernel
theorem dL_law_417 : decode cL_law 417 = .ok (.iconst 1, 1) := by decide +kernel
theorem dL_law_418 : decode cL_law 418 = .ok (.iadd, 1) := by decide +kernel
theorem dL_law_419 : decode cL_law 419 = .ok (.iaload, 1) := by decide +kernel
theorem dL_law_420 : decode cL_law 420 = .ok (.aload_n 0, 1) := by decide +kernel
theorem dL_law_421 : decode cL_law 421 = .ok (.iload_n 3, 1) := by decide +kernel
theorem dL_law_422 : decode cL_law 422 = .ok (.iconst 2, 1) := by decide +kernel
theorem dL_law_423 : decode cL_law 423 = .ok (.iadd, 1) := by decide +kernel
theorem dL_law_424 : decode cL_law 424 = .ok (.iaload, 1) := by decide +kernel
theorem dL_law_425 : decode cL_law 425 = .ok (.aload_n 0, 1) := by decide +kernel
theorem dL_law_426 : decode cL_law 426 = .ok (.iload_n 3, 1) := by decide +kernel
theorem dL_law_427 : decode cL_law 427 = .ok (.iconst 3, 1) := by decide +kernel
theorem dL_law_428 : decode cL_law 428 = .ok (.iadd, 1) := by decide +kernel
theorem dL_law_429 : decode cL_law 429 = .ok (.iaload, 1) := by decide +kernel
theorem dL_law_430 : decode cL_law 430 = .ok (.invokevirtual 41, 3) := by decide +kernel
theorem dL_law_433 : decode cL_law 433 = .ok (.if_icmp .eq 1021, 3) := by decide +kernel
theorem dL_law_436 : decode cL_law 436 = .ok (.iconst 0, 1) := by decide +kernel
theorem dL_law_437 : decode cL_law 437 = .ok (.ireturn, 1) := by decide +kernel
theorem dL_law_438 : decode cL_law 438 = .ok (.aload_n 1, 1) := by decide +kernel
theorem dL_law_439 : decode cL_law 439 = .ok (.aload_n 0, 1) := by decide +kernel
theorem dL_law_440 : decode cL_law 440 = .ok (.iload_n 3, 1) := by decide +kernel
theorem dL_law_441 : decode cL_law 441 = .ok (.iconst 1, 1) := by decide +kernel
theorem dL_law_442 : decode cL_law 442 = .ok (.iadd, 1) := by decide +kernel
theorem dL_law_443 : decode cL_law 443 = .ok (.iaload, 1) := by decide +kernel
theorem dL_law_444 : decode cL_law 444 = .ok (.invokevirtual 42, 3) := by decide +kernel
theorem dL_law_447 : decode cL_law 447 = .ok (.aload_n 2, 1) := by decide +kernel
theorem dL_law_448 : decode cL_law 448 = .ok (.aload_n 0, 1) := by decide +kernel
theorem dL_law_449 : decode cL_law 449 = .ok (.iload_n 3, 1) := by decide +kernel
theorem dL_law_450 : decode cL_law 450 = .ok (.iconst 1, 1) := by decide +kernel
theorem dL_law_451 : decode cL_law 451 = .ok (.iadd, 1) := by decide +kernel
theorem dL_law_452 : decode cL_law 452 = .ok (.iaload, 1) := by decide +kernel
theorem dL_law_453 : decode cL_law 453 = .ok (.invokevirtual 45, 3) := by decide +kernel
theorem dL_law_456 : decode cL_law 456 = .ok (.if_icmp .eq 998, 3) := by decide +kernel
theorem dL_law_459 : decode cL_law 459 = .ok (.iconst 0, 1) := by decide +kernel
theorem dL_law_460 : decode cL_law 460 = .ok (.ireturn, 1) := by decide +kernel
theorem dL_law_461 : decode cL_law 461 = .ok (.aload_n 1, 1) := by decide +kernel
theorem dL_law_462 : decode cL_law 462 = .ok (.aload_n 0, 1) := by decide +kernel
theorem dL_law_463 : decode cL_law 463 = .ok (.iload_n 3, 1) := by decide +kernel
theorem dL_law_464 : decode cL_law 464 = .ok (.iconst 1, 1) := by decide +kernel
theorem dL_law_465 : decode cL_law 465 = .ok (.iadd, 1) := by decide +kernel
theorem dL_law_466 : decode cL_law 466 = .ok (.iaload, 1) := by decide +kernel
theorem dL_law_467 : decode cL_law 467 = .ok (.aload_n 0, 1) := by decide +kernel
theorem dL_law_468 : decode cL_law 468 = .ok (.iload_n 3, 1) := by decide +kernel
theorem dL_law_469 : decode cL_law 469 = .ok (.iconst 2, 1) := by decide +kernel
theorem dL_law_470 : decode cL_law 470 = .ok (.iadd, 1) := by decide +kernel
theorem dL_law_471 : decode cL_law 471 = .ok (.iaload, 1) := by decide +kernel
theorem dL_law_472 : decode cL_law 472 = .ok (.aload_n 0, 1) := by decide +kernel
theorem dL_law_473 : decode cL_law 473 = .ok (.iload_n 3, 1) := by decide +kernel
theorem dL_law_474 : decode cL_law 474 = .ok (.iconst 3, 1) := by decide +kernel
theorem dL_law_475 : decode cL_law 475 = .ok (.iadd, 1) := by decide +kernel
theorem dL_law_476 : decode cL_law 476 = .ok (.iaload, 1) := by decide +kernel
theorem dL_law_477 : decode cL_law 477 = .ok (.invokevirtual 46, 3) := by decide +kernel
theorem dL_law_480 : decode cL_law 480 = .ok (.aload_n 2, 1) := by decide +kernel
theorem dL_law_481 : decode cL_law 481 = .ok (.aload_n 0, 1) := by decide +kernel
theorem dL_law_482 : decode cL_law 482 = .ok (.iload_n 3, 1) := by decide +kernel
theorem dL_law_483 : decode cL_law 483 = .ok (.iconst 1, 1) := by decide +kernel
theorem dL_law_484 : decode cL_law 484 = .ok (.iadd, 1) := by decide +kernel
theorem dL_law_485 : decode cL_law 485 = .ok (.iaload, 1) := by decide +kernel
theorem dL_law_486 : decode cL_law 486 = .ok (.aload_n 0, 1) := by decide +kernel
theorem dL_law_487 : decode cL_law 487 = .ok (.iload_n 3, 1) := by decide +kernel
theorem dL_law_488 : decode cL_law 488 = .ok (.iconst 2, 1) := by decide +kernel
theorem dL_law_489 : decode cL_law 489 = .ok (.iadd, 1) := by decide +kernel
theorem dL_law_490 : decode cL_law 490 = .ok (.iaload, 1) := by decide +kernel
theorem dL_law_491 : decode cL_law 491 = .ok (.aload_n 0, 1) := by decide +kernel
theorem dL_law_492 : decode cL_law 492 = .ok (.iload_n 3, 1) := by decide +kernel
theorem dL_law_493 : decode cL_law 493 = .ok (.iconst 3, 1) := by decide +kernel
theorem dL_law_494 : decode cL_law 494 = .ok (.iadd, 1) := by decide +kernel
theorem dL_law_495 : decode cL_law 495 = .ok (.iaload, 1) := by decide +kernel
theorem dL_law_496 : decode cL_law 496 = .ok (.invokevirtual 49, 3) := by decide +kernel
theorem dL_law_499 : decode cL_law 499 = .ok (.if_icmp .eq 955, 3) := by decide +kernel
theorem dL_law_502 : decode cL_law 502 = .ok (.iconst 0, 1) := by decide +kernel
theorem dL_law_503 : decode cL_law 503 = .ok (.ireturn, 1) := by decide +kernel
theorem dL_law_504 : decode cL_law 504 = .ok (.aload_n 1, 1) := by decide +kernel
theorem dL_law_505 : decode cL_law 505 = .ok (.aload_n 0, 1) := by decide +kernel
theorem dL_law_506 : decode cL_law 506 = .ok (.iload_n 3, 1) := by decide +kernel
theorem dL_law_507 : decode cL_law 507 = .ok (.iconst 1, 1) := by decide +kernel
theorem dL_law_508 : decode cL_law 508 = .ok (.iadd, 1) := by decide +kernel
theorem dL_law_509 : decode cL_law 509 = .ok (.iaload, 1) := by decide +kernel
theorem dL_law_510 : decode cL_law 510 = .ok (.aload_n 0, 1) := by decide +kernel
theorem dL_law_511 : decode cL_law 511 = .ok (.iload_n 3, 1) := by decide +kernel
theorem dL_law_512 : decode cL_law 512 = .ok (.iconst 2, 1) := by decide +kernel
theorem dL_law_513 : decode cL_law 513 = .ok (.iadd, 1) := by decide +kernel
theorem dL_law_514 : decode cL_law 514 = .ok (.iaload, 1) := by decide +kernel
theorem dL_law_515 : decode cL_law 515 = .ok (.invokevirtual 50, 3) := by decide +kernel
theorem dL_law_518 : decode cL_law 518 = .ok (.aload_n 2, 1) := by decide +kernel
theorem dL_law_519 : decode cL_law 519 = .ok (.aload_n 0, 1) := by decide +kernel
theorem dL_law_520 : decode cL_law 520 = .ok (.iload_n 3, 1) := by decide +kernel
theorem dL_law_521 : decode cL_law 521 = .ok (.iconst 1, 1) := by decide +kernel
theorem dL_law_522 : decode cL_law 522 = .ok (.iadd, 1) := by decide +kernel
theorem dL_law_523 : decode cL_law 523 = .ok (.iaload, 1) := by decide +kernel
theorem dL_law_524 : decode cL_law 524 = .ok (.aload_n 0, 1) := by decide +kernel
theorem dL_law_525 : decode cL_law 525 = .ok (.iload_n 3, 1) := by decide +kernel
theorem dL_law_526 : decode cL_law 526 = .ok (.iconst 2, 1) := by decide +kernel
theorem dL_law_527 : decode cL_law 527 = .ok (.iadd, 1) := by decide +kernel
theorem dL_law_528 : decode cL_law 528 = .ok (.iaload, 1) := by decide +kernel
theorem dL_law_529 : decode cL_law 529 = .ok (.invokevirtual 53, 3) := by decide +kernel
theorem dL_law_532 : decode cL_law 532 = .ok (.if_icmp .eq 922, 3) := by decide +kernel
theorem dL_law_535 : decode cL_law 535 = .ok (.iconst 0, 1) := by decide +kernel
theorem dL_law_536 : decode cL_law 536 = .ok (.ireturn, 1) := by decide +kernel
theorem dL_law_537 : decode cL_law 537 = .ok (.aload_n 1, 1) := by decide +kernel
theorem dL_law_538 : decode cL_law 538 = .ok (.aload_n 0, 1) := by decide +kernel
theorem dL_law_539 : decode cL_law 539 = .ok (.iload_n 3, 1) := by decide +kernel
theorem dL_law_540 : decode cL_law 540 = .ok (.iconst 1, 1) := by decide +kernel
theorem dL_law_541 : decode cL_law 541 = .ok (.iadd, 1) := by decide +kernel
theorem dL_law_542 : decode cL_law 542 = .ok (.iaload, 1) := by decide +kernel
theorem dL_law_543 : decode cL_law 543 = .ok (.aload_n 0, 1) := by decide +kernel
theorem dL_law_544 : decode cL_law 544 = .ok (.iload_n 3, 1) := by decide +kernel
theorem dL_law_545 : decode cL_law 545 = .ok (.iconst 2, 1) := by decide +kernel
theorem dL_law_546 : decode cL_law 546 = .ok (.iadd, 1) := by decide +kernel
theorem dL_law_547 : decode cL_law 547 = .ok (.iaload, 1) := by decide +kernel
theorem dL_law_548 : decode cL_law 548 = .ok (.aload_n 0, 1) := by decide +kernel
theorem dL_law_549 : decode cL_law 549 = .ok (.iload_n 3, 1) := by decide +kernel
theorem dL_law_550 : decode cL_law 550 = .ok (.iconst 3, 1) := by decide +kernel
theorem dL_law_551 : decode cL_law 551 = .ok (.iadd, 1) := by decide +kernel
theorem dL_law_552 : decode cL_law 552 = .ok (.iaload, 1) := by decide +kernel
theorem dL_law_553 : decode cL_law 553 = .ok (.invokevirtual 54, 3) := by decide +kernel
theorem dL_law_556 : decode cL_law 556 = .ok (.aload_n 2, 1) := by decide +kernel
theorem dL_law_557 : decode cL_law 557 = .ok (.aload_n 0, 1) := by decide +kernel
theorem dL_law_558 : decode cL_law 558 = .ok (.iload_n 3, 1) := by decide +kernel
theorem dL_law_559 : decode cL_law 559 = .ok (.iconst 1, 1) := by decide +kernel
theorem dL_law_560 : decode cL_law 560 = .ok (.iadd, 1) := by decide +kernel
theorem dL_law_561 : decode cL_law 561 = .ok (.iaload, 1) := by decide +kernel
theorem dL_law_562 : decode cL_law 562 = .ok (.aload_n 0, 1) := by decide +kernel
theorem dL_law_563 : decode cL_law 563 = .ok (.iload_n 3, 1) := by decide +kernel
theorem dL_law_564 : decode cL_law 564 = .ok (.iconst 2, 1) := by decide +kernel
theorem dL_law_565 : decode cL_law 565 = .ok (.iadd, 1) := by decide +kernel
theorem dL_law_566 : decode cL_law 566 = .ok (.iaload, 1) := by decide +kernel
theorem dL_law_567 : decode cL_law 567 = .ok (.aload_n 0, 1) := by decide +kernel
theorem dL_law_568 : decode cL_law 568 = .ok (.iload_n 3, 1) := by decide +kernel
theorem dL_law_569 : decode cL_law 569 = .ok (.iconst 3, 1) := by decide +kernel
theorem dL_law_570 : decode cL_law 570 = .ok (.iadd, 1) := by decide +kernel
theorem dL_law_571 : decode cL_law 571 = .ok (.iaload, 1) := by decide +kernel
theorem dL_law_572 : decode cL_law 572 = .ok (.invokevirtual 57, 3) := by decide +kernel
theorem dL_law_575 : decode cL_law 575 = .ok (.if_icmp .eq 879, 3) := by decide +kernel
theorem dL_law_578 : decode cL_law 578 = .ok (.iconst 0, 1) := by decide +kernel
theorem dL_law_579 : decode cL_law 579 = .ok (.ireturn, 1) := by decide +kernel
theorem dL_law_580 : decode cL_law 580 = .ok (.aload_n 1, 1) := by decide +kernel
theorem dL_law_581 : decode cL_law 581 = .ok (.aload_n 0, 1) := by decide +kernel
theorem dL_law_582 : decode cL_law 582 = .ok (.iload_n 3, 1) := by decide +kernel
theorem dL_law_583 : decode cL_law 583 = .ok (.iconst 1, 1) := by decide +kernel
theorem dL_law_584 : decode cL_law 584 = .ok (.iadd, 1) := by decide +kernel
theorem dL_law_585 : decode cL_law 585 = .ok (.iaload, 1) := by decide +kernel
theorem dL_law_586 : decode cL_law 586 = .ok (.aload_n 0, 1) := by decide +kernel
theorem dL_law_587 : decode cL_law 587 = .ok (.iload_n 3, 1) := by decide +kernel
theorem dL_law_588 : decode cL_law 588 = .ok (.iconst 2, 1) := by decide +kernel
theorem dL_law_589 : decode cL_law 589 = .ok (.iadd, 1) := by decide +kernel
theorem dL_law_590 : decode cL_law 590 = .ok (.iaload, 1) := by decide +kernel
theorem dL_law_591 : decode cL_law 591 = .ok (.aload_n 0, 1) := by decide +kernel
theorem dL_law_592 : decode cL_law 592 = .ok (.iload_n 3, 1) := by decide +kernel
theorem dL_law_593 : decode cL_law 593 = .ok (.iconst 3, 1) := by decide +kernel
theorem dL_law_594 : decode cL_law 594 = .ok (.iadd, 1) := by decide +kernel
theorem dL_law_595 : decode cL_law 595 = .ok (.iaload, 1) := by decide +kernel
theorem dL_law_596 : decode cL_law 596 = .ok (.aload_n 0, 1) := by decide +kernel
theorem dL_law_597 : decode cL_law 597 = .ok (.iload_n 3, 1) := by decide +kernel
theorem dL_law_598 : decode cL_law 598 = .ok (.iconst 4, 1) := by decide +kernel
theorem dL_law_599 : decode cL_law 599 = .ok (.iadd, 1) := by decide +kernel
theorem dL_law_600 : decode cL_law 600 = .ok (.iaload, 1) := by decide +kernel
theorem dL_law_601 : decode cL_law 601 = .ok (.invokevirtual 58, 3) := by decide +kernel
theorem dL_law_604 : decode cL_law 604 = .ok (.aload_n 2, 1) := by decide +kernel
theorem dL_law_605 : decode cL_law 605 = .ok (.aload_n 0, 1) := by decide +kernel
theorem dL_law_606 : decode cL_law 606 = .ok (.iload_n 3, 1) := by decide +kernel
theorem dL_law_607 : decode cL_law 607 = .ok (.iconst 1, 1) := by decide +kernel
theorem dL_law_608 : decode cL_law 608 = .ok (.iadd, 1) := by decide +kernel
theorem dL_law_609 : decode cL_law 609 = .ok (.iaload, 1) := by decide +kernel
theorem dL_law_610 : decode cL_law 610 = .ok (.aload_n 0, 1) := by decide +kernel
theorem dL_law_611 : decode cL_law 611 = .ok (.iload_n 3, 1) := by decide +kernel
theorem dL_law_612 : decode cL_law 612 = .ok (.iconst 2, 1) := by decide +kernel
theorem dL_law_613 : decode cL_law 613 = .ok (.iadd, 1) := by decide +kernel
theorem dL_law_614 : decode cL_law 614 = .ok (.iaload, 1) := by decide +kernel
theorem dL_law_615 : decode cL_law 615 = .ok (.aload_n 0, 1) := by decide +kernel
theorem dL_law_616 : decode cL_law 616 = .ok (.iload_n 3, 1) := by decide +kernel
theorem dL_law_617 : decode cL_law 617 = .ok (.iconst 3, 1) := by decide +kernel
theorem dL_law_618 : decode cL_law 618 = .ok (.iadd, 1) := by decide +kernel
theorem dL_law_619 : decode cL_law 619 = .ok (.iaload, 1) := by decide +kernel
theorem dL_law_620 : decode cL_law 620 = .ok (.aload_n 0, 1) := by decide +kernel
theorem dL_law_621 : decode cL_law 621 = .ok (.iload_n 3, 1) := by decide +kernel
theorem dL_law_622 : decode cL_law 622 = .ok (.iconst 4, 1) := by decide +kernel
theorem dL_law_623 : decode cL_law 623 = .ok (.iadd, 1) := by decide +kernel
theorem dL_law_624 : decode cL_law 624 = .ok (.iaload, 1) := by decide +kernel
theorem dL_law_625 : decode cL_law 625 = .ok (.invokevirtual 61, 3) := by decide +kernel
theorem dL_law_628 : decode cL_law 628 = .ok (.if_icmp .eq 826, 3) := by decide +kernel
theorem dL_law_631 : decode cL_law 631 = .ok (.iconst 0, 1) := by decide +kernel
theorem dL_law_632 : decode cL_law 632 = .ok (.ireturn, 1) := by decide +kernel
theorem dL_law_633 : decode cL_law 633 = .ok (.aload_n 1, 1) := by decide +kernel
theorem dL_law_634 : decode cL_law 634 = .ok (.aload_n 0, 1) := by decide +kernel
theorem dL_law_635 : decode cL_law 635 = .ok (.iload_n 3, 1) := by decide +kernel
theorem dL_law_636 : decode cL_law 636 = .ok (.iconst 1, 1) := by decide +kernel
theorem dL_law_637 : decode cL_law 637 = .ok (.iadd, 1) := by decide +kernel
theorem dL_law_638 : decode cL_law 638 = .ok (.iaload, 1) := by decide +kernel
theorem dL_law_639 : decode cL_law 639 = .ok (.aload_n 0, 1) := by decide +kernel
theorem dL_law_640 : decode cL_law 640 = .ok (.iload_n 3, 1) := by decide +kernel
theorem dL_law_641 : decode cL_law 641 = .ok (.iconst 2, 1) := by decide +kernel
theorem dL_law_642 : decode cL_law 642 = .ok (.iadd, 1) := by decide +kernel
theorem dL_law_643 : decode cL_law 643 = .ok (.iaload, 1) := by decide +kernel
theorem dL_law_644 : decode cL_law 644 = .ok (.aload_n 0, 1) := by decide +kernel
theorem dL_law_645 : decode cL_law 645 = .ok (.iload_n 3, 1) := by decide +kernel
theorem dL_law_646 : decode cL_law 646 = .ok (.iconst 3, 1) := by decide +kernel
theorem dL_law_647 : decode cL_law 647 = .ok (.iadd, 1) := by decide +kernel
theorem dL_law_648 : decode cL_law 648 = .ok (.iaload, 1) := by decide +kernel
theorem dL_law_649 : decode cL_law 649 = .ok (.aload_n 0, 1) := by decide +kernel
theorem dL_law_650 : decode cL_law 650 = .ok (.iload_n 3, 1) := by decide +kernel
theorem dL_law_651 : decode cL_law 651 = .ok (.iconst 4, 1) := by decide +kernel
theorem dL_law_652 : decode cL_law 652 = .ok (.iadd, 1) := by decide +kernel
theorem dL_law_653 : decode cL_law 653 = .ok (.iaload, 1) := by decide +kernel
theorem dL_law_654 : decode cL_law 654 = .ok (.invokevirtual 62, 3) := by decide +kernel
theorem dL_law_657 : decode cL_law 657 = .ok (.aload_n 2, 1) := by decide +kernel
theorem dL_law_658 : decode cL_law 658 = .ok (.aload_n 0, 1) := by decide +kernel
theorem dL_law_659 : decode cL_law 659 = .ok (.iload_n 3, 1) := by decide +kernel
theorem dL_law_660 : decode cL_law 660 = .ok (.iconst 1, 1) := by decide +kernel
theorem dL_law_661 : decode cL_law 661 = .ok (.iadd, 1) := by decide +kernel
theorem dL_law_662 : decode cL_law 662 = .ok (.iaload, 1) := by decide +kernel
theorem dL_law_663 : decode cL_law 663 = .ok (.aload_n 0, 1) := by decide +kernel
theorem dL_law_664 : decode cL_law 664 = .ok (.iload_n 3, 1) := by decide +kernel
theorem dL_law_665 : decode cL_law 665 = .ok (.iconst 2, 1) := by decide +kernel
theorem dL_law_666 : decode cL_law 666 = .ok (.iadd, 1) := by decide +kernel
theorem dL_law_667 : decode cL_law 667 = .ok (.iaload, 1) := by decide +kernel
theorem dL_law_668 : decode cL_law 668 = .ok (.aload_n 0, 1) := by decide +kernel
theorem dL_law_669 : decode cL_law 669 = .ok (.iload_n 3, 1) := by decide +kernel
theorem dL_law_670 : decode cL_law 670 = .ok (.iconst 3, 1) := by decide +kernel
theorem dL_law_671 : decode cL_law 671 = .ok (.iadd, 1) := by decide +kernel
theorem dL_law_672 : decode cL_law 672 = .ok (.iaload, 1) := by decide +kernel
theorem dL_law_673 : decode cL_law 673 = .ok (.aload_n 0, 1) := by decide +kernel
theorem dL_law_674 : decode cL_law 674 = .ok (.iload_n 3, 1) := by decide +kernel
theorem dL_law_675 : decode cL_law 675 = .ok (.iconst 4, 1) := by decide +kernel
theorem dL_law_676 : decode cL_law 676 = .ok (.iadd, 1) := by decide +kernel
theorem dL_law_677 : decode cL_law 677 = .ok (.iaload, 1) := by decide +kernel
theorem dL_law_678 : decode cL_law 678 = .ok (.invokevirtual 66, 3) := by decide +kernel
theorem dL_law_681 : decode cL_law 681 = .ok (.lcmp, 1) := by decide +kernel
theorem dL_law_682 : decode cL_law 682 = .ok (.ifCond .eq 772, 3) := by decide +kernel
theorem dL_law_685 : decode cL_law 685 = .ok (.iconst 0, 1) := by decide +kernel
theorem dL_law_686 : decode cL_law 686 = .ok (.ireturn, 1) := by decide +kernel
theorem dL_law_687 : decode cL_law 687 = .ok (.aload_n 1, 1) := by decide +kernel
theorem dL_law_688 : decode cL_law 688 = .ok (.aload_n 0, 1) := by decide +kernel
theorem dL_law_689 : decode cL_law 689 = .ok (.iload_n 3, 1) := by decide +kernel
theorem dL_law_690 : decode cL_law 690 = .ok (.iconst 1, 1) := by decide +kernel
theorem dL_law_691 : decode cL_law 691 = .ok (.iadd, 1) := by decide +kernel
theorem dL_law_692 : decode cL_law 692 = .ok (.iaload, 1) := by decide +kernel
theorem dL_law_693 : decode cL_law 693 = .ok (.aload_n 0, 1) := by decide +kernel
theorem dL_law_694 : decode cL_law 694 = .ok (.iload_n 3, 1) := by decide +kernel
theorem dL_law_695 : decode cL_law 695 = .ok (.iconst 2, 1) := by decide +kernel
theorem dL_law_696 : decode cL_law 696 = .ok (.iadd, 1) := by decide +kernel
theorem dL_law_697 : decode cL_law 697 = .ok (.iaload, 1) := by decide +kernel
theorem dL_law_698 : decode cL_law 698 = .ok (.aload_n 0, 1) := by decide +kernel
theorem dL_law_699 : decode cL_law 699 = .ok (.iload_n 3, 1) := by decide +kernel
theorem dL_law_700 : decode cL_law 700 = .ok (.iconst 3, 1) := by decide +kernel
theorem dL_law_701 : decode cL_law 701 = .ok (.iadd, 1) := by decide +kernel
theorem dL_law_702 : decode cL_law 702 = .ok (.iaload, 1) := by decide +kernel
theorem dL_law_703 : decode cL_law 703 = .ok (.aload_n 0, 1) := by decide +kernel
theorem dL_law_704 : decode cL_law 704 = .ok (.iload_n 3, 1) := by decide +kernel
theorem dL_law_705 : decode cL_law 705 = .ok (.iconst 4, 1) := by decide +kernel
theorem dL_law_706 : decode cL_law 706 = .ok (.iadd, 1) := by decide +kernel
theorem dL_law_707 : decode cL_law 707 = .ok (.iaload, 1) := by decide +kernel
theorem dL_law_708 : decode cL_law 708 = .ok (.invokevirtual 67, 3) := by decide +kernel
theorem dL_law_711 : decode cL_law 711 = .ok (.aload_n 2, 1) := by decide +kernel
theorem dL_law_712 : decode cL_law 712 = .ok (.aload_n 0, 1) := by decide +kernel
theorem dL_law_713 : decode cL_law 713 = .ok (.iload_n 3, 1) := by decide +kernel
theorem dL_law_714 : decode cL_law 714 = .ok (.iconst 1, 1) := by decide +kernel
theorem dL_law_715 : decode cL_law 715 = .ok (.iadd, 1) := by decide +kernel
theorem dL_law_716 : decode cL_law 716 = .ok (.iaload, 1) := by decide +kernel
theorem dL_law_717 : decode cL_law 717 = .ok (.aload_n 0, 1) := by decide +kernel
theorem dL_law_718 : decode cL_law 718 = .ok (.iload_n 3, 1) := by decide +kernel
theorem dL_law_719 : decode cL_law 719 = .ok (.iconst 2, 1) := by decide +kernel
theorem dL_law_720 : decode cL_law 720 = .ok (.iadd, 1) := by decide +kernel
theorem dL_law_721 : decode cL_law 721 = .ok (.iaload, 1) := by decide +kernel
theorem dL_law_722 : decode cL_law 722 = .ok (.aload_n 0, 1) := by decide +kernel
theorem dL_law_723 : decode cL_law 723 = .ok (.iload_n 3, 1) := by decide +kernel
theorem dL_law_724 : decode cL_law 724 = .ok (.iconst 3, 1) := by decide +kernel
theorem dL_law_725 : decode cL_law 725 = .ok (.iadd, 1) := by decide +kernel
theorem dL_law_726 : decode cL_law 726 = .ok (.iaload, 1) := by decide +kernel
theorem dL_law_727 : decode cL_law 727 = .ok (.aload_n 0, 1) := by decide +kernel
theorem dL_law_728 : decode cL_law 728 = .ok (.iload_n 3, 1) := by decide +kernel
theorem dL_law_729 : decode cL_law 729 = .ok (.iconst 4, 1) := by decide +kernel
theorem dL_law_730 : decode cL_law 730 = .ok (.iadd, 1) := by decide +kernel
theorem dL_law_731 : decode cL_law 731 = .ok (.iaload, 1) := by decide +kernel
theorem dL_law_732 : decode cL_law 732 = .ok (.invokevirtual 70, 3) := by decide +kernel
theorem dL_law_735 : decode cL_law 735 = .ok (.lcmp, 1) := by decide +kernel
theorem dL_law_736 : decode cL_law 736 = .ok (.ifCond .eq 718, 3) := by decide +kernel
theorem dL_law_739 : decode cL_law 739 = .ok (.iconst 0, 1) := by decide +kernel
theorem dL_law_740 : decode cL_law 740 = .ok (.ireturn, 1) := by decide +kernel
theorem dL_law_741 : decode cL_law 741 = .ok (.aload_n 1, 1) := by decide +kernel
theorem dL_law_742 : decode cL_law 742 = .ok (.aload_n 0, 1) := by decide +kernel
theorem dL_law_743 : decode cL_law 743 = .ok (.iload_n 3, 1) := by decide +kernel
theorem dL_law_744 : decode cL_law 744 = .ok (.iconst 1, 1) := by decide +kernel
theorem dL_law_745 : decode cL_law 745 = .ok (.iadd, 1) := by decide +kernel
theorem dL_law_746 : decode cL_law 746 = .ok (.iaload, 1) := by decide +kernel
theorem dL_law_747 : decode cL_law 747 = .ok (.aload_n 0, 1) := by decide +kernel
theorem dL_law_748 : decode cL_law 748 = .ok (.iload_n 3, 1) := by decide +kernel
theorem dL_law_749 : decode cL_law 749 = .ok (.iconst 2, 1) := by decide +kernel
theorem dL_law_750 : decode cL_law 750 = .ok (.iadd, 1) := by decide +kernel
theorem dL_law_751 : decode cL_law 751 = .ok (.iaload, 1) := by decide +kernel
theorem dL_law_752 : decode cL_law 752 = .ok (.aload_n 0, 1) := by decide +kernel
theorem dL_law_753 : decode cL_law 753 = .ok (.iload_n 3, 1) := by decide +kernel
theorem dL_law_754 : decode cL_law 754 = .ok (.iconst 3, 1) := by decide +kernel
theorem dL_law_755 : decode cL_law 755 = .ok (.iadd, 1) := by decide +kernel
theorem dL_law_756 : decode cL_law 756 = .ok (.iaload, 1) := by decide +kernel
theorem dL_law_757 : decode cL_law 757 = .ok (.aload_n 0, 1) := by decide +kernel
theorem dL_law_758 : decode cL_law 758 = .ok (.iload_n 3, 1) := by decide +kernel
theorem dL_law_759 : decode cL_law 759 = .ok (.iconst 4, 1) := by decide +kernel
theorem dL_law_760 : decode cL_law 760 = .ok (.iadd, 1) := by decide +kernel
theorem dL_law_761 : decode cL_law 761 = .ok (.iaload, 1) := by decide +kernel
theorem dL_law_762 : decode cL_law 762 = .ok (.invokevirtual 71, 3) := by decide +kernel
theorem dL_law_765 : decode cL_law 765 = .ok (.aload_n 2, 1) := by decide +kernel
theorem dL_law_766 : decode cL_law 766 = .ok (.aload_n 0, 1) := by decide +kernel
theorem dL_law_767 : decode cL_law 767 = .ok (.iload_n 3, 1) := by decide +kernel
theorem dL_law_768 : decode cL_law 768 = .ok (.iconst 1, 1) := by decide +kernel
theorem dL_law_769 : decode cL_law 769 = .ok (.iadd, 1) := by decide +kernel
theorem dL_law_770 : decode cL_law 770 = .ok (.iaload, 1) := by decide +kernel
theorem dL_law_771 : decode cL_law 771 = .ok (.aload_n 0, 1) := by decide +kernel
theorem dL_law_772 : decode cL_law 772 = .ok (.iload_n 3, 1) := by decide +kernel
theorem dL_law_773 : decode cL_law 773 = .ok (.iconst 2, 1) := by decide +kernel
theorem dL_law_774 : decode cL_law 774 = .ok (.iadd, 1) := by decide +kernel
theorem dL_law_775 : decode cL_law 775 = .ok (.iaload, 1) := by decide +kernel
theorem dL_law_776 : decode cL_law 776 = .ok (.aload_n 0, 1) := by decide +kernel
theorem dL_law_777 : decode cL_law 777 = .ok (.iload_n 3, 1) := by decide +kernel
theorem dL_law_778 : decode cL_law 778 = .ok (.iconst 3, 1) := by decide +kernel
theorem dL_law_779 : decode cL_law 779 = .ok (.iadd, 1) := by decide +kernel
theorem dL_law_780 : decode cL_law 780 = .ok (.iaload, 1) := by decide +kernel
theorem dL_law_781 : decode cL_law 781 = .ok (.aload_n 0, 1) := by decide +kernel
theorem dL_law_782 : decode cL_law 782 = .ok (.iload_n 3, 1) := by decide +kernel
theorem dL_law_783 : decode cL_law 783 = .ok (.iconst 4, 1) := by decide +kernel
theorem dL_law_784 : decode cL_law 784 = .ok (.iadd, 1) := by decide +kernel
theorem dL_law_785 : decode cL_law 785 = .ok (.iaload, 1) := by decide +kernel
theorem dL_law_786 : decode cL_law 786 = .ok (.invokevirtual 74, 3) := by decide +kernel
theorem dL_law_789 : decode cL_law 789 = .ok (.if_icmp .eq 665, 3) := by decide +kernel
theorem dL_law_792 : decode cL_law 792 = .ok (.iconst 0, 1) := by decide +kernel
theorem dL_law_793 : decode cL_law 793 = .ok (.ireturn, 1) := by decide +kernel
theorem dL_law_794 : decode cL_law 794 = .ok (.aload_n 1, 1) := by decide +kernel
theorem dL_law_795 : decode cL_law 795 = .ok (.aload_n 0, 1) := by decide +kernel
theorem dL_law_796 : decode cL_law 796 = .ok (.iload_n 3, 1) := by decide +kernel
theorem dL_law_797 : decode cL_law 797 = .ok (.iconst 1, 1) := by decide +kernel
theorem dL_law_798 : decode cL_law 798 = .ok (.iadd, 1) := by decide +kernel
theorem dL_law_799 : decode cL_law 799 = .ok (.iaload, 1) := by decide +kernel
theorem dL_law_800 : decode cL_law 800 = .ok (.aload_n 0, 1) := by decide +kernel
theorem dL_law_801 : decode cL_law 801 = .ok (.iload_n 3, 1) := by decide +kernel
theorem dL_law_802 : decode cL_law 802 = .ok (.iconst 2, 1) := by decide +kernel
theorem dL_law_803 : decode cL_law 803 = .ok (.iadd, 1) := by decide +kernel
theorem dL_law_804 : decode cL_law 804 = .ok (.iaload, 1) := by decide +kernel
theorem dL_law_805 : decode cL_law 805 = .ok (.aload_n 0, 1) := by decide +kernel
theorem dL_law_806 : decode cL_law 806 = .ok (.iload_n 3, 1) := by decide +kernel
theorem dL_law_807 : decode cL_law 807 = .ok (.iconst 3, 1) := by decide +kernel
theorem dL_law_808 : decode cL_law 808 = .ok (.iadd, 1) := by decide +kernel
theorem dL_law_809 : decode cL_law 809 = .ok (.iaload, 1) := by decide +kernel
theorem dL_law_810 : decode cL_law 810 = .ok (.invokevirtual 75, 3) := by decide +kernel
theorem dL_law_813 : decode cL_law 813 = .ok (.aload_n 2, 1) := by decide +kernel
theorem dL_law_814 : decode cL_law 814 = .ok (.aload_n 0, 1) := by decide +kernel
theorem dL_law_815 : decode cL_law 815 = .ok (.iload_n 3, 1) := by decide +kernel
theorem dL_law_816 : decode cL_law 816 = .ok (.iconst 1, 1) := by decide +kernel
theorem dL_law_817 : decode cL_law 817 = .ok (.iadd, 1) := by decide +kernel
theorem dL_law_818 : decode cL_law 818 = .ok (.iaload, 1) := by decide +kernel
theorem dL_law_819 : decode cL_law 819 = .ok (.aload_n 0, 1) := by decide +kernel
theorem dL_law_820 : decode cL_law 820 = .ok (.iload_n 3, 1) := by decide +kernel
theorem dL_law_821 : decode cL_law 821 = .ok (.iconst 2, 1) := by decide +kernel
theorem dL_law_822 : decode cL_law 822 = .ok (.iadd, 1) := by decide +kernel
theorem dL_law_823 : decode cL_law 823 = .ok (.iaload, 1) := by decide +kernel
theorem dL_law_824 : decode cL_law 824 = .ok (.aload_n 0, 1) := by decide +kernel
theorem dL_law_825 : decode cL_law 825 = .ok (.iload_n 3, 1) := by decide +kernel
theorem dL_law_826 : decode cL_law 826 = .ok (.iconst 3, 1) := by decide +kernel
theorem dL_law_827 : decode cL_law 827 = .ok (.iadd, 1) := by decide +kernel
theorem dL_law_828 : decode cL_law 828 = .ok (.iaload, 1) := by decide +kernel
theorem dL_law_829 : decode cL_law 829 = .ok (.invokevirtual 78, 3) := by decide +kernel
theorem dL_law_832 : decode cL_law 832 = .ok (.if_icmp .eq 622, 3) := by decide +kernel
theorem dL_law_835 : decode cL_law 835 = .ok (.iconst 0, 1) := by decide +kernel
theorem dL_law_836 : decode cL_law 836 = .ok (.ireturn, 1) := by decide +kernel
theorem dL_law_837 : decode cL_law 837 = .ok (.aload_n 1, 1) := by decide +kernel
theorem dL_law_838 : decode cL_law 838 = .ok (.aload_n 0, 1) := by decide +kernel
theorem dL_law_839 : decode cL_law 839 = .ok (.iload_n 3, 1) := by decide +kernel
theorem dL_law_840 : decode cL_law 840 = .ok (.iconst 1, 1) := by decide +kernel
theorem dL_law_841 : decode cL_law 841 = .ok (.iadd, 1) := by decide +kernel
theorem dL_law_842 : decode cL_law 842 = .ok (.iaload, 1) := by decide +kernel
theorem dL_law_843 : decode cL_law 843 = .ok (.aload_n 0, 1) := by decide +kernel
theorem dL_law_844 : decode cL_law 844 = .ok (.iload_n 3, 1) := by decide +kernel
theorem dL_law_845 : decode cL_law 845 = .ok (.iconst 2, 1) := by decide +kernel
theorem dL_law_846 : decode cL_law 846 = .ok (.iadd, 1) := by decide +kernel
theorem dL_law_847 : decode cL_law 847 = .ok (.iaload, 1) := by decide +kernel
theorem dL_law_848 : decode cL_law 848 = .ok (.aload_n 0, 1) := by decide +kernel
theorem dL_law_849 : decode cL_law 849 = .ok (.iload_n 3, 1) := by decide +kernel
theorem dL_law_850 : decode cL_law 850 = .ok (.iconst 3, 1) := by decide +kernel
theorem dL_law_851 : decode cL_law 851 = .ok (.iadd, 1) := by decide +kernel
theorem dL_law_852 : decode cL_law 852 = .ok (.iaload, 1) := by decide +kernel
theorem dL_law_853 : decode cL_law 853 = .ok (.aload_n 0, 1) := by decide +kernel
theorem dL_law_854 : decode cL_law 854 = .ok (.iload_n 3, 1) := by decide +kernel
theorem dL_law_855 : decode cL_law 855 = .ok (.iconst 4, 1) := by decide +kernel
theorem dL_law_856 : decode cL_law 856 = .ok (.iadd, 1) := by decide +kernel
theorem dL_law_857 : decode cL_law 857 = .ok (.iaload, 1) := by decide +kernel
theorem dL_law_858 : decode cL_law 858 = .ok (.aload_n 0, 1) := by decide +kernel
theorem dL_law_859 : decode cL_law 859 = .ok (.iload_n 3, 1) := by decide +kernel
theorem dL_law_860 : decode cL_law 860 = .ok (.iconst 5, 1) := by decide +kernel
theorem dL_law_861 : decode cL_law 861 = .ok (.iadd, 1) := by decide +kernel
theorem dL_law_862 : decode cL_law 862 = .ok (.iaload, 1) := by decide +kernel
theorem dL_law_863 : decode cL_law 863 = .ok (.invokevirtual 79, 3) := by decide +kernel
theorem dL_law_866 : decode cL_law 866 = .ok (.aload_n 2, 1) := by decide +kernel
theorem dL_law_867 : decode cL_law 867 = .ok (.aload_n 0, 1) := by decide +kernel
theorem dL_law_868 : decode cL_law 868 = .ok (.iload_n 3, 1) := by decide +kernel
theorem dL_law_869 : decode cL_law 869 = .ok (.iconst 1, 1) := by decide +kernel
theorem dL_law_870 : decode cL_law 870 = .ok (.iadd, 1) := by decide +kernel
theorem dL_law_871 : decode cL_law 871 = .ok (.iaload, 1) := by decide +kernel
theorem dL_law_872 : decode cL_law 872 = .ok (.aload_n 0, 1) := by decide +kernel
theorem dL_law_873 : decode cL_law 873 = .ok (.iload_n 3, 1) := by decide +kernel
theorem dL_law_874 : decode cL_law 874 = .ok (.iconst 2, 1) := by decide +kernel
theorem dL_law_875 : decode cL_law 875 = .ok (.iadd, 1) := by decide +kernel
theorem dL_law_876 : decode cL_law 876 = .ok (.iaload, 1) := by decide +kernel
theorem dL_law_877 : decode cL_law 877 = .ok (.aload_n 0, 1) := by decide +kernel
theorem dL_law_878 : decode cL_law 878 = .ok (.iload_n 3, 1) := by decide +kernel
theorem dL_law_879 : decode cL_law 879 = .ok (.iconst 3, 1) := by decide +kernel
theorem dL_law_880 : decode cL_law 880 = .ok (.iadd, 1) := by decide +kernel
theorem dL_law_881 : decode cL_law 881 = .ok (.iaload, 1) := by decide +kernel
theorem dL_law_882 : decode cL_law 882 = .ok (.aload_n 0, 1) := by decide +kernel
theorem dL_law_883 : decode cL_law 883 = .ok (.iload_n 3, 1) := by decide +kernel
theorem dL_law_884 : decode cL_law 884 = .ok (.iconst 4, 1) := by decide +kernel
theorem dL_law_885 : decode cL_law 885 = .ok (.iadd, 1) := by decide +kernel
theorem dL_law_886 : decode cL_law 886 = .ok (.iaload, 1) := by decide +kernel
theorem dL_law_887 : decode cL_law 887 = .ok (.aload_n 0, 1) := by decide +kernel
theorem dL_law_888 : decode cL_law 888 = .ok (.iload_n 3, 1) := by decide +kernel
theorem dL_law_889 : decode cL_law 889 = .ok (.iconst 5, 1) := by decide +kernel
theorem dL_law_890 : decode cL_law 890 = .ok (.iadd, 1) := by decide +kernel
theorem dL_law_891 : decode cL_law 891 = .ok (.iaload, 1) := by decide +kernel
theorem dL_law_892 : decode cL_law 892 = .ok (.invokevirtual 82, 3) := by decide +kernel
theorem dL_law_895 : decode cL_law 895 = .ok (.if_icmp .eq 559, 3) := by decide +kernel
theorem dL_law_898 : decode cL_law 898 = .ok (.iconst 0, 1) := by decide +kernel
theorem dL_law_899 : decode cL_law 899 = .ok (.ireturn, 1) := by decide +kernel
theorem dL_law_900 : decode cL_law 900 = .ok (.aload_n 1, 1) := by decide +kernel
theorem dL_law_901 : decode cL_law 901 = .ok (.aload_n 0, 1) := by decide +kernel
theorem dL_law_902 : decode cL_law 902 = .ok (.iload_n 3, 1) := by decide +kernel
theorem dL_law_903 : decode cL_law 903 = .ok (.iconst 1, 1) := by decide +kernel
theorem dL_law_904 : decode cL_law 904 = .ok (.iadd, 1) := by decide +kernel
theorem dL_law_905 : decode cL_law 905 = .ok (.iaload, 1) := by decide +kernel
theorem dL_law_906 : decode cL_law 906 = .ok (.aload_n 0, 1) := by decide +kernel
theorem dL_law_907 : decode cL_law 907 = .ok (.iload_n 3, 1) := by decide +kernel
theorem dL_law_908 : decode cL_law 908 = .ok (.iconst 2, 1) := by decide +kernel
theorem dL_law_909 : decode cL_law 909 = .ok (.iadd, 1) := by decide +kernel
theorem dL_law_910 : decode cL_law 910 = .ok (.iaload, 1) := by decide +kernel
theorem dL_law_911 : decode cL_law 911 = .ok (.invokevirtual 83, 3) := by decide +kernel
theorem dL_law_914 : decode cL_law 914 = .ok (.aload_n 2, 1) := by decide +kernel
theorem dL_law_915 : decode cL_law 915 = .ok (.aload_n 0, 1) := by decide +kernel
theorem dL_law_916 : decode cL_law 916 = .ok (.iload_n 3, 1) := by decide +kernel
theorem dL_law_917 : decode cL_law 917 = .ok (.iconst 1, 1) := by decide +kernel
theorem dL_law_918 : decode cL_law 918 = .ok (.iadd, 1) := by decide +kernel
theorem dL_law_919 : decode cL_law 919 = .ok (.iaload, 1) := by decide +kernel
theorem dL_law_920 : decode cL_law 920 = .ok (.aload_n 0, 1) := by decide +kernel
theorem dL_law_921 : decode cL_law 921 = .ok (.iload_n 3, 1) := by decide +kernel
theorem dL_law_922 : decode cL_law 922 = .ok (.iconst 2, 1) := by decide +kernel
theorem dL_law_923 : decode cL_law 923 = .ok (.iadd, 1) := by decide +kernel
theorem dL_law_924 : decode cL_law 924 = .ok (.iaload, 1) := by decide +kernel
theorem dL_law_925 : decode cL_law 925 = .ok (.invokevirtual 87, 3) := by decide +kernel
theorem dL_law_928 : decode cL_law 928 = .ok (.lcmp, 1) := by decide +kernel
theorem dL_law_929 : decode cL_law 929 = .ok (.ifCond .eq 525, 3) := by decide +kernel
theorem dL_law_932 : decode cL_law 932 = .ok (.iconst 0, 1) := by decide +kernel
theorem dL_law_933 : decode cL_law 933 = .ok (.ireturn, 1) := by decide +kernel
theorem dL_law_934 : decode cL_law 934 = .ok (.aload_n 1, 1) := by decide +kernel
theorem dL_law_935 : decode cL_law 935 = .ok (.aload_n 0, 1) := by decide +kernel
theorem dL_law_936 : decode cL_law 936 = .ok (.iload_n 3, 1) := by decide +kernel
theorem dL_law_937 : decode cL_law 937 = .ok (.iconst 1, 1) := by decide +kernel
theorem dL_law_938 : decode cL_law 938 = .ok (.iadd, 1) := by decide +kernel
theorem dL_law_939 : decode cL_law 939 = .ok (.iaload, 1) := by decide +kernel
theorem dL_law_940 : decode cL_law 940 = .ok (.invokevirtual 88, 3) := by decide +kernel
theorem dL_law_943 : decode cL_law 943 = .ok (.aload_n 2, 1) := by decide +kernel
theorem dL_law_944 : decode cL_law 944 = .ok (.aload_n 0, 1) := by decide +kernel
theorem dL_law_945 : decode cL_law 945 = .ok (.iload_n 3, 1) := by decide +kernel
theorem dL_law_946 : decode cL_law 946 = .ok (.iconst 1, 1) := by decide +kernel
theorem dL_law_947 : decode cL_law 947 = .ok (.iadd, 1) := by decide +kernel
theorem dL_law_948 : decode cL_law 948 = .ok (.iaload, 1) := by decide +kernel
theorem dL_law_949 : decode cL_law 949 = .ok (.invokevirtual 91, 3) := by decide +kernel
theorem dL_law_952 : decode cL_law 952 = .ok (.if_icmp .eq 502, 3) := by decide +kernel
theorem dL_law_955 : decode cL_law 955 = .ok (.iconst 0, 1) := by decide +kernel
theorem dL_law_956 : decode cL_law 956 = .ok (.ireturn, 1) := by decide +kernel
theorem dL_law_957 : decode cL_law 957 = .ok (.aload_n 1, 1) := by decide +kernel
theorem dL_law_958 : decode cL_law 958 = .ok (.aload_n 0, 1) := by decide +kernel
theorem dL_law_959 : decode cL_law 959 = .ok (.iload_n 3, 1) := by decide +kernel
theorem dL_law_960 : decode cL_law 960 = .ok (.iconst 1, 1) := by decide +kernel
theorem dL_law_961 : decode cL_law 961 = .ok (.iadd, 1) := by decide +kernel
theorem dL_law_962 : decode cL_law 962 = .ok (.iaload, 1) := by decide +kernel
theorem dL_law_963 : decode cL_law 963 = .ok (.invokevirtual 92, 3) := by decide +kernel
theorem dL_law_966 : decode cL_law 966 = .ok (.aload_n 2, 1) := by decide +kernel
theorem dL_law_967 : decode cL_law 967 = .ok (.aload_n 0, 1) := by decide +kernel
theorem dL_law_968 : decode cL_law 968 = .ok (.iload_n 3, 1) := by decide +kernel
theorem dL_law_969 : decode cL_law 969 = .ok (.iconst 1, 1) := by decide +kernel
theorem dL_law_970 : decode cL_law 970 = .ok (.iadd, 1) := by decide +kernel
theorem dL_law_971 : decode cL_law 971 = .ok (.iaload, 1) := by decide +kernel
theorem dL_law_972 : decode cL_law 972 = .ok (.invokevirtual 95, 3) := by decide +kernel
theorem dL_law_975 : decode cL_law 975 = .ok (.if_icmp .eq 479, 3) := by decide +kernel
theorem dL_law_978 : decode cL_law 978 = .ok (.iconst 0, 1) := by decide +kernel
theorem dL_law_979 : decode cL_law 979 = .ok (.ireturn, 1) := by decide +kernel
theorem dL_law_980 : decode cL_law 980 = .ok (.aload_n 1, 1) := by decide +kernel
theorem dL_law_981 : decode cL_law 981 = .ok (.invokevirtual 96, 3) := by decide +kernel
theorem dL_law_984 : decode cL_law 984 = .ok (.aload_n 2, 1) := by decide +kernel
theorem dL_law_985 : decode cL_law 985 = .ok (.invokevirtual 100, 3) := by decide +kernel
theorem dL_law_988 : decode cL_law 988 = .ok (.if_icmp .eq 466, 3) := by decide +kernel
theorem dL_law_991 : decode cL_law 991 = .ok (.iconst 0, 1) := by decide +kernel
theorem dL_law_992 : decode cL_law 992 = .ok (.ireturn, 1) := by decide +kernel
theorem dL_law_993 : decode cL_law 993 = .ok (.aload_n 1, 1) := by decide +kernel
theorem dL_law_994 : decode cL_law 994 = .ok (.aload_n 0, 1) := by decide +kernel
theorem dL_law_995 : decode cL_law 995 = .ok (.iload_n 3, 1) := by decide +kernel
theorem dL_law_996 : decode cL_law 996 = .ok (.iconst 1, 1) := by decide +kernel
theorem dL_law_997 : decode cL_law 997 = .ok (.iadd, 1) := by decide +kernel
theorem dL_law_998 : decode cL_law 998 = .ok (.iaload, 1) := by decide +kernel
theorem dL_law_999 : decode cL_law 999 = .ok (.aload_n 0, 1) := by decide +kernel
theorem dL_law_1000 : decode cL_law 1000 = .ok (.iload_n 3, 1) := by decide +kernel
theorem dL_law_1001 : decode cL_law 1001 = .ok (.iconst 2, 1) := by decide +kernel
theorem dL_law_1002 : decode cL_law 1002 = .ok (.iadd, 1) := by decide +kernel
