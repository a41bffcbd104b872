theorem dX7_oddsOf_5 : decode cX7_oddsOf 5 = .ok (.invokestatic 45, 3) := by decide +kernel
theorem dX7_oddsOf_8 : decode cX7_oddsOf 8 = .ok (.i2l, 1) := by decide +kernel
theorem dX7_oddsOf_9 : decode cX7_oddsOf 9 = .ok (.lstore_n 2, 1) := by decide +kernel
theorem dX7_oddsOf_10 : decode cX7_oddsOf 10 = .ok (.iconst 0, 1) := by decide +kernel
theorem dX7_oddsOf_11 : decode cX7_oddsOf 11 = .ok (.istore 4, 2) := by decide +kernel
theorem dX7_oddsOf_13 : decode cX7_oddsOf 13 = .ok (.iload 4, 2) := by decide +kernel
theorem dX7_oddsOf_15 : decode cX7_oddsOf 15 = .ok (.aload_n 0, 1) := by decide +kernel
theorem dX7_oddsOf_16 : decode cX7_oddsOf 16 = .ok (.getfield 38, 3) := by decide +kernel
theorem dX7_oddsOf_19 : decode cX7_oddsOf 19 = .ok (.if_icmp .ge 67, 3) := by decide +kernel
theorem dX7_oddsOf_22 : decode cX7_oddsOf 22 = .ok (.aload_n 0, 1) := by decide +kernel
theorem dX7_oddsOf_23 : decode cX7_oddsOf 23 = .ok (.getfield 18, 3) := by decide +kernel
theorem dX7_oddsOf_26 : decode cX7_oddsOf 26 = .ok (.iload 4, 2) := by decide +kernel
theorem dX7_oddsOf_28 : decode cX7_oddsOf 28 = .ok (.invokestatic 45, 3) := by decide +kernel
theorem dX7_oddsOf_31 : decode cX7_oddsOf 31 = .ok (.istore 5, 2) := by decide +kernel
theorem dX7_oddsOf_33 : decode cX7_oddsOf 33 = .ok (.aload_n 0, 1) := by decide +kernel
theorem dX7_oddsOf_34 : decode cX7_oddsOf 34 = .ok (.getfield 15, 3) := by decide +kernel
theorem dX7_oddsOf_37 : decode cX7_oddsOf 37 = .ok (.iload 4, 2) := by decide +kernel
theorem dX7_oddsOf_39 : decode cX7_oddsOf 39 = .ok (.bipush 6, 2) := by decide +kernel
theorem dX7_oddsOf_41 : decode cX7_oddsOf 41 = .ok (.imul, 1) := by decide +kernel
theorem dX7_oddsOf_42 : decode cX7_oddsOf 42 = .ok (.iload_n 1, 1) := by decide +kernel
theorem dX7_oddsOf_43 : decode cX7_oddsOf 43 = .ok (.iadd, 1) := by decide +kernel
theorem dX7_oddsOf_44 : decode cX7_oddsOf 44 = .ok (.invokestatic 45, 3) := by decide +kernel
theorem dX7_oddsOf_47 : decode cX7_oddsOf 47 = .ok (.istore 6, 2) := by decide +kernel
theorem dX7_oddsOf_49 : decode cX7_oddsOf 49 = .ok (.lload_n 2, 1) := by decide +kernel
theorem dX7_oddsOf_50 : decode cX7_oddsOf 50 = .ok (.iload 5, 2) := by decide +kernel
theorem dX7_oddsOf_52 : decode cX7_oddsOf 52 = .ok (.iconst (-1), 1) := by decide +kernel
theorem dX7_oddsOf_53 : decode cX7_oddsOf 53 = .ok (.if_icmp .ne 7, 3) := by decide +kernel
theorem dX7_oddsOf_56 : decode cX7_oddsOf 56 = .ok (.lconst 1, 1) := by decide +kernel
theorem dX7_oddsOf_57 : decode cX7_oddsOf 57 = .ok (.goto 21, 3) := by decide +kernel
theorem dX7_oddsOf_60 : decode cX7_oddsOf 60 = .ok (.iload 5, 2) := by decide +kernel
theorem dX7_oddsOf_62 : decode cX7_oddsOf 62 = .ok (.iconst 1, 1) := by decide +kernel
theorem dX7_oddsOf_63 : decode cX7_oddsOf 63 = .ok (.if_icmp .ne 9, 3) := by decide +kernel
theorem dX7_oddsOf_66 : decode cX7_oddsOf 66 = .ok (.iload 6, 2) := by decide +kernel
theorem dX7_oddsOf_68 : decode cX7_oddsOf 68 = .ok (.i2l, 1) := by decide +kernel
theorem dX7_oddsOf_69 : decode cX7_oddsOf 69 = .ok (.goto 9, 3) := by decide +kernel
theorem dX7_oddsOf_72 : decode cX7_oddsOf 72 = .ok (.bipush 10, 2) := by decide +kernel
theorem dX7_oddsOf_74 : decode cX7_oddsOf 74 = .ok (.iload 6, 2) := by decide +kernel
theorem dX7_oddsOf_76 : decode cX7_oddsOf 76 = .ok (.isub, 1) := by decide +kernel
theorem dX7_oddsOf_77 : decode cX7_oddsOf 77 = .ok (.i2l, 1) := by decide +kernel
theorem dX7_oddsOf_78 : decode cX7_oddsOf 78 = .ok (.lmul, 1) := by decide +kernel
theorem dX7_oddsOf_79 : decode cX7_oddsOf 79 = .ok (.lstore_n 2, 1) := by decide +kernel
theorem dX7_oddsOf_80 : decode cX7_oddsOf 80 = .ok (.iinc 4 1, 3) := by decide +kernel
theorem dX7_oddsOf_83 : decode cX7_oddsOf 83 = .ok (.goto (-70), 3) := by decide +kernel
theorem dX7_oddsOf_86 : decode cX7_oddsOf 86 = .ok (.lload_n 2, 1) := by decide +kernel
theorem dX7_oddsOf_87 : decode cX7_oddsOf 87 = .ok (.lreturn, 1) := by decide +kernel
theorem dX7_together_0 : decode cX7_together 0 = .ok (.lconst 0, 1) := by decide +kernel
theorem dX7_together_1 : decode cX7_together 1 = .ok (.lstore_n 1, 1) := by decide +kernel
theorem dX7_together_2 : decode cX7_together 2 = .ok (.iconst 0, 1) := by decide +kernel
theorem dX7_together_3 : decode cX7_together 3 = .ok (.istore_n 3, 1) := by decide +kernel
theorem dX7_together_4 : decode cX7_together 4 = .ok (.iload_n 3, 1) := by decide +kernel
theorem dX7_together_5 : decode cX7_together 5 = .ok (.aload_n 0, 1) := by decide +kernel
theorem dX7_together_6 : decode cX7_together 6 = .ok (.getfield 34, 3) := by decide +kernel
theorem dX7_together_9 : decode cX7_together 9 = .ok (.if_icmp .ge 17, 3) := by decide +kernel
theorem dX7_together_12 : decode cX7_together 12 = .ok (.lload_n 1, 1) := by decide +kernel
theorem dX7_together_13 : decode cX7_together 13 = .ok (.aload_n 0, 1) := by decide +kernel
theorem dX7_together_14 : decode cX7_together 14 = .ok (.iload_n 3, 1) := by decide +kernel
theorem dX7_together_15 : decode cX7_together 15 = .ok (.invokevirtual 49, 3) := by decide +kernel
theorem dX7_together_18 : decode cX7_together 18 = .ok (.ladd, 1) := by decide +kernel
theorem dX7_together_19 : decode cX7_together 19 = .ok (.lstore_n 1, 1) := by decide +kernel
theorem dX7_together_20 : decode cX7_together 20 = .ok (.iinc 3 1, 3) := by decide +kernel
theorem dX7_together_23 : decode cX7_together 23 = .ok (.goto (-19), 3) := by decide +kernel
theorem dX7_together_26 : decode cX7_together 26 = .ok (.lload_n 1, 1) := by decide +kernel
theorem dX7_together_27 : decode cX7_together 27 = .ok (.lreturn, 1) := by decide +kernel
theorem dX7_mostMoving_0 : decode cX7_mostMoving 0 = .ok (.iconst (-1), 1) := by decide +kernel
theorem dX7_mostMoving_1 : decode cX7_mostMoving 1 = .ok (.istore_n 1, 1) := by decide +kernel
theorem dX7_mostMoving_2 : decode cX7_mostMoving 2 = .ok (.ldc2_w 53, 3) := by decide +kernel
theorem dX7_mostMoving_5 : decode cX7_mostMoving 5 = .ok (.lstore_n 2, 1) := by decide +kernel
theorem dX7_mostMoving_6 : decode cX7_mostMoving 6 = .ok (.iconst 0, 1) := by decide +kernel
theorem dX7_mostMoving_7 : decode cX7_mostMoving 7 = .ok (.istore 4, 2) := by decide +kernel
theorem dX7_mostMoving_9 : decode cX7_mostMoving 9 = .ok (.iload 4, 2) := by decide +kernel
theorem dX7_mostMoving_11 : decode cX7_mostMoving 11 = .ok (.aload_n 0, 1) := by decide +kernel
theorem dX7_mostMoving_12 : decode cX7_mostMoving 12 = .ok (.getfield 38, 3) := by decide +kernel
theorem dX7_mostMoving_15 : decode cX7_mostMoving 15 = .ok (.if_icmp .ge 56, 3) := by decide +kernel
theorem dX7_mostMoving_18 : decode cX7_mostMoving 18 = .ok (.aload_n 0, 1) := by decide +kernel
theorem dX7_mostMoving_19 : decode cX7_mostMoving 19 = .ok (.getfield 34, 3) := by decide +kernel
theorem dX7_mostMoving_22 : decode cX7_mostMoving 22 = .ok (.ifCond .le 49, 3) := by decide +kernel
theorem dX7_mostMoving_25 : decode cX7_mostMoving 25 = .ok (.aload_n 0, 1) := by decide +kernel
theorem dX7_mostMoving_26 : decode cX7_mostMoving 26 = .ok (.getfield 18, 3) := by decide +kernel
theorem dX7_mostMoving_29 : decode cX7_mostMoving 29 = .ok (.iload 4, 2) := by decide +kernel
theorem dX7_mostMoving_31 : decode cX7_mostMoving 31 = .ok (.invokestatic 45, 3) := by decide +kernel
theorem dX7_mostMoving_34 : decode cX7_mostMoving 34 = .ok (.iconst (-1), 1) := by decide +kernel
theorem dX7_mostMoving_35 : decode cX7_mostMoving 35 = .ok (.if_icmp .ne 12, 3) := by decide +kernel
theorem dX7_mostMoving_38 : decode cX7_mostMoving 38 = .ok (.aload_n 0, 1) := by decide +kernel
theorem dX7_mostMoving_39 : decode cX7_mostMoving 39 = .ok (.iload 4, 2) := by decide +kernel
theorem dX7_mostMoving_41 : decode cX7_mostMoving 41 = .ok (.invokevirtual 55, 3) := by decide +kernel
theorem dX7_mostMoving_44 : decode cX7_mostMoving 44 = .ok (.goto 6, 3) := by decide +kernel
theorem dX7_mostMoving_47 : decode cX7_mostMoving 47 = .ok (.ldc2_w 53, 3) := by decide +kernel
theorem dX7_mostMoving_50 : decode cX7_mostMoving 50 = .ok (.lstore 5, 2) := by decide +kernel
theorem dX7_mostMoving_52 : decode cX7_mostMoving 52 = .ok (.lload 5, 2) := by decide +kernel
theorem dX7_mostMoving_54 : decode cX7_mostMoving 54 = .ok (.lload_n 2, 1) := by decide +kernel
theorem dX7_mostMoving_55 : decode cX7_mostMoving 55 = .ok (.lcmp, 1) := by decide +kernel
theorem dX7_mostMoving_56 : decode cX7_mostMoving 56 = .ok (.ifCond .le 9, 3) := by decide +kernel
theorem dX7_mostMoving_59 : decode cX7_mostMoving 59 = .ok (.lload 5, 2) := by decide +kernel
theorem dX7_mostMoving_61 : decode cX7_mostMoving 61 = .ok (.lstore_n 2, 1) := by decide +kernel
theorem dX7_mostMoving_62 : decode cX7_mostMoving 62 = .ok (.iload 4, 2) := by decide +kernel
theorem dX7_mostMoving_64 : decode cX7_mostMoving 64 = .ok (.istore_n 1, 1) := by decide +kernel
theorem dX7_mostMoving_65 : decode cX7_mostMoving 65 = .ok (.iinc 4 1, 3) := by decide +kernel
theorem dX7_mostMoving_68 : decode cX7_mostMoving 68 = .ok (.goto (-59), 3) := by decide +kernel
theorem dX7_mostMoving_71 : decode cX7_mostMoving 71 = .ok (.iload_n 1, 1) := by decide +kernel
theorem dX7_mostMoving_72 : decode cX7_mostMoving 72 = .ok (.ireturn, 1) := by decide +kernel
theorem dX7_greatestOfBoth_0 : decode cX7_greatestOfBoth 0 = .ok (.lconst 0, 1) := by decide +kernel
theorem dX7_greatestOfBoth_1 : decode cX7_greatestOfBoth 1 = .ok (.lstore_n 2, 1) := by decide +kernel
theorem dX7_greatestOfBoth_2 : decode cX7_greatestOfBoth 2 = .ok (.lconst 0, 1) := by decide +kernel
theorem dX7_greatestOfBoth_3 : decode cX7_greatestOfBoth 3 = .ok (.lstore 4, 2) := by decide +kernel
theorem dX7_greatestOfBoth_5 : decode cX7_greatestOfBoth 5 = .ok (.iconst 0, 1) := by decide +kernel
theorem dX7_greatestOfBoth_6 : decode cX7_greatestOfBoth 6 = .ok (.istore 6, 2) := by decide +kernel
theorem dX7_greatestOfBoth_8 : decode cX7_greatestOfBoth 8 = .ok (.iload 6, 2) := by decide +kernel
theorem dX7_greatestOfBoth_10 : decode cX7_greatestOfBoth 10 = .ok (.aload_n 0, 1) := by decide +kernel
theorem dX7_greatestOfBoth_11 : decode cX7_greatestOfBoth 11 = .ok (.getfield 34, 3) := by decide +kernel
theorem dX7_greatestOfBoth_14 : decode cX7_greatestOfBoth 14 = .ok (.if_icmp .ge 60, 3) := by decide +kernel
theorem dX7_greatestOfBoth_17 : decode cX7_greatestOfBoth 17 = .ok (.aload_n 0, 1) := by decide +kernel
theorem dX7_greatestOfBoth_18 : decode cX7_greatestOfBoth 18 = .ok (.iload 6, 2) := by decide +kernel
theorem dX7_greatestOfBoth_20 : decode cX7_greatestOfBoth 20 = .ok (.invokevirtual 49, 3) := by decide +kernel
theorem dX7_greatestOfBoth_23 : decode cX7_greatestOfBoth 23 = .ok (.lstore 7, 2) := by decide +kernel
theorem dX7_greatestOfBoth_25 : decode cX7_greatestOfBoth 25 = .ok (.aload_n 0, 1) := by decide +kernel
theorem dX7_greatestOfBoth_26 : decode cX7_greatestOfBoth 26 = .ok (.getfield 15, 3) := by decide +kernel
theorem dX7_greatestOfBoth_29 : decode cX7_greatestOfBoth 29 = .ok (.iload_n 1, 1) := by decide +kernel
theorem dX7_greatestOfBoth_30 : decode cX7_greatestOfBoth 30 = .ok (.bipush 6, 2) := by decide +kernel
theorem dX7_greatestOfBoth_32 : decode cX7_greatestOfBoth 32 = .ok (.imul, 1) := by decide +kernel
theorem dX7_greatestOfBoth_33 : decode cX7_greatestOfBoth 33 = .ok (.iload 6, 2) := by decide +kernel
theorem dX7_greatestOfBoth_35 : decode cX7_greatestOfBoth 35 = .ok (.iadd, 1) := by decide +kernel
theorem dX7_greatestOfBoth_36 : decode cX7_greatestOfBoth 36 = .ok (.invokestatic 45, 3) := by decide +kernel
theorem dX7_greatestOfBoth_39 : decode cX7_greatestOfBoth 39 = .ok (.istore 9, 2) := by decide +kernel
theorem dX7_greatestOfBoth_41 : decode cX7_greatestOfBoth 41 = .ok (.lload_n 2, 1) := by decide +kernel
theorem dX7_greatestOfBoth_42 : decode cX7_greatestOfBoth 42 = .ok (.lload 7, 2) := by decide +kernel
theorem dX7_greatestOfBoth_44 : decode cX7_greatestOfBoth 44 = .ok (.iload 9, 2) := by decide +kernel
theorem dX7_greatestOfBoth_46 : decode cX7_greatestOfBoth 46 = .ok (.i2l, 1) := by decide +kernel
theorem dX7_greatestOfBoth_47 : decode cX7_greatestOfBoth 47 = .ok (.lmul, 1) := by decide +kernel
theorem dX7_greatestOfBoth_48 : decode cX7_greatestOfBoth 48 = .ok (.invokestatic 58, 3) := by decide +kernel
theorem dX7_greatestOfBoth_51 : decode cX7_greatestOfBoth 51 = .ok (.lstore_n 2, 1) := by decide +kernel
theorem dX7_greatestOfBoth_52 : decode cX7_greatestOfBoth 52 = .ok (.lload 4, 2) := by decide +kernel
theorem dX7_greatestOfBoth_54 : decode cX7_greatestOfBoth 54 = .ok (.lload 7, 2) := by decide +kernel
theorem dX7_greatestOfBoth_56 : decode cX7_greatestOfBoth 56 = .ok (.bipush 10, 2) := by decide +kernel
theorem dX7_greatestOfBoth_58 : decode cX7_greatestOfBoth 58 = .ok (.iload 9, 2) := by decide +kernel
theorem dX7_greatestOfBoth_60 : decode cX7_greatestOfBoth 60 = .ok (.isub, 1) := by decide +kernel
theorem dX7_greatestOfBoth_61 : decode cX7_greatestOfBoth 61 = .ok (.i2l, 1) := by decide +kernel
theorem dX7_greatestOfBoth_62 : decode cX7_greatestOfBoth 62 = .ok (.lmul, 1) := by decide +kernel
theorem dX7_greatestOfBoth_63 : decode cX7_greatestOfBoth 63 = .ok (.invokestatic 58, 3) := by decide +kernel
theorem dX7_greatestOfBoth_66 : decode cX7_greatestOfBoth 66 = .ok (.lstore 4, 2) := by decide +kernel
theorem dX7_greatestOfBoth_68 : decode cX7_greatestOfBoth 68 = .ok (.iinc 6 1, 3) := by decide +kernel
theorem dX7_greatestOfBoth_71 : decode cX7_greatestOfBoth 71 = .ok (.goto (-63), 3) := by decide +kernel
theorem dX7_greatestOfBoth_74 : decode cX7_greatestOfBoth 74 = .ok (.lload_n 2, 1) := by decide +kernel
theorem dX7_greatestOfBoth_75 : decode cX7_greatestOfBoth 75 = .ok (.lload 4, 2) := by decide +kernel
theorem dX7_greatestOfBoth_77 : decode cX7_greatestOfBoth 77 = .ok (.ladd, 1) := by decide +kernel
theorem dX7_greatestOfBoth_78 : decode cX7_greatestOfBoth 78 = .ok (.lreturn, 1) := by decide +kernel
theorem dX7_castNets_0 : decode cX7_castNets 0 = .ok (.aload_n 0, 1) := by decide +kernel
theorem dX7_castNets_1 : decode cX7_castNets 1 = .ok (.invokevirtual 64, 3) := by decide +kernel
theorem dX7_castNets_4 : decode cX7_castNets 4 = .ok (.bipush 40, 2) := by decide +kernel
theorem dX7_castNets_6 : decode cX7_castNets 6 = .ok (.istore_n 3, 1) := by decide +kernel
theorem dX7_castNets_7 : decode cX7_castNets 7 = .ok (.iload_n 3, 1) := by decide +kernel
theorem dX7_castNets_8 : decode cX7_castNets 8 = .ok (.ifCond .lt 74, 3) := by decide +kernel
theorem dX7_castNets_11 : decode cX7_castNets 11 = .ok (.aload_n 0, 1) := by decide +kernel
theorem dX7_castNets_12 : decode cX7_castNets 12 = .ok (.iconst 0, 1) := by decide +kernel
theorem dX7_castNets_13 : decode cX7_castNets 13 = .ok (.iload_n 3, 1) := by decide +kernel
theorem dX7_castNets_14 : decode cX7_castNets 14 = .ok (.lconst 0, 1) := by decide +kernel
theorem dX7_castNets_15 : decode cX7_castNets 15 = .ok (.invokevirtual 67, 3) := by decide +kernel
theorem dX7_castNets_18 : decode cX7_castNets 18 = .ok (.iconst 1, 1) := by decide +kernel
theorem dX7_castNets_19 : decode cX7_castNets 19 = .ok (.istore 4, 2) := by decide +kernel
theorem dX7_castNets_21 : decode cX7_castNets 21 = .ok (.iload 4, 2) := by decide +kernel
theorem dX7_castNets_23 : decode cX7_castNets 23 = .ok (.iload_n 1, 1) := by decide +kernel
theorem dX7_castNets_24 : decode cX7_castNets 24 = .ok (.if_icmp .gt 52, 3) := by decide +kernel
theorem dX7_castNets_27 : decode cX7_castNets 27 = .ok (.iload_n 3, 1) := by decide +kernel
theorem dX7_castNets_28 : decode cX7_castNets 28 = .ok (.bipush 40, 2) := by decide +kernel
theorem dX7_castNets_30 : decode cX7_castNets 30 = .ok (.if_icmp .ge 15, 3) := by decide +kernel
theorem dX7_castNets_33 : decode cX7_castNets 33 = .ok (.aload_n 0, 1) := by decide +kernel
theorem dX7_castNets_34 : decode cX7_castNets 34 = .ok (.iload 4, 2) := by decide +kernel
theorem dX7_castNets_36 : decode cX7_castNets 36 = .ok (.iload_n 3, 1) := by decide +kernel
theorem dX7_castNets_37 : decode cX7_castNets 37 = .ok (.iconst 1, 1) := by decide +kernel
theorem dX7_castNets_38 : decode cX7_castNets 38 = .ok (.iadd, 1) := by decide +kernel
theorem dX7_castNets_39 : decode cX7_castNets 39 = .ok (.invokevirtual 71, 3) := by decide +kernel
theorem dX7_castNets_42 : decode cX7_castNets 42 = .ok (.goto 6, 3) := by decide +kernel
theorem dX7_castNets_45 : decode cX7_castNets 45 = .ok (.ldc2_w 53, 3) := by decide +kernel
theorem dX7_castNets_48 : decode cX7_castNets 48 = .ok (.lstore 5, 2) := by decide +kernel
theorem dX7_castNets_50 : decode cX7_castNets 50 = .ok (.aload_n 0, 1) := by decide +kernel
theorem dX7_castNets_51 : decode cX7_castNets 51 = .ok (.iload 4, 2) := by decide +kernel
theorem dX7_castNets_53 : decode cX7_castNets 53 = .ok (.iload_n 3, 1) := by decide +kernel
theorem dX7_castNets_54 : decode cX7_castNets 54 = .ok (.lload 5, 2) := by decide +kernel
theorem dX7_castNets_56 : decode cX7_castNets 56 = .ok (.aload_n 0, 1) := by decide +kernel
theorem dX7_castNets_57 : decode cX7_castNets 57 = .ok (.iload 4, 2) := by decide +kernel
theorem dX7_castNets_59 : decode cX7_castNets 59 = .ok (.iload_n 3, 1) := by decide +kernel
theorem dX7_castNets_60 : decode cX7_castNets 60 = .ok (.iload_n 2, 1) := by decide +kernel
theorem dX7_castNets_61 : decode cX7_castNets 61 = .ok (.invokevirtual 75, 3) := by decide +kernel
theorem dX7_castNets_64 : decode cX7_castNets 64 = .ok (.invokestatic 58, 3) := by decide +kernel
theorem dX7_castNets_67 : decode cX7_castNets 67 = .ok (.invokevirtual 67, 3) := by decide +kernel
theorem dX7_castNets_70 : decode cX7_castNets 70 = .ok (.iinc 4 1, 3) := by decide +kernel
theorem dX7_castNets_73 : decode cX7_castNets 73 = .ok (.goto (-52), 3) := by decide +kernel
theorem dX7_castNets_76 : decode cX7_castNets 76 = .ok (.iinc 3 (-1), 3) := by decide +kernel
theorem dX7_castNets_79 : decode cX7_castNets 79 = .ok (.goto (-72), 3) := by decide +kernel
theorem dX7_castNets_82 : decode cX7_castNets 82 = .ok (.iconst 0, 1) := by decide +kernel
theorem dX7_castNets_83 : decode cX7_castNets 83 = .ok (.istore_n 3, 1) := by decide +kernel
theorem dX7_castNets_84 : decode cX7_castNets 84 = .ok (.iconst 0, 1) := by decide +kernel
theorem dX7_castNets_85 : decode cX7_castNets 85 = .ok (.istore 4, 2) := by decide +kernel
theorem dX7_castNets_87 : decode cX7_castNets 87 = .ok (.iload 4, 2) := by decide +kernel
theorem dX7_castNets_89 : decode cX7_castNets 89 = .ok (.iload_n 1, 1) := by decide +kernel
theorem dX7_castNets_90 : decode cX7_castNets 90 = .ok (.if_icmp .ge 65, 3) := by decide +kernel
theorem dX7_castNets_93 : decode cX7_castNets 93 = .ok (.iload_n 3, 1) := by decide +kernel
theorem dX7_castNets_94 : decode cX7_castNets 94 = .ok (.istore 5, 2) := by decide +kernel
theorem dX7_castNets_96 : decode cX7_castNets 96 = .ok (.iload 5, 2) := by decide +kernel
theorem dX7_castNets_98 : decode cX7_castNets 98 = .ok (.bipush 40, 2) := by decide +kernel
theorem dX7_castNets_100 : decode cX7_castNets 100 = .ok (.if_icmp .ge 33, 3) := by decide +kernel
theorem dX7_castNets_103 : decode cX7_castNets 103 = .ok (.aload_n 0, 1) := by decide +kernel
theorem dX7_castNets_104 : decode cX7_castNets 104 = .ok (.iload_n 1, 1) := by decide +kernel
theorem dX7_castNets_105 : decode cX7_castNets 105 = .ok (.iload 4, 2) := by decide +kernel
theorem dX7_castNets_107 : decode cX7_castNets 107 = .ok (.isub, 1) := by decide +kernel
theorem dX7_castNets_108 : decode cX7_castNets 108 = .ok (.iload 5, 2) := by decide +kernel
theorem dX7_castNets_110 : decode cX7_castNets 110 = .ok (.iload_n 2, 1) := by decide +kernel
theorem dX7_castNets_111 : decode cX7_castNets 111 = .ok (.invokevirtual 75, 3) := by decide +kernel
theorem dX7_castNets_114 : decode cX7_castNets 114 = .ok (.aload_n 0, 1) := by decide +kernel
theorem dX7_castNets_115 : decode cX7_castNets 115 = .ok (.iload_n 1, 1) := by decide +kernel
theorem dX7_castNets_116 : decode cX7_castNets 116 = .ok (.iload 4, 2) := by decide +kernel
theorem dX7_castNets_118 : decode cX7_castNets 118 = .ok (.isub, 1) := by decide +kernel
theorem dX7_castNets_119 : decode cX7_castNets 119 = .ok (.iload_n 3, 1) := by decide +kernel
theorem dX7_castNets_120 : decode cX7_castNets 120 = .ok (.invokevirtual 71, 3) := by decide +kernel
theorem dX7_castNets_123 : decode cX7_castNets 123 = .ok (.lcmp, 1) := by decide +kernel
theorem dX7_castNets_124 : decode cX7_castNets 124 = .ok (.ifCond .eq 9, 3) := by decide +kernel
theorem dX7_castNets_127 : decode cX7_castNets 127 = .ok (.iinc 5 1, 3) := by decide +kernel
theorem dX7_castNets_130 : decode cX7_castNets 130 = .ok (.goto (-34), 3) := by decide +kernel
theorem dX7_castNets_133 : decode cX7_castNets 133 = .ok (.aload_n 0, 1) := by decide +kernel
theorem dX7_castNets_134 : decode cX7_castNets 134 = .ok (.getfield 31, 3) := by decide +kernel
theorem dX7_castNets_137 : decode cX7_castNets 137 = .ok (.iload 4, 2) := by decide +kernel
theorem dX7_castNets_139 : decode cX7_castNets 139 = .ok (.iload 5, 2) := by decide +kernel
theorem dX7_castNets_141 : decode cX7_castNets 141 = .ok (.invokestatic 41, 3) := by decide +kernel
theorem dX7_castNets_144 : decode cX7_castNets 144 = .ok (.iload 5, 2) := by decide +kernel
theorem dX7_castNets_146 : decode cX7_castNets 146 = .ok (.iload_n 2, 1) := by decide +kernel
theorem dX7_castNets_147 : decode cX7_castNets 147 = .ok (.iadd, 1) := by decide +kernel
theorem dX7_castNets_148 : decode cX7_castNets 148 = .ok (.istore_n 3, 1) := by decide +kernel
theorem dX7_castNets_149 : decode cX7_castNets 149 = .ok (.iinc 4 1, 3) := by decide +kernel
theorem dX7_castNets_152 : decode cX7_castNets 152 = .ok (.goto (-65), 3) := by decide +kernel
theorem dX7_castNets_155 : decode cX7_castNets 155 = .ok (.aload_n 0, 1) := by decide +kernel
theorem dX7_castNets_156 : decode cX7_castNets 156 = .ok (.iload_n 1, 1) := by decide +kernel
theorem dX7_castNets_157 : decode cX7_castNets 157 = .ok (.iconst 0, 1) := by decide +kernel
theorem dX7_castNets_158 : decode cX7_castNets 158 = .ok (.invokevirtual 71, 3) := by decide +kernel
theorem dX7_castNets_161 : decode cX7_castNets 161 = .ok (.lreturn, 1) := by decide +kernel
theorem dX7_net_0 : decode cX7_net 0 = .ok (.aload_n 0, 1) := by decide +kernel
theorem dX7_net_1 : decode cX7_net 1 = .ok (.getfield 31, 3) := by decide +kernel
theorem dX7_net_4 : decode cX7_net 4 = .ok (.iload_n 1, 1) := by decide +kernel
theorem dX7_net_5 : decode cX7_net 5 = .ok (.invokestatic 45, 3) := by decide +kernel
theorem dX7_net_8 : decode cX7_net 8 = .ok (.ireturn, 1) := by decide +kernel
theorem dX7_sumWorths_0 : decode cX7_sumWorths 0 = .ok (.iconst 0, 1) := by decide +kernel
theorem dX7_sumWorths_1 : decode cX7_sumWorths 1 = .ok (.istore_n 1, 1) := by decide +kernel
theorem dX7_sumWorths_2 : decode cX7_sumWorths 2 = .ok (.iload_n 1, 1) := by decide +kernel
theorem dX7_sumWorths_3 : decode cX7_sumWorths 3 = .ok (.bipush 40, 2) := by decide +kernel
theorem dX7_sumWorths_5 : decode cX7_sumWorths 5 = .ok (.if_icmp .ge 33, 3) := by decide +kernel
theorem dX7_sumWorths_8 : decode cX7_sumWorths 8 = .ok (.aload_n 0, 1) := by decide +kernel
theorem dX7_sumWorths_9 : decode cX7_sumWorths 9 = .ok (.getfield 24, 3) := by decide +kernel
theorem dX7_sumWorths_12 : decode cX7_sumWorths 12 = .ok (.iload_n 1, 1) := by decide +kernel
theorem dX7_sumWorths_13 : decode cX7_sumWorths 13 = .ok (.iconst 1, 1) := by decide +kernel
theorem dX7_sumWorths_14 : decode cX7_sumWorths 14 = .ok (.iadd, 1) := by decide +kernel
theorem dX7_sumWorths_15 : decode cX7_sumWorths 15 = .ok (.aload_n 0, 1) := by decide +kernel
theorem dX7_sumWorths_16 : decode cX7_sumWorths 16 = .ok (.getfield 24, 3) := by decide +kernel
theorem dX7_sumWorths_19 : decode cX7_sumWorths 19 = .ok (.iload_n 1, 1) := by decide +kernel
theorem dX7_sumWorths_20 : decode cX7_sumWorths 20 = .ok (.invokestatic 79, 3) := by decide +kernel
theorem dX7_sumWorths_23 : decode cX7_sumWorths 23 = .ok (.aload_n 0, 1) := by decide +kernel
theorem dX7_sumWorths_24 : decode cX7_sumWorths 24 = .ok (.iload_n 1, 1) := by decide +kernel
theorem dX7_sumWorths_25 : decode cX7_sumWorths 25 = .ok (.invokevirtual 83, 3) := by decide +kernel
theorem dX7_sumWorths_28 : decode cX7_sumWorths 28 = .ok (.ladd, 1) := by decide +kernel
theorem dX7_sumWorths_29 : decode cX7_sumWorths 29 = .ok (.invokestatic 86, 3) := by decide +kernel
theorem dX7_sumWorths_32 : decode cX7_sumWorths 32 = .ok (.iinc 1 1, 3) := by decide +kernel
theorem dX7_sumWorths_35 : decode cX7_sumWorths 35 = .ok (.goto (-33), 3) := by decide +kernel
theorem dX7_sumWorths_38 : decode cX7_sumWorths 38 = .ok (.return_, 1) := by decide +kernel
theorem dX7_worthOf_0 : decode cX7_worthOf 0 = .ok (.lconst 0, 1) := by decide +kernel
theorem dX7_worthOf_1 : decode cX7_worthOf 1 = .ok (.lstore_n 2, 1) := by decide +kernel
theorem dX7_worthOf_2 : decode cX7_worthOf 2 = .ok (.iconst 0, 1) := by decide +kernel
theorem dX7_worthOf_3 : decode cX7_worthOf 3 = .ok (.istore 4, 2) := by decide +kernel
theorem dX7_worthOf_5 : decode cX7_worthOf 5 = .ok (.iload 4, 2) := by decide +kernel
theorem dX7_worthOf_7 : decode cX7_worthOf 7 = .ok (.aload_n 0, 1) := by decide +kernel
theorem dX7_worthOf_8 : decode cX7_worthOf 8 = .ok (.getfield 34, 3) := by decide +kernel
theorem dX7_worthOf_11 : decode cX7_worthOf 11 = .ok (.if_icmp .ge 47, 3) := by decide +kernel
theorem dX7_worthOf_14 : decode cX7_worthOf 14 = .ok (.aload_n 0, 1) := by decide +kernel
theorem dX7_worthOf_15 : decode cX7_worthOf 15 = .ok (.getfield 21, 3) := by decide +kernel
theorem dX7_worthOf_18 : decode cX7_worthOf 18 = .ok (.iload 4, 2) := by decide +kernel
theorem dX7_worthOf_20 : decode cX7_worthOf 20 = .ok (.bipush 40, 2) := by decide +kernel
theorem dX7_worthOf_22 : decode cX7_worthOf 22 = .ok (.imul, 1) := by decide +kernel
theorem dX7_worthOf_23 : decode cX7_worthOf 23 = .ok (.iload_n 1, 1) := by decide +kernel
theorem dX7_worthOf_24 : decode cX7_worthOf 24 = .ok (.iadd, 1) := by decide +kernel
theorem dX7_worthOf_25 : decode cX7_worthOf 25 = .ok (.invokestatic 45, 3) := by decide +kernel
theorem dX7_worthOf_28 : decode cX7_worthOf 28 = .ok (.istore 5, 2) := by decide +kernel
theorem dX7_worthOf_30 : decode cX7_worthOf 30 = .ok (.lload_n 2, 1) := by decide +kernel
theorem dX7_worthOf_31 : decode cX7_worthOf 31 = .ok (.iload 5, 2) := by decide +kernel
theorem dX7_worthOf_33 : decode cX7_worthOf 33 = .ok (.ifCond .ne 7, 3) := by decide +kernel
theorem dX7_worthOf_36 : decode cX7_worthOf 36 = .ok (.lconst 0, 1) := by decide +kernel
theorem dX7_worthOf_37 : decode cX7_worthOf 37 = .ok (.goto 13, 3) := by decide +kernel
theorem dX7_worthOf_40 : decode cX7_worthOf 40 = .ok (.iload 5, 2) := by decide +kernel
theorem dX7_worthOf_42 : decode cX7_worthOf 42 = .ok (.i2l, 1) := by decide +kernel
theorem dX7_worthOf_43 : decode cX7_worthOf 43 = .ok (.aload_n 0, 1) := by decide +kernel
theorem dX7_worthOf_44 : decode cX7_worthOf 44 = .ok (.iload 4, 2) := by decide +kernel
theorem dX7_worthOf_46 : decode cX7_worthOf 46 = .ok (.invokevirtual 49, 3) := by decide +kernel
theorem dX7_worthOf_49 : decode cX7_worthOf 49 = .ok (.lmul, 1) := by decide +kernel
theorem dX7_worthOf_50 : decode cX7_worthOf 50 = .ok (.ladd, 1) := by decide +kernel
theorem dX7_worthOf_51 : decode cX7_worthOf 51 = .ok (.lstore_n 2, 1) := by decide +kernel
theorem dX7_worthOf_52 : decode cX7_worthOf 52 = .ok (.iinc 4 1, 3) := by decide +kernel
theorem dX7_worthOf_55 : decode cX7_worthOf 55 = .ok (.goto (-50), 3) := by decide +kernel
theorem dX7_worthOf_58 : decode cX7_worthOf 58 = .ok (.lload_n 2, 1) := by decide +kernel
theorem dX7_worthOf_59 : decode cX7_worthOf 59 = .ok (.lreturn, 1) := by decide +kernel
theorem dX7_worthFrom_0 : decode cX7_worthFrom 0 = .ok (.iload_n 2, 1) := by decide +kernel
theorem dX7_worthFrom_1 : decode cX7_worthFrom 1 = .ok (.iload_n 3, 1) := by decide +kernel
theorem dX7_worthFrom_2 : decode cX7_worthFrom 2 = .ok (.iadd, 1) := by decide +kernel
theorem dX7_worthFrom_3 : decode cX7_worthFrom 3 = .ok (.bipush 40, 2) := by decide +kernel
theorem dX7_worthFrom_5 : decode cX7_worthFrom 5 = .ok (.if_icmp .gt 18, 3) := by decide +kernel
theorem dX7_worthFrom_8 : decode cX7_worthFrom 8 = .ok (.aload_n 0, 1) := by decide +kernel
theorem dX7_worthFrom_9 : decode cX7_worthFrom 9 = .ok (.iload_n 1, 1) := by decide +kernel
theorem dX7_worthFrom_10 : decode cX7_worthFrom 10 = .ok (.iconst 1, 1) := by decide +kernel
theorem dX7_worthFrom_11 : decode cX7_worthFrom 11 = .ok (.isub, 1) := by decide +kernel
theorem dX7_worthFrom_12 : decode cX7_worthFrom 12 = .ok (.iload_n 2, 1) := by decide +kernel
theorem dX7_worthFrom_13 : decode cX7_worthFrom 13 = .ok (.iload_n 3, 1) := by decide +kernel
theorem dX7_worthFrom_14 : decode cX7_worthFrom 14 = .ok (.iadd, 1) := by decide +kernel
theorem dX7_worthFrom_15 : decode cX7_worthFrom 15 = .ok (.invokevirtual 71, 3) := by decide +kernel
theorem dX7_worthFrom_18 : decode cX7_worthFrom 18 = .ok (.lconst 0, 1) := by decide +kernel
theorem dX7_worthFrom_19 : decode cX7_worthFrom 19 = .ok (.lcmp, 1) := by decide +kernel
theorem dX7_worthFrom_20 : decode cX7_worthFrom 20 = .ok (.ifCond .ge 7, 3) := by decide +kernel
theorem dX7_worthFrom_23 : decode cX7_worthFrom 23 = .ok (.ldc2_w 53, 3) := by decide +kernel
theorem dX7_worthFrom_26 : decode cX7_worthFrom 26 = .ok (.lreturn, 1) := by decide +kernel
theorem dX7_worthFrom_27 : decode cX7_worthFrom 27 = .ok (.aload_n 0, 1) := by decide +kernel
theorem dX7_worthFrom_28 : decode cX7_worthFrom 28 = .ok (.getfield 24, 3) := by decide +kernel
theorem dX7_worthFrom_31 : decode cX7_worthFrom 31 = .ok (.iload_n 2, 1) := by decide +kernel
theorem dX7_worthFrom_32 : decode cX7_worthFrom 32 = .ok (.iload_n 3, 1) := by decide +kernel
theorem dX7_worthFrom_33 : decode cX7_worthFrom 33 = .ok (.iadd, 1) := by decide +kernel
theorem dX7_worthFrom_34 : decode cX7_worthFrom 34 = .ok (.invokestatic 79, 3) := by decide +kernel
theorem dX7_worthFrom_37 : decode cX7_worthFrom 37 = .ok (.aload_n 0, 1) := by decide +kernel
theorem dX7_worthFrom_38 : decode cX7_worthFrom 38 = .ok (.getfield 24, 3) := by decide +kernel
theorem dX7_worthFrom_41 : decode cX7_worthFrom 41 = .ok (.iload_n 2, 1) := by decide +kernel
theorem dX7_worthFrom_42 : decode cX7_worthFrom 42 = .ok (.invokestatic 79, 3) := by decide +kernel
theorem dX7_worthFrom_45 : decode cX7_worthFrom 45 = .ok (.lsub, 1) := by decide +kernel
theorem dX7_worthFrom_46 : decode cX7_worthFrom 46 = .ok (.aload_n 0, 1) := by decide +kernel
theorem dX7_worthFrom_47 : decode cX7_worthFrom 47 = .ok (.iload_n 1, 1) := by decide +kernel
theorem dX7_worthFrom_48 : decode cX7_worthFrom 48 = .ok (.iconst 1, 1) := by decide +kernel
theorem dX7_worthFrom_49 : decode cX7_worthFrom 49 = .ok (.isub, 1) := by decide +kernel
theorem dX7_worthFrom_50 : decode cX7_worthFrom 50 = .ok (.iload_n 2, 1) := by decide +kernel
theorem dX7_worthFrom_51 : decode cX7_worthFrom 51 = .ok (.iload_n 3, 1) := by decide +kernel
theorem dX7_worthFrom_52 : decode cX7_worthFrom 52 = .ok (.iadd, 1) := by decide +kernel
theorem dX7_worthFrom_53 : decode cX7_worthFrom 53 = .ok (.invokevirtual 71, 3) := by decide +kernel
theorem dX7_worthFrom_56 : decode cX7_worthFrom 56 = .ok (.ladd, 1) := by decide +kernel
theorem dX7_worthFrom_57 : decode cX7_worthFrom 57 = .ok (.lreturn, 1) := by decide +kernel
theorem dX7_bestOf_0 : decode cX7_bestOf 0 = .ok (.aload_n 0, 1) := by decide +kernel
theorem dX7_bestOf_1 : decode cX7_bestOf 1 = .ok (.getfield 28, 3) := by decide +kernel
theorem dX7_bestOf_4 : decode cX7_bestOf 4 = .ok (.iload_n 1, 1) := by decide +kernel
theorem dX7_bestOf_5 : decode cX7_bestOf 5 = .ok (.bipush 41, 2) := by decide +kernel
theorem dX7_bestOf_7 : decode cX7_bestOf 7 = .ok (.imul, 1) := by decide +kernel
theorem dX7_bestOf_8 : decode cX7_bestOf 8 = .ok (.iload_n 2, 1) := by decide +kernel
theorem dX7_bestOf_9 : decode cX7_bestOf 9 = .ok (.iadd, 1) := by decide +kernel
theorem dX7_bestOf_10 : decode cX7_bestOf 10 = .ok (.invokestatic 79, 3) := by decide +kernel
theorem dX7_bestOf_13 : decode cX7_bestOf 13 = .ok (.lreturn, 1) := by decide +kernel
theorem dX7_setBest_0 : decode cX7_setBest 0 = .ok (.aload_n 0, 1) := by decide +kernel
theorem dX7_setBest_1 : decode cX7_setBest 1 = .ok (.getfield 28, 3) := by decide +kernel
theorem dX7_setBest_4 : decode cX7_setBest 4 = .ok (.iload_n 1, 1) := by decide +kernel
theorem dX7_setBest_5 : decode cX7_setBest 5 = .ok (.bipush 41, 2) := by decide +kernel
theorem dX7_setBest_7 : decode cX7_setBest 7 = .ok (.imul, 1) := by decide +kernel
theorem dX7_setBest_8 : decode cX7_setBest 8 = .ok (.iload_n 2, 1) := by decide +kernel
theorem dX7_setBest_9 : decode cX7_setBest 9 = .ok (.iadd, 1) := by decide +kernel
theorem dX7_setBest_10 : decode cX7_setBest 10 = .ok (.lload_n 3, 1) := by decide +kernel
theorem dX7_setBest_11 : decode cX7_setBest 11 = .ok (.invokestatic 86, 3) := by decide +kernel
theorem dX7_setBest_14 : decode cX7_setBest 14 = .ok (.return_, 1) := by decide +kernel
theorem dX8_init_0 : decode cX8_init 0 = .ok (.aload_n 0, 1) := by decide +kernel
theorem dX8_init_1 : decode cX8_init 1 = .ok (.invokespecial 1, 3) := by decide +kernel
theorem dX8_init_4 : decode cX8_init 4 = .ok (.aload_n 0, 1) := by decide +kernel
theorem dX8_init_5 : decode cX8_init 5 = .ok (.aload_n 1, 1) := by decide +kernel
theorem dX8_init_6 : decode cX8_init 6 = .ok (.putfield 7, 3) := by decide +kernel
theorem dX8_init_9 : decode cX8_init 9 = .ok (.return_, 1) := by decide +kernel
theorem dX8_begin_0 : decode cX8_begin 0 = .ok (.aload_n 0, 1) := by decide +kernel
theorem dX8_begin_1 : decode cX8_begin 1 = .ok (.iload_n 1, 1) := by decide +kernel
theorem dX8_begin_2 : decode cX8_begin 2 = .ok (.putfield 13, 3) := by decide +kernel
theorem dX8_begin_5 : decode cX8_begin 5 = .ok (.aload_n 0, 1) := by decide +kernel
theorem dX8_begin_6 : decode cX8_begin 6 = .ok (.iload_n 2, 1) := by decide +kernel
theorem dX8_begin_7 : decode cX8_begin 7 = .ok (.putfield 17, 3) := by decide +kernel
theorem dX8_begin_10 : decode cX8_begin 10 = .ok (.aload_n 0, 1) := by decide +kernel
theorem dX8_begin_11 : decode cX8_begin 11 = .ok (.iconst 0, 1) := by decide +kernel
theorem dX8_begin_12 : decode cX8_begin 12 = .ok (.putfield 20, 3) := by decide +kernel
theorem dX8_begin_15 : decode cX8_begin 15 = .ok (.aload_n 0, 1) := by decide +kernel
theorem dX8_begin_16 : decode cX8_begin 16 = .ok (.iconst 0, 1) := by decide +kernel
theorem dX8_begin_17 : decode cX8_begin 17 = .ok (.putfield 23, 3) := by decide +kernel
theorem dX8_begin_20 : decode cX8_begin 20 = .ok (.aload_n 0, 1) := by decide +kernel
theorem dX8_begin_21 : decode cX8_begin 21 = .ok (.iconst 0, 1) := by decide +kernel
theorem dX8_begin_22 : decode cX8_begin 22 = .ok (.putfield 26, 3) := by decide +kernel
theorem dX8_begin_25 : decode cX8_begin 25 = .ok (.aload_n 0, 1) := by decide +kernel
theorem dX8_begin_26 : decode cX8_begin 26 = .ok (.iconst 0, 1) := by decide +kernel
theorem dX8_begin_27 : decode cX8_begin 27 = .ok (.putfield 29, 3) := by decide +kernel
theorem dX8_begin_30 : decode cX8_begin 30 = .ok (.aload_n 0, 1) := by decide +kernel
theorem dX8_begin_31 : decode cX8_begin 31 = .ok (.iconst 0, 1) := by decide +kernel
theorem dX8_begin_32 : decode cX8_begin 32 = .ok (.putfield 32, 3) := by decide +kernel
theorem dX8_begin_35 : decode cX8_begin 35 = .ok (.aload_n 0, 1) := by decide +kernel
theorem dX8_begin_36 : decode cX8_begin 36 = .ok (.iconst 0, 1) := by decide +kernel
theorem dX8_begin_37 : decode cX8_begin 37 = .ok (.putfield 35, 3) := by decide +kernel
theorem dX8_begin_40 : decode cX8_begin 40 = .ok (.aload_n 0, 1) := by decide +kernel
theorem dX8_begin_41 : decode cX8_begin 41 = .ok (.iconst 0, 1) := by decide +kernel
theorem dX8_begin_42 : decode cX8_begin 42 = .ok (.putfield 38, 3) := by decide +kernel
theorem dX8_begin_45 : decode cX8_begin 45 = .ok (.return_, 1) := by decide +kernel
theorem dX8_forget_0 : decode cX8_forget 0 = .ok (.aload_n 0, 1) := by decide +kernel
theorem dX8_forget_1 : decode cX8_forget 1 = .ok (.iconst 0, 1) := by decide +kernel
theorem dX8_forget_2 : decode cX8_forget 2 = .ok (.putfield 38, 3) := by decide +kernel
theorem dX8_forget_5 : decode cX8_forget 5 = .ok (.return_, 1) := by decide +kernel
theorem dX8_wear_0 : decode cX8_wear 0 = .ok (.aload_n 0, 1) := by decide +kernel
theorem dX8_wear_1 : decode cX8_wear 1 = .ok (.getfield 20, 3) := by decide +kernel
theorem dX8_wear_4 : decode cX8_wear 4 = .ok (.ireturn, 1) := by decide +kernel
theorem dX8_crack_0 : decode cX8_crack 0 = .ok (.aload_n 0, 1) := by decide +kernel
theorem dX8_crack_1 : decode cX8_crack 1 = .ok (.getfield 23, 3) := by decide +kernel
theorem dX8_crack_4 : decode cX8_crack 4 = .ok (.ireturn, 1) := by decide +kernel
theorem dX8_most_0 : decode cX8_most 0 = .ok (.aload_n 0, 1) := by decide +kernel
theorem dX8_most_1 : decode cX8_most 1 = .ok (.getfield 26, 3) := by decide +kernel
theorem dX8_most_4 : decode cX8_most 4 = .ok (.ireturn, 1) := by decide +kernel
theorem dX8_crackedBy_0 : decode cX8_crackedBy 0 = .ok (.aload_n 0, 1) := by decide +kernel
theorem dX8_crackedBy_1 : decode cX8_crackedBy 1 = .ok (.getfield 32, 3) := by decide +kernel
theorem dX8_crackedBy_4 : decode cX8_crackedBy 4 = .ok (.ireturn, 1) := by decide +kernel
theorem dX8_ranBy_0 : decode cX8_ranBy 0 = .ok (.aload_n 0, 1) := by decide +kernel
theorem dX8_ranBy_1 : decode cX8_ranBy 1 = .ok (.getfield 35, 3) := by decide +kernel
theorem dX8_ranBy_4 : decode cX8_ranBy 4 = .ok (.ireturn, 1) := by decide +kernel
theorem dX8_pulled_0 : decode cX8_pulled 0 = .ok (.aload_n 0, 1) := by decide +kernel
theorem dX8_pulled_1 : decode cX8_pulled 1 = .ok (.getfield 42, 3) := by decide +kernel
theorem dX8_pulled_4 : decode cX8_pulled 4 = .ok (.ireturn, 1) := by decide +kernel
theorem dX8_more_0 : decode cX8_more 0 = .ok (.aload_n 0, 1) := by decide +kernel
theorem dX8_more_1 : decode cX8_more 1 = .ok (.getfield 45, 3) := by decide +kernel
theorem dX8_more_4 : decode cX8_more 4 = .ok (.ireturn, 1) := by decide +kernel
theorem dX8_pullBy_0 : decode cX8_pullBy 0 = .ok (.aload_n 0, 1) := by decide +kernel
theorem dX8_pullBy_1 : decode cX8_pullBy 1 = .ok (.getfield 17, 3) := by decide +kernel
theorem dX8_pullBy_4 : decode cX8_pullBy 4 = .ok (.ifCond .eq 10, 3) := by decide +kernel
theorem dX8_pullBy_7 : decode cX8_pullBy 7 = .ok (.aload_n 0, 1) := by decide +kernel
theorem dX8_pullBy_8 : decode cX8_pullBy 8 = .ok (.getfield 35, 3) := by decide +kernel
theorem dX8_pullBy_11 : decode cX8_pullBy 11 = .ok (.ifCond .le 4, 3) := by decide +kernel
theorem dX8_pullBy_14 : decode cX8_pullBy 14 = .ok (.return_, 1) := by decide +kernel
theorem dX8_pullBy_15 : decode cX8_pullBy 15 = .ok (.aload_n 0, 1) := by decide +kernel
theorem dX8_pullBy_16 : decode cX8_pullBy 16 = .ok (.iload_n 1, 1) := by decide +kernel
theorem dX8_pullBy_17 : decode cX8_pullBy 17 = .ok (.invokevirtual 48, 3) := by decide +kernel
theorem dX8_pullBy_20 : decode cX8_pullBy 20 = .ok (.ifCond .ne 8, 3) := by decide +kernel
theorem dX8_pullBy_23 : decode cX8_pullBy 23 = .ok (.aload_n 0, 1) := by decide +kernel
theorem dX8_pullBy_24 : decode cX8_pullBy 24 = .ok (.iload_n 1, 1) := by decide +kernel
theorem dX8_pullBy_25 : decode cX8_pullBy 25 = .ok (.invokevirtual 52, 3) := by decide +kernel
theorem dX8_pullBy_28 : decode cX8_pullBy 28 = .ok (.aload_n 0, 1) := by decide +kernel
theorem dX8_pullBy_29 : decode cX8_pullBy 29 = .ok (.dup, 1) := by decide +kernel
theorem dX8_pullBy_30 : decode cX8_pullBy 30 = .ok (.getfield 29, 3) := by decide +kernel
theorem dX8_pullBy_33 : decode cX8_pullBy 33 = .ok (.iconst 1, 1) := by decide +kernel
theorem dX8_pullBy_34 : decode cX8_pullBy 34 = .ok (.iadd, 1) := by decide +kernel
theorem dX8_pullBy_35 : decode cX8_pullBy 35 = .ok (.putfield 29, 3) := by decide +kernel
theorem dX8_pullBy_38 : decode cX8_pullBy 38 = .ok (.aload_n 0, 1) := by decide +kernel
theorem dX8_pullBy_39 : decode cX8_pullBy 39 = .ok (.aload_n 0, 1) := by decide +kernel
theorem dX8_pullBy_40 : decode cX8_pullBy 40 = .ok (.getfield 26, 3) := by decide +kernel
theorem dX8_pullBy_43 : decode cX8_pullBy 43 = .ok (.aload_n 0, 1) := by decide +kernel
theorem dX8_pullBy_44 : decode cX8_pullBy 44 = .ok (.getfield 42, 3) := by decide +kernel
theorem dX8_pullBy_47 : decode cX8_pullBy 47 = .ok (.invokestatic 56, 3) := by decide +kernel
theorem dX8_pullBy_50 : decode cX8_pullBy 50 = .ok (.putfield 26, 3) := by decide +kernel
theorem dX8_pullBy_53 : decode cX8_pullBy 53 = .ok (.aload_n 0, 1) := by decide +kernel
theorem dX8_pullBy_54 : decode cX8_pullBy 54 = .ok (.getfield 23, 3) := by decide +kernel
theorem dX8_pullBy_57 : decode cX8_pullBy 57 = .ok (.ifCond .le 19, 3) := by decide +kernel
theorem dX8_pullBy_60 : decode cX8_pullBy 60 = .ok (.aload_n 0, 1) := by decide +kernel
theorem dX8_pullBy_61 : decode cX8_pullBy 61 = .ok (.dup, 1) := by decide +kernel
theorem dX8_pullBy_62 : decode cX8_pullBy 62 = .ok (.getfield 23, 3) := by decide +kernel
theorem dX8_pullBy_65 : decode cX8_pullBy 65 = .ok (.aload_n 0, 1) := by decide +kernel
theorem dX8_pullBy_66 : decode cX8_pullBy 66 = .ok (.getfield 45, 3) := by decide +kernel
theorem dX8_pullBy_69 : decode cX8_pullBy 69 = .ok (.iadd, 1) := by decide +kernel
theorem dX8_pullBy_70 : decode cX8_pullBy 70 = .ok (.putfield 23, 3) := by decide +kernel
theorem dX8_pullBy_73 : decode cX8_pullBy 73 = .ok (.goto 45, 3) := by decide +kernel
theorem dX8_pullBy_76 : decode cX8_pullBy 76 = .ok (.aload_n 0, 1) := by decide +kernel
theorem dX8_pullBy_77 : decode cX8_pullBy 77 = .ok (.ldc 62, 2) := by decide +kernel
theorem dX8_pullBy_79 : decode cX8_pullBy 79 = .ok (.aload_n 0, 1) := by decide +kernel
theorem dX8_pullBy_80 : decode cX8_pullBy 80 = .ok (.getfield 20, 3) := by decide +kernel
theorem dX8_pullBy_83 : decode cX8_pullBy 83 = .ok (.aload_n 0, 1) := by decide +kernel
theorem dX8_pullBy_84 : decode cX8_pullBy 84 = .ok (.getfield 45, 3) := by decide +kernel
theorem dX8_pullBy_87 : decode cX8_pullBy 87 = .ok (.iadd, 1) := by decide +kernel
theorem dX8_pullBy_88 : decode cX8_pullBy 88 = .ok (.invokestatic 63, 3) := by decide +kernel
theorem dX8_pullBy_91 : decode cX8_pullBy 91 = .ok (.putfield 20, 3) := by decide +kernel
theorem dX8_pullBy_94 : decode cX8_pullBy 94 = .ok (.aload_n 0, 1) := by decide +kernel
theorem dX8_pullBy_95 : decode cX8_pullBy 95 = .ok (.getfield 20, 3) := by decide +kernel
theorem dX8_pullBy_98 : decode cX8_pullBy 98 = .ok (.aload_n 0, 1) := by decide +kernel
theorem dX8_pullBy_99 : decode cX8_pullBy 99 = .ok (.getfield 17, 3) := by decide +kernel
theorem dX8_pullBy_102 : decode cX8_pullBy 102 = .ok (.if_icmp .lt 16, 3) := by decide +kernel
theorem dX8_pullBy_105 : decode cX8_pullBy 105 = .ok (.aload_n 0, 1) := by decide +kernel
theorem dX8_pullBy_106 : decode cX8_pullBy 106 = .ok (.iconst 1, 1) := by decide +kernel
theorem dX8_pullBy_107 : decode cX8_pullBy 107 = .ok (.putfield 23, 3) := by decide +kernel
theorem dX8_pullBy_110 : decode cX8_pullBy 110 = .ok (.aload_n 0, 1) := by decide +kernel
theorem dX8_pullBy_111 : decode cX8_pullBy 111 = .ok (.aload_n 0, 1) := by decide +kernel
theorem dX8_pullBy_112 : decode cX8_pullBy 112 = .ok (.getfield 29, 3) := by decide +kernel
theorem dX8_pullBy_115 : decode cX8_pullBy 115 = .ok (.putfield 32, 3) := by decide +kernel
theorem dX8_pullBy_118 : decode cX8_pullBy 118 = .ok (.aload_n 0, 1) := by decide +kernel
theorem dX8_pullBy_119 : decode cX8_pullBy 119 = .ok (.getfield 23, 3) := by decide +kernel
theorem dX8_pullBy_122 : decode cX8_pullBy 122 = .ok (.ifCond .le 29, 3) := by decide +kernel
theorem dX8_pullBy_125 : decode cX8_pullBy 125 = .ok (.aload_n 0, 1) := by decide +kernel
theorem dX8_pullBy_126 : decode cX8_pullBy 126 = .ok (.getfield 23, 3) := by decide +kernel
theorem dX8_pullBy_129 : decode cX8_pullBy 129 = .ok (.aload_n 0, 1) := by decide +kernel
theorem dX8_pullBy_130 : decode cX8_pullBy 130 = .ok (.getfield 7, 3) := by decide +kernel
theorem dX8_pullBy_133 : decode cX8_pullBy 133 = .ok (.aload_n 0, 1) := by decide +kernel
theorem dX8_pullBy_134 : decode cX8_pullBy 134 = .ok (.getfield 13, 3) := by decide +kernel
theorem dX8_pullBy_137 : decode cX8_pullBy 137 = .ok (.invokevirtual 66, 3) := by decide +kernel
theorem dX8_pullBy_140 : decode cX8_pullBy 140 = .ok (.if_icmp .lt 11, 3) := by decide +kernel
theorem dX8_pullBy_143 : decode cX8_pullBy 143 = .ok (.aload_n 0, 1) := by decide +kernel
theorem dX8_pullBy_144 : decode cX8_pullBy 144 = .ok (.aload_n 0, 1) := by decide +kernel
theorem dX8_pullBy_145 : decode cX8_pullBy 145 = .ok (.getfield 29, 3) := by decide +kernel
theorem dX8_pullBy_148 : decode cX8_pullBy 148 = .ok (.putfield 35, 3) := by decide +kernel
theorem dX8_pullBy_151 : decode cX8_pullBy 151 = .ok (.return_, 1) := by decide +kernel
theorem dX8_isLikeBefore_0 : decode cX8_isLikeBefore 0 = .ok (.aload_n 0, 1) := by decide +kernel
theorem dX8_isLikeBefore_1 : decode cX8_isLikeBefore 1 = .ok (.getfield 7, 3) := by decide +kernel
theorem dX8_isLikeBefore_4 : decode cX8_isLikeBefore 4 = .ok (.invokevirtual 72, 3) := by decide +kernel
theorem dX8_isLikeBefore_7 : decode cX8_isLikeBefore 7 = .ok (.astore_n 2, 1) := by decide +kernel
theorem dX8_isLikeBefore_8 : decode cX8_isLikeBefore 8 = .ok (.aload_n 0, 1) := by decide +kernel
theorem dX8_isLikeBefore_9 : decode cX8_isLikeBefore 9 = .ok (.getfield 38, 3) := by decide +kernel
theorem dX8_isLikeBefore_12 : decode cX8_isLikeBefore 12 = .ok (.ifCond .eq 110, 3) := by decide +kernel
theorem dX8_isLikeBefore_15 : decode cX8_isLikeBefore 15 = .ok (.iload_n 1, 1) := by decide +kernel
theorem dX8_isLikeBefore_16 : decode cX8_isLikeBefore 16 = .ok (.aload_n 0, 1) := by decide +kernel
theorem dX8_isLikeBefore_17 : decode cX8_isLikeBefore 17 = .ok (.getfield 76, 3) := by decide +kernel
theorem dX8_isLikeBefore_20 : decode cX8_isLikeBefore 20 = .ok (.if_icmp .ne 102, 3) := by decide +kernel
theorem dX8_isLikeBefore_23 : decode cX8_isLikeBefore 23 = .ok (.aload_n 0, 1) := by decide +kernel
theorem dX8_isLikeBefore_24 : decode cX8_isLikeBefore 24 = .ok (.getfield 23, 3) := by decide +kernel
theorem dX8_isLikeBefore_27 : decode cX8_isLikeBefore 27 = .ok (.ifCond .le 7, 3) := by decide +kernel
theorem dX8_isLikeBefore_30 : decode cX8_isLikeBefore 30 = .ok (.iconst 1, 1) := by decide +kernel
theorem dX8_isLikeBefore_31 : decode cX8_isLikeBefore 31 = .ok (.goto 4, 3) := by decide +kernel
theorem dX8_isLikeBefore_34 : decode cX8_isLikeBefore 34 = .ok (.iconst 0, 1) := by decide +kernel
theorem dX8_isLikeBefore_35 : decode cX8_isLikeBefore 35 = .ok (.aload_n 0, 1) := by decide +kernel
theorem dX8_isLikeBefore_36 : decode cX8_isLikeBefore 36 = .ok (.getfield 79, 3) := by decide +kernel
theorem dX8_isLikeBefore_39 : decode cX8_isLikeBefore 39 = .ok (.ifCond .le 7, 3) := by decide +kernel
theorem dX8_isLikeBefore_42 : decode cX8_isLikeBefore 42 = .ok (.iconst 1, 1) := by decide +kernel
theorem dX8_isLikeBefore_43 : decode cX8_isLikeBefore 43 = .ok (.goto 4, 3) := by decide +kernel
theorem dX8_isLikeBefore_46 : decode cX8_isLikeBefore 46 = .ok (.iconst 0, 1) := by decide +kernel
theorem dX8_isLikeBefore_47 : decode cX8_isLikeBefore 47 = .ok (.if_icmp .ne 75, 3) := by decide +kernel
theorem dX8_isLikeBefore_50 : decode cX8_isLikeBefore 50 = .ok (.aload_n 2, 1) := by decide +kernel
theorem dX8_isLikeBefore_51 : decode cX8_isLikeBefore 51 = .ok (.iconst 5, 1) := by decide +kernel
theorem dX8_isLikeBefore_52 : decode cX8_isLikeBefore 52 = .ok (.invokevirtual 84, 3) := by decide +kernel
theorem dX8_isLikeBefore_55 : decode cX8_isLikeBefore 55 = .ok (.ifCond .ne 67, 3) := by decide +kernel
theorem dX8_isLikeBefore_58 : decode cX8_isLikeBefore 58 = .ok (.aload_n 0, 1) := by decide +kernel
theorem dX8_isLikeBefore_59 : decode cX8_isLikeBefore 59 = .ok (.getfield 26, 3) := by decide +kernel
theorem dX8_isLikeBefore_62 : decode cX8_isLikeBefore 62 = .ok (.aload_n 0, 1) := by decide +kernel
theorem dX8_isLikeBefore_63 : decode cX8_isLikeBefore 63 = .ok (.getfield 87, 3) := by decide +kernel
theorem dX8_isLikeBefore_66 : decode cX8_isLikeBefore 66 = .ok (.if_icmp .eq 12, 3) := by decide +kernel
theorem dX8_isLikeBefore_69 : decode cX8_isLikeBefore 69 = .ok (.aload_n 2, 1) := by decide +kernel
theorem dX8_isLikeBefore_70 : decode cX8_isLikeBefore 70 = .ok (.bipush 7, 2) := by decide +kernel
theorem dX8_isLikeBefore_72 : decode cX8_isLikeBefore 72 = .ok (.invokevirtual 84, 3) := by decide +kernel
theorem dX8_isLikeBefore_75 : decode cX8_isLikeBefore 75 = .ok (.ifCond .ne 47, 3) := by decide +kernel
theorem dX8_isLikeBefore_78 : decode cX8_isLikeBefore 78 = .ok (.aload_n 0, 1) := by decide +kernel
theorem dX8_isLikeBefore_79 : decode cX8_isLikeBefore 79 = .ok (.getfield 23, 3) := by decide +kernel
theorem dX8_isLikeBefore_82 : decode cX8_isLikeBefore 82 = .ok (.aload_n 0, 1) := by decide +kernel
theorem dX8_isLikeBefore_83 : decode cX8_isLikeBefore 83 = .ok (.getfield 79, 3) := by decide +kernel
theorem dX8_isLikeBefore_86 : decode cX8_isLikeBefore 86 = .ok (.if_icmp .eq 12, 3) := by decide +kernel
theorem dX8_isLikeBefore_89 : decode cX8_isLikeBefore 89 = .ok (.aload_n 2, 1) := by decide +kernel
theorem dX8_isLikeBefore_90 : decode cX8_isLikeBefore 90 = .ok (.bipush 8, 2) := by decide +kernel
theorem dX8_isLikeBefore_92 : decode cX8_isLikeBefore 92 = .ok (.invokevirtual 84, 3) := by decide +kernel
theorem dX8_isLikeBefore_95 : decode cX8_isLikeBefore 95 = .ok (.ifCond .ne 27, 3) := by decide +kernel
theorem dX8_isLikeBefore_98 : decode cX8_isLikeBefore 98 = .ok (.aload_n 0, 1) := by decide +kernel
theorem dX8_isLikeBefore_99 : decode cX8_isLikeBefore 99 = .ok (.getfield 20, 3) := by decide +kernel
theorem dX8_isLikeBefore_102 : decode cX8_isLikeBefore 102 = .ok (.aload_n 0, 1) := by decide +kernel
theorem dX8_isLikeBefore_103 : decode cX8_isLikeBefore 103 = .ok (.getfield 90, 3) := by decide +kernel
theorem dX8_isLikeBefore_106 : decode cX8_isLikeBefore 106 = .ok (.if_icmp .eq 12, 3) := by decide +kernel
theorem dX8_isLikeBefore_109 : decode cX8_isLikeBefore 109 = .ok (.aload_n 2, 1) := by decide +kernel
theorem dX8_isLikeBefore_110 : decode cX8_isLikeBefore 110 = .ok (.bipush 9, 2) := by decide +kernel
theorem dX8_isLikeBefore_112 : decode cX8_isLikeBefore 112 = .ok (.invokevirtual 84, 3) := by decide +kernel
theorem dX8_isLikeBefore_115 : decode cX8_isLikeBefore 115 = .ok (.ifCond .ne 7, 3) := by decide +kernel
theorem dX8_isLikeBefore_118 : decode cX8_isLikeBefore 118 = .ok (.iconst 1, 1) := by decide +kernel
theorem dX8_isLikeBefore_119 : decode cX8_isLikeBefore 119 = .ok (.goto 4, 3) := by decide +kernel
theorem dX8_isLikeBefore_122 : decode cX8_isLikeBefore 122 = .ok (.iconst 0, 1) := by decide +kernel
theorem dX8_isLikeBefore_123 : decode cX8_isLikeBefore 123 = .ok (.ireturn, 1) := by decide +kernel
theorem dX8_reckon_0 : decode cX8_reckon 0 = .ok (.aload_n 0, 1) := by decide +kernel
theorem dX8_reckon_1 : decode cX8_reckon 1 = .ok (.getfield 7, 3) := by decide +kernel
theorem dX8_reckon_4 : decode cX8_reckon 4 = .ok (.invokevirtual 72, 3) := by decide +kernel
theorem dX8_reckon_7 : decode cX8_reckon 7 = .ok (.astore_n 2, 1) := by decide +kernel
theorem dX8_reckon_8 : decode cX8_reckon 8 = .ok (.aload_n 0, 1) := by decide +kernel
theorem dX8_reckon_9 : decode cX8_reckon 9 = .ok (.getfield 7, 3) := by decide +kernel
theorem dX8_reckon_12 : decode cX8_reckon 12 = .ok (.aload_n 0, 1) := by decide +kernel
theorem dX8_reckon_13 : decode cX8_reckon 13 = .ok (.getfield 13, 3) := by decide +kernel
theorem dX8_reckon_16 : decode cX8_reckon 16 = .ok (.invokevirtual 93, 3) := by decide +kernel
theorem dX8_reckon_19 : decode cX8_reckon 19 = .ok (.aload_n 2, 1) := by decide +kernel
theorem dX8_reckon_20 : decode cX8_reckon 20 = .ok (.iload_n 1, 1) := by decide +kernel
theorem dX8_reckon_21 : decode cX8_reckon 21 = .ok (.aload_n 0, 1) := by decide +kernel
theorem dX8_reckon_22 : decode cX8_reckon 22 = .ok (.getfield 29, 3) := by decide +kernel
theorem dX8_reckon_25 : decode cX8_reckon 25 = .ok (.aload_n 0, 1) := by decide +kernel
theorem dX8_reckon_26 : decode cX8_reckon 26 = .ok (.getfield 26, 3) := by decide +kernel
theorem dX8_reckon_29 : decode cX8_reckon 29 = .ok (.aload_n 0, 1) := by decide +kernel
theorem dX8_reckon_30 : decode cX8_reckon 30 = .ok (.getfield 23, 3) := by decide +kernel
theorem dX8_reckon_33 : decode cX8_reckon 33 = .ok (.aload_n 0, 1) := by decide +kernel
theorem dX8_reckon_34 : decode cX8_reckon 34 = .ok (.getfield 20, 3) := by decide +kernel
theorem dX8_reckon_37 : decode cX8_reckon 37 = .ok (.invokevirtual 96, 3) := by decide +kernel
theorem dX8_reckon_40 : decode cX8_reckon 40 = .ok (.aload_n 0, 1) := by decide +kernel
theorem dX8_reckon_41 : decode cX8_reckon 41 = .ok (.aload_n 2, 1) := by decide +kernel
theorem dX8_reckon_42 : decode cX8_reckon 42 = .ok (.bipush 113, 2) := by decide +kernel
theorem dX8_reckon_44 : decode cX8_reckon 44 = .ok (.sipush 10000, 3) := by decide +kernel
theorem dX8_reckon_47 : decode cX8_reckon 47 = .ok (.invokevirtual 100, 3) := by decide +kernel
theorem dX8_reckon_50 : decode cX8_reckon 50 = .ok (.putfield 42, 3) := by decide +kernel
theorem dX8_reckon_53 : decode cX8_reckon 53 = .ok (.aload_n 2, 1) := by decide +kernel
theorem dX8_reckon_54 : decode cX8_reckon 54 = .ok (.aload_n 0, 1) := by decide +kernel
theorem dX8_reckon_55 : decode cX8_reckon 55 = .ok (.getfield 42, 3) := by decide +kernel
theorem dX8_reckon_58 : decode cX8_reckon 58 = .ok (.invokevirtual 103, 3) := by decide +kernel
theorem dX8_reckon_61 : decode cX8_reckon 61 = .ok (.aload_n 0, 1) := by decide +kernel
theorem dX8_reckon_62 : decode cX8_reckon 62 = .ok (.aload_n 0, 1) := by decide +kernel
theorem dX8_reckon_63 : decode cX8_reckon 63 = .ok (.getfield 23, 3) := by decide +kernel
theorem dX8_reckon_66 : decode cX8_reckon 66 = .ok (.ifCond .le 15, 3) := by decide +kernel
theorem dX8_reckon_69 : decode cX8_reckon 69 = .ok (.aload_n 2, 1) := by decide +kernel
theorem dX8_reckon_70 : decode cX8_reckon 70 = .ok (.bipush 103, 2) := by decide +kernel
theorem dX8_reckon_72 : decode cX8_reckon 72 = .ok (.sipush 10000, 3) := by decide +kernel
theorem dX8_reckon_75 : decode cX8_reckon 75 = .ok (.invokevirtual 100, 3) := by decide +kernel
theorem dX8_reckon_78 : decode cX8_reckon 78 = .ok (.goto 11, 3) := by decide +kernel
theorem dX8_reckon_81 : decode cX8_reckon 81 = .ok (.aload_n 2, 1) := by decide +kernel
theorem dX8_reckon_82 : decode cX8_reckon 82 = .ok (.bipush 100, 2) := by decide +kernel
theorem dX8_reckon_84 : decode cX8_reckon 84 = .ok (.ldc 106, 2) := by decide +kernel
theorem dX8_reckon_86 : decode cX8_reckon 86 = .ok (.invokevirtual 100, 3) := by decide +kernel
theorem dX8_reckon_89 : decode cX8_reckon 89 = .ok (.putfield 45, 3) := by decide +kernel
theorem dX8_reckon_92 : decode cX8_reckon 92 = .ok (.aload_n 0, 1) := by decide +kernel
theorem dX8_reckon_93 : decode cX8_reckon 93 = .ok (.iconst 1, 1) := by decide +kernel
theorem dX8_reckon_94 : decode cX8_reckon 94 = .ok (.putfield 38, 3) := by decide +kernel
theorem dX8_reckon_97 : decode cX8_reckon 97 = .ok (.aload_n 0, 1) := by decide +kernel
theorem dX8_reckon_98 : decode cX8_reckon 98 = .ok (.iload_n 1, 1) := by decide +kernel
theorem dX8_reckon_99 : decode cX8_reckon 99 = .ok (.putfield 76, 3) := by decide +kernel
theorem dX8_reckon_102 : decode cX8_reckon 102 = .ok (.aload_n 0, 1) := by decide +kernel
theorem dX8_reckon_103 : decode cX8_reckon 103 = .ok (.aload_n 0, 1) := by decide +kernel
theorem dX8_reckon_104 : decode cX8_reckon 104 = .ok (.getfield 20, 3) := by decide +kernel
theorem dX8_reckon_107 : decode cX8_reckon 107 = .ok (.putfield 90, 3) := by decide +kernel
theorem dX8_reckon_110 : decode cX8_reckon 110 = .ok (.aload_n 0, 1) := by decide +kernel
theorem dX8_reckon_111 : decode cX8_reckon 111 = .ok (.aload_n 0, 1) := by decide +kernel
theorem dX8_reckon_112 : decode cX8_reckon 112 = .ok (.getfield 23, 3) := by decide +kernel
theorem dX8_reckon_115 : decode cX8_reckon 115 = .ok (.putfield 79, 3) := by decide +kernel
theorem dX8_reckon_118 : decode cX8_reckon 118 = .ok (.aload_n 0, 1) := by decide +kernel
theorem dX8_reckon_119 : decode cX8_reckon 119 = .ok (.aload_n 0, 1) := by decide +kernel
theorem dX8_reckon_120 : decode cX8_reckon 120 = .ok (.getfield 26, 3) := by decide +kernel
theorem dX8_reckon_123 : decode cX8_reckon 123 = .ok (.putfield 87, 3) := by decide +kernel
theorem dX8_reckon_126 : decode cX8_reckon 126 = .ok (.return_, 1) := by decide +kernel
theorem dX9_init_0 : decode cX9_init 0 = .ok (.aload_n 0, 1) := by decide +kernel
theorem dX9_init_1 : decode cX9_init 1 = .ok (.invokespecial 1, 3) := by decide +kernel
theorem dX9_init_4 : decode cX9_init 4 = .ok (.aload_n 0, 1) := by decide +kernel
theorem dX9_init_5 : decode cX9_init 5 = .ok (.sipush 200, 3) := by decide +kernel
theorem dX9_init_8 : decode cX9_init 8 = .ok (.newarray .int, 2) := by decide +kernel
theorem dX9_init_10 : decode cX9_init 10 = .ok (.putfield 7, 3) := by decide +kernel
theorem dX9_init_13 : decode cX9_init 13 = .ok (.return_, 1) := by decide +kernel
theorem dX9_size_0 : decode cX9_size 0 = .ok (.aload_n 0, 1) := by decide +kernel
theorem dX9_size_1 : decode cX9_size 1 = .ok (.getfield 13, 3) := by decide +kernel
theorem dX9_size_4 : decode cX9_size 4 = .ok (.ireturn, 1) := by decide +kernel
theorem dX9_hasRoomFor_0 : decode cX9_hasRoomFor 0 = .ok (.aload_n 0, 1) := by decide +kernel
theorem dX9_hasRoomFor_1 : decode cX9_hasRoomFor 1 = .ok (.getfield 13, 3) := by decide +kernel
theorem dX9_hasRoomFor_4 : decode cX9_hasRoomFor 4 = .ok (.iload_n 1, 1) := by decide +kernel
theorem dX9_hasRoomFor_5 : decode cX9_hasRoomFor 5 = .ok (.iadd, 1) := by decide +kernel
theorem dX9_hasRoomFor_6 : decode cX9_hasRoomFor 6 = .ok (.aload_n 0, 1) := by decide +kernel
theorem dX9_hasRoomFor_7 : decode cX9_hasRoomFor 7 = .ok (.getfield 7, 3) := by decide +kernel
theorem dX9_hasRoomFor_10 : decode cX9_hasRoomFor 10 = .ok (.arraylength, 1) := by decide +kernel
theorem dX9_hasRoomFor_11 : decode cX9_hasRoomFor 11 = .ok (.if_icmp .gt 7, 3) := by decide +kernel
theorem dX9_hasRoomFor_14 : decode cX9_hasRoomFor 14 = .ok (.iconst 1, 1) := by decide +kernel
theorem dX9_hasRoomFor_15 : decode cX9_hasRoomFor 15 = .ok (.goto 4, 3) := by decide +kernel
theorem dX9_hasRoomFor_18 : decode cX9_hasRoomFor 18 = .ok (.iconst 0, 1) := by decide +kernel
theorem dX9_hasRoomFor_19 : decode cX9_hasRoomFor 19 = .ok (.ireturn, 1) := by decide +kernel
theorem dX9_add_0 : decode cX9_add 0 = .ok (.bipush 24, 2) := by decide +kernel
theorem dX9_add_2 : decode cX9_add 2 = .ok (.istore_n 2, 1) := by decide +kernel
theorem dX9_add_3 : decode cX9_add 3 = .ok (.iload_n 2, 1) := by decide +kernel
theorem dX9_add_4 : decode cX9_add 4 = .ok (.ifCond .lt 37, 3) := by decide +kernel
theorem dX9_add_7 : decode cX9_add 7 = .ok (.aload_n 0, 1) := by decide +kernel
theorem dX9_add_8 : decode cX9_add 8 = .ok (.getfield 7, 3) := by decide +kernel
theorem dX9_add_11 : decode cX9_add 11 = .ok (.aload_n 0, 1) := by decide +kernel
theorem dX9_add_12 : decode cX9_add 12 = .ok (.getfield 13, 3) := by decide +kernel
theorem dX9_add_15 : decode cX9_add 15 = .ok (.iload_n 1, 1) := by decide +kernel
theorem dX9_add_16 : decode cX9_add 16 = .ok (.iload_n 2, 1) := by decide +kernel
theorem dX9_add_17 : decode cX9_add 17 = .ok (.iushr, 1) := by decide +kernel
theorem dX9_add_18 : decode cX9_add 18 = .ok (.sipush 255, 3) := by decide +kernel
theorem dX9_add_21 : decode cX9_add 21 = .ok (.iand, 1) := by decide +kernel
theorem dX9_add_22 : decode cX9_add 22 = .ok (.invokestatic 17, 3) := by decide +kernel
theorem dX9_add_25 : decode cX9_add 25 = .ok (.aload_n 0, 1) := by decide +kernel
theorem dX9_add_26 : decode cX9_add 26 = .ok (.dup, 1) := by decide +kernel
theorem dX9_add_27 : decode cX9_add 27 = .ok (.getfield 13, 3) := by decide +kernel
theorem dX9_add_30 : decode cX9_add 30 = .ok (.iconst 1, 1) := by decide +kernel
theorem dX9_add_31 : decode cX9_add 31 = .ok (.iadd, 1) := by decide +kernel
theorem dX9_add_32 : decode cX9_add 32 = .ok (.putfield 13, 3) := by decide +kernel
theorem dX9_add_35 : decode cX9_add 35 = .ok (.iinc 2 (-8), 3) := by decide +kernel
theorem dX9_add_38 : decode cX9_add 38 = .ok (.goto (-35), 3) := by decide +kernel
theorem dX9_add_41 : decode cX9_add 41 = .ok (.return_, 1) := by decide +kernel
theorem dX9_clear_0 : decode cX9_clear 0 = .ok (.aload_n 0, 1) := by decide +kernel
theorem dX9_clear_1 : decode cX9_clear 1 = .ok (.iconst 0, 1) := by decide +kernel
theorem dX9_clear_2 : decode cX9_clear 2 = .ok (.putfield 13, 3) := by decide +kernel
theorem dX9_clear_5 : decode cX9_clear 5 = .ok (.return_, 1) := by decide +kernel
theorem dX9_word_0 : decode cX9_word 0 = .ok (.iconst 0, 1) := by decide +kernel
theorem dX9_word_1 : decode cX9_word 1 = .ok (.istore_n 2, 1) := by decide +kernel
theorem dX9_word_2 : decode cX9_word 2 = .ok (.iconst 0, 1) := by decide +kernel
theorem dX9_word_3 : decode cX9_word 3 = .ok (.istore_n 3, 1) := by decide +kernel
theorem dX9_word_4 : decode cX9_word 4 = .ok (.iload_n 3, 1) := by decide +kernel
theorem dX9_word_5 : decode cX9_word 5 = .ok (.iconst 4, 1) := by decide +kernel
theorem dX9_word_6 : decode cX9_word 6 = .ok (.if_icmp .ge 27, 3) := by decide +kernel
theorem dX9_word_9 : decode cX9_word 9 = .ok (.iload_n 2, 1) := by decide +kernel
theorem dX9_word_10 : decode cX9_word 10 = .ok (.bipush 8, 2) := by decide +kernel
theorem dX9_word_12 : decode cX9_word 12 = .ok (.ishl, 1) := by decide +kernel
theorem dX9_word_13 : decode cX9_word 13 = .ok (.aload_n 0, 1) := by decide +kernel
theorem dX9_word_14 : decode cX9_word 14 = .ok (.getfield 7, 3) := by decide +kernel
theorem dX9_word_17 : decode cX9_word 17 = .ok (.iconst 4, 1) := by decide +kernel
theorem dX9_word_18 : decode cX9_word 18 = .ok (.iload_n 1, 1) := by decide +kernel
theorem dX9_word_19 : decode cX9_word 19 = .ok (.imul, 1) := by decide +kernel
theorem dX9_word_20 : decode cX9_word 20 = .ok (.iload_n 3, 1) := by decide +kernel
theorem dX9_word_21 : decode cX9_word 21 = .ok (.iadd, 1) := by decide +kernel
theorem dX9_word_22 : decode cX9_word 22 = .ok (.invokestatic 23, 3) := by decide +kernel
theorem dX9_word_25 : decode cX9_word 25 = .ok (.ior, 1) := by decide +kernel
theorem dX9_word_26 : decode cX9_word 26 = .ok (.istore_n 2, 1) := by decide +kernel
theorem dX9_word_27 : decode cX9_word 27 = .ok (.iinc 3 1, 3) := by decide +kernel
theorem dX9_word_30 : decode cX9_word 30 = .ok (.goto (-26), 3) := by decide +kernel
theorem dX9_word_33 : decode cX9_word 33 = .ok (.iload_n 2, 1) := by decide +kernel
theorem dX9_word_34 : decode cX9_word 34 = .ok (.ireturn, 1) := by decide +kernel
theorem dX9_open_0 : decode cX9_open 0 = .ok (.aload_n 0, 1) := by decide +kernel
theorem dX9_open_1 : decode cX9_open 1 = .ok (.iload_n 1, 1) := by decide +kernel
theorem dX9_open_2 : decode cX9_open 2 = .ok (.putfield 27, 3) := by decide +kernel
theorem dX9_open_5 : decode cX9_open 5 = .ok (.aload_n 0, 1) := by decide +kernel
theorem dX9_open_6 : decode cX9_open 6 = .ok (.iconst 0, 1) := by decide +kernel
theorem dX9_open_7 : decode cX9_open 7 = .ok (.putfield 30, 3) := by decide +kernel
theorem dX9_open_10 : decode cX9_open 10 = .ok (.aload_n 0, 1) := by decide +kernel
theorem dX9_open_11 : decode cX9_open 11 = .ok (.iconst 0, 1) := by decide +kernel
theorem dX9_open_12 : decode cX9_open 12 = .ok (.putfield 33, 3) := by decide +kernel
theorem dX9_open_15 : decode cX9_open 15 = .ok (.aload_n 0, 1) := by decide +kernel
theorem dX9_open_16 : decode cX9_open 16 = .ok (.iconst 0, 1) := by decide +kernel
theorem dX9_open_17 : decode cX9_open 17 = .ok (.putfield 36, 3) := by decide +kernel
theorem dX9_open_20 : decode cX9_open 20 = .ok (.return_, 1) := by decide +kernel
theorem dX9_sign_0 : decode cX9_sign 0 = .ok (.aload_n 0, 1) := by decide +kernel
theorem dX9_sign_1 : decode cX9_sign 1 = .ok (.getfield 33, 3) := by decide +kernel
theorem dX9_sign_4 : decode cX9_sign 4 = .ok (.ifCond .ne 45, 3) := by decide +kernel
theorem dX9_sign_7 : decode cX9_sign 7 = .ok (.aload_n 0, 1) := by decide +kernel
theorem dX9_sign_8 : decode cX9_sign 8 = .ok (.getfield 30, 3) := by decide +kernel
theorem dX9_sign_11 : decode cX9_sign 11 = .ok (.ifCond .lt 38, 3) := by decide +kernel
theorem dX9_sign_14 : decode cX9_sign 14 = .ok (.aload_n 0, 1) := by decide +kernel
theorem dX9_sign_15 : decode cX9_sign 15 = .ok (.getfield 30, 3) := by decide +kernel
theorem dX9_sign_18 : decode cX9_sign 18 = .ok (.aload_n 0, 1) := by decide +kernel
theorem dX9_sign_19 : decode cX9_sign 19 = .ok (.getfield 27, 3) := by decide +kernel
theorem dX9_sign_22 : decode cX9_sign 22 = .ok (.if_icmp .ge 27, 3) := by decide +kernel
theorem dX9_sign_25 : decode cX9_sign 25 = .ok (.aload_n 0, 1) := by decide +kernel
theorem dX9_sign_26 : decode cX9_sign 26 = .ok (.getfield 30, 3) := by decide +kernel
theorem dX9_sign_29 : decode cX9_sign 29 = .ok (.aload_n 0, 1) := by decide +kernel
theorem dX9_sign_30 : decode cX9_sign 30 = .ok (.getfield 7, 3) := by decide +kernel
theorem dX9_sign_33 : decode cX9_sign 33 = .ok (.arraylength, 1) := by decide +kernel
theorem dX9_sign_34 : decode cX9_sign 34 = .ok (.if_icmp .ge 15, 3) := by decide +kernel
theorem dX9_sign_37 : decode cX9_sign 37 = .ok (.aload_n 0, 1) := by decide +kernel
theorem dX9_sign_38 : decode cX9_sign 38 = .ok (.getfield 7, 3) := by decide +kernel
theorem dX9_sign_41 : decode cX9_sign 41 = .ok (.aload_n 0, 1) := by decide +kernel
theorem dX9_sign_42 : decode cX9_sign 42 = .ok (.getfield 30, 3) := by decide +kernel
theorem dX9_sign_45 : decode cX9_sign 45 = .ok (.iaload, 1) := by decide +kernel
theorem dX9_sign_46 : decode cX9_sign 46 = .ok (.goto 4, 3) := by decide +kernel
theorem dX9_sign_49 : decode cX9_sign 49 = .ok (.iconst (-1), 1) := by decide +kernel
theorem dX9_sign_50 : decode cX9_sign 50 = .ok (.ireturn, 1) := by decide +kernel
theorem dX9_onDigit_0 : decode cX9_onDigit 0 = .ok (.aload_n 0, 1) := by decide +kernel
theorem dX9_onDigit_1 : decode cX9_onDigit 1 = .ok (.invokevirtual 39, 3) := by decide +kernel
theorem dX9_onDigit_4 : decode cX9_onDigit 4 = .ok (.istore_n 1, 1) := by decide +kernel
theorem dX9_onDigit_5 : decode cX9_onDigit 5 = .ok (.iload_n 1, 1) := by decide +kernel
theorem dX9_onDigit_6 : decode cX9_onDigit 6 = .ok (.bipush 48, 2) := by decide +kernel
theorem dX9_onDigit_8 : decode cX9_onDigit 8 = .ok (.if_icmp .lt 13, 3) := by decide +kernel
theorem dX9_onDigit_11 : decode cX9_onDigit 11 = .ok (.iload_n 1, 1) := by decide +kernel
theorem dX9_onDigit_12 : decode cX9_onDigit 12 = .ok (.bipush 57, 2) := by decide +kernel
theorem dX9_onDigit_14 : decode cX9_onDigit 14 = .ok (.if_icmp .gt 7, 3) := by decide +kernel
theorem dX9_onDigit_17 : decode cX9_onDigit 17 = .ok (.iconst 1, 1) := by decide +kernel
theorem dX9_onDigit_18 : decode cX9_onDigit 18 = .ok (.goto 4, 3) := by decide +kernel
theorem dX9_onDigit_21 : decode cX9_onDigit 21 = .ok (.iconst 0, 1) := by decide +kernel
theorem dX9_onDigit_22 : decode cX9_onDigit 22 = .ok (.ireturn, 1) := by decide +kernel
theorem dX9_atEnd_0 : decode cX9_atEnd 0 = .ok (.aload_n 0, 1) := by decide +kernel
theorem dX9_atEnd_1 : decode cX9_atEnd 1 = .ok (.getfield 33, 3) := by decide +kernel
theorem dX9_atEnd_4 : decode cX9_atEnd 4 = .ok (.ifCond .ne 18, 3) := by decide +kernel
theorem dX9_atEnd_7 : decode cX9_atEnd 7 = .ok (.aload_n 0, 1) := by decide +kernel
theorem dX9_atEnd_8 : decode cX9_atEnd 8 = .ok (.getfield 30, 3) := by decide +kernel
theorem dX9_atEnd_11 : decode cX9_atEnd 11 = .ok (.aload_n 0, 1) := by decide +kernel
theorem dX9_atEnd_12 : decode cX9_atEnd 12 = .ok (.getfield 27, 3) := by decide +kernel
theorem dX9_atEnd_15 : decode cX9_atEnd 15 = .ok (.if_icmp .lt 7, 3) := by decide +kernel
theorem dX9_atEnd_18 : decode cX9_atEnd 18 = .ok (.iconst 1, 1) := by decide +kernel
theorem dX9_atEnd_19 : decode cX9_atEnd 19 = .ok (.goto 4, 3) := by decide +kernel
theorem dX9_atEnd_22 : decode cX9_atEnd 22 = .ok (.iconst 0, 1) := by decide +kernel
theorem dX9_atEnd_23 : decode cX9_atEnd 23 = .ok (.ireturn, 1) := by decide +kernel
theorem dX9_place_0 : decode cX9_place 0 = .ok (.aload_n 0, 1) := by decide +kernel
theorem dX9_place_1 : decode cX9_place 1 = .ok (.getfield 30, 3) := by decide +kernel
theorem dX9_place_4 : decode cX9_place 4 = .ok (.ireturn, 1) := by decide +kernel
theorem dX9_pass_0 : decode cX9_pass 0 = .ok (.aload_n 0, 1) := by decide +kernel
theorem dX9_pass_1 : decode cX9_pass 1 = .ok (.invokevirtual 39, 3) := by decide +kernel
theorem dX9_pass_4 : decode cX9_pass 4 = .ok (.iload_n 1, 1) := by decide +kernel
theorem dX9_pass_5 : decode cX9_pass 5 = .ok (.if_icmp .ne 16, 3) := by decide +kernel
theorem dX9_pass_8 : decode cX9_pass 8 = .ok (.aload_n 0, 1) := by decide +kernel
theorem dX9_pass_9 : decode cX9_pass 9 = .ok (.dup, 1) := by decide +kernel
theorem dX9_pass_10 : decode cX9_pass 10 = .ok (.getfield 30, 3) := by decide +kernel
theorem dX9_pass_13 : decode cX9_pass 13 = .ok (.iconst 1, 1) := by decide +kernel
theorem dX9_pass_14 : decode cX9_pass 14 = .ok (.iadd, 1) := by decide +kernel
theorem dX9_pass_15 : decode cX9_pass 15 = .ok (.putfield 30, 3) := by decide +kernel
theorem dX9_pass_18 : decode cX9_pass 18 = .ok (.goto 12, 3) := by decide +kernel
theorem dX9_pass_21 : decode cX9_pass 21 = .ok (.aload_n 0, 1) := by decide +kernel
theorem dX9_pass_22 : decode cX9_pass 22 = .ok (.iconst 1, 1) := by decide +kernel
theorem dX9_pass_23 : decode cX9_pass 23 = .ok (.aload_n 0, 1) := by decide +kernel
theorem dX9_pass_24 : decode cX9_pass 24 = .ok (.getfield 30, 3) := by decide +kernel
theorem dX9_pass_27 : decode cX9_pass 27 = .ok (.invokevirtual 43, 3) := by decide +kernel
theorem dX9_pass_30 : decode cX9_pass 30 = .ok (.return_, 1) := by decide +kernel
theorem dX9_number_0 : decode cX9_number 0 = .ok (.aload_n 0, 1) := by decide +kernel
theorem dX9_number_1 : decode cX9_number 1 = .ok (.invokevirtual 47, 3) := by decide +kernel
theorem dX9_number_4 : decode cX9_number 4 = .ok (.ifCond .ne 12, 3) := by decide +kernel
theorem dX9_number_7 : decode cX9_number 7 = .ok (.aload_n 0, 1) := by decide +kernel
theorem dX9_number_8 : decode cX9_number 8 = .ok (.iconst 1, 1) := by decide +kernel
theorem dX9_number_9 : decode cX9_number 9 = .ok (.aload_n 0, 1) := by decide +kernel
theorem dX9_number_10 : decode cX9_number 10 = .ok (.getfield 30, 3) := by decide +kernel
theorem dX9_number_13 : decode cX9_number 13 = .ok (.invokevirtual 43, 3) := by decide +kernel
theorem dX9_number_16 : decode cX9_number 16 = .ok (.iconst 0, 1) := by decide +kernel
theorem dX9_number_17 : decode cX9_number 17 = .ok (.istore_n 2, 1) := by decide +kernel
theorem dX9_number_18 : decode cX9_number 18 = .ok (.iconst 0, 1) := by decide +kernel
theorem dX9_number_19 : decode cX9_number 19 = .ok (.istore_n 3, 1) := by decide +kernel
theorem dX9_number_20 : decode cX9_number 20 = .ok (.iload_n 3, 1) := by decide +kernel
theorem dX9_number_21 : decode cX9_number 21 = .ok (.iload_n 1, 1) := by decide +kernel
theorem dX9_number_22 : decode cX9_number 22 = .ok (.if_icmp .gt 56, 3) := by decide +kernel
theorem dX9_number_25 : decode cX9_number 25 = .ok (.aload_n 0, 1) := by decide +kernel
theorem dX9_number_26 : decode cX9_number 26 = .ok (.invokevirtual 47, 3) := by decide +kernel
theorem dX9_number_29 : decode cX9_number 29 = .ok (.ifCond .eq 49, 3) := by decide +kernel
theorem dX9_number_32 : decode cX9_number 32 = .ok (.iload_n 3, 1) := by decide +kernel
theorem dX9_number_33 : decode cX9_number 33 = .ok (.iload_n 1, 1) := by decide +kernel
theorem dX9_number_34 : decode cX9_number 34 = .ok (.if_icmp .ne 15, 3) := by decide +kernel
theorem dX9_number_37 : decode cX9_number 37 = .ok (.aload_n 0, 1) := by decide +kernel
theorem dX9_number_38 : decode cX9_number 38 = .ok (.iconst 2, 1) := by decide +kernel
theorem dX9_number_39 : decode cX9_number 39 = .ok (.aload_n 0, 1) := by decide +kernel
theorem dX9_number_40 : decode cX9_number 40 = .ok (.getfield 30, 3) := by decide +kernel
theorem dX9_number_43 : decode cX9_number 43 = .ok (.invokevirtual 43, 3) := by decide +kernel
theorem dX9_number_46 : decode cX9_number 46 = .ok (.goto 26, 3) := by decide +kernel
theorem dX9_number_49 : decode cX9_number 49 = .ok (.iload_n 2, 1) := by decide +kernel
theorem dX9_number_50 : decode cX9_number 50 = .ok (.bipush 10, 2) := by decide +kernel
theorem dX9_number_52 : decode cX9_number 52 = .ok (.imul, 1) := by decide +kernel
theorem dX9_number_53 : decode cX9_number 53 = .ok (.aload_n 0, 1) := by decide +kernel
theorem dX9_number_54 : decode cX9_number 54 = .ok (.invokevirtual 39, 3) := by decide +kernel
theorem dX9_number_57 : decode cX9_number 57 = .ok (.iadd, 1) := by decide +kernel
theorem dX9_number_58 : decode cX9_number 58 = .ok (.bipush 48, 2) := by decide +kernel
theorem dX9_number_60 : decode cX9_number 60 = .ok (.isub, 1) := by decide +kernel
theorem dX9_number_61 : decode cX9_number 61 = .ok (.istore_n 2, 1) := by decide +kernel
theorem dX9_number_62 : decode cX9_number 62 = .ok (.aload_n 0, 1) := by decide +kernel
theorem dX9_number_63 : decode cX9_number 63 = .ok (.dup, 1) := by decide +kernel
theorem dX9_number_64 : decode cX9_number 64 = .ok (.getfield 30, 3) := by decide +kernel
theorem dX9_number_67 : decode cX9_number 67 = .ok (.iconst 1, 1) := by decide +kernel
theorem dX9_number_68 : decode cX9_number 68 = .ok (.iadd, 1) := by decide +kernel
theorem dX9_number_69 : decode cX9_number 69 = .ok (.putfield 30, 3) := by decide +kernel
theorem dX9_number_72 : decode cX9_number 72 = .ok (.iinc 3 1, 3) := by decide +kernel
theorem dX9_number_75 : decode cX9_number 75 = .ok (.goto (-55), 3) := by decide +kernel
theorem dX9_number_78 : decode cX9_number 78 = .ok (.iload_n 2, 1) := by decide +kernel
theorem dX9_number_79 : decode cX9_number 79 = .ok (.ireturn, 1) := by decide +kernel
theorem dX9_fail_0 : decode cX9_fail 0 = .ok (.aload_n 0, 1) := by decide +kernel
theorem dX9_fail_1 : decode cX9_fail 1 = .ok (.getfield 33, 3) := by decide +kernel
theorem dX9_fail_4 : decode cX9_fail 4 = .ok (.ifCond .ne 13, 3) := by decide +kernel
theorem dX9_fail_7 : decode cX9_fail 7 = .ok (.aload_n 0, 1) := by decide +kernel
theorem dX9_fail_8 : decode cX9_fail 8 = .ok (.iload_n 1, 1) := by decide +kernel
theorem dX9_fail_9 : decode cX9_fail 9 = .ok (.putfield 33, 3) := by decide +kernel
theorem dX9_fail_12 : decode cX9_fail 12 = .ok (.aload_n 0, 1) := by decide +kernel
theorem dX9_fail_13 : decode cX9_fail 13 = .ok (.iload_n 2, 1) := by decide +kernel
theorem dX9_fail_14 : decode cX9_fail 14 = .ok (.putfield 36, 3) := by decide +kernel
theorem dX9_fail_17 : decode cX9_fail 17 = .ok (.return_, 1) := by decide +kernel
theorem dX9_sound_0 : decode cX9_sound 0 = .ok (.aload_n 0, 1) := by decide +kernel
theorem dX9_sound_1 : decode cX9_sound 1 = .ok (.getfield 33, 3) := by decide +kernel
theorem dX9_sound_4 : decode cX9_sound 4 = .ok (.ifCond .ne 7, 3) := by decide +kernel
theorem dX9_sound_7 : decode cX9_sound 7 = .ok (.iconst 1, 1) := by decide +kernel
theorem dX9_sound_8 : decode cX9_sound 8 = .ok (.goto 4, 3) := by decide +kernel
theorem dX9_sound_11 : decode cX9_sound 11 = .ok (.iconst 0, 1) := by decide +kernel
theorem dX9_sound_12 : decode cX9_sound 12 = .ok (.ireturn, 1) := by decide +kernel
theorem dX9_faultTold_0 : decode cX9_faultTold 0 = .ok (.sipush (-1000), 3) := by decide +kernel
theorem dX9_faultTold_3 : decode cX9_faultTold 3 = .ok (.aload_n 0, 1) := by decide +kernel
theorem dX9_faultTold_4 : decode cX9_faultTold 4 = .ok (.getfield 33, 3) := by decide +kernel
theorem dX9_faultTold_7 : decode cX9_faultTold 7 = .ok (.imul, 1) := by decide +kernel
theorem dX9_faultTold_8 : decode cX9_faultTold 8 = .ok (.aload_n 0, 1) := by decide +kernel
theorem dX9_faultTold_9 : decode cX9_faultTold 9 = .ok (.getfield 36, 3) := by decide +kernel
theorem dX9_faultTold_12 : decode cX9_faultTold 12 = .ok (.isub, 1) := by decide +kernel
theorem dX9_faultTold_13 : decode cX9_faultTold 13 = .ok (.ireturn, 1) := by decide +kernel
theorem dX10_init_0 : decode cX10_init 0 = .ok (.aload_n 0, 1) := by decide +kernel
theorem dX10_init_1 : decode cX10_init 1 = .ok (.invokespecial 3, 3) := by decide +kernel
theorem dX10_init_4 : decode cX10_init 4 = .ok (.aload_n 0, 1) := by decide +kernel
theorem dX10_init_5 : decode cX10_init 5 = .ok (.bipush 8, 2) := by decide +kernel
theorem dX10_init_7 : decode cX10_init 7 = .ok (.newarray .int, 2) := by decide +kernel
theorem dX10_init_9 : decode cX10_init 9 = .ok (.putfield 11, 3) := by decide +kernel
theorem dX10_init_12 : decode cX10_init 12 = .ok (.aload_n 0, 1) := by decide +kernel
theorem dX10_init_13 : decode cX10_init 13 = .ok (.bipush 8, 2) := by decide +kernel
theorem dX10_init_15 : decode cX10_init 15 = .ok (.newarray .int, 2) := by decide +kernel
theorem dX10_init_17 : decode cX10_init 17 = .ok (.putfield 15, 3) := by decide +kernel
theorem dX10_init_20 : decode cX10_init 20 = .ok (.aload_n 0, 1) := by decide +kernel
theorem dX10_init_21 : decode cX10_init 21 = .ok (.bipush 8, 2) := by decide +kernel
theorem dX10_init_23 : decode cX10_init 23 = .ok (.newarray .int, 2) := by decide +kernel
theorem dX10_init_25 : decode cX10_init 25 = .ok (.putfield 18, 3) := by decide +kernel
theorem dX10_init_28 : decode cX10_init 28 = .ok (.aload_n 0, 1) := by decide +kernel
theorem dX10_init_29 : decode cX10_init 29 = .ok (.bipush 8, 2) := by decide +kernel
theorem dX10_init_31 : decode cX10_init 31 = .ok (.newarray .int, 2) := by decide +kernel
theorem dX10_init_33 : decode cX10_init 33 = .ok (.putfield 21, 3) := by decide +kernel
theorem dX10_init_36 : decode cX10_init 36 = .ok (.aload_n 0, 1) := by decide +kernel
theorem dX10_init_37 : decode cX10_init 37 = .ok (.bipush 8, 2) := by decide +kernel
theorem dX10_init_39 : decode cX10_init 39 = .ok (.anewarray 24, 3) := by decide +kernel
theorem dX10_init_42 : decode cX10_init 42 = .ok (.putfield 26, 3) := by decide +kernel
theorem dX10_init_45 : decode cX10_init 45 = .ok (.iconst 0, 1) := by decide +kernel
theorem dX10_init_46 : decode cX10_init 46 = .ok (.istore_n 1, 1) := by decide +kernel
theorem dX10_init_47 : decode cX10_init 47 = .ok (.iload_n 1, 1) := by decide +kernel
theorem dX10_init_48 : decode cX10_init 48 = .ok (.aload_n 0, 1) := by decide +kernel
theorem dX10_init_49 : decode cX10_init 49 = .ok (.getfield 26, 3) := by decide +kernel
theorem dX10_init_52 : decode cX10_init 52 = .ok (.arraylength, 1) := by decide +kernel
theorem dX10_init_53 : decode cX10_init 53 = .ok (.if_icmp .ge 22, 3) := by decide +kernel
theorem dX10_init_56 : decode cX10_init 56 = .ok (.aload_n 0, 1) := by decide +kernel
theorem dX10_init_57 : decode cX10_init 57 = .ok (.getfield 26, 3) := by decide +kernel
theorem dX10_init_60 : decode cX10_init 60 = .ok (.iload_n 1, 1) := by decide +kernel
theorem dX10_init_61 : decode cX10_init 61 = .ok (.new 24, 3) := by decide +kernel
theorem dX10_init_64 : decode cX10_init 64 = .ok (.dup, 1) := by decide +kernel
theorem dX10_init_65 : decode cX10_init 65 = .ok (.invokespecial 30, 3) := by decide +kernel
theorem dX10_init_68 : decode cX10_init 68 = .ok (.aastore, 1) := by decide +kernel
theorem dX10_init_69 : decode cX10_init 69 = .ok (.iinc 1 1, 3) := by decide +kernel
theorem dX10_init_72 : decode cX10_init 72 = .ok (.goto (-25), 3) := by decide +kernel
theorem dX10_init_75 : decode cX10_init 75 = .ok (.return_, 1) := by decide +kernel
theorem dX10_size_0 : decode cX10_size 0 = .ok (.aload_n 0, 1) := by decide +kernel
theorem dX10_size_1 : decode cX10_size 1 = .ok (.getfield 31, 3) := by decide +kernel
theorem dX10_size_4 : decode cX10_size 4 = .ok (.ireturn, 1) := by decide +kernel
theorem dX10_has_0 : decode cX10_has 0 = .ok (.iload_n 1, 1) := by decide +kernel
theorem dX10_has_1 : decode cX10_has 1 = .ok (.ifCond .lt 15, 3) := by decide +kernel
theorem dX10_has_4 : decode cX10_has 4 = .ok (.iload_n 1, 1) := by decide +kernel
theorem dX10_has_5 : decode cX10_has 5 = .ok (.aload_n 0, 1) := by decide +kernel
theorem dX10_has_6 : decode cX10_has 6 = .ok (.getfield 31, 3) := by decide +kernel
theorem dX10_has_9 : decode cX10_has 9 = .ok (.if_icmp .ge 7, 3) := by decide +kernel
theorem dX10_has_12 : decode cX10_has 12 = .ok (.iconst 1, 1) := by decide +kernel
theorem dX10_has_13 : decode cX10_has 13 = .ok (.goto 4, 3) := by decide +kernel
theorem dX10_has_16 : decode cX10_has 16 = .ok (.iconst 0, 1) := by decide +kernel
theorem dX10_has_17 : decode cX10_has 17 = .ok (.ireturn, 1) := by decide +kernel
theorem dX10_add_0 : decode cX10_add 0 = .ok (.aload_n 0, 1) := by decide +kernel
theorem dX10_add_1 : decode cX10_add 1 = .ok (.aload_n 0, 1) := by decide +kernel
theorem dX10_add_2 : decode cX10_add 2 = .ok (.getfield 31, 3) := by decide +kernel
theorem dX10_add_5 : decode cX10_add 5 = .ok (.invokevirtual 35, 3) := by decide +kernel
theorem dX10_add_8 : decode cX10_add 8 = .ok (.astore 6, 2) := by decide +kernel
theorem dX10_add_10 : decode cX10_add 10 = .ok (.aload 6, 2) := by decide +kernel
theorem dX10_add_12 : decode cX10_add 12 = .ok (.ifnull 7, 3) := by decide +kernel
theorem dX10_add_15 : decode cX10_add 15 = .ok (.aload_n 2, 1) := by decide +kernel
theorem dX10_add_16 : decode cX10_add 16 = .ok (.ifnonnull 5, 3) := by decide +kernel
theorem dX10_add_19 : decode cX10_add 19 = .ok (.iconst (-1), 1) := by decide +kernel
theorem dX10_add_20 : decode cX10_add 20 = .ok (.ireturn, 1) := by decide +kernel
theorem dX10_add_21 : decode cX10_add 21 = .ok (.aload 6, 2) := by decide +kernel
theorem dX10_add_23 : decode cX10_add 23 = .ok (.aload_n 2, 1) := by decide +kernel
theorem dX10_add_24 : decode cX10_add 24 = .ok (.invokevirtual 39, 3) := by decide +kernel
theorem dX10_add_27 : decode cX10_add 27 = .ok (.aload_n 0, 1) := by decide +kernel
theorem dX10_add_28 : decode cX10_add 28 = .ok (.getfield 11, 3) := by decide +kernel
theorem dX10_add_31 : decode cX10_add 31 = .ok (.aload_n 0, 1) := by decide +kernel
theorem dX10_add_32 : decode cX10_add 32 = .ok (.getfield 31, 3) := by decide +kernel
theorem dX10_add_35 : decode cX10_add 35 = .ok (.iload_n 1, 1) := by decide +kernel
theorem dX10_add_36 : decode cX10_add 36 = .ok (.invokestatic 43, 3) := by decide +kernel
theorem dX10_add_39 : decode cX10_add 39 = .ok (.aload_n 0, 1) := by decide +kernel
theorem dX10_add_40 : decode cX10_add 40 = .ok (.getfield 15, 3) := by decide +kernel
theorem dX10_add_43 : decode cX10_add 43 = .ok (.aload_n 0, 1) := by decide +kernel
theorem dX10_add_44 : decode cX10_add 44 = .ok (.getfield 31, 3) := by decide +kernel
theorem dX10_add_47 : decode cX10_add 47 = .ok (.iload_n 3, 1) := by decide +kernel
theorem dX10_add_48 : decode cX10_add 48 = .ok (.invokestatic 43, 3) := by decide +kernel
theorem dX10_add_51 : decode cX10_add 51 = .ok (.aload_n 0, 1) := by decide +kernel
theorem dX10_add_52 : decode cX10_add 52 = .ok (.getfield 18, 3) := by decide +kernel
theorem dX10_add_55 : decode cX10_add 55 = .ok (.aload_n 0, 1) := by decide +kernel
theorem dX10_add_56 : decode cX10_add 56 = .ok (.getfield 31, 3) := by decide +kernel
theorem dX10_add_59 : decode cX10_add 59 = .ok (.aload_n 2, 1) := by decide +kernel
theorem dX10_add_60 : decode cX10_add 60 = .ok (.invokevirtual 47, 3) := by decide +kernel
theorem dX10_add_63 : decode cX10_add 63 = .ok (.iload 4, 2) := by decide +kernel
theorem dX10_add_65 : decode cX10_add 65 = .ok (.iadd, 1) := by decide +kernel
theorem dX10_add_66 : decode cX10_add 66 = .ok (.invokestatic 43, 3) := by decide +kernel
theorem dX10_add_69 : decode cX10_add 69 = .ok (.aload_n 0, 1) := by decide +kernel
theorem dX10_add_70 : decode cX10_add 70 = .ok (.getfield 21, 3) := by decide +kernel
theorem dX10_add_73 : decode cX10_add 73 = .ok (.aload_n 0, 1) := by decide +kernel
theorem dX10_add_74 : decode cX10_add 74 = .ok (.getfield 31, 3) := by decide +kernel
theorem dX10_add_77 : decode cX10_add 77 = .ok (.iload 5, 2) := by decide +kernel
theorem dX10_add_79 : decode cX10_add 79 = .ok (.invokestatic 43, 3) := by decide +kernel
theorem dX10_add_82 : decode cX10_add 82 = .ok (.aload_n 0, 1) := by decide +kernel
theorem dX10_add_83 : decode cX10_add 83 = .ok (.dup, 1) := by decide +kernel
theorem dX10_add_84 : decode cX10_add 84 = .ok (.getfield 31, 3) := by decide +kernel
theorem dX10_add_87 : decode cX10_add 87 = .ok (.iconst 1, 1) := by decide +kernel
theorem dX10_add_88 : decode cX10_add 88 = .ok (.iadd, 1) := by decide +kernel
theorem dX10_add_89 : decode cX10_add 89 = .ok (.putfield 31, 3) := by decide +kernel
theorem dX10_add_92 : decode cX10_add 92 = .ok (.aload_n 0, 1) := by decide +kernel
theorem dX10_add_93 : decode cX10_add 93 = .ok (.getfield 31, 3) := by decide +kernel
theorem dX10_add_96 : decode cX10_add 96 = .ok (.iconst 1, 1) := by decide +kernel
theorem dX10_add_97 : decode cX10_add 97 = .ok (.isub, 1) := by decide +kernel
theorem dX10_add_98 : decode cX10_add 98 = .ok (.ireturn, 1) := by decide +kernel
theorem dX10_piece_0 : decode cX10_piece 0 = .ok (.aload_n 0, 1) := by decide +kernel
theorem dX10_piece_1 : decode cX10_piece 1 = .ok (.getfield 11, 3) := by decide +kernel
theorem dX10_piece_4 : decode cX10_piece 4 = .ok (.iload_n 1, 1) := by decide +kernel
theorem dX10_piece_5 : decode cX10_piece 5 = .ok (.invokestatic 50, 3) := by decide +kernel
theorem dX10_piece_8 : decode cX10_piece 8 = .ok (.ireturn, 1) := by decide +kernel
theorem dX10_pressure_0 : decode cX10_pressure 0 = .ok (.aload_n 0, 1) := by decide +kernel
theorem dX10_pressure_1 : decode cX10_pressure 1 = .ok (.getfield 15, 3) := by decide +kernel
theorem dX10_pressure_4 : decode cX10_pressure 4 = .ok (.iload_n 1, 1) := by decide +kernel
theorem dX10_pressure_5 : decode cX10_pressure 5 = .ok (.invokestatic 50, 3) := by decide +kernel
theorem dX10_pressure_8 : decode cX10_pressure 8 = .ok (.ireturn, 1) := by decide +kernel
theorem dX10_pulls_0 : decode cX10_pulls 0 = .ok (.aload_n 0, 1) := by decide +kernel
theorem dX10_pulls_1 : decode cX10_pulls 1 = .ok (.getfield 18, 3) := by decide +kernel
theorem dX10_pulls_4 : decode cX10_pulls 4 = .ok (.iload_n 1, 1) := by decide +kernel
theorem dX10_pulls_5 : decode cX10_pulls 5 = .ok (.invokestatic 50, 3) := by decide +kernel
theorem dX10_pulls_8 : decode cX10_pulls 8 = .ok (.ireturn, 1) := by decide +kernel
theorem dX10_cost_0 : decode cX10_cost 0 = .ok (.aload_n 0, 1) := by decide +kernel
theorem dX10_cost_1 : decode cX10_cost 1 = .ok (.getfield 21, 3) := by decide +kernel
theorem dX10_cost_4 : decode cX10_cost 4 = .ok (.iload_n 1, 1) := by decide +kernel
theorem dX10_cost_5 : decode cX10_cost 5 = .ok (.invokestatic 50, 3) := by decide +kernel
theorem dX10_cost_8 : decode cX10_cost 8 = .ok (.ireturn, 1) := by decide +kernel
theorem dX10_program_0 : decode cX10_program 0 = .ok (.iload_n 1, 1) := by decide +kernel
theorem dX10_program_1 : decode cX10_program 1 = .ok (.ifCond .lt 21, 3) := by decide +kernel
theorem dX10_program_4 : decode cX10_program 4 = .ok (.iload_n 1, 1) := by decide +kernel
theorem dX10_program_5 : decode cX10_program 5 = .ok (.aload_n 0, 1) := by decide +kernel
theorem dX10_program_6 : decode cX10_program 6 = .ok (.getfield 26, 3) := by decide +kernel
theorem dX10_program_9 : decode cX10_program 9 = .ok (.arraylength, 1) := by decide +kernel
theorem dX10_program_10 : decode cX10_program 10 = .ok (.if_icmp .ge 12, 3) := by decide +kernel
theorem dX10_program_13 : decode cX10_program 13 = .ok (.aload_n 0, 1) := by decide +kernel
theorem dX10_program_14 : decode cX10_program 14 = .ok (.getfield 26, 3) := by decide +kernel
theorem dX10_program_17 : decode cX10_program 17 = .ok (.iload_n 1, 1) := by decide +kernel
theorem dX10_program_18 : decode cX10_program 18 = .ok (.aaload, 1) := by decide +kernel
theorem dX10_program_19 : decode cX10_program 19 = .ok (.goto 4, 3) := by decide +kernel
theorem dX10_program_22 : decode cX10_program 22 = .ok (.aconst_null, 1) := by decide +kernel
theorem dX10_program_23 : decode cX10_program 23 = .ok (.areturn, 1) := by decide +kernel
theorem dX11_init_0 : decode cX11_init 0 = .ok (.aload_n 0, 1) := by decide +kernel
theorem dX11_init_1 : decode cX11_init 1 = .ok (.invokespecial 1, 3) := by decide +kernel
theorem dX11_init_4 : decode cX11_init 4 = .ok (.aload_n 0, 1) := by decide +kernel
theorem dX11_init_5 : decode cX11_init 5 = .ok (.new 7, 3) := by decide +kernel
theorem dX11_init_8 : decode cX11_init 8 = .ok (.dup, 1) := by decide +kernel
theorem dX11_init_9 : decode cX11_init 9 = .ok (.invokespecial 9, 3) := by decide +kernel
theorem dX11_init_12 : decode cX11_init 12 = .ok (.putfield 10, 3) := by decide +kernel
theorem dX11_init_15 : decode cX11_init 15 = .ok (.aload_n 0, 1) := by decide +kernel
theorem dX11_init_16 : decode cX11_init 16 = .ok (.new 16, 3) := by decide +kernel
theorem dX11_init_19 : decode cX11_init 19 = .ok (.dup, 1) := by decide +kernel
theorem dX11_init_20 : decode cX11_init 20 = .ok (.invokespecial 18, 3) := by decide +kernel
theorem dX11_init_23 : decode cX11_init 23 = .ok (.putfield 19, 3) := by decide +kernel
theorem dX11_init_26 : decode cX11_init 26 = .ok (.aload_n 0, 1) := by decide +kernel
theorem dX11_init_27 : decode cX11_init 27 = .ok (.new 23, 3) := by decide +kernel
theorem dX11_init_30 : decode cX11_init 30 = .ok (.dup, 1) := by decide +kernel
theorem dX11_init_31 : decode cX11_init 31 = .ok (.aload_n 0, 1) := by decide +kernel
theorem dX11_init_32 : decode cX11_init 32 = .ok (.getfield 10, 3) := by decide +kernel
theorem dX11_init_35 : decode cX11_init 35 = .ok (.aload_n 0, 1) := by decide +kernel
theorem dX11_init_36 : decode cX11_init 36 = .ok (.getfield 19, 3) := by decide +kernel
theorem dX11_init_39 : decode cX11_init 39 = .ok (.invokevirtual 25, 3) := by decide +kernel
theorem dX11_init_42 : decode cX11_init 42 = .ok (.invokespecial 29, 3) := by decide +kernel
theorem dX11_init_45 : decode cX11_init 45 = .ok (.putfield 32, 3) := by decide +kernel
theorem dX11_init_48 : decode cX11_init 48 = .ok (.aload_n 0, 1) := by decide +kernel
theorem dX11_init_49 : decode cX11_init 49 = .ok (.bipush 8, 2) := by decide +kernel
theorem dX11_init_51 : decode cX11_init 51 = .ok (.anewarray 36, 3) := by decide +kernel
theorem dX11_init_54 : decode cX11_init 54 = .ok (.putfield 38, 3) := by decide +kernel
theorem dX11_init_57 : decode cX11_init 57 = .ok (.aload_n 0, 1) := by decide +kernel
theorem dX11_init_58 : decode cX11_init 58 = .ok (.new 36, 3) := by decide +kernel
theorem dX11_init_61 : decode cX11_init 61 = .ok (.dup, 1) := by decide +kernel
theorem dX11_init_62 : decode cX11_init 62 = .ok (.invokespecial 42, 3) := by decide +kernel
theorem dX11_init_65 : decode cX11_init 65 = .ok (.putfield 43, 3) := by decide +kernel
theorem dX11_init_68 : decode cX11_init 68 = .ok (.aload_n 0, 1) := by decide +kernel
theorem dX11_init_69 : decode cX11_init 69 = .ok (.new 47, 3) := by decide +kernel
theorem dX11_init_72 : decode cX11_init 72 = .ok (.dup, 1) := by decide +kernel
theorem dX11_init_73 : decode cX11_init 73 = .ok (.aload_n 0, 1) := by decide +kernel
theorem dX11_init_74 : decode cX11_init 74 = .ok (.getfield 19, 3) := by decide +kernel
theorem dX11_init_77 : decode cX11_init 77 = .ok (.invokespecial 49, 3) := by decide +kernel
theorem dX11_init_80 : decode cX11_init 80 = .ok (.putfield 52, 3) := by decide +kernel
theorem dX11_init_83 : decode cX11_init 83 = .ok (.aload_n 0, 1) := by decide +kernel
theorem dX11_init_84 : decode cX11_init 84 = .ok (.new 56, 3) := by decide +kernel
theorem dX11_init_87 : decode cX11_init 87 = .ok (.dup, 1) := by decide +kernel
theorem dX11_init_88 : decode cX11_init 88 = .ok (.aload_n 0, 1) := by decide +kernel
theorem dX11_init_89 : decode cX11_init 89 = .ok (.getfield 19, 3) := by decide +kernel
theorem dX11_init_92 : decode cX11_init 92 = .ok (.invokespecial 58, 3) := by decide +kernel
theorem dX11_init_95 : decode cX11_init 95 = .ok (.putfield 59, 3) := by decide +kernel
theorem dX11_init_98 : decode cX11_init 98 = .ok (.aload_n 0, 1) := by decide +kernel
theorem dX11_init_99 : decode cX11_init 99 = .ok (.new 63, 3) := by decide +kernel
theorem dX11_init_102 : decode cX11_init 102 = .ok (.dup, 1) := by decide +kernel
theorem dX11_init_103 : decode cX11_init 103 = .ok (.invokespecial 65, 3) := by decide +kernel
theorem dX11_init_106 : decode cX11_init 106 = .ok (.putfield 66, 3) := by decide +kernel
theorem dX11_init_109 : decode cX11_init 109 = .ok (.aload_n 0, 1) := by decide +kernel
theorem dX11_init_110 : decode cX11_init 110 = .ok (.new 70, 3) := by decide +kernel
theorem dX11_init_113 : decode cX11_init 113 = .ok (.dup, 1) := by decide +kernel
theorem dX11_init_114 : decode cX11_init 114 = .ok (.invokespecial 72, 3) := by decide +kernel
theorem dX11_init_117 : decode cX11_init 117 = .ok (.putfield 73, 3) := by decide +kernel
theorem dX11_init_120 : decode cX11_init 120 = .ok (.aload_n 0, 1) := by decide +kernel
theorem dX11_init_121 : decode cX11_init 121 = .ok (.new 77, 3) := by decide +kernel
theorem dX11_init_124 : decode cX11_init 124 = .ok (.dup, 1) := by decide +kernel
theorem dX11_init_125 : decode cX11_init 125 = .ok (.invokespecial 79, 3) := by decide +kernel
theorem dX11_init_128 : decode cX11_init 128 = .ok (.putfield 80, 3) := by decide +kernel
theorem dX11_init_131 : decode cX11_init 131 = .ok (.aload_n 0, 1) := by decide +kernel
theorem dX11_init_132 : decode cX11_init 132 = .ok (.new 84, 3) := by decide +kernel
theorem dX11_init_135 : decode cX11_init 135 = .ok (.dup, 1) := by decide +kernel
theorem dX11_init_136 : decode cX11_init 136 = .ok (.aload_n 0, 1) := by decide +kernel
theorem dX11_init_137 : decode cX11_init 137 = .ok (.getfield 19, 3) := by decide +kernel
theorem dX11_init_140 : decode cX11_init 140 = .ok (.invokespecial 86, 3) := by decide +kernel
theorem dX11_init_143 : decode cX11_init 143 = .ok (.putfield 87, 3) := by decide +kernel
theorem dX11_init_146 : decode cX11_init 146 = .ok (.aload_n 0, 1) := by decide +kernel
theorem dX11_init_147 : decode cX11_init 147 = .ok (.new 36, 3) := by decide +kernel
theorem dX11_init_150 : decode cX11_init 150 = .ok (.dup, 1) := by decide +kernel
theorem dX11_init_151 : decode cX11_init 151 = .ok (.invokespecial 42, 3) := by decide +kernel
theorem dX11_init_154 : decode cX11_init 154 = .ok (.putfield 91, 3) := by decide +kernel
theorem dX11_init_157 : decode cX11_init 157 = .ok (.iconst 0, 1) := by decide +kernel
theorem dX11_init_158 : decode cX11_init 158 = .ok (.istore_n 1, 1) := by decide +kernel
theorem dX11_init_159 : decode cX11_init 159 = .ok (.iload_n 1, 1) := by decide +kernel
theorem dX11_init_160 : decode cX11_init 160 = .ok (.aload_n 0, 1) := by decide +kernel
theorem dX11_init_161 : decode cX11_init 161 = .ok (.getfield 38, 3) := by decide +kernel
theorem dX11_init_164 : decode cX11_init 164 = .ok (.arraylength, 1) := by decide +kernel
theorem dX11_init_165 : decode cX11_init 165 = .ok (.if_icmp .ge 22, 3) := by decide +kernel
theorem dX11_init_168 : decode cX11_init 168 = .ok (.aload_n 0, 1) := by decide +kernel
theorem dX11_init_169 : decode cX11_init 169 = .ok (.getfield 38, 3) := by decide +kernel
theorem dX11_init_172 : decode cX11_init 172 = .ok (.iload_n 1, 1) := by decide +kernel
theorem dX11_init_173 : decode cX11_init 173 = .ok (.new 36, 3) := by decide +kernel
theorem dX11_init_176 : decode cX11_init 176 = .ok (.dup, 1) := by decide +kernel
theorem dX11_init_177 : decode cX11_init 177 = .ok (.invokespecial 42, 3) := by decide +kernel
theorem dX11_init_180 : decode cX11_init 180 = .ok (.aastore, 1) := by decide +kernel
theorem dX11_init_181 : decode cX11_init 181 = .ok (.iinc 1 1, 3) := by decide +kernel
theorem dX11_init_184 : decode cX11_init 184 = .ok (.goto (-25), 3) := by decide +kernel
theorem dX11_init_187 : decode cX11_init 187 = .ok (.return_, 1) := by decide +kernel
theorem dX11_corner_0 : decode cX11_corner 0 = .ok (.iload_n 1, 1) := by decide +kernel
theorem dX11_corner_1 : decode cX11_corner 1 = .ok (.iconst 0, 1) := by decide +kernel
theorem dX11_corner_2 : decode cX11_corner 2 = .ok (.iconst 3, 1) := by decide +kernel
theorem dX11_corner_3 : decode cX11_corner 3 = .ok (.invokestatic 94, 3) := by decide +kernel
theorem dX11_corner_6 : decode cX11_corner 6 = .ok (.ifCond .eq 35, 3) := by decide +kernel
theorem dX11_corner_9 : decode cX11_corner 9 = .ok (.iload_n 2, 1) := by decide +kernel
theorem dX11_corner_10 : decode cX11_corner 10 = .ok (.iconst 1, 1) := by decide +kernel
theorem dX11_corner_11 : decode cX11_corner 11 = .ok (.bipush 50, 2) := by decide +kernel
theorem dX11_corner_13 : decode cX11_corner 13 = .ok (.invokestatic 94, 3) := by decide +kernel
theorem dX11_corner_16 : decode cX11_corner 16 = .ok (.ifCond .eq 25, 3) := by decide +kernel
theorem dX11_corner_19 : decode cX11_corner 19 = .ok (.iload_n 3, 1) := by decide +kernel
theorem dX11_corner_20 : decode cX11_corner 20 = .ok (.iconst 1, 1) := by decide +kernel
theorem dX11_corner_21 : decode cX11_corner 21 = .ok (.bipush 50, 2) := by decide +kernel
theorem dX11_corner_23 : decode cX11_corner 23 = .ok (.invokestatic 94, 3) := by decide +kernel
theorem dX11_corner_26 : decode cX11_corner 26 = .ok (.ifCond .eq 15, 3) := by decide +kernel
theorem dX11_corner_29 : decode cX11_corner 29 = .ok (.iload 4, 2) := by decide +kernel
theorem dX11_corner_31 : decode cX11_corner 31 = .ok (.iconst 1, 1) := by decide +kernel
theorem dX11_corner_32 : decode cX11_corner 32 = .ok (.sipush 10000, 3) := by decide +kernel
theorem dX11_corner_35 : decode cX11_corner 35 = .ok (.invokestatic 94, 3) := by decide +kernel
theorem dX11_corner_38 : decode cX11_corner 38 = .ok (.ifCond .ne 5, 3) := by decide +kernel
theorem dX11_corner_41 : decode cX11_corner 41 = .ok (.iconst (-1), 1) := by decide +kernel
theorem dX11_corner_42 : decode cX11_corner 42 = .ok (.ireturn, 1) := by decide +kernel
theorem dX11_corner_43 : decode cX11_corner 43 = .ok (.aload_n 0, 1) := by decide +kernel
theorem dX11_corner_44 : decode cX11_corner 44 = .ok (.getfield 19, 3) := by decide +kernel
theorem dX11_corner_47 : decode cX11_corner 47 = .ok (.invokevirtual 98, 3) := by decide +kernel
theorem dX11_corner_50 : decode cX11_corner 50 = .ok (.bipush 8, 2) := by decide +kernel
theorem dX11_corner_52 : decode cX11_corner 52 = .ok (.if_icmp .ge 13, 3) := by decide +kernel
theorem dX11_corner_55 : decode cX11_corner 55 = .ok (.aload_n 0, 1) := by decide +kernel
theorem dX11_corner_56 : decode cX11_corner 56 = .ok (.getfield 52, 3) := by decide +kernel
theorem dX11_corner_59 : decode cX11_corner 59 = .ok (.invokevirtual 102, 3) := by decide +kernel
theorem dX11_corner_62 : decode cX11_corner 62 = .ok (.ifCond .le 5, 3) := by decide +kernel
theorem dX11_corner_65 : decode cX11_corner 65 = .ok (.iconst (-1), 1) := by decide +kernel
theorem dX11_corner_66 : decode cX11_corner 66 = .ok (.ireturn, 1) := by decide +kernel
theorem dX11_corner_67 : decode cX11_corner 67 = .ok (.aload_n 0, 1) := by decide +kernel
theorem dX11_corner_68 : decode cX11_corner 68 = .ok (.getfield 19, 3) := by decide +kernel
theorem dX11_corner_71 : decode cX11_corner 71 = .ok (.iload_n 1, 1) := by decide +kernel
theorem dX11_corner_72 : decode cX11_corner 72 = .ok (.iload_n 2, 1) := by decide +kernel
theorem dX11_corner_73 : decode cX11_corner 73 = .ok (.iload_n 3, 1) := by decide +kernel
theorem dX11_corner_74 : decode cX11_corner 74 = .ok (.iload 4, 2) := by decide +kernel
theorem dX11_corner_76 : decode cX11_corner 76 = .ok (.invokevirtual 103, 3) := by decide +kernel
theorem dX11_corner_79 : decode cX11_corner 79 = .ok (.ireturn, 1) := by decide +kernel
theorem dX11_life_0 : decode cX11_life 0 = .ok (.aload_n 0, 1) := by decide +kernel
theorem dX11_life_1 : decode cX11_life 1 = .ok (.getfield 19, 3) := by decide +kernel
theorem dX11_life_4 : decode cX11_life 4 = .ok (.iload_n 1, 1) := by decide +kernel
theorem dX11_life_5 : decode cX11_life 5 = .ok (.invokevirtual 107, 3) := by decide +kernel
theorem dX11_life_8 : decode cX11_life 8 = .ok (.ifCond .eq 22, 3) := by decide +kernel
theorem dX11_life_11 : decode cX11_life 11 = .ok (.iload_n 2, 1) := by decide +kernel
theorem dX11_life_12 : decode cX11_life 12 = .ok (.iconst 1, 1) := by decide +kernel
theorem dX11_life_13 : decode cX11_life 13 = .ok (.ldc 111, 2) := by decide +kernel
theorem dX11_life_15 : decode cX11_life 15 = .ok (.invokestatic 94, 3) := by decide +kernel
theorem dX11_life_18 : decode cX11_life 18 = .ok (.ifCond .eq 12, 3) := by decide +kernel
theorem dX11_life_21 : decode cX11_life 21 = .ok (.iload_n 3, 1) := by decide +kernel
theorem dX11_life_22 : decode cX11_life 22 = .ok (.iconst 1, 1) := by decide +kernel
theorem dX11_life_23 : decode cX11_life 23 = .ok (.iconst 5, 1) := by decide +kernel
theorem dX11_life_24 : decode cX11_life 24 = .ok (.invokestatic 94, 3) := by decide +kernel
theorem dX11_life_27 : decode cX11_life 27 = .ok (.ifCond .ne 5, 3) := by decide +kernel
theorem dX11_life_30 : decode cX11_life 30 = .ok (.iconst (-1), 1) := by decide +kernel
theorem dX11_life_31 : decode cX11_life 31 = .ok (.ireturn, 1) := by decide +kernel
theorem dX11_life_32 : decode cX11_life 32 = .ok (.aload_n 0, 1) := by decide +kernel
theorem dX11_life_33 : decode cX11_life 33 = .ok (.getfield 19, 3) := by decide +kernel
theorem dX11_life_36 : decode cX11_life 36 = .ok (.iload_n 1, 1) := by decide +kernel
theorem dX11_life_37 : decode cX11_life 37 = .ok (.invokevirtual 112, 3) := by decide +kernel
theorem dX11_life_40 : decode cX11_life 40 = .ok (.iconst 4, 1) := by decide +kernel
theorem dX11_life_41 : decode cX11_life 41 = .ok (.if_icmp .ge 13, 3) := by decide +kernel
theorem dX11_life_44 : decode cX11_life 44 = .ok (.aload_n 0, 1) := by decide +kernel
theorem dX11_life_45 : decode cX11_life 45 = .ok (.getfield 52, 3) := by decide +kernel
theorem dX11_life_48 : decode cX11_life 48 = .ok (.invokevirtual 102, 3) := by decide +kernel
theorem dX11_life_51 : decode cX11_life 51 = .ok (.ifCond .le 5, 3) := by decide +kernel
theorem dX11_life_54 : decode cX11_life 54 = .ok (.iconst (-1), 1) := by decide +kernel
theorem dX11_life_55 : decode cX11_life 55 = .ok (.ireturn, 1) := by decide +kernel
theorem dX11_life_56 : decode cX11_life 56 = .ok (.aload_n 0, 1) := by decide +kernel
theorem dX11_life_57 : decode cX11_life 57 = .ok (.getfield 19, 3) := by decide +kernel
theorem dX11_life_60 : decode cX11_life 60 = .ok (.iload_n 1, 1) := by decide +kernel
theorem dX11_life_61 : decode cX11_life 61 = .ok (.iload_n 2, 1) := by decide +kernel
theorem dX11_life_62 : decode cX11_life 62 = .ok (.iload_n 3, 1) := by decide +kernel
theorem dX11_life_63 : decode cX11_life 63 = .ok (.invokevirtual 116, 3) := by decide +kernel
theorem dX11_life_66 : decode cX11_life 66 = .ok (.ireturn, 1) := by decide +kernel
theorem dX11_feed_0 : decode cX11_feed 0 = .ok (.aload_n 0, 1) := by decide +kernel
theorem dX11_feed_1 : decode cX11_feed 1 = .ok (.getfield 10, 3) := by decide +kernel
theorem dX11_feed_4 : decode cX11_feed 4 = .ok (.bipush 20, 2) := by decide +kernel
theorem dX11_feed_6 : decode cX11_feed 6 = .ok (.invokevirtual 120, 3) := by decide +kernel
theorem dX11_feed_9 : decode cX11_feed 9 = .ok (.ifCond .ne 5, 3) := by decide +kernel
theorem dX11_feed_12 : decode cX11_feed 12 = .ok (.iconst (-1), 1) := by decide +kernel
theorem dX11_feed_13 : decode cX11_feed 13 = .ok (.ireturn, 1) := by decide +kernel
theorem dX11_feed_14 : decode cX11_feed 14 = .ok (.aload_n 0, 1) := by decide +kernel
theorem dX11_feed_15 : decode cX11_feed 15 = .ok (.getfield 10, 3) := by decide +kernel
theorem dX11_feed_18 : decode cX11_feed 18 = .ok (.iload_n 1, 1) := by decide +kernel
theorem dX11_feed_19 : decode cX11_feed 19 = .ok (.invokevirtual 123, 3) := by decide +kernel
theorem dX11_feed_22 : decode cX11_feed 22 = .ok (.aload_n 0, 1) := by decide +kernel
theorem dX11_feed_23 : decode cX11_feed 23 = .ok (.getfield 10, 3) := by decide +kernel
theorem dX11_feed_26 : decode cX11_feed 26 = .ok (.iload_n 2, 1) := by decide +kernel
theorem dX11_feed_27 : decode cX11_feed 27 = .ok (.invokevirtual 123, 3) := by decide +kernel
theorem dX11_feed_30 : decode cX11_feed 30 = .ok (.aload_n 0, 1) := by decide +kernel
theorem dX11_feed_31 : decode cX11_feed 31 = .ok (.getfield 10, 3) := by decide +kernel
theorem dX11_feed_34 : decode cX11_feed 34 = .ok (.iload_n 3, 1) := by decide +kernel
theorem dX11_feed_35 : decode cX11_feed 35 = .ok (.invokevirtual 123, 3) := by decide +kernel
theorem dX11_feed_38 : decode cX11_feed 38 = .ok (.aload_n 0, 1) := by decide +kernel
theorem dX11_feed_39 : decode cX11_feed 39 = .ok (.getfield 10, 3) := by decide +kernel
theorem dX11_feed_42 : decode cX11_feed 42 = .ok (.iload 4, 2) := by decide +kernel
theorem dX11_feed_44 : decode cX11_feed 44 = .ok (.invokevirtual 123, 3) := by decide +kernel
theorem dX11_feed_47 : decode cX11_feed 47 = .ok (.aload_n 0, 1) := by decide +kernel
theorem dX11_feed_48 : decode cX11_feed 48 = .ok (.getfield 10, 3) := by decide +kernel
theorem dX11_feed_51 : decode cX11_feed 51 = .ok (.iload 5, 2) := by decide +kernel
theorem dX11_feed_53 : decode cX11_feed 53 = .ok (.invokevirtual 123, 3) := by decide +kernel
theorem dX11_feed_56 : decode cX11_feed 56 = .ok (.aload_n 0, 1) := by decide +kernel
theorem dX11_feed_57 : decode cX11_feed 57 = .ok (.getfield 10, 3) := by decide +kernel
theorem dX11_feed_60 : decode cX11_feed 60 = .ok (.invokevirtual 126, 3) := by decide +kernel
theorem dX11_feed_63 : decode cX11_feed 63 = .ok (.ireturn, 1) := by decide +kernel
theorem dX11_law_0 : decode cX11_law 0 = .ok (.iload_n 1, 1) := by decide +kernel
theorem dX11_law_1 : decode cX11_law 1 = .ok (.iconst 1, 1) := by decide +kernel
theorem dX11_law_2 : decode cX11_law 2 = .ok (.sipush 160, 3) := by decide +kernel
theorem dX11_law_5 : decode cX11_law 5 = .ok (.invokestatic 94, 3) := by decide +kernel
theorem dX11_law_8 : decode cX11_law 8 = .ok (.ifCond .eq 14, 3) := by decide +kernel
theorem dX11_law_11 : decode cX11_law 11 = .ok (.iload_n 1, 1) := by decide +kernel
theorem dX11_law_12 : decode cX11_law 12 = .ok (.aload_n 0, 1) := by decide +kernel
theorem dX11_law_13 : decode cX11_law 13 = .ok (.getfield 10, 3) := by decide +kernel
theorem dX11_law_16 : decode cX11_law 16 = .ok (.invokevirtual 126, 3) := by decide +kernel
theorem dX11_law_19 : decode cX11_law 19 = .ok (.if_icmp .le 5, 3) := by decide +kernel
theorem dX11_law_22 : decode cX11_law 22 = .ok (.iconst (-1), 1) := by decide +kernel
theorem dX11_law_23 : decode cX11_law 23 = .ok (.ireturn, 1) := by decide +kernel
theorem dX11_law_24 : decode cX11_law 24 = .ok (.aload_n 0, 1) := by decide +kernel
theorem dX11_law_25 : decode cX11_law 25 = .ok (.getfield 19, 3) := by decide +kernel
theorem dX11_law_28 : decode cX11_law 28 = .ok (.invokevirtual 25, 3) := by decide +kernel
theorem dX11_law_31 : decode cX11_law 31 = .ok (.astore_n 2, 1) := by decide +kernel
theorem dX11_law_32 : decode cX11_law 32 = .ok (.aload_n 0, 1) := by decide +kernel
theorem dX11_law_33 : decode cX11_law 33 = .ok (.getfield 10, 3) := by decide +kernel
theorem dX11_law_36 : decode cX11_law 36 = .ok (.iload_n 1, 1) := by decide +kernel
theorem dX11_law_37 : decode cX11_law 37 = .ok (.invokevirtual 129, 3) := by decide +kernel
theorem dX11_law_40 : decode cX11_law 40 = .ok (.aload_n 0, 1) := by decide +kernel
theorem dX11_law_41 : decode cX11_law 41 = .ok (.getfield 32, 3) := by decide +kernel
theorem dX11_law_44 : decode cX11_law 44 = .ok (.aload_n 2, 1) := by decide +kernel
theorem dX11_law_45 : decode cX11_law 45 = .ok (.invokevirtual 132, 3) := by decide +kernel
theorem dX11_law_48 : decode cX11_law 48 = .ok (.aload_n 0, 1) := by decide +kernel
theorem dX11_law_49 : decode cX11_law 49 = .ok (.getfield 10, 3) := by decide +kernel
theorem dX11_law_52 : decode cX11_law 52 = .ok (.invokevirtual 136, 3) := by decide +kernel
theorem dX11_law_55 : decode cX11_law 55 = .ok (.aload_n 0, 1) := by decide +kernel
theorem dX11_law_56 : decode cX11_law 56 = .ok (.getfield 10, 3) := by decide +kernel
theorem dX11_law_59 : decode cX11_law 59 = .ok (.invokevirtual 139, 3) := by decide +kernel
theorem dX11_law_62 : decode cX11_law 62 = .ok (.ifCond .ne 11, 3) := by decide +kernel
theorem dX11_law_65 : decode cX11_law 65 = .ok (.aload_n 0, 1) := by decide +kernel
theorem dX11_law_66 : decode cX11_law 66 = .ok (.getfield 10, 3) := by decide +kernel
theorem dX11_law_69 : decode cX11_law 69 = .ok (.invokevirtual 143, 3) := by decide +kernel
theorem dX11_law_72 : decode cX11_law 72 = .ok (.ireturn, 1) := by decide +kernel
theorem dX11_law_73 : decode cX11_law 73 = .ok (.aload_n 0, 1) := by decide +kernel
theorem dX11_law_74 : decode cX11_law 74 = .ok (.getfield 19, 3) := by decide +kernel
theorem dX11_law_77 : decode cX11_law 77 = .ok (.invokevirtual 146, 3) := by decide +kernel
theorem dX11_law_80 : decode cX11_law 80 = .ok (.aload_n 2, 1) := by decide +kernel
theorem dX11_law_81 : decode cX11_law 81 = .ok (.invokevirtual 149, 3) := by decide +kernel
theorem dX11_law_84 : decode cX11_law 84 = .ok (.ireturn, 1) := by decide +kernel
theorem dX11_program_0 : decode cX11_program 0 = .ok (.aload_n 0, 1) := by decide +kernel
theorem dX11_program_1 : decode cX11_program 1 = .ok (.iload_n 1, 1) := by decide +kernel
theorem dX11_program_2 : decode cX11_program 2 = .ok (.invokevirtual 152, 3) := by decide +kernel
theorem dX11_program_5 : decode cX11_program 5 = .ok (.astore_n 3, 1) := by decide +kernel
theorem dX11_program_6 : decode cX11_program 6 = .ok (.aload_n 3, 1) := by decide +kernel
theorem dX11_program_7 : decode cX11_program 7 = .ok (.ifnull 24, 3) := by decide +kernel
theorem dX11_program_10 : decode cX11_program 10 = .ok (.iload_n 2, 1) := by decide +kernel
theorem dX11_program_11 : decode cX11_program 11 = .ok (.iconst 1, 1) := by decide +kernel
theorem dX11_program_12 : decode cX11_program 12 = .ok (.bipush 60, 2) := by decide +kernel
theorem dX11_program_14 : decode cX11_program 14 = .ok (.invokestatic 94, 3) := by decide +kernel
theorem dX11_program_17 : decode cX11_program 17 = .ok (.ifCond .eq 14, 3) := by decide +kernel
theorem dX11_program_20 : decode cX11_program 20 = .ok (.iload_n 2, 1) := by decide +kernel
theorem dX11_program_21 : decode cX11_program 21 = .ok (.aload_n 0, 1) := by decide +kernel
theorem dX11_program_22 : decode cX11_program 22 = .ok (.getfield 10, 3) := by decide +kernel
theorem dX11_program_25 : decode cX11_program 25 = .ok (.invokevirtual 126, 3) := by decide +kernel
theorem dX11_program_28 : decode cX11_program 28 = .ok (.if_icmp .le 5, 3) := by decide +kernel
theorem dX11_program_31 : decode cX11_program 31 = .ok (.iconst (-1), 1) := by decide +kernel
theorem dX11_program_32 : decode cX11_program 32 = .ok (.ireturn, 1) := by decide +kernel
theorem dX11_program_33 : decode cX11_program 33 = .ok (.aload_n 0, 1) := by decide +kernel
theorem dX11_program_34 : decode cX11_program 34 = .ok (.getfield 10, 3) := by decide +kernel
theorem dX11_program_37 : decode cX11_program 37 = .ok (.iload_n 2, 1) := by decide +kernel
theorem dX11_program_38 : decode cX11_program 38 = .ok (.invokevirtual 129, 3) := by decide +kernel
theorem dX11_program_41 : decode cX11_program 41 = .ok (.aload_n 0, 1) := by decide +kernel
theorem dX11_program_42 : decode cX11_program 42 = .ok (.getfield 91, 3) := by decide +kernel
theorem dX11_program_45 : decode cX11_program 45 = .ok (.aload_n 0, 1) := by decide +kernel
theorem dX11_program_46 : decode cX11_program 46 = .ok (.getfield 10, 3) := by decide +kernel
theorem dX11_program_49 : decode cX11_program 49 = .ok (.invokevirtual 156, 3) := by decide +kernel
theorem dX11_program_52 : decode cX11_program 52 = .ok (.aload_n 0, 1) := by decide +kernel
theorem dX11_program_53 : decode cX11_program 53 = .ok (.getfield 10, 3) := by decide +kernel
theorem dX11_program_56 : decode cX11_program 56 = .ok (.invokevirtual 136, 3) := by decide +kernel
theorem dX11_program_59 : decode cX11_program 59 = .ok (.aload_n 0, 1) := by decide +kernel
theorem dX11_program_60 : decode cX11_program 60 = .ok (.getfield 10, 3) := by decide +kernel
theorem dX11_program_63 : decode cX11_program 63 = .ok (.invokevirtual 139, 3) := by decide +kernel
theorem dX11_program_66 : decode cX11_program 66 = .ok (.ifCond .ne 11, 3) := by decide +kernel
theorem dX11_program_69 : decode cX11_program 69 = .ok (.aload_n 0, 1) := by decide +kernel
theorem dX11_program_70 : decode cX11_program 70 = .ok (.getfield 10, 3) := by decide +kernel
theorem dX11_program_73 : decode cX11_program 73 = .ok (.invokevirtual 143, 3) := by decide +kernel
theorem dX11_program_76 : decode cX11_program 76 = .ok (.ireturn, 1) := by decide +kernel
theorem dX11_program_77 : decode cX11_program 77 = .ok (.aload_n 3, 1) := by decide +kernel
theorem dX11_program_78 : decode cX11_program 78 = .ok (.aload_n 0, 1) := by decide +kernel
theorem dX11_program_79 : decode cX11_program 79 = .ok (.getfield 91, 3) := by decide +kernel
theorem dX11_program_82 : decode cX11_program 82 = .ok (.invokevirtual 159, 3) := by decide +kernel
theorem dX11_program_85 : decode cX11_program 85 = .ok (.aload_n 0, 1) := by decide +kernel
theorem dX11_program_86 : decode cX11_program 86 = .ok (.getfield 19, 3) := by decide +kernel
theorem dX11_program_89 : decode cX11_program 89 = .ok (.invokevirtual 163, 3) := by decide +kernel
theorem dX11_program_92 : decode cX11_program 92 = .ok (.aload_n 3, 1) := by decide +kernel
theorem dX11_program_93 : decode cX11_program 93 = .ok (.invokevirtual 166, 3) := by decide +kernel
theorem dX11_program_96 : decode cX11_program 96 = .ok (.ireturn, 1) := by decide +kernel
theorem dX11_pull_0 : decode cX11_pull 0 = .ok (.aload_n 0, 1) := by decide +kernel
theorem dX11_pull_1 : decode cX11_pull 1 = .ok (.getfield 19, 3) := by decide +kernel
theorem dX11_pull_4 : decode cX11_pull 4 = .ok (.iload_n 1, 1) := by decide +kernel
theorem dX11_pull_5 : decode cX11_pull 5 = .ok (.invokevirtual 107, 3) := by decide +kernel
theorem dX11_pull_8 : decode cX11_pull 8 = .ok (.ifCond .eq 22, 3) := by decide +kernel
theorem dX11_pull_11 : decode cX11_pull 11 = .ok (.iload_n 2, 1) := by decide +kernel
theorem dX11_pull_12 : decode cX11_pull 12 = .ok (.iconst 0, 1) := by decide +kernel
theorem dX11_pull_13 : decode cX11_pull 13 = .ok (.bipush 99, 2) := by decide +kernel
theorem dX11_pull_15 : decode cX11_pull 15 = .ok (.invokestatic 94, 3) := by decide +kernel
theorem dX11_pull_18 : decode cX11_pull 18 = .ok (.ifCond .eq 12, 3) := by decide +kernel
theorem dX11_pull_21 : decode cX11_pull 21 = .ok (.iload_n 3, 1) := by decide +kernel
theorem dX11_pull_22 : decode cX11_pull 22 = .ok (.iconst 0, 1) := by decide +kernel
theorem dX11_pull_23 : decode cX11_pull 23 = .ok (.iconst 1, 1) := by decide +kernel
theorem dX11_pull_24 : decode cX11_pull 24 = .ok (.invokestatic 94, 3) := by decide +kernel
theorem dX11_pull_27 : decode cX11_pull 27 = .ok (.ifCond .ne 5, 3) := by decide +kernel
theorem dX11_pull_30 : decode cX11_pull 30 = .ok (.iconst (-1), 1) := by decide +kernel
theorem dX11_pull_31 : decode cX11_pull 31 = .ok (.ireturn, 1) := by decide +kernel
theorem dX11_pull_32 : decode cX11_pull 32 = .ok (.aload_n 0, 1) := by decide +kernel
theorem dX11_pull_33 : decode cX11_pull 33 = .ok (.getfield 87, 3) := by decide +kernel
theorem dX11_pull_36 : decode cX11_pull 36 = .ok (.iload_n 1, 1) := by decide +kernel
theorem dX11_pull_37 : decode cX11_pull 37 = .ok (.iconst 0, 1) := by decide +kernel
theorem dX11_pull_38 : decode cX11_pull 38 = .ok (.invokevirtual 169, 3) := by decide +kernel
theorem dX11_pull_41 : decode cX11_pull 41 = .ok (.aload_n 0, 1) := by decide +kernel
theorem dX11_pull_42 : decode cX11_pull 42 = .ok (.getfield 87, 3) := by decide +kernel
theorem dX11_pull_45 : decode cX11_pull 45 = .ok (.iload_n 2, 1) := by decide +kernel
theorem dX11_pull_46 : decode cX11_pull 46 = .ok (.invokevirtual 173, 3) := by decide +kernel
theorem dX11_pull_49 : decode cX11_pull 49 = .ok (.iload_n 3, 1) := by decide +kernel
theorem dX11_pull_50 : decode cX11_pull 50 = .ok (.ifCond .ne 13, 3) := by decide +kernel
theorem dX11_pull_53 : decode cX11_pull 53 = .ok (.aload_n 0, 1) := by decide +kernel
theorem dX11_pull_54 : decode cX11_pull 54 = .ok (.getfield 87, 3) := by decide +kernel
theorem dX11_pull_57 : decode cX11_pull 57 = .ok (.invokevirtual 176, 3) := by decide +kernel
theorem dX11_pull_60 : decode cX11_pull 60 = .ok (.goto 10, 3) := by decide +kernel
theorem dX11_pull_63 : decode cX11_pull 63 = .ok (.aload_n 0, 1) := by decide +kernel
theorem dX11_pull_64 : decode cX11_pull 64 = .ok (.getfield 87, 3) := by decide +kernel
theorem dX11_pull_67 : decode cX11_pull 67 = .ok (.invokevirtual 179, 3) := by decide +kernel
theorem dX11_pull_70 : decode cX11_pull 70 = .ok (.ireturn, 1) := by decide +kernel
theorem dX11_hull_0 : decode cX11_hull 0 = .ok (.aload_n 0, 1) := by decide +kernel
theorem dX11_hull_1 : decode cX11_hull 1 = .ok (.getfield 19, 3) := by decide +kernel
theorem dX11_hull_4 : decode cX11_hull 4 = .ok (.iload_n 1, 1) := by decide +kernel
theorem dX11_hull_5 : decode cX11_hull 5 = .ok (.invokevirtual 182, 3) := by decide +kernel
theorem dX11_hull_8 : decode cX11_hull 8 = .ok (.ifCond .eq 25, 3) := by decide +kernel
theorem dX11_hull_11 : decode cX11_hull 11 = .ok (.aload_n 0, 1) := by decide +kernel
theorem dX11_hull_12 : decode cX11_hull 12 = .ok (.getfield 52, 3) := by decide +kernel
theorem dX11_hull_15 : decode cX11_hull 15 = .ok (.invokevirtual 102, 3) := by decide +kernel
theorem dX11_hull_18 : decode cX11_hull 18 = .ok (.bipush 10, 2) := by decide +kernel
theorem dX11_hull_20 : decode cX11_hull 20 = .ok (.if_icmp .ge 13, 3) := by decide +kernel
theorem dX11_hull_23 : decode cX11_hull 23 = .ok (.aload_n 0, 1) := by decide +kernel
theorem dX11_hull_24 : decode cX11_hull 24 = .ok (.getfield 19, 3) := by decide +kernel
theorem dX11_hull_27 : decode cX11_hull 27 = .ok (.invokevirtual 98, 3) := by decide +kernel
theorem dX11_hull_30 : decode cX11_hull 30 = .ok (.ifCond .ne 5, 3) := by decide +kernel
theorem dX11_hull_33 : decode cX11_hull 33 = .ok (.iconst (-1), 1) := by decide +kernel
theorem dX11_hull_34 : decode cX11_hull 34 = .ok (.ireturn, 1) := by decide +kernel
theorem dX11_hull_35 : decode cX11_hull 35 = .ok (.aload_n 0, 1) := by decide +kernel
theorem dX11_hull_36 : decode cX11_hull 36 = .ok (.getfield 52, 3) := by decide +kernel
theorem dX11_hull_39 : decode cX11_hull 39 = .ok (.iload_n 1, 1) := by decide +kernel
theorem dX11_hull_40 : decode cX11_hull 40 = .ok (.invokevirtual 185, 3) := by decide +kernel
theorem dX11_hull_43 : decode cX11_hull 43 = .ok (.ireturn, 1) := by decide +kernel
theorem dX11_flown_0 : decode cX11_flown 0 = .ok (.aload_n 0, 1) := by decide +kernel
theorem dX11_flown_1 : decode cX11_flown 1 = .ok (.getfield 52, 3) := by decide +kernel
theorem dX11_flown_4 : decode cX11_flown 4 = .ok (.iload_n 1, 1) := by decide +kernel
theorem dX11_flown_5 : decode cX11_flown 5 = .ok (.invokevirtual 187, 3) := by decide +kernel
theorem dX11_flown_8 : decode cX11_flown 8 = .ok (.ifCond .eq 24, 3) := by decide +kernel
theorem dX11_flown_11 : decode cX11_flown 11 = .ok (.iload_n 2, 1) := by decide +kernel
theorem dX11_flown_12 : decode cX11_flown 12 = .ok (.iconst 0, 1) := by decide +kernel
theorem dX11_flown_13 : decode cX11_flown 13 = .ok (.bipush 99, 2) := by decide +kernel
theorem dX11_flown_15 : decode cX11_flown 15 = .ok (.invokestatic 94, 3) := by decide +kernel
theorem dX11_flown_18 : decode cX11_flown 18 = .ok (.ifCond .eq 14, 3) := by decide +kernel
theorem dX11_flown_21 : decode cX11_flown 21 = .ok (.iload_n 3, 1) := by decide +kernel
theorem dX11_flown_22 : decode cX11_flown 22 = .ok (.iconst 1, 1) := by decide +kernel
theorem dX11_flown_23 : decode cX11_flown 23 = .ok (.sipush 2000, 3) := by decide +kernel
theorem dX11_flown_26 : decode cX11_flown 26 = .ok (.invokestatic 94, 3) := by decide +kernel
theorem dX11_flown_29 : decode cX11_flown 29 = .ok (.ifCond .ne 5, 3) := by decide +kernel
theorem dX11_flown_32 : decode cX11_flown 32 = .ok (.iconst (-1), 1) := by decide +kernel
theorem dX11_flown_33 : decode cX11_flown 33 = .ok (.ireturn, 1) := by decide +kernel
theorem dX11_flown_34 : decode cX11_flown 34 = .ok (.aload_n 0, 1) := by decide +kernel
theorem dX11_flown_35 : decode cX11_flown 35 = .ok (.getfield 52, 3) := by decide +kernel
theorem dX11_flown_38 : decode cX11_flown 38 = .ok (.iload_n 1, 1) := by decide +kernel
theorem dX11_flown_39 : decode cX11_flown 39 = .ok (.invokevirtual 188, 3) := by decide +kernel
theorem dX11_flown_42 : decode cX11_flown 42 = .ok (.iconst (-1), 1) := by decide +kernel
theorem dX11_flown_43 : decode cX11_flown 43 = .ok (.if_icmp .ne 18, 3) := by decide +kernel
theorem dX11_flown_46 : decode cX11_flown 46 = .ok (.aload_n 0, 1) := by decide +kernel
theorem dX11_flown_47 : decode cX11_flown 47 = .ok (.getfield 52, 3) := by decide +kernel
theorem dX11_flown_50 : decode cX11_flown 50 = .ok (.iload_n 1, 1) := by decide +kernel
theorem dX11_flown_51 : decode cX11_flown 51 = .ok (.invokevirtual 191, 3) := by decide +kernel
theorem dX11_flown_54 : decode cX11_flown 54 = .ok (.iload_n 3, 1) := by decide +kernel
theorem dX11_flown_55 : decode cX11_flown 55 = .ok (.iadd, 1) := by decide +kernel
theorem dX11_flown_56 : decode cX11_flown 56 = .ok (.ldc 193, 2) := by decide +kernel
theorem dX11_flown_58 : decode cX11_flown 58 = .ok (.if_icmp .le 5, 3) := by decide +kernel
theorem dX11_flown_61 : decode cX11_flown 61 = .ok (.iconst (-1), 1) := by decide +kernel
theorem dX11_flown_62 : decode cX11_flown 62 = .ok (.ireturn, 1) := by decide +kernel
theorem dX11_flown_63 : decode cX11_flown 63 = .ok (.aload_n 0, 1) := by decide +kernel
theorem dX11_flown_64 : decode cX11_flown 64 = .ok (.getfield 52, 3) := by decide +kernel
theorem dX11_flown_67 : decode cX11_flown 67 = .ok (.iload_n 1, 1) := by decide +kernel
theorem dX11_flown_68 : decode cX11_flown 68 = .ok (.iload_n 2, 1) := by decide +kernel
theorem dX11_flown_69 : decode cX11_flown 69 = .ok (.iload_n 3, 1) := by decide +kernel
theorem dX11_flown_70 : decode cX11_flown 70 = .ok (.invokevirtual 194, 3) := by decide +kernel
theorem dX11_flown_73 : decode cX11_flown 73 = .ok (.ireturn, 1) := by decide +kernel
theorem dX11_hullIs_0 : decode cX11_hullIs 0 = .ok (.aload_n 0, 1) := by decide +kernel
theorem dX11_hullIs_1 : decode cX11_hullIs 1 = .ok (.getfield 52, 3) := by decide +kernel
theorem dX11_hullIs_4 : decode cX11_hullIs 4 = .ok (.iload_n 1, 1) := by decide +kernel
theorem dX11_hullIs_5 : decode cX11_hullIs 5 = .ok (.invokevirtual 187, 3) := by decide +kernel
theorem dX11_hullIs_8 : decode cX11_hullIs 8 = .ok (.ifCond .eq 12, 3) := by decide +kernel
theorem dX11_hullIs_11 : decode cX11_hullIs 11 = .ok (.iload_n 2, 1) := by decide +kernel
theorem dX11_hullIs_12 : decode cX11_hullIs 12 = .ok (.iconst 0, 1) := by decide +kernel
theorem dX11_hullIs_13 : decode cX11_hullIs 13 = .ok (.iconst 1, 1) := by decide +kernel
theorem dX11_hullIs_14 : decode cX11_hullIs 14 = .ok (.invokestatic 94, 3) := by decide +kernel
theorem dX11_hullIs_17 : decode cX11_hullIs 17 = .ok (.ifCond .ne 5, 3) := by decide +kernel
theorem dX11_hullIs_20 : decode cX11_hullIs 20 = .ok (.iconst (-1), 1) := by decide +kernel
theorem dX11_hullIs_21 : decode cX11_hullIs 21 = .ok (.ireturn, 1) := by decide +kernel
theorem dX11_hullIs_22 : decode cX11_hullIs 22 = .ok (.iload_n 2, 1) := by decide +kernel
theorem dX11_hullIs_23 : decode cX11_hullIs 23 = .ok (.ifCond .ne 14, 3) := by decide +kernel
theorem dX11_hullIs_26 : decode cX11_hullIs 26 = .ok (.aload_n 0, 1) := by decide +kernel
theorem dX11_hullIs_27 : decode cX11_hullIs 27 = .ok (.getfield 52, 3) := by decide +kernel
theorem dX11_hullIs_30 : decode cX11_hullIs 30 = .ok (.iload_n 1, 1) := by decide +kernel
theorem dX11_hullIs_31 : decode cX11_hullIs 31 = .ok (.invokevirtual 191, 3) := by decide +kernel
theorem dX11_hullIs_34 : decode cX11_hullIs 34 = .ok (.goto 11, 3) := by decide +kernel
theorem dX11_hullIs_37 : decode cX11_hullIs 37 = .ok (.aload_n 0, 1) := by decide +kernel
theorem dX11_hullIs_38 : decode cX11_hullIs 38 = .ok (.getfield 52, 3) := by decide +kernel
theorem dX11_hullIs_41 : decode cX11_hullIs 41 = .ok (.iload_n 1, 1) := by decide +kernel
theorem dX11_hullIs_42 : decode cX11_hullIs 42 = .ok (.invokevirtual 188, 3) := by decide +kernel
theorem dX11_hullIs_45 : decode cX11_hullIs 45 = .ok (.ireturn, 1) := by decide +kernel
theorem dX11_cornerIs_0 : decode cX11_cornerIs 0 = .ok (.aload_n 0, 1) := by decide +kernel
theorem dX11_cornerIs_1 : decode cX11_cornerIs 1 = .ok (.getfield 52, 3) := by decide +kernel
theorem dX11_cornerIs_4 : decode cX11_cornerIs 4 = .ok (.iload_n 1, 1) := by decide +kernel
theorem dX11_cornerIs_5 : decode cX11_cornerIs 5 = .ok (.invokevirtual 187, 3) := by decide +kernel
theorem dX11_cornerIs_8 : decode cX11_cornerIs 8 = .ok (.ifCond .eq 23, 3) := by decide +kernel
theorem dX11_cornerIs_11 : decode cX11_cornerIs 11 = .ok (.aload_n 0, 1) := by decide +kernel
theorem dX11_cornerIs_12 : decode cX11_cornerIs 12 = .ok (.getfield 19, 3) := by decide +kernel
theorem dX11_cornerIs_15 : decode cX11_cornerIs 15 = .ok (.iload_n 2, 1) := by decide +kernel
theorem dX11_cornerIs_16 : decode cX11_cornerIs 16 = .ok (.invokevirtual 107, 3) := by decide +kernel
theorem dX11_cornerIs_19 : decode cX11_cornerIs 19 = .ok (.ifCond .eq 12, 3) := by decide +kernel
theorem dX11_cornerIs_22 : decode cX11_cornerIs 22 = .ok (.iload_n 3, 1) := by decide +kernel
theorem dX11_cornerIs_23 : decode cX11_cornerIs 23 = .ok (.iconst 0, 1) := by decide +kernel
theorem dX11_cornerIs_24 : decode cX11_cornerIs 24 = .ok (.iconst 2, 1) := by decide +kernel
theorem dX11_cornerIs_25 : decode cX11_cornerIs 25 = .ok (.invokestatic 94, 3) := by decide +kernel
theorem dX11_cornerIs_28 : decode cX11_cornerIs 28 = .ok (.ifCond .ne 5, 3) := by decide +kernel
theorem dX11_cornerIs_31 : decode cX11_cornerIs 31 = .ok (.iconst (-1), 1) := by decide +kernel
theorem dX11_cornerIs_32 : decode cX11_cornerIs 32 = .ok (.ireturn, 1) := by decide +kernel
theorem dX11_cornerIs_33 : decode cX11_cornerIs 33 = .ok (.aload_n 0, 1) := by decide +kernel
theorem dX11_cornerIs_34 : decode cX11_cornerIs 34 = .ok (.getfield 52, 3) := by decide +kernel
theorem dX11_cornerIs_37 : decode cX11_cornerIs 37 = .ok (.iload_n 1, 1) := by decide +kernel
theorem dX11_cornerIs_38 : decode cX11_cornerIs 38 = .ok (.iload_n 2, 1) := by decide +kernel
theorem dX11_cornerIs_39 : decode cX11_cornerIs 39 = .ok (.iload_n 3, 1) := by decide +kernel
theorem dX11_cornerIs_40 : decode cX11_cornerIs 40 = .ok (.invokevirtual 197, 3) := by decide +kernel
theorem dX11_cornerIs_43 : decode cX11_cornerIs 43 = .ok (.ireturn, 1) := by decide +kernel
theorem dX11_runs_0 : decode cX11_runs 0 = .ok (.aload_n 0, 1) := by decide +kernel
theorem dX11_runs_1 : decode cX11_runs 1 = .ok (.iload_n 1, 1) := by decide +kernel
theorem dX11_runs_2 : decode cX11_runs 2 = .ok (.invokevirtual 152, 3) := by decide +kernel
theorem dX11_runs_5 : decode cX11_runs 5 = .ok (.astore 5, 2) := by decide +kernel
theorem dX11_runs_7 : decode cX11_runs 7 = .ok (.aload 5, 2) := by decide +kernel
theorem dX11_runs_9 : decode cX11_runs 9 = .ok (.ifnull 25, 3) := by decide +kernel
theorem dX11_runs_12 : decode cX11_runs 12 = .ok (.aload_n 0, 1) := by decide +kernel
theorem dX11_runs_13 : decode cX11_runs 13 = .ok (.getfield 19, 3) := by decide +kernel
theorem dX11_runs_16 : decode cX11_runs 16 = .ok (.iload_n 2, 1) := by decide +kernel
theorem dX11_runs_17 : decode cX11_runs 17 = .ok (.iload_n 3, 1) := by decide +kernel
theorem dX11_runs_18 : decode cX11_runs 18 = .ok (.invokevirtual 200, 3) := by decide +kernel
theorem dX11_runs_21 : decode cX11_runs 21 = .ok (.ifCond .eq 13, 3) := by decide +kernel
theorem dX11_runs_24 : decode cX11_runs 24 = .ok (.iload 4, 2) := by decide +kernel
theorem dX11_runs_26 : decode cX11_runs 26 = .ok (.iconst 0, 1) := by decide +kernel
theorem dX11_runs_27 : decode cX11_runs 27 = .ok (.iconst 1, 1) := by decide +kernel
theorem dX11_runs_28 : decode cX11_runs 28 = .ok (.invokestatic 94, 3) := by decide +kernel
theorem dX11_runs_31 : decode cX11_runs 31 = .ok (.ifCond .ne 5, 3) := by decide +kernel
theorem dX11_runs_34 : decode cX11_runs 34 = .ok (.iconst (-1), 1) := by decide +kernel
theorem dX11_runs_35 : decode cX11_runs 35 = .ok (.ireturn, 1) := by decide +kernel
theorem dX11_runs_36 : decode cX11_runs 36 = .ok (.iload 4, 2) := by decide +kernel
theorem dX11_runs_38 : decode cX11_runs 38 = .ok (.ifCond .ne 17, 3) := by decide +kernel
theorem dX11_runs_41 : decode cX11_runs 41 = .ok (.aload_n 0, 1) := by decide +kernel
theorem dX11_runs_42 : decode cX11_runs 42 = .ok (.getfield 59, 3) := by decide +kernel
theorem dX11_runs_45 : decode cX11_runs 45 = .ok (.iload_n 2, 1) := by decide +kernel
theorem dX11_runs_46 : decode cX11_runs 46 = .ok (.iload_n 3, 1) := by decide +kernel
theorem dX11_runs_47 : decode cX11_runs 47 = .ok (.aload 5, 2) := by decide +kernel
theorem dX11_runs_49 : decode cX11_runs 49 = .ok (.invokevirtual 204, 3) := by decide +kernel
theorem dX11_runs_52 : decode cX11_runs 52 = .ok (.goto 14, 3) := by decide +kernel
theorem dX11_runs_55 : decode cX11_runs 55 = .ok (.aload_n 0, 1) := by decide +kernel
theorem dX11_runs_56 : decode cX11_runs 56 = .ok (.getfield 59, 3) := by decide +kernel
theorem dX11_runs_59 : decode cX11_runs 59 = .ok (.iload_n 2, 1) := by decide +kernel
theorem dX11_runs_60 : decode cX11_runs 60 = .ok (.iload_n 3, 1) := by decide +kernel
theorem dX11_runs_61 : decode cX11_runs 61 = .ok (.aload 5, 2) := by decide +kernel
theorem dX11_runs_63 : decode cX11_runs 63 = .ok (.invokevirtual 208, 3) := by decide +kernel
theorem dX11_runs_66 : decode cX11_runs 66 = .ok (.ireturn, 1) := by decide +kernel
theorem dX11_odds_0 : decode cX11_odds 0 = .ok (.aload_n 0, 1) := by decide +kernel
theorem dX11_odds_1 : decode cX11_odds 1 = .ok (.iload_n 1, 1) := by decide +kernel
theorem dX11_odds_2 : decode cX11_odds 2 = .ok (.invokevirtual 152, 3) := by decide +kernel
theorem dX11_odds_5 : decode cX11_odds 5 = .ok (.astore 5, 2) := by decide +kernel
theorem dX11_odds_7 : decode cX11_odds 7 = .ok (.aload 5, 2) := by decide +kernel
theorem dX11_odds_9 : decode cX11_odds 9 = .ok (.iload_n 2, 1) := by decide +kernel
theorem dX11_odds_10 : decode cX11_odds 10 = .ok (.iload_n 3, 1) := by decide +kernel
theorem dX11_odds_11 : decode cX11_odds 11 = .ok (.invokestatic 211, 3) := by decide +kernel
theorem dX11_odds_14 : decode cX11_odds 14 = .ok (.ifCond .eq 28, 3) := by decide +kernel
theorem dX11_odds_17 : decode cX11_odds 17 = .ok (.iload 4, 2) := by decide +kernel
theorem dX11_odds_19 : decode cX11_odds 19 = .ok (.iconst (-1), 1) := by decide +kernel
theorem dX11_odds_20 : decode cX11_odds 20 = .ok (.if_icmp .eq 26, 3) := by decide +kernel
theorem dX11_odds_23 : decode cX11_odds 23 = .ok (.iload 4, 2) := by decide +kernel
theorem dX11_odds_25 : decode cX11_odds 25 = .ok (.bipush 8, 2) := by decide +kernel
theorem dX11_odds_27 : decode cX11_odds 27 = .ok (.if_icmp .eq 19, 3) := by decide +kernel
theorem dX11_odds_30 : decode cX11_odds 30 = .ok (.aload_n 0, 1) := by decide +kernel
theorem dX11_odds_31 : decode cX11_odds 31 = .ok (.getfield 19, 3) := by decide +kernel
theorem dX11_odds_34 : decode cX11_odds 34 = .ok (.iload 4, 2) := by decide +kernel
theorem dX11_odds_36 : decode cX11_odds 36 = .ok (.invokevirtual 107, 3) := by decide +kernel
theorem dX11_odds_39 : decode cX11_odds 39 = .ok (.ifCond .ne 7, 3) := by decide +kernel
theorem dX11_odds_42 : decode cX11_odds 42 = .ok (.ldc2_w 215, 3) := by decide +kernel
theorem dX11_odds_45 : decode cX11_odds 45 = .ok (.lreturn, 1) := by decide +kernel
theorem dX11_odds_46 : decode cX11_odds 46 = .ok (.aload_n 0, 1) := by decide +kernel
theorem dX11_odds_47 : decode cX11_odds 47 = .ok (.getfield 19, 3) := by decide +kernel
theorem dX11_odds_50 : decode cX11_odds 50 = .ok (.invokevirtual 217, 3) := by decide +kernel
theorem dX11_odds_53 : decode cX11_odds 53 = .ok (.istore 6, 2) := by decide +kernel
theorem dX11_odds_55 : decode cX11_odds 55 = .ok (.iload 4, 2) := by decide +kernel
theorem dX11_odds_57 : decode cX11_odds 57 = .ok (.iconst (-1), 1) := by decide +kernel
theorem dX11_odds_58 : decode cX11_odds 58 = .ok (.if_icmp .ne 13, 3) := by decide +kernel
theorem dX11_odds_61 : decode cX11_odds 61 = .ok (.aload_n 0, 1) := by decide +kernel
theorem dX11_odds_62 : decode cX11_odds 62 = .ok (.getfield 59, 3) := by decide +kernel
theorem dX11_odds_65 : decode cX11_odds 65 = .ok (.iload 6, 2) := by decide +kernel
theorem dX11_odds_67 : decode cX11_odds 67 = .ok (.invokevirtual 220, 3) := by decide +kernel
theorem dX11_odds_70 : decode cX11_odds 70 = .ok (.lreturn, 1) := by decide +kernel
theorem dX11_odds_71 : decode cX11_odds 71 = .ok (.aload 5, 2) := by decide +kernel
theorem dX11_odds_73 : decode cX11_odds 73 = .ok (.invokestatic 224, 3) := by decide +kernel
theorem dX11_odds_76 : decode cX11_odds 76 = .ok (.iload_n 3, 1) := by decide +kernel
theorem dX11_odds_77 : decode cX11_odds 77 = .ok (.iadd, 1) := by decide +kernel
theorem dX11_odds_78 : decode cX11_odds 78 = .ok (.istore 7, 2) := by decide +kernel
theorem dX11_odds_80 : decode cX11_odds 80 = .ok (.aload_n 0, 1) := by decide +kernel
theorem dX11_odds_81 : decode cX11_odds 81 = .ok (.getfield 59, 3) := by decide +kernel
theorem dX11_odds_84 : decode cX11_odds 84 = .ok (.iload 6, 2) := by decide +kernel
theorem dX11_odds_86 : decode cX11_odds 86 = .ok (.iload_n 1, 1) := by decide +kernel
theorem dX11_odds_87 : decode cX11_odds 87 = .ok (.aload 5, 2) := by decide +kernel
theorem dX11_odds_89 : decode cX11_odds 89 = .ok (.iload_n 2, 1) := by decide +kernel
theorem dX11_odds_90 : decode cX11_odds 90 = .ok (.iload 7, 2) := by decide +kernel
theorem dX11_odds_92 : decode cX11_odds 92 = .ok (.invokevirtual 228, 3) := by decide +kernel
theorem dX11_odds_95 : decode cX11_odds 95 = .ok (.iload 4, 2) := by decide +kernel
theorem dX11_odds_97 : decode cX11_odds 97 = .ok (.bipush 8, 2) := by decide +kernel
theorem dX11_odds_99 : decode cX11_odds 99 = .ok (.if_icmp .ne 17, 3) := by decide +kernel
theorem dX11_odds_102 : decode cX11_odds 102 = .ok (.aload_n 0, 1) := by decide +kernel
theorem dX11_odds_103 : decode cX11_odds 103 = .ok (.getfield 59, 3) := by decide +kernel
theorem dX11_odds_106 : decode cX11_odds 106 = .ok (.iload 6, 2) := by decide +kernel
theorem dX11_odds_108 : decode cX11_odds 108 = .ok (.iload 7, 2) := by decide +kernel
theorem dX11_odds_110 : decode cX11_odds 110 = .ok (.invokevirtual 232, 3) := by decide +kernel
theorem dX11_odds_113 : decode cX11_odds 113 = .ok (.goto 14, 3) := by decide +kernel
theorem dX11_odds_116 : decode cX11_odds 116 = .ok (.aload_n 0, 1) := by decide +kernel
theorem dX11_odds_117 : decode cX11_odds 117 = .ok (.getfield 59, 3) := by decide +kernel
theorem dX11_odds_120 : decode cX11_odds 120 = .ok (.iload 4, 2) := by decide +kernel
theorem dX11_odds_122 : decode cX11_odds 122 = .ok (.iload 7, 2) := by decide +kernel
theorem dX11_odds_124 : decode cX11_odds 124 = .ok (.invokevirtual 236, 3) := by decide +kernel
theorem dX11_odds_127 : decode cX11_odds 127 = .ok (.lreturn, 1) := by decide +kernel
theorem dX11_left_0 : decode cX11_left 0 = .ok (.aload_n 0, 1) := by decide +kernel
theorem dX11_left_1 : decode cX11_left 1 = .ok (.iload_n 1, 1) := by decide +kernel
theorem dX11_left_2 : decode cX11_left 2 = .ok (.invokevirtual 152, 3) := by decide +kernel
theorem dX11_left_5 : decode cX11_left 5 = .ok (.astore 5, 2) := by decide +kernel
theorem dX11_left_7 : decode cX11_left 7 = .ok (.aload 5, 2) := by decide +kernel
theorem dX11_left_9 : decode cX11_left 9 = .ok (.iload_n 2, 1) := by decide +kernel
theorem dX11_left_10 : decode cX11_left 10 = .ok (.iload_n 3, 1) := by decide +kernel
theorem dX11_left_11 : decode cX11_left 11 = .ok (.invokestatic 211, 3) := by decide +kernel
theorem dX11_left_14 : decode cX11_left 14 = .ok (.ifCond .eq 13, 3) := by decide +kernel
theorem dX11_left_17 : decode cX11_left 17 = .ok (.iload 4, 2) := by decide +kernel
theorem dX11_left_19 : decode cX11_left 19 = .ok (.iconst 0, 1) := by decide +kernel
theorem dX11_left_20 : decode cX11_left 20 = .ok (.iconst 1, 1) := by decide +kernel
theorem dX11_left_21 : decode cX11_left 21 = .ok (.invokestatic 94, 3) := by decide +kernel
theorem dX11_left_24 : decode cX11_left 24 = .ok (.ifCond .ne 7, 3) := by decide +kernel
theorem dX11_left_27 : decode cX11_left 27 = .ok (.ldc2_w 215, 3) := by decide +kernel
theorem dX11_left_30 : decode cX11_left 30 = .ok (.lreturn, 1) := by decide +kernel
theorem dX11_left_31 : decode cX11_left 31 = .ok (.aload_n 0, 1) := by decide +kernel
theorem dX11_left_32 : decode cX11_left 32 = .ok (.getfield 19, 3) := by decide +kernel
theorem dX11_left_35 : decode cX11_left 35 = .ok (.invokevirtual 217, 3) := by decide +kernel
theorem dX11_left_38 : decode cX11_left 38 = .ok (.istore 6, 2) := by decide +kernel
theorem dX11_left_40 : decode cX11_left 40 = .ok (.aload 5, 2) := by decide +kernel
theorem dX11_left_42 : decode cX11_left 42 = .ok (.invokestatic 224, 3) := by decide +kernel
theorem dX11_left_45 : decode cX11_left 45 = .ok (.istore 7, 2) := by decide +kernel
theorem dX11_left_47 : decode cX11_left 47 = .ok (.aload_n 0, 1) := by decide +kernel
theorem dX11_left_48 : decode cX11_left 48 = .ok (.getfield 59, 3) := by decide +kernel
theorem dX11_left_51 : decode cX11_left 51 = .ok (.iload 6, 2) := by decide +kernel
theorem dX11_left_53 : decode cX11_left 53 = .ok (.iload_n 1, 1) := by decide +kernel
theorem dX11_left_54 : decode cX11_left 54 = .ok (.aload 5, 2) := by decide +kernel
theorem dX11_left_56 : decode cX11_left 56 = .ok (.iload_n 2, 1) := by decide +kernel
theorem dX11_left_57 : decode cX11_left 57 = .ok (.iload 7, 2) := by decide +kernel
theorem dX11_left_59 : decode cX11_left 59 = .ok (.iload_n 3, 1) := by decide +kernel
theorem dX11_left_60 : decode cX11_left 60 = .ok (.iadd, 1) := by decide +kernel
theorem dX11_left_61 : decode cX11_left 61 = .ok (.invokevirtual 228, 3) := by decide +kernel
theorem dX11_left_64 : decode cX11_left 64 = .ok (.aload_n 0, 1) := by decide +kernel
theorem dX11_left_65 : decode cX11_left 65 = .ok (.getfield 59, 3) := by decide +kernel
theorem dX11_left_68 : decode cX11_left 68 = .ok (.iload 6, 2) := by decide +kernel
theorem dX11_left_70 : decode cX11_left 70 = .ok (.iload 7, 2) := by decide +kernel
theorem dX11_left_72 : decode cX11_left 72 = .ok (.invokevirtual 232, 3) := by decide +kernel
theorem dX11_left_75 : decode cX11_left 75 = .ok (.lstore 8, 2) := by decide +kernel
theorem dX11_left_77 : decode cX11_left 77 = .ok (.aload_n 0, 1) := by decide +kernel
theorem dX11_left_78 : decode cX11_left 78 = .ok (.getfield 59, 3) := by decide +kernel
theorem dX11_left_81 : decode cX11_left 81 = .ok (.iload 6, 2) := by decide +kernel
theorem dX11_left_83 : decode cX11_left 83 = .ok (.invokevirtual 220, 3) := by decide +kernel
theorem dX11_left_86 : decode cX11_left 86 = .ok (.lload 8, 2) := by decide +kernel
theorem dX11_left_88 : decode cX11_left 88 = .ok (.lsub, 1) := by decide +kernel
theorem dX11_left_89 : decode cX11_left 89 = .ok (.lstore 10, 2) := by decide +kernel
theorem dX11_left_91 : decode cX11_left 91 = .ok (.lload 10, 2) := by decide +kernel
theorem dX11_left_93 : decode cX11_left 93 = .ok (.lconst 0, 1) := by decide +kernel
theorem dX11_left_94 : decode cX11_left 94 = .ok (.lcmp, 1) := by decide +kernel
theorem dX11_left_95 : decode cX11_left 95 = .ok (.ifCond .ne 7, 3) := by decide +kernel
theorem dX11_left_98 : decode cX11_left 98 = .ok (.ldc2_w 239, 3) := by decide +kernel
theorem dX11_left_101 : decode cX11_left 101 = .ok (.lreturn, 1) := by decide +kernel
theorem dX11_left_102 : decode cX11_left 102 = .ok (.aload_n 0, 1) := by decide +kernel
theorem dX11_left_103 : decode cX11_left 103 = .ok (.getfield 59, 3) := by decide +kernel
theorem dX11_left_106 : decode cX11_left 106 = .ok (.iload 6, 2) := by decide +kernel
theorem dX11_left_108 : decode cX11_left 108 = .ok (.iload 7, 2) := by decide +kernel
theorem dX11_left_110 : decode cX11_left 110 = .ok (.iload_n 3, 1) := by decide +kernel
theorem dX11_left_111 : decode cX11_left 111 = .ok (.iadd, 1) := by decide +kernel
theorem dX11_left_112 : decode cX11_left 112 = .ok (.invokevirtual 232, 3) := by decide +kernel
theorem dX11_left_115 : decode cX11_left 115 = .ok (.lload 8, 2) := by decide +kernel
theorem dX11_left_117 : decode cX11_left 117 = .ok (.lsub, 1) := by decide +kernel
theorem dX11_left_118 : decode cX11_left 118 = .ok (.lload 10, 2) := by decide +kernel
theorem dX11_left_120 : decode cX11_left 120 = .ok (.iload 4, 2) := by decide +kernel
theorem dX11_left_122 : decode cX11_left 122 = .ok (.invokestatic 241, 3) := by decide +kernel
theorem dX11_left_125 : decode cX11_left 125 = .ok (.lreturn, 1) := by decide +kernel
theorem dX11_likely_0 : decode cX11_likely 0 = .ok (.aload_n 0, 1) := by decide +kernel
theorem dX11_likely_1 : decode cX11_likely 1 = .ok (.iload_n 2, 1) := by decide +kernel
theorem dX11_likely_2 : decode cX11_likely 2 = .ok (.invokevirtual 152, 3) := by decide +kernel
theorem dX11_likely_5 : decode cX11_likely 5 = .ok (.astore 5, 2) := by decide +kernel
theorem dX11_likely_7 : decode cX11_likely 7 = .ok (.aload_n 0, 1) := by decide +kernel
theorem dX11_likely_8 : decode cX11_likely 8 = .ok (.getfield 19, 3) := by decide +kernel
theorem dX11_likely_11 : decode cX11_likely 11 = .ok (.iload_n 1, 1) := by decide +kernel
theorem dX11_likely_12 : decode cX11_likely 12 = .ok (.invokevirtual 245, 3) := by decide +kernel
theorem dX11_likely_15 : decode cX11_likely 15 = .ok (.ifCond .eq 25, 3) := by decide +kernel
theorem dX11_likely_18 : decode cX11_likely 18 = .ok (.aload 5, 2) := by decide +kernel
theorem dX11_likely_20 : decode cX11_likely 20 = .ok (.iload_n 3, 1) := by decide +kernel
theorem dX11_likely_21 : decode cX11_likely 21 = .ok (.iconst 0, 1) := by decide +kernel
theorem dX11_likely_22 : decode cX11_likely 22 = .ok (.invokestatic 211, 3) := by decide +kernel
theorem dX11_likely_25 : decode cX11_likely 25 = .ok (.ifCond .eq 15, 3) := by decide +kernel
theorem dX11_likely_28 : decode cX11_likely 28 = .ok (.iload 4, 2) := by decide +kernel
theorem dX11_likely_30 : decode cX11_likely 30 = .ok (.iconst 1, 1) := by decide +kernel
theorem dX11_likely_31 : decode cX11_likely 31 = .ok (.sipush 1000, 3) := by decide +kernel
theorem dX11_likely_34 : decode cX11_likely 34 = .ok (.invokestatic 94, 3) := by decide +kernel
theorem dX11_likely_37 : decode cX11_likely 37 = .ok (.ifCond .ne 5, 3) := by decide +kernel
theorem dX11_likely_40 : decode cX11_likely 40 = .ok (.iconst (-1), 1) := by decide +kernel
theorem dX11_likely_41 : decode cX11_likely 41 = .ok (.ireturn, 1) := by decide +kernel
theorem dX11_likely_42 : decode cX11_likely 42 = .ok (.aload_n 0, 1) := by decide +kernel
theorem dX11_likely_43 : decode cX11_likely 43 = .ok (.getfield 59, 3) := by decide +kernel
theorem dX11_likely_46 : decode cX11_likely 46 = .ok (.iload_n 1, 1) := by decide +kernel
theorem dX11_likely_47 : decode cX11_likely 47 = .ok (.iload_n 2, 1) := by decide +kernel
theorem dX11_likely_48 : decode cX11_likely 48 = .ok (.aload 5, 2) := by decide +kernel
theorem dX11_likely_50 : decode cX11_likely 50 = .ok (.iload_n 3, 1) := by decide +kernel
theorem dX11_likely_51 : decode cX11_likely 51 = .ok (.sipush 2000, 3) := by decide +kernel
theorem dX11_likely_54 : decode cX11_likely 54 = .ok (.invokevirtual 228, 3) := by decide +kernel
theorem dX11_likely_57 : decode cX11_likely 57 = .ok (.aload_n 0, 1) := by decide +kernel
theorem dX11_likely_58 : decode cX11_likely 58 = .ok (.getfield 59, 3) := by decide +kernel
theorem dX11_likely_61 : decode cX11_likely 61 = .ok (.iload_n 1, 1) := by decide +kernel
theorem dX11_likely_62 : decode cX11_likely 62 = .ok (.aload 5, 2) := by decide +kernel
theorem dX11_likely_64 : decode cX11_likely 64 = .ok (.invokestatic 224, 3) := by decide +kernel
theorem dX11_likely_67 : decode cX11_likely 67 = .ok (.iload 4, 2) := by decide +kernel
theorem dX11_likely_69 : decode cX11_likely 69 = .ok (.invokevirtual 248, 3) := by decide +kernel
theorem dX11_likely_72 : decode cX11_likely 72 = .ok (.ireturn, 1) := by decide +kernel
theorem dX11_off_0 : decode cX11_off 0 = .ok (.aload_n 0, 1) := by decide +kernel
theorem dX11_off_1 : decode cX11_off 1 = .ok (.iload_n 2, 1) := by decide +kernel
theorem dX11_off_2 : decode cX11_off 2 = .ok (.invokevirtual 152, 3) := by decide +kernel
theorem dX11_off_5 : decode cX11_off 5 = .ok (.astore 4, 2) := by decide +kernel
theorem dX11_off_7 : decode cX11_off 7 = .ok (.aload_n 0, 1) := by decide +kernel
theorem dX11_off_8 : decode cX11_off 8 = .ok (.getfield 19, 3) := by decide +kernel
theorem dX11_off_11 : decode cX11_off 11 = .ok (.iload_n 1, 1) := by decide +kernel
theorem dX11_off_12 : decode cX11_off 12 = .ok (.invokevirtual 245, 3) := by decide +kernel
theorem dX11_off_15 : decode cX11_off 15 = .ok (.ifCond .eq 13, 3) := by decide +kernel
theorem dX11_off_18 : decode cX11_off 18 = .ok (.aload 4, 2) := by decide +kernel
theorem dX11_off_20 : decode cX11_off 20 = .ok (.iload_n 3, 1) := by decide +kernel
theorem dX11_off_21 : decode cX11_off 21 = .ok (.iconst 0, 1) := by decide +kernel
theorem dX11_off_22 : decode cX11_off 22 = .ok (.invokestatic 211, 3) := by decide +kernel
theorem dX11_off_25 : decode cX11_off 25 = .ok (.ifCond .ne 6, 3) := by decide +kernel
theorem dX11_off_28 : decode cX11_off 28 = .ok (.ldc 251, 2) := by decide +kernel
theorem dX11_off_30 : decode cX11_off 30 = .ok (.ireturn, 1) := by decide +kernel
theorem dX11_off_31 : decode cX11_off 31 = .ok (.aload_n 0, 1) := by decide +kernel
theorem dX11_off_32 : decode cX11_off 32 = .ok (.getfield 59, 3) := by decide +kernel
theorem dX11_off_35 : decode cX11_off 35 = .ok (.iload_n 1, 1) := by decide +kernel
theorem dX11_off_36 : decode cX11_off 36 = .ok (.iload_n 2, 1) := by decide +kernel
theorem dX11_off_37 : decode cX11_off 37 = .ok (.aload 4, 2) := by decide +kernel
theorem dX11_off_39 : decode cX11_off 39 = .ok (.iload_n 3, 1) := by decide +kernel
theorem dX11_off_40 : decode cX11_off 40 = .ok (.sipush 2000, 3) := by decide +kernel
theorem dX11_off_43 : decode cX11_off 43 = .ok (.invokevirtual 228, 3) := by decide +kernel
theorem dX11_off_46 : decode cX11_off 46 = .ok (.aload_n 0, 1) := by decide +kernel
theorem dX11_off_47 : decode cX11_off 47 = .ok (.getfield 59, 3) := by decide +kernel
theorem dX11_off_50 : decode cX11_off 50 = .ok (.iload_n 1, 1) := by decide +kernel
theorem dX11_off_51 : decode cX11_off 51 = .ok (.aload 4, 2) := by decide +kernel
theorem dX11_off_53 : decode cX11_off 53 = .ok (.invokestatic 224, 3) := by decide +kernel
theorem dX11_off_56 : decode cX11_off 56 = .ok (.sipush 500, 3) := by decide +kernel
theorem dX11_off_59 : decode cX11_off 59 = .ok (.invokevirtual 248, 3) := by decide +kernel
theorem dX11_off_62 : decode cX11_off 62 = .ok (.istore 5, 2) := by decide +kernel
theorem dX11_off_64 : decode cX11_off 64 = .ok (.aload_n 0, 1) := by decide +kernel
theorem dX11_off_65 : decode cX11_off 65 = .ok (.getfield 19, 3) := by decide +kernel
theorem dX11_off_68 : decode cX11_off 68 = .ok (.invokevirtual 217, 3) := by decide +kernel
theorem dX11_off_71 : decode cX11_off 71 = .ok (.istore 6, 2) := by decide +kernel
theorem dX11_off_73 : decode cX11_off 73 = .ok (.aload_n 0, 1) := by decide +kernel
theorem dX11_off_74 : decode cX11_off 74 = .ok (.getfield 59, 3) := by decide +kernel
theorem dX11_off_77 : decode cX11_off 77 = .ok (.iload 6, 2) := by decide +kernel
theorem dX11_off_79 : decode cX11_off 79 = .ok (.bipush 16, 2) := by decide +kernel
theorem dX11_off_81 : decode cX11_off 81 = .ok (.aload_n 0, 1) := by decide +kernel
theorem dX11_off_82 : decode cX11_off 82 = .ok (.getfield 43, 3) := by decide +kernel
theorem dX11_off_85 : decode cX11_off 85 = .ok (.iload_n 3, 1) := by decide +kernel
theorem dX11_off_86 : decode cX11_off 86 = .ok (.sipush 2000, 3) := by decide +kernel
theorem dX11_off_89 : decode cX11_off 89 = .ok (.invokevirtual 228, 3) := by decide +kernel
theorem dX11_off_92 : decode cX11_off 92 = .ok (.aload_n 0, 1) := by decide +kernel
theorem dX11_off_93 : decode cX11_off 93 = .ok (.getfield 59, 3) := by decide +kernel
theorem dX11_off_96 : decode cX11_off 96 = .ok (.iload 6, 2) := by decide +kernel
theorem dX11_off_98 : decode cX11_off 98 = .ok (.iconst 0, 1) := by decide +kernel
theorem dX11_off_99 : decode cX11_off 99 = .ok (.sipush 500, 3) := by decide +kernel
theorem dX11_off_102 : decode cX11_off 102 = .ok (.invokevirtual 248, 3) := by decide +kernel
theorem dX11_off_105 : decode cX11_off 105 = .ok (.istore 7, 2) := by decide +kernel
theorem dX11_off_107 : decode cX11_off 107 = .ok (.iload 5, 2) := by decide +kernel
theorem dX11_off_109 : decode cX11_off 109 = .ok (.ifCond .lt 8, 3) := by decide +kernel
theorem dX11_off_112 : decode cX11_off 112 = .ok (.iload 7, 2) := by decide +kernel
theorem dX11_off_114 : decode cX11_off 114 = .ok (.ifCond .ge 8, 3) := by decide +kernel
theorem dX11_off_117 : decode cX11_off 117 = .ok (.ldc 251, 2) := by decide +kernel
theorem dX11_off_119 : decode cX11_off 119 = .ok (.goto 8, 3) := by decide +kernel
theorem dX11_off_122 : decode cX11_off 122 = .ok (.iload 5, 2) := by decide +kernel
theorem dX11_off_124 : decode cX11_off 124 = .ok (.iload 7, 2) := by decide +kernel
theorem dX11_off_126 : decode cX11_off 126 = .ok (.isub, 1) := by decide +kernel
theorem dX11_off_127 : decode cX11_off 127 = .ok (.ireturn, 1) := by decide +kernel
theorem dX11_trial_0 : decode cX11_trial 0 = .ok (.aload_n 0, 1) := by decide +kernel
theorem dX11_trial_1 : decode cX11_trial 1 = .ok (.iload_n 2, 1) := by decide +kernel
theorem dX11_trial_2 : decode cX11_trial 2 = .ok (.invokevirtual 152, 3) := by decide +kernel
theorem dX11_trial_5 : decode cX11_trial 5 = .ok (.astore 6, 2) := by decide +kernel
theorem dX11_trial_7 : decode cX11_trial 7 = .ok (.aload_n 0, 1) := by decide +kernel
theorem dX11_trial_8 : decode cX11_trial 8 = .ok (.getfield 19, 3) := by decide +kernel
theorem dX11_trial_11 : decode cX11_trial 11 = .ok (.iload_n 1, 1) := by decide +kernel
theorem dX11_trial_12 : decode cX11_trial 12 = .ok (.invokevirtual 245, 3) := by decide +kernel
theorem dX11_trial_15 : decode cX11_trial 15 = .ok (.ifCond .eq 26, 3) := by decide +kernel
theorem dX11_trial_18 : decode cX11_trial 18 = .ok (.aload 6, 2) := by decide +kernel
theorem dX11_trial_20 : decode cX11_trial 20 = .ok (.iload_n 3, 1) := by decide +kernel
theorem dX11_trial_21 : decode cX11_trial 21 = .ok (.iload 4, 2) := by decide +kernel
theorem dX11_trial_23 : decode cX11_trial 23 = .ok (.invokestatic 211, 3) := by decide +kernel
theorem dX11_trial_26 : decode cX11_trial 26 = .ok (.ifCond .eq 15, 3) := by decide +kernel
theorem dX11_trial_29 : decode cX11_trial 29 = .ok (.iload 5, 2) := by decide +kernel
theorem dX11_trial_31 : decode cX11_trial 31 = .ok (.iconst 1, 1) := by decide +kernel
theorem dX11_trial_32 : decode cX11_trial 32 = .ok (.sipush 10000, 3) := by decide +kernel
theorem dX11_trial_35 : decode cX11_trial 35 = .ok (.invokestatic 94, 3) := by decide +kernel
theorem dX11_trial_38 : decode cX11_trial 38 = .ok (.ifCond .ne 5, 3) := by decide +kernel
theorem dX11_trial_41 : decode cX11_trial 41 = .ok (.iconst (-1), 1) := by decide +kernel
theorem dX11_trial_42 : decode cX11_trial 42 = .ok (.ireturn, 1) := by decide +kernel
theorem dX11_trial_43 : decode cX11_trial 43 = .ok (.aload_n 0, 1) := by decide +kernel
theorem dX11_trial_44 : decode cX11_trial 44 = .ok (.getfield 66, 3) := by decide +kernel
theorem dX11_trial_47 : decode cX11_trial 47 = .ok (.invokevirtual 252, 3) := by decide +kernel
theorem dX11_trial_50 : decode cX11_trial 50 = .ok (.bipush 8, 2) := by decide +kernel
theorem dX11_trial_52 : decode cX11_trial 52 = .ok (.if_icmp .lt 5, 3) := by decide +kernel
theorem dX11_trial_55 : decode cX11_trial 55 = .ok (.iconst (-1), 1) := by decide +kernel
theorem dX11_trial_56 : decode cX11_trial 56 = .ok (.ireturn, 1) := by decide +kernel
theorem dX11_trial_57 : decode cX11_trial 57 = .ok (.aload_n 0, 1) := by decide +kernel
theorem dX11_trial_58 : decode cX11_trial 58 = .ok (.getfield 66, 3) := by decide +kernel
theorem dX11_trial_61 : decode cX11_trial 61 = .ok (.iload_n 1, 1) := by decide +kernel
theorem dX11_trial_62 : decode cX11_trial 62 = .ok (.aload 6, 2) := by decide +kernel
theorem dX11_trial_64 : decode cX11_trial 64 = .ok (.iload_n 3, 1) := by decide +kernel
theorem dX11_trial_65 : decode cX11_trial 65 = .ok (.iload 4, 2) := by decide +kernel
theorem dX11_trial_67 : decode cX11_trial 67 = .ok (.iload 5, 2) := by decide +kernel
theorem dX11_trial_69 : decode cX11_trial 69 = .ok (.invokevirtual 253, 3) := by decide +kernel
theorem dX11_trial_72 : decode cX11_trial 72 = .ok (.ireturn, 1) := by decide +kernel
theorem dX11_says_0 : decode cX11_says 0 = .ok (.aload_n 0, 1) := by decide +kernel
theorem dX11_says_1 : decode cX11_says 1 = .ok (.getfield 66, 3) := by decide +kernel
theorem dX11_says_4 : decode cX11_says 4 = .ok (.iload_n 1, 1) := by decide +kernel
theorem dX11_says_5 : decode cX11_says 5 = .ok (.invokevirtual 256, 3) := by decide +kernel
theorem dX11_says_8 : decode cX11_says 8 = .ok (.ifCond .eq 12, 3) := by decide +kernel
theorem dX11_says_11 : decode cX11_says 11 = .ok (.iload_n 2, 1) := by decide +kernel
theorem dX11_says_12 : decode cX11_says 12 = .ok (.iconst 0, 1) := by decide +kernel
theorem dX11_says_13 : decode cX11_says 13 = .ok (.iconst 1, 1) := by decide +kernel
theorem dX11_says_14 : decode cX11_says 14 = .ok (.invokestatic 94, 3) := by decide +kernel
theorem dX11_says_17 : decode cX11_says 17 = .ok (.ifCond .ne 7, 3) := by decide +kernel
theorem dX11_says_20 : decode cX11_says 20 = .ok (.ldc2_w 215, 3) := by decide +kernel
theorem dX11_says_23 : decode cX11_says 23 = .ok (.lreturn, 1) := by decide +kernel
theorem dX11_says_24 : decode cX11_says 24 = .ok (.aload_n 0, 1) := by decide +kernel
theorem dX11_says_25 : decode cX11_says 25 = .ok (.getfield 66, 3) := by decide +kernel
theorem dX11_says_28 : decode cX11_says 28 = .ok (.iload_n 1, 1) := by decide +kernel
theorem dX11_says_29 : decode cX11_says 29 = .ok (.invokevirtual 257, 3) := by decide +kernel
theorem dX11_says_32 : decode cX11_says 32 = .ok (.istore_n 3, 1) := by decide +kernel
theorem dX11_says_33 : decode cX11_says 33 = .ok (.aload_n 0, 1) := by decide +kernel
theorem dX11_says_34 : decode cX11_says 34 = .ok (.getfield 59, 3) := by decide +kernel
theorem dX11_says_37 : decode cX11_says 37 = .ok (.iload_n 3, 1) := by decide +kernel
theorem dX11_says_38 : decode cX11_says 38 = .ok (.bipush 8, 2) := by decide +kernel
theorem dX11_says_40 : decode cX11_says 40 = .ok (.iload_n 1, 1) := by decide +kernel
theorem dX11_says_41 : decode cX11_says 41 = .ok (.iadd, 1) := by decide +kernel
theorem dX11_says_42 : decode cX11_says 42 = .ok (.aload_n 0, 1) := by decide +kernel
theorem dX11_says_43 : decode cX11_says 43 = .ok (.getfield 66, 3) := by decide +kernel
theorem dX11_says_46 : decode cX11_says 46 = .ok (.iload_n 1, 1) := by decide +kernel
theorem dX11_says_47 : decode cX11_says 47 = .ok (.invokevirtual 260, 3) := by decide +kernel
theorem dX11_says_50 : decode cX11_says 50 = .ok (.aload_n 0, 1) := by decide +kernel
theorem dX11_says_51 : decode cX11_says 51 = .ok (.getfield 66, 3) := by decide +kernel
theorem dX11_says_54 : decode cX11_says 54 = .ok (.iload_n 1, 1) := by decide +kernel
theorem dX11_says_55 : decode cX11_says 55 = .ok (.invokevirtual 263, 3) := by decide +kernel
theorem dX11_says_58 : decode cX11_says 58 = .ok (.aload_n 0, 1) := by decide +kernel
theorem dX11_says_59 : decode cX11_says 59 = .ok (.getfield 66, 3) := by decide +kernel
theorem dX11_says_62 : decode cX11_says 62 = .ok (.iload_n 1, 1) := by decide +kernel
theorem dX11_says_63 : decode cX11_says 63 = .ok (.invokevirtual 266, 3) := by decide +kernel
theorem dX11_says_66 : decode cX11_says 66 = .ok (.invokevirtual 228, 3) := by decide +kernel
theorem dX11_says_69 : decode cX11_says 69 = .ok (.aload_n 0, 1) := by decide +kernel
theorem dX11_says_70 : decode cX11_says 70 = .ok (.getfield 59, 3) := by decide +kernel
theorem dX11_says_73 : decode cX11_says 73 = .ok (.iload_n 3, 1) := by decide +kernel
theorem dX11_says_74 : decode cX11_says 74 = .ok (.aload_n 0, 1) := by decide +kernel
theorem dX11_says_75 : decode cX11_says 75 = .ok (.getfield 66, 3) := by decide +kernel
theorem dX11_says_78 : decode cX11_says 78 = .ok (.iload_n 1, 1) := by decide +kernel
theorem dX11_says_79 : decode cX11_says 79 = .ok (.invokevirtual 266, 3) := by decide +kernel
theorem dX11_says_82 : decode cX11_says 82 = .ok (.invokevirtual 232, 3) := by decide +kernel
theorem dX11_says_85 : decode cX11_says 85 = .ok (.aload_n 0, 1) := by decide +kernel
theorem dX11_says_86 : decode cX11_says 86 = .ok (.getfield 59, 3) := by decide +kernel
theorem dX11_says_89 : decode cX11_says 89 = .ok (.iload_n 3, 1) := by decide +kernel
theorem dX11_says_90 : decode cX11_says 90 = .ok (.invokevirtual 220, 3) := by decide +kernel
theorem dX11_says_93 : decode cX11_says 93 = .ok (.iload_n 2, 1) := by decide +kernel
theorem dX11_says_94 : decode cX11_says 94 = .ok (.invokestatic 241, 3) := by decide +kernel
theorem dX11_says_97 : decode cX11_says 97 = .ok (.lreturn, 1) := by decide +kernel
theorem dX11_cheapest_0 : decode cX11_cheapest 0 = .ok (.iload_n 1, 1) := by decide +kernel
theorem dX11_cheapest_1 : decode cX11_cheapest 1 = .ok (.iconst 1, 1) := by decide +kernel
theorem dX11_cheapest_2 : decode cX11_cheapest 2 = .ok (.sipush 1000, 3) := by decide +kernel
theorem dX11_cheapest_5 : decode cX11_cheapest 5 = .ok (.invokestatic 94, 3) := by decide +kernel
theorem dX11_cheapest_8 : decode cX11_cheapest 8 = .ok (.ifCond .ne 5, 3) := by decide +kernel
theorem dX11_cheapest_11 : decode cX11_cheapest 11 = .ok (.iconst (-1), 1) := by decide +kernel
theorem dX11_cheapest_12 : decode cX11_cheapest 12 = .ok (.ireturn, 1) := by decide +kernel
theorem dX11_cheapest_13 : decode cX11_cheapest 13 = .ok (.iconst (-1), 1) := by decide +kernel
theorem dX11_cheapest_14 : decode cX11_cheapest 14 = .ok (.istore_n 2, 1) := by decide +kernel
theorem dX11_cheapest_15 : decode cX11_cheapest 15 = .ok (.iconst 0, 1) := by decide +kernel
theorem dX11_cheapest_16 : decode cX11_cheapest 16 = .ok (.istore_n 3, 1) := by decide +kernel
theorem dX11_cheapest_17 : decode cX11_cheapest 17 = .ok (.iload_n 3, 1) := by decide +kernel
theorem dX11_cheapest_18 : decode cX11_cheapest 18 = .ok (.aload_n 0, 1) := by decide +kernel
theorem dX11_cheapest_19 : decode cX11_cheapest 19 = .ok (.getfield 66, 3) := by decide +kernel
theorem dX11_cheapest_22 : decode cX11_cheapest 22 = .ok (.invokevirtual 252, 3) := by decide +kernel
theorem dX11_cheapest_25 : decode cX11_cheapest 25 = .ok (.if_icmp .ge 135, 3) := by decide +kernel
theorem dX11_cheapest_28 : decode cX11_cheapest 28 = .ok (.iload_n 2, 1) := by decide +kernel
theorem dX11_cheapest_29 : decode cX11_cheapest 29 = .ok (.iconst (-1), 1) := by decide +kernel
theorem dX11_cheapest_30 : decode cX11_cheapest 30 = .ok (.if_icmp .eq 22, 3) := by decide +kernel
theorem dX11_cheapest_33 : decode cX11_cheapest 33 = .ok (.aload_n 0, 1) := by decide +kernel
theorem dX11_cheapest_34 : decode cX11_cheapest 34 = .ok (.getfield 66, 3) := by decide +kernel
theorem dX11_cheapest_37 : decode cX11_cheapest 37 = .ok (.iload_n 3, 1) := by decide +kernel
theorem dX11_cheapest_38 : decode cX11_cheapest 38 = .ok (.invokevirtual 267, 3) := by decide +kernel
theorem dX11_cheapest_41 : decode cX11_cheapest 41 = .ok (.aload_n 0, 1) := by decide +kernel
theorem dX11_cheapest_42 : decode cX11_cheapest 42 = .ok (.getfield 66, 3) := by decide +kernel
theorem dX11_cheapest_45 : decode cX11_cheapest 45 = .ok (.iload_n 2, 1) := by decide +kernel
theorem dX11_cheapest_46 : decode cX11_cheapest 46 = .ok (.invokevirtual 267, 3) := by decide +kernel
theorem dX11_cheapest_49 : decode cX11_cheapest 49 = .ok (.if_icmp .ge 105, 3) := by decide +kernel
theorem dX11_cheapest_52 : decode cX11_cheapest 52 = .ok (.aload_n 0, 1) := by decide +kernel
theorem dX11_cheapest_53 : decode cX11_cheapest 53 = .ok (.getfield 66, 3) := by decide +kernel
theorem dX11_cheapest_56 : decode cX11_cheapest 56 = .ok (.iload_n 3, 1) := by decide +kernel
theorem dX11_cheapest_57 : decode cX11_cheapest 57 = .ok (.invokevirtual 257, 3) := by decide +kernel
theorem dX11_cheapest_60 : decode cX11_cheapest 60 = .ok (.istore 4, 2) := by decide +kernel
theorem dX11_cheapest_62 : decode cX11_cheapest 62 = .ok (.aload_n 0, 1) := by decide +kernel
theorem dX11_cheapest_63 : decode cX11_cheapest 63 = .ok (.getfield 59, 3) := by decide +kernel
theorem dX11_cheapest_66 : decode cX11_cheapest 66 = .ok (.iload 4, 2) := by decide +kernel
theorem dX11_cheapest_68 : decode cX11_cheapest 68 = .ok (.bipush 8, 2) := by decide +kernel
theorem dX11_cheapest_70 : decode cX11_cheapest 70 = .ok (.iload_n 3, 1) := by decide +kernel
theorem dX11_cheapest_71 : decode cX11_cheapest 71 = .ok (.iadd, 1) := by decide +kernel
theorem dX11_cheapest_72 : decode cX11_cheapest 72 = .ok (.aload_n 0, 1) := by decide +kernel
theorem dX11_cheapest_73 : decode cX11_cheapest 73 = .ok (.getfield 66, 3) := by decide +kernel
theorem dX11_cheapest_76 : decode cX11_cheapest 76 = .ok (.iload_n 3, 1) := by decide +kernel
theorem dX11_cheapest_77 : decode cX11_cheapest 77 = .ok (.invokevirtual 260, 3) := by decide +kernel
theorem dX11_cheapest_80 : decode cX11_cheapest 80 = .ok (.aload_n 0, 1) := by decide +kernel
theorem dX11_cheapest_81 : decode cX11_cheapest 81 = .ok (.getfield 66, 3) := by decide +kernel
theorem dX11_cheapest_84 : decode cX11_cheapest 84 = .ok (.iload_n 3, 1) := by decide +kernel
theorem dX11_cheapest_85 : decode cX11_cheapest 85 = .ok (.invokevirtual 263, 3) := by decide +kernel
theorem dX11_cheapest_88 : decode cX11_cheapest 88 = .ok (.aload_n 0, 1) := by decide +kernel
theorem dX11_cheapest_89 : decode cX11_cheapest 89 = .ok (.getfield 66, 3) := by decide +kernel
theorem dX11_cheapest_92 : decode cX11_cheapest 92 = .ok (.iload_n 3, 1) := by decide +kernel
theorem dX11_cheapest_93 : decode cX11_cheapest 93 = .ok (.invokevirtual 266, 3) := by decide +kernel
theorem dX11_cheapest_96 : decode cX11_cheapest 96 = .ok (.invokevirtual 228, 3) := by decide +kernel
theorem dX11_cheapest_99 : decode cX11_cheapest 99 = .ok (.aload_n 0, 1) := by decide +kernel
theorem dX11_cheapest_100 : decode cX11_cheapest 100 = .ok (.getfield 59, 3) := by decide +kernel
theorem dX11_cheapest_103 : decode cX11_cheapest 103 = .ok (.iload 4, 2) := by decide +kernel
theorem dX11_cheapest_105 : decode cX11_cheapest 105 = .ok (.aload_n 0, 1) := by decide +kernel
theorem dX11_cheapest_106 : decode cX11_cheapest 106 = .ok (.getfield 66, 3) := by decide +kernel
theorem dX11_cheapest_109 : decode cX11_cheapest 109 = .ok (.iload_n 3, 1) := by decide +kernel
theorem dX11_cheapest_110 : decode cX11_cheapest 110 = .ok (.invokevirtual 266, 3) := by decide +kernel
theorem dX11_cheapest_113 : decode cX11_cheapest 113 = .ok (.invokevirtual 232, 3) := by decide +kernel
theorem dX11_cheapest_116 : decode cX11_cheapest 116 = .ok (.ldc2_w 270, 3) := by decide +kernel
theorem dX11_cheapest_119 : decode cX11_cheapest 119 = .ok (.lmul, 1) := by decide +kernel
theorem dX11_cheapest_120 : decode cX11_cheapest 120 = .ok (.iload_n 1, 1) := by decide +kernel
theorem dX11_cheapest_121 : decode cX11_cheapest 121 = .ok (.i2l, 1) := by decide +kernel
theorem dX11_cheapest_122 : decode cX11_cheapest 122 = .ok (.aload_n 0, 1) := by decide +kernel
theorem dX11_cheapest_123 : decode cX11_cheapest 123 = .ok (.getfield 59, 3) := by decide +kernel
theorem dX11_cheapest_126 : decode cX11_cheapest 126 = .ok (.iload 4, 2) := by decide +kernel
theorem dX11_cheapest_128 : decode cX11_cheapest 128 = .ok (.invokevirtual 220, 3) := by decide +kernel
theorem dX11_cheapest_131 : decode cX11_cheapest 131 = .ok (.lmul, 1) := by decide +kernel
theorem dX11_cheapest_132 : decode cX11_cheapest 132 = .ok (.lcmp, 1) := by decide +kernel
theorem dX11_cheapest_133 : decode cX11_cheapest 133 = .ok (.ifCond .lt 7, 3) := by decide +kernel
theorem dX11_cheapest_136 : decode cX11_cheapest 136 = .ok (.iconst 1, 1) := by decide +kernel
theorem dX11_cheapest_137 : decode cX11_cheapest 137 = .ok (.goto 4, 3) := by decide +kernel
theorem dX11_cheapest_140 : decode cX11_cheapest 140 = .ok (.iconst 0, 1) := by decide +kernel
theorem dX11_cheapest_141 : decode cX11_cheapest 141 = .ok (.istore 5, 2) := by decide +kernel
theorem dX11_cheapest_143 : decode cX11_cheapest 143 = .ok (.iload 5, 2) := by decide +kernel
theorem dX11_cheapest_145 : decode cX11_cheapest 145 = .ok (.ifCond .eq 7, 3) := by decide +kernel
theorem dX11_cheapest_148 : decode cX11_cheapest 148 = .ok (.iload_n 3, 1) := by decide +kernel
theorem dX11_cheapest_149 : decode cX11_cheapest 149 = .ok (.goto 4, 3) := by decide +kernel
theorem dX11_cheapest_152 : decode cX11_cheapest 152 = .ok (.iload_n 2, 1) := by decide +kernel
theorem dX11_cheapest_153 : decode cX11_cheapest 153 = .ok (.istore_n 2, 1) := by decide +kernel
theorem dX11_cheapest_154 : decode cX11_cheapest 154 = .ok (.iinc 3 1, 3) := by decide +kernel
theorem dX11_cheapest_157 : decode cX11_cheapest 157 = .ok (.goto (-140), 3) := by decide +kernel
theorem dX11_cheapest_160 : decode cX11_cheapest 160 = .ok (.iload_n 2, 1) := by decide +kernel
theorem dX11_cheapest_161 : decode cX11_cheapest 161 = .ok (.ireturn, 1) := by decide +kernel
theorem dX11_story_0 : decode cX11_story 0 = .ok (.iload_n 1, 1) := by decide +kernel
theorem dX11_story_1 : decode cX11_story 1 = .ok (.iconst 1, 1) := by decide +kernel
theorem dX11_story_2 : decode cX11_story 2 = .ok (.bipush 100, 2) := by decide +kernel
theorem dX11_story_4 : decode cX11_story 4 = .ok (.invokestatic 94, 3) := by decide +kernel
theorem dX11_story_7 : decode cX11_story 7 = .ok (.ifCond .eq 15, 3) := by decide +kernel
theorem dX11_story_10 : decode cX11_story 10 = .ok (.aload_n 0, 1) := by decide +kernel
theorem dX11_story_11 : decode cX11_story 11 = .ok (.getfield 73, 3) := by decide +kernel
theorem dX11_story_14 : decode cX11_story 14 = .ok (.invokevirtual 272, 3) := by decide +kernel
theorem dX11_story_17 : decode cX11_story 17 = .ok (.bipush 6, 2) := by decide +kernel
theorem dX11_story_19 : decode cX11_story 19 = .ok (.if_icmp .lt 5, 3) := by decide +kernel
theorem dX11_story_22 : decode cX11_story 22 = .ok (.iconst (-1), 1) := by decide +kernel
theorem dX11_story_23 : decode cX11_story 23 = .ok (.ireturn, 1) := by decide +kernel
theorem dX11_story_24 : decode cX11_story 24 = .ok (.aload_n 0, 1) := by decide +kernel
theorem dX11_story_25 : decode cX11_story 25 = .ok (.getfield 73, 3) := by decide +kernel
theorem dX11_story_28 : decode cX11_story 28 = .ok (.iload_n 1, 1) := by decide +kernel
theorem dX11_story_29 : decode cX11_story 29 = .ok (.invokevirtual 273, 3) := by decide +kernel
theorem dX11_story_32 : decode cX11_story 32 = .ok (.ireturn, 1) := by decide +kernel
theorem dX11_find_0 : decode cX11_find 0 = .ok (.aload_n 0, 1) := by decide +kernel
theorem dX11_find_1 : decode cX11_find 1 = .ok (.getfield 73, 3) := by decide +kernel
theorem dX11_find_4 : decode cX11_find 4 = .ok (.invokevirtual 274, 3) := by decide +kernel
theorem dX11_find_7 : decode cX11_find 7 = .ok (.bipush 10, 2) := by decide +kernel
theorem dX11_find_9 : decode cX11_find 9 = .ok (.if_icmp .lt 7, 3) := by decide +kernel
theorem dX11_find_12 : decode cX11_find 12 = .ok (.iconst (-1), 1) := by decide +kernel
theorem dX11_find_13 : decode cX11_find 13 = .ok (.goto 10, 3) := by decide +kernel
theorem dX11_find_16 : decode cX11_find 16 = .ok (.aload_n 0, 1) := by decide +kernel
theorem dX11_find_17 : decode cX11_find 17 = .ok (.getfield 73, 3) := by decide +kernel
theorem dX11_find_20 : decode cX11_find 20 = .ok (.invokevirtual 277, 3) := by decide +kernel
theorem dX11_find_23 : decode cX11_find 23 = .ok (.ireturn, 1) := by decide +kernel
theorem dX11_tells_0 : decode cX11_tells 0 = .ok (.aload_n 0, 1) := by decide +kernel
theorem dX11_tells_1 : decode cX11_tells 1 = .ok (.getfield 73, 3) := by decide +kernel
theorem dX11_tells_4 : decode cX11_tells 4 = .ok (.iload_n 1, 1) := by decide +kernel
theorem dX11_tells_5 : decode cX11_tells 5 = .ok (.invokevirtual 280, 3) := by decide +kernel
theorem dX11_tells_8 : decode cX11_tells 8 = .ok (.ifCond .eq 24, 3) := by decide +kernel
theorem dX11_tells_11 : decode cX11_tells 11 = .ok (.aload_n 0, 1) := by decide +kernel
theorem dX11_tells_12 : decode cX11_tells 12 = .ok (.getfield 73, 3) := by decide +kernel
theorem dX11_tells_15 : decode cX11_tells 15 = .ok (.iload_n 2, 1) := by decide +kernel
theorem dX11_tells_16 : decode cX11_tells 16 = .ok (.invokevirtual 283, 3) := by decide +kernel
theorem dX11_tells_19 : decode cX11_tells 19 = .ok (.ifCond .eq 13, 3) := by decide +kernel
theorem dX11_tells_22 : decode cX11_tells 22 = .ok (.iload_n 3, 1) := by decide +kernel
theorem dX11_tells_23 : decode cX11_tells 23 = .ok (.iconst 0, 1) := by decide +kernel
theorem dX11_tells_24 : decode cX11_tells 24 = .ok (.bipush 10, 2) := by decide +kernel
theorem dX11_tells_26 : decode cX11_tells 26 = .ok (.invokestatic 94, 3) := by decide +kernel
theorem dX11_tells_29 : decode cX11_tells 29 = .ok (.ifCond .ne 5, 3) := by decide +kernel
theorem dX11_tells_32 : decode cX11_tells 32 = .ok (.iconst 0, 1) := by decide +kernel
theorem dX11_tells_33 : decode cX11_tells 33 = .ok (.ireturn, 1) := by decide +kernel
theorem dX11_tells_34 : decode cX11_tells 34 = .ok (.aload_n 0, 1) := by decide +kernel
theorem dX11_tells_35 : decode cX11_tells 35 = .ok (.getfield 73, 3) := by decide +kernel
theorem dX11_tells_38 : decode cX11_tells 38 = .ok (.iload_n 1, 1) := by decide +kernel
theorem dX11_tells_39 : decode cX11_tells 39 = .ok (.iload_n 2, 1) := by decide +kernel
theorem dX11_tells_40 : decode cX11_tells 40 = .ok (.iload_n 3, 1) := by decide +kernel
theorem dX11_tells_41 : decode cX11_tells 41 = .ok (.invokevirtual 284, 3) := by decide +kernel
theorem dX11_tells_44 : decode cX11_tells 44 = .ok (.iconst 1, 1) := by decide +kernel
theorem dX11_tells_45 : decode cX11_tells 45 = .ok (.ireturn, 1) := by decide +kernel
theorem dX11_seen_0 : decode cX11_seen 0 = .ok (.aload_n 0, 1) := by decide +kernel
theorem dX11_seen_1 : decode cX11_seen 1 = .ok (.getfield 73, 3) := by decide +kernel
theorem dX11_seen_4 : decode cX11_seen 4 = .ok (.iload_n 1, 1) := by decide +kernel
theorem dX11_seen_5 : decode cX11_seen 5 = .ok (.invokevirtual 280, 3) := by decide +kernel
theorem dX11_seen_8 : decode cX11_seen 8 = .ok (.ifCond .eq 12, 3) := by decide +kernel
theorem dX11_seen_11 : decode cX11_seen 11 = .ok (.iload_n 2, 1) := by decide +kernel
theorem dX11_seen_12 : decode cX11_seen 12 = .ok (.iconst (-1), 1) := by decide +kernel
theorem dX11_seen_13 : decode cX11_seen 13 = .ok (.iconst 1, 1) := by decide +kernel
theorem dX11_seen_14 : decode cX11_seen 14 = .ok (.invokestatic 94, 3) := by decide +kernel
theorem dX11_seen_17 : decode cX11_seen 17 = .ok (.ifCond .ne 5, 3) := by decide +kernel
theorem dX11_seen_20 : decode cX11_seen 20 = .ok (.iconst 0, 1) := by decide +kernel
theorem dX11_seen_21 : decode cX11_seen 21 = .ok (.ireturn, 1) := by decide +kernel
theorem dX11_seen_22 : decode cX11_seen 22 = .ok (.aload_n 0, 1) := by decide +kernel
theorem dX11_seen_23 : decode cX11_seen 23 = .ok (.getfield 73, 3) := by decide +kernel
theorem dX11_seen_26 : decode cX11_seen 26 = .ok (.iload_n 1, 1) := by decide +kernel
theorem dX11_seen_27 : decode cX11_seen 27 = .ok (.iload_n 2, 1) := by decide +kernel
theorem dX11_seen_28 : decode cX11_seen 28 = .ok (.invokevirtual 288, 3) := by decide +kernel
theorem dX11_seen_31 : decode cX11_seen 31 = .ok (.iconst 1, 1) := by decide +kernel
theorem dX11_seen_32 : decode cX11_seen 32 = .ok (.ireturn, 1) := by decide +kernel
theorem dX11_weighs_0 : decode cX11_weighs 0 = .ok (.iload_n 1, 1) := by decide +kernel
theorem dX11_weighs_1 : decode cX11_weighs 1 = .ok (.iconst (-1), 1) := by decide +kernel
theorem dX11_weighs_2 : decode cX11_weighs 2 = .ok (.if_icmp .ne 11, 3) := by decide +kernel
theorem dX11_weighs_5 : decode cX11_weighs 5 = .ok (.aload_n 0, 1) := by decide +kernel
theorem dX11_weighs_6 : decode cX11_weighs 6 = .ok (.getfield 73, 3) := by decide +kernel
theorem dX11_weighs_9 : decode cX11_weighs 9 = .ok (.invokevirtual 291, 3) := by decide +kernel
theorem dX11_weighs_12 : decode cX11_weighs 12 = .ok (.lreturn, 1) := by decide +kernel
theorem dX11_weighs_13 : decode cX11_weighs 13 = .ok (.aload_n 0, 1) := by decide +kernel
theorem dX11_weighs_14 : decode cX11_weighs 14 = .ok (.getfield 73, 3) := by decide +kernel
theorem dX11_weighs_17 : decode cX11_weighs 17 = .ok (.iload_n 1, 1) := by decide +kernel
theorem dX11_weighs_18 : decode cX11_weighs 18 = .ok (.invokevirtual 283, 3) := by decide +kernel
theorem dX11_weighs_21 : decode cX11_weighs 21 = .ok (.ifCond .eq 14, 3) := by decide +kernel
theorem dX11_weighs_24 : decode cX11_weighs 24 = .ok (.aload_n 0, 1) := by decide +kernel
theorem dX11_weighs_25 : decode cX11_weighs 25 = .ok (.getfield 73, 3) := by decide +kernel
theorem dX11_weighs_28 : decode cX11_weighs 28 = .ok (.iload_n 1, 1) := by decide +kernel
theorem dX11_weighs_29 : decode cX11_weighs 29 = .ok (.invokevirtual 295, 3) := by decide +kernel
theorem dX11_weighs_32 : decode cX11_weighs 32 = .ok (.goto 6, 3) := by decide +kernel
theorem dX11_weighs_35 : decode cX11_weighs 35 = .ok (.ldc2_w 215, 3) := by decide +kernel
theorem dX11_weighs_38 : decode cX11_weighs 38 = .ok (.lreturn, 1) := by decide +kernel
theorem dX11_moves_0 : decode cX11_moves 0 = .ok (.aload_n 0, 1) := by decide +kernel
theorem dX11_moves_1 : decode cX11_moves 1 = .ok (.getfield 73, 3) := by decide +kernel
theorem dX11_moves_4 : decode cX11_moves 4 = .ok (.invokevirtual 298, 3) := by decide +kernel
theorem dX11_moves_7 : decode cX11_moves 7 = .ok (.ireturn, 1) := by decide +kernel
theorem dX11_wind_0 : decode cX11_wind 0 = .ok (.iload_n 1, 1) := by decide +kernel
theorem dX11_wind_1 : decode cX11_wind 1 = .ok (.iconst 1, 1) := by decide +kernel
theorem dX11_wind_2 : decode cX11_wind 2 = .ok (.bipush 50, 2) := by decide +kernel
theorem dX11_wind_4 : decode cX11_wind 4 = .ok (.invokestatic 94, 3) := by decide +kernel
theorem dX11_wind_7 : decode cX11_wind 7 = .ok (.ifCond .eq 24, 3) := by decide +kernel
theorem dX11_wind_10 : decode cX11_wind 10 = .ok (.iload_n 2, 1) := by decide +kernel
theorem dX11_wind_11 : decode cX11_wind 11 = .ok (.bipush (-20), 2) := by decide +kernel
theorem dX11_wind_13 : decode cX11_wind 13 = .ok (.bipush 20, 2) := by decide +kernel
theorem dX11_wind_15 : decode cX11_wind 15 = .ok (.invokestatic 94, 3) := by decide +kernel
theorem dX11_wind_18 : decode cX11_wind 18 = .ok (.ifCond .eq 13, 3) := by decide +kernel
theorem dX11_wind_21 : decode cX11_wind 21 = .ok (.iload_n 3, 1) := by decide +kernel
theorem dX11_wind_22 : decode cX11_wind 22 = .ok (.iload_n 2, 1) := by decide +kernel
theorem dX11_wind_23 : decode cX11_wind 23 = .ok (.bipush 20, 2) := by decide +kernel
theorem dX11_wind_25 : decode cX11_wind 25 = .ok (.invokestatic 94, 3) := by decide +kernel
theorem dX11_wind_28 : decode cX11_wind 28 = .ok (.ifCond .ne 5, 3) := by decide +kernel
theorem dX11_wind_31 : decode cX11_wind 31 = .ok (.iconst 0, 1) := by decide +kernel
theorem dX11_wind_32 : decode cX11_wind 32 = .ok (.ireturn, 1) := by decide +kernel
theorem dX11_wind_33 : decode cX11_wind 33 = .ok (.aload_n 0, 1) := by decide +kernel
theorem dX11_wind_34 : decode cX11_wind 34 = .ok (.getfield 80, 3) := by decide +kernel
theorem dX11_wind_37 : decode cX11_wind 37 = .ok (.iload_n 1, 1) := by decide +kernel
theorem dX11_wind_38 : decode cX11_wind 38 = .ok (.iload_n 2, 1) := by decide +kernel
theorem dX11_wind_39 : decode cX11_wind 39 = .ok (.iload_n 3, 1) := by decide +kernel
theorem dX11_wind_40 : decode cX11_wind 40 = .ok (.invokevirtual 301, 3) := by decide +kernel
theorem dX11_wind_43 : decode cX11_wind 43 = .ok (.iconst 1, 1) := by decide +kernel
theorem dX11_wind_44 : decode cX11_wind 44 = .ok (.ireturn, 1) := by decide +kernel
theorem dX11_lies_0 : decode cX11_lies 0 = .ok (.iload_n 1, 1) := by decide +kernel
theorem dX11_lies_1 : decode cX11_lies 1 = .ok (.iconst 0, 1) := by decide +kernel
theorem dX11_lies_2 : decode cX11_lies 2 = .ok (.ldc 193, 2) := by decide +kernel
theorem dX11_lies_4 : decode cX11_lies 4 = .ok (.invokestatic 94, 3) := by decide +kernel
theorem dX11_lies_7 : decode cX11_lies 7 = .ok (.ifCond .eq 26, 3) := by decide +kernel
theorem dX11_lies_10 : decode cX11_lies 10 = .ok (.iload_n 2, 1) := by decide +kernel
theorem dX11_lies_11 : decode cX11_lies 11 = .ok (.iconst 0, 1) := by decide +kernel
theorem dX11_lies_12 : decode cX11_lies 12 = .ok (.sipush 1000, 3) := by decide +kernel
theorem dX11_lies_15 : decode cX11_lies 15 = .ok (.invokestatic 94, 3) := by decide +kernel
theorem dX11_lies_18 : decode cX11_lies 18 = .ok (.ifCond .eq 15, 3) := by decide +kernel
theorem dX11_lies_21 : decode cX11_lies 21 = .ok (.aload_n 0, 1) := by decide +kernel
theorem dX11_lies_22 : decode cX11_lies 22 = .ok (.getfield 80, 3) := by decide +kernel
theorem dX11_lies_25 : decode cX11_lies 25 = .ok (.invokevirtual 304, 3) := by decide +kernel
theorem dX11_lies_28 : decode cX11_lies 28 = .ok (.bipush 10, 2) := by decide +kernel
theorem dX11_lies_30 : decode cX11_lies 30 = .ok (.if_icmp .lt 5, 3) := by decide +kernel
theorem dX11_lies_33 : decode cX11_lies 33 = .ok (.iconst (-1), 1) := by decide +kernel
theorem dX11_lies_34 : decode cX11_lies 34 = .ok (.ireturn, 1) := by decide +kernel
theorem dX11_lies_35 : decode cX11_lies 35 = .ok (.aload_n 0, 1) := by decide +kernel
theorem dX11_lies_36 : decode cX11_lies 36 = .ok (.getfield 80, 3) := by decide +kernel
theorem dX11_lies_39 : decode cX11_lies 39 = .ok (.iload_n 1, 1) := by decide +kernel
theorem dX11_lies_40 : decode cX11_lies 40 = .ok (.iload_n 2, 1) := by decide +kernel
theorem dX11_lies_41 : decode cX11_lies 41 = .ok (.invokevirtual 305, 3) := by decide +kernel
theorem dX11_lies_44 : decode cX11_lies 44 = .ok (.ireturn, 1) := by decide +kernel
theorem dX11_span_0 : decode cX11_span 0 = .ok (.aload_n 0, 1) := by decide +kernel
theorem dX11_span_1 : decode cX11_span 1 = .ok (.getfield 80, 3) := by decide +kernel
theorem dX11_span_4 : decode cX11_span 4 = .ok (.iload_n 1, 1) := by decide +kernel
theorem dX11_span_5 : decode cX11_span 5 = .ok (.invokevirtual 308, 3) := by decide +kernel
theorem dX11_span_8 : decode cX11_span 8 = .ok (.ifCond .eq 12, 3) := by decide +kernel
theorem dX11_span_11 : decode cX11_span 11 = .ok (.iload_n 2, 1) := by decide +kernel
theorem dX11_span_12 : decode cX11_span 12 = .ok (.iconst 0, 1) := by decide +kernel
theorem dX11_span_13 : decode cX11_span 13 = .ok (.iconst 1, 1) := by decide +kernel
theorem dX11_span_14 : decode cX11_span 14 = .ok (.invokestatic 94, 3) := by decide +kernel
theorem dX11_span_17 : decode cX11_span 17 = .ok (.ifCond .ne 5, 3) := by decide +kernel
theorem dX11_span_20 : decode cX11_span 20 = .ok (.iconst (-1), 1) := by decide +kernel
theorem dX11_span_21 : decode cX11_span 21 = .ok (.ireturn, 1) := by decide +kernel
theorem dX11_span_22 : decode cX11_span 22 = .ok (.iload_n 2, 1) := by decide +kernel
theorem dX11_span_23 : decode cX11_span 23 = .ok (.ifCond .ne 14, 3) := by decide +kernel
theorem dX11_span_26 : decode cX11_span 26 = .ok (.aload_n 0, 1) := by decide +kernel
theorem dX11_span_27 : decode cX11_span 27 = .ok (.getfield 80, 3) := by decide +kernel
theorem dX11_span_30 : decode cX11_span 30 = .ok (.iload_n 1, 1) := by decide +kernel
theorem dX11_span_31 : decode cX11_span 31 = .ok (.invokevirtual 309, 3) := by decide +kernel
theorem dX11_span_34 : decode cX11_span 34 = .ok (.goto 11, 3) := by decide +kernel
theorem dX11_span_37 : decode cX11_span 37 = .ok (.aload_n 0, 1) := by decide +kernel
theorem dX11_span_38 : decode cX11_span 38 = .ok (.getfield 80, 3) := by decide +kernel
theorem dX11_span_41 : decode cX11_span 41 = .ok (.iload_n 1, 1) := by decide +kernel
theorem dX11_span_42 : decode cX11_span 42 = .ok (.invokevirtual 312, 3) := by decide +kernel
theorem dX11_span_45 : decode cX11_span 45 = .ok (.ireturn, 1) := by decide +kernel
theorem dX11_order_0 : decode cX11_order 0 = .ok (.aload_n 0, 1) := by decide +kernel
theorem dX11_order_1 : decode cX11_order 1 = .ok (.getfield 80, 3) := by decide +kernel
theorem dX11_order_4 : decode cX11_order 4 = .ok (.iload_n 1, 1) := by decide +kernel
theorem dX11_order_5 : decode cX11_order 5 = .ok (.invokevirtual 308, 3) := by decide +kernel
theorem dX11_order_8 : decode cX11_order 8 = .ok (.ifCond .eq 26, 3) := by decide +kernel
theorem dX11_order_11 : decode cX11_order 11 = .ok (.aload_n 0, 1) := by decide +kernel
theorem dX11_order_12 : decode cX11_order 12 = .ok (.getfield 80, 3) := by decide +kernel
theorem dX11_order_15 : decode cX11_order 15 = .ok (.iload_n 2, 1) := by decide +kernel
theorem dX11_order_16 : decode cX11_order 16 = .ok (.invokevirtual 308, 3) := by decide +kernel
theorem dX11_order_19 : decode cX11_order 19 = .ok (.ifCond .eq 15, 3) := by decide +kernel
theorem dX11_order_22 : decode cX11_order 22 = .ok (.aload_n 0, 1) := by decide +kernel
theorem dX11_order_23 : decode cX11_order 23 = .ok (.getfield 80, 3) := by decide +kernel
theorem dX11_order_26 : decode cX11_order 26 = .ok (.iload_n 1, 1) := by decide +kernel
theorem dX11_order_27 : decode cX11_order 27 = .ok (.iload_n 2, 1) := by decide +kernel
theorem dX11_order_28 : decode cX11_order 28 = .ok (.invokevirtual 315, 3) := by decide +kernel
theorem dX11_order_31 : decode cX11_order 31 = .ok (.goto 4, 3) := by decide +kernel
theorem dX11_order_34 : decode cX11_order 34 = .ok (.iconst (-1), 1) := by decide +kernel
theorem dX11_order_35 : decode cX11_order 35 = .ok (.ireturn, 1) := by decide +kernel
theorem dX11_cell_0 : decode cX11_cell 0 = .ok (.aload_n 0, 1) := by decide +kernel
theorem dX11_cell_1 : decode cX11_cell 1 = .ok (.getfield 73, 3) := by decide +kernel
theorem dX11_cell_4 : decode cX11_cell 4 = .ok (.iload_n 1, 1) := by decide +kernel
theorem dX11_cell_5 : decode cX11_cell 5 = .ok (.invokevirtual 283, 3) := by decide +kernel
theorem dX11_cell_8 : decode cX11_cell 8 = .ok (.ifCond .eq 23, 3) := by decide +kernel
theorem dX11_cell_11 : decode cX11_cell 11 = .ok (.iload_n 2, 1) := by decide +kernel
theorem dX11_cell_12 : decode cX11_cell 12 = .ok (.iconst 0, 1) := by decide +kernel
theorem dX11_cell_13 : decode cX11_cell 13 = .ok (.bipush 39, 2) := by decide +kernel
theorem dX11_cell_15 : decode cX11_cell 15 = .ok (.invokestatic 94, 3) := by decide +kernel
theorem dX11_cell_18 : decode cX11_cell 18 = .ok (.ifCond .eq 13, 3) := by decide +kernel
theorem dX11_cell_21 : decode cX11_cell 21 = .ok (.iload_n 3, 1) := by decide +kernel
theorem dX11_cell_22 : decode cX11_cell 22 = .ok (.iconst 0, 1) := by decide +kernel
theorem dX11_cell_23 : decode cX11_cell 23 = .ok (.bipush 100, 2) := by decide +kernel
theorem dX11_cell_25 : decode cX11_cell 25 = .ok (.invokestatic 94, 3) := by decide +kernel
theorem dX11_cell_28 : decode cX11_cell 28 = .ok (.ifCond .ne 5, 3) := by decide +kernel
theorem dX11_cell_31 : decode cX11_cell 31 = .ok (.iconst 0, 1) := by decide +kernel
theorem dX11_cell_32 : decode cX11_cell 32 = .ok (.ireturn, 1) := by decide +kernel
theorem dX11_cell_33 : decode cX11_cell 33 = .ok (.aload_n 0, 1) := by decide +kernel
theorem dX11_cell_34 : decode cX11_cell 34 = .ok (.getfield 73, 3) := by decide +kernel
theorem dX11_cell_37 : decode cX11_cell 37 = .ok (.iload_n 1, 1) := by decide +kernel
theorem dX11_cell_38 : decode cX11_cell 38 = .ok (.iload_n 2, 1) := by decide +kernel
theorem dX11_cell_39 : decode cX11_cell 39 = .ok (.iload_n 3, 1) := by decide +kernel
theorem dX11_cell_40 : decode cX11_cell 40 = .ok (.invokevirtual 318, 3) := by decide +kernel
theorem dX11_cell_43 : decode cX11_cell 43 = .ok (.iconst 1, 1) := by decide +kernel
theorem dX11_cell_44 : decode cX11_cell 44 = .ok (.ireturn, 1) := by decide +kernel
theorem dX11_nets_0 : decode cX11_nets 0 = .ok (.iload_n 1, 1) := by decide +kernel
theorem dX11_nets_1 : decode cX11_nets 1 = .ok (.iconst 1, 1) := by decide +kernel
theorem dX11_nets_2 : decode cX11_nets 2 = .ok (.iconst 4, 1) := by decide +kernel
theorem dX11_nets_3 : decode cX11_nets 3 = .ok (.invokestatic 94, 3) := by decide +kernel
theorem dX11_nets_6 : decode cX11_nets 6 = .ok (.ifCond .eq 32, 3) := by decide +kernel
theorem dX11_nets_9 : decode cX11_nets 9 = .ok (.iload_n 2, 1) := by decide +kernel
theorem dX11_nets_10 : decode cX11_nets 10 = .ok (.iconst 1, 1) := by decide +kernel
theorem dX11_nets_11 : decode cX11_nets 11 = .ok (.bipush 10, 2) := by decide +kernel
theorem dX11_nets_13 : decode cX11_nets 13 = .ok (.invokestatic 94, 3) := by decide +kernel
theorem dX11_nets_16 : decode cX11_nets 16 = .ok (.ifCond .eq 22, 3) := by decide +kernel
theorem dX11_nets_19 : decode cX11_nets 19 = .ok (.iload_n 1, 1) := by decide +kernel
theorem dX11_nets_20 : decode cX11_nets 20 = .ok (.iload_n 2, 1) := by decide +kernel
theorem dX11_nets_21 : decode cX11_nets 21 = .ok (.imul, 1) := by decide +kernel
theorem dX11_nets_22 : decode cX11_nets 22 = .ok (.bipush 40, 2) := by decide +kernel
theorem dX11_nets_24 : decode cX11_nets 24 = .ok (.if_icmp .gt 14, 3) := by decide +kernel
theorem dX11_nets_27 : decode cX11_nets 27 = .ok (.iload_n 3, 1) := by decide +kernel
theorem dX11_nets_28 : decode cX11_nets 28 = .ok (.iconst (-1), 1) := by decide +kernel
theorem dX11_nets_29 : decode cX11_nets 29 = .ok (.iload_n 1, 1) := by decide +kernel
theorem dX11_nets_30 : decode cX11_nets 30 = .ok (.iconst 1, 1) := by decide +kernel
theorem dX11_nets_31 : decode cX11_nets 31 = .ok (.isub, 1) := by decide +kernel
theorem dX11_nets_32 : decode cX11_nets 32 = .ok (.invokestatic 94, 3) := by decide +kernel
theorem dX11_nets_35 : decode cX11_nets 35 = .ok (.ifCond .ne 7, 3) := by decide +kernel
theorem dX11_nets_38 : decode cX11_nets 38 = .ok (.ldc2_w 215, 3) := by decide +kernel
theorem dX11_nets_41 : decode cX11_nets 41 = .ok (.lreturn, 1) := by decide +kernel
theorem dX11_nets_42 : decode cX11_nets 42 = .ok (.aload_n 0, 1) := by decide +kernel
theorem dX11_nets_43 : decode cX11_nets 43 = .ok (.getfield 73, 3) := by decide +kernel
theorem dX11_nets_46 : decode cX11_nets 46 = .ok (.iload_n 1, 1) := by decide +kernel
theorem dX11_nets_47 : decode cX11_nets 47 = .ok (.iload_n 2, 1) := by decide +kernel
theorem dX11_nets_48 : decode cX11_nets 48 = .ok (.invokevirtual 321, 3) := by decide +kernel
theorem dX11_nets_51 : decode cX11_nets 51 = .ok (.lstore 4, 2) := by decide +kernel
theorem dX11_nets_53 : decode cX11_nets 53 = .ok (.iload_n 3, 1) := by decide +kernel
theorem dX11_nets_54 : decode cX11_nets 54 = .ok (.iconst (-1), 1) := by decide +kernel
theorem dX11_nets_55 : decode cX11_nets 55 = .ok (.if_icmp .ne 8, 3) := by decide +kernel
theorem dX11_nets_58 : decode cX11_nets 58 = .ok (.lload 4, 2) := by decide +kernel
theorem dX11_nets_60 : decode cX11_nets 60 = .ok (.goto 12, 3) := by decide +kernel
theorem dX11_nets_63 : decode cX11_nets 63 = .ok (.aload_n 0, 1) := by decide +kernel
theorem dX11_nets_64 : decode cX11_nets 64 = .ok (.getfield 73, 3) := by decide +kernel
theorem dX11_nets_67 : decode cX11_nets 67 = .ok (.iload_n 3, 1) := by decide +kernel
theorem dX11_nets_68 : decode cX11_nets 68 = .ok (.invokevirtual 324, 3) := by decide +kernel
theorem dX11_nets_71 : decode cX11_nets 71 = .ok (.i2l, 1) := by decide +kernel
theorem dX11_nets_72 : decode cX11_nets 72 = .ok (.lreturn, 1) := by decide +kernel
theorem dX11_fly_0 : decode cX11_fly 0 = .ok (.aload_n 0, 1) := by decide +kernel
theorem dX11_fly_1 : decode cX11_fly 1 = .ok (.iload_n 1, 1) := by decide +kernel
theorem dX11_fly_2 : decode cX11_fly 2 = .ok (.invokevirtual 152, 3) := by decide +kernel
theorem dX11_fly_5 : decode cX11_fly 5 = .ok (.astore 6, 2) := by decide +kernel
theorem dX11_fly_7 : decode cX11_fly 7 = .ok (.iload_n 3, 1) := by decide +kernel
theorem dX11_fly_8 : decode cX11_fly 8 = .ok (.iconst 0, 1) := by decide +kernel
theorem dX11_fly_9 : decode cX11_fly 9 = .ok (.sipush 200, 3) := by decide +kernel
theorem dX11_fly_12 : decode cX11_fly 12 = .ok (.invokestatic 94, 3) := by decide +kernel
theorem dX11_fly_15 : decode cX11_fly 15 = .ok (.ifCond .eq 26, 3) := by decide +kernel
theorem dX11_fly_18 : decode cX11_fly 18 = .ok (.iload 4, 2) := by decide +kernel
theorem dX11_fly_20 : decode cX11_fly 20 = .ok (.iconst 0, 1) := by decide +kernel
theorem dX11_fly_21 : decode cX11_fly 21 = .ok (.ldc 111, 2) := by decide +kernel
theorem dX11_fly_23 : decode cX11_fly 23 = .ok (.invokestatic 94, 3) := by decide +kernel
theorem dX11_fly_26 : decode cX11_fly 26 = .ok (.ifCond .eq 15, 3) := by decide +kernel
theorem dX11_fly_29 : decode cX11_fly 29 = .ok (.iload 5, 2) := by decide +kernel
theorem dX11_fly_31 : decode cX11_fly 31 = .ok (.iconst 0, 1) := by decide +kernel
theorem dX11_fly_32 : decode cX11_fly 32 = .ok (.sipush 1000, 3) := by decide +kernel
theorem dX11_fly_35 : decode cX11_fly 35 = .ok (.invokestatic 94, 3) := by decide +kernel
theorem dX11_fly_38 : decode cX11_fly 38 = .ok (.ifCond .ne 5, 3) := by decide +kernel
theorem dX11_fly_41 : decode cX11_fly 41 = .ok (.iconst (-1), 1) := by decide +kernel
theorem dX11_fly_42 : decode cX11_fly 42 = .ok (.ireturn, 1) := by decide +kernel
theorem dX11_fly_43 : decode cX11_fly 43 = .ok (.aload 6, 2) := by decide +kernel
theorem dX11_fly_45 : decode cX11_fly 45 = .ok (.iload_n 2, 1) := by decide +kernel
theorem dX11_fly_46 : decode cX11_fly 46 = .ok (.iload_n 3, 1) := by decide +kernel
theorem dX11_fly_47 : decode cX11_fly 47 = .ok (.invokestatic 211, 3) := by decide +kernel
theorem dX11_fly_50 : decode cX11_fly 50 = .ok (.ifCond .ne 5, 3) := by decide +kernel
theorem dX11_fly_53 : decode cX11_fly 53 = .ok (.iconst (-1), 1) := by decide +kernel
theorem dX11_fly_54 : decode cX11_fly 54 = .ok (.ireturn, 1) := by decide +kernel
theorem dX11_fly_55 : decode cX11_fly 55 = .ok (.aload_n 0, 1) := by decide +kernel
theorem dX11_fly_56 : decode cX11_fly 56 = .ok (.getfield 59, 3) := by decide +kernel
theorem dX11_fly_59 : decode cX11_fly 59 = .ok (.aload_n 0, 1) := by decide +kernel
theorem dX11_fly_60 : decode cX11_fly 60 = .ok (.getfield 19, 3) := by decide +kernel
theorem dX11_fly_63 : decode cX11_fly 63 = .ok (.invokevirtual 217, 3) := by decide +kernel
theorem dX11_fly_66 : decode cX11_fly 66 = .ok (.iload_n 1, 1) := by decide +kernel
theorem dX11_fly_67 : decode cX11_fly 67 = .ok (.aload 6, 2) := by decide +kernel
theorem dX11_fly_69 : decode cX11_fly 69 = .ok (.iload_n 2, 1) := by decide +kernel
theorem dX11_fly_70 : decode cX11_fly 70 = .ok (.aload 6, 2) := by decide +kernel
theorem dX11_fly_72 : decode cX11_fly 72 = .ok (.invokestatic 224, 3) := by decide +kernel
theorem dX11_fly_75 : decode cX11_fly 75 = .ok (.iload_n 3, 1) := by decide +kernel
theorem dX11_fly_76 : decode cX11_fly 76 = .ok (.iadd, 1) := by decide +kernel
theorem dX11_fly_77 : decode cX11_fly 77 = .ok (.invokevirtual 228, 3) := by decide +kernel
theorem dX11_fly_80 : decode cX11_fly 80 = .ok (.aload_n 0, 1) := by decide +kernel
theorem dX11_fly_81 : decode cX11_fly 81 = .ok (.getfield 59, 3) := by decide +kernel
theorem dX11_fly_84 : decode cX11_fly 84 = .ok (.aload 6, 2) := by decide +kernel
theorem dX11_fly_86 : decode cX11_fly 86 = .ok (.invokestatic 224, 3) := by decide +kernel
theorem dX11_fly_89 : decode cX11_fly 89 = .ok (.iload_n 3, 1) := by decide +kernel
theorem dX11_fly_90 : decode cX11_fly 90 = .ok (.iload 4, 2) := by decide +kernel
theorem dX11_fly_92 : decode cX11_fly 92 = .ok (.iload 5, 2) := by decide +kernel
theorem dX11_fly_94 : decode cX11_fly 94 = .ok (.invokevirtual 327, 3) := by decide +kernel
theorem dX11_fly_97 : decode cX11_fly 97 = .ok (.ireturn, 1) := by decide +kernel
theorem dX11_check_0 : decode cX11_check 0 = .ok (.aload_n 0, 1) := by decide +kernel
theorem dX11_check_1 : decode cX11_check 1 = .ok (.getfield 52, 3) := by decide +kernel
theorem dX11_check_4 : decode cX11_check 4 = .ok (.iload_n 1, 1) := by decide +kernel
theorem dX11_check_5 : decode cX11_check 5 = .ok (.invokevirtual 187, 3) := by decide +kernel
theorem dX11_check_8 : decode cX11_check 8 = .ok (.ifCond .eq 21, 3) := by decide +kernel
theorem dX11_check_11 : decode cX11_check 11 = .ok (.iload_n 2, 1) := by decide +kernel
theorem dX11_check_12 : decode cX11_check 12 = .ok (.ifCond .lt 17, 3) := by decide +kernel
theorem dX11_check_15 : decode cX11_check 15 = .ok (.iload_n 2, 1) := by decide +kernel
theorem dX11_check_16 : decode cX11_check 16 = .ok (.aload_n 0, 1) := by decide +kernel
theorem dX11_check_17 : decode cX11_check 17 = .ok (.getfield 10, 3) := by decide +kernel
theorem dX11_check_20 : decode cX11_check 20 = .ok (.invokevirtual 126, 3) := by decide +kernel
theorem dX11_check_23 : decode cX11_check 23 = .ok (.bipush 12, 2) := by decide +kernel
theorem dX11_check_25 : decode cX11_check 25 = .ok (.idiv, 1) := by decide +kernel
theorem dX11_check_26 : decode cX11_check 26 = .ok (.if_icmp .le 6, 3) := by decide +kernel
theorem dX11_check_29 : decode cX11_check 29 = .ok (.bipush (-2), 2) := by decide +kernel
theorem dX11_check_31 : decode cX11_check 31 = .ok (.ireturn, 1) := by decide +kernel
theorem dX11_check_32 : decode cX11_check 32 = .ok (.aload_n 0, 1) := by decide +kernel
theorem dX11_check_33 : decode cX11_check 33 = .ok (.getfield 52, 3) := by decide +kernel
theorem dX11_check_36 : decode cX11_check 36 = .ok (.iload_n 1, 1) := by decide +kernel
theorem dX11_check_37 : decode cX11_check 37 = .ok (.iload_n 2, 1) := by decide +kernel
theorem dX11_check_38 : decode cX11_check 38 = .ok (.aload_n 0, 1) := by decide +kernel
theorem dX11_check_39 : decode cX11_check 39 = .ok (.getfield 10, 3) := by decide +kernel
theorem dX11_check_42 : decode cX11_check 42 = .ok (.invokevirtual 330, 3) := by decide +kernel
theorem dX11_check_45 : decode cX11_check 45 = .ok (.istore_n 3, 1) := by decide +kernel
theorem dX11_check_46 : decode cX11_check 46 = .ok (.aload_n 0, 1) := by decide +kernel
theorem dX11_check_47 : decode cX11_check 47 = .ok (.getfield 10, 3) := by decide +kernel
theorem dX11_check_50 : decode cX11_check 50 = .ok (.invokevirtual 136, 3) := by decide +kernel
theorem dX11_check_53 : decode cX11_check 53 = .ok (.iload_n 3, 1) := by decide +kernel
theorem dX11_check_54 : decode cX11_check 54 = .ok (.ireturn, 1) := by decide +kernel
theorem dX11_count_0 : decode cX11_count 0 = .ok (.iload_n 1, 1) := by decide +kernel
theorem dX11_count_1 : decode cX11_count 1 = .ok (.tableswitch 114 0 7 #[47, 55, 63, 71, 79, 87, 95, 106], 47) := by decide +kernel
theorem dX11_count_48 : decode cX11_count 48 = .ok (.aload_n 0, 1) := by decide +kernel
theorem dX11_count_49 : decode cX11_count 49 = .ok (.getfield 19, 3) := by decide +kernel
theorem dX11_count_52 : decode cX11_count 52 = .ok (.invokevirtual 98, 3) := by decide +kernel
theorem dX11_count_55 : decode cX11_count 55 = .ok (.ireturn, 1) := by decide +kernel
theorem dX11_count_56 : decode cX11_count 56 = .ok (.aload_n 0, 1) := by decide +kernel
theorem dX11_count_57 : decode cX11_count 57 = .ok (.getfield 52, 3) := by decide +kernel
theorem dX11_count_60 : decode cX11_count 60 = .ok (.invokevirtual 102, 3) := by decide +kernel
theorem dX11_count_63 : decode cX11_count 63 = .ok (.ireturn, 1) := by decide +kernel
theorem dX11_count_64 : decode cX11_count 64 = .ok (.aload_n 0, 1) := by decide +kernel
theorem dX11_count_65 : decode cX11_count 65 = .ok (.getfield 66, 3) := by decide +kernel
theorem dX11_count_68 : decode cX11_count 68 = .ok (.invokevirtual 252, 3) := by decide +kernel
theorem dX11_count_71 : decode cX11_count 71 = .ok (.ireturn, 1) := by decide +kernel
theorem dX11_count_72 : decode cX11_count 72 = .ok (.aload_n 0, 1) := by decide +kernel
theorem dX11_count_73 : decode cX11_count 73 = .ok (.getfield 73, 3) := by decide +kernel
theorem dX11_count_76 : decode cX11_count 76 = .ok (.invokevirtual 272, 3) := by decide +kernel
theorem dX11_count_79 : decode cX11_count 79 = .ok (.ireturn, 1) := by decide +kernel
theorem dX11_count_80 : decode cX11_count 80 = .ok (.aload_n 0, 1) := by decide +kernel
theorem dX11_count_81 : decode cX11_count 81 = .ok (.getfield 73, 3) := by decide +kernel
theorem dX11_count_84 : decode cX11_count 84 = .ok (.invokevirtual 274, 3) := by decide +kernel
theorem dX11_count_87 : decode cX11_count 87 = .ok (.ireturn, 1) := by decide +kernel
theorem dX11_count_88 : decode cX11_count 88 = .ok (.aload_n 0, 1) := by decide +kernel
theorem dX11_count_89 : decode cX11_count 89 = .ok (.getfield 80, 3) := by decide +kernel
theorem dX11_count_92 : decode cX11_count 92 = .ok (.invokevirtual 304, 3) := by decide +kernel
theorem dX11_count_95 : decode cX11_count 95 = .ok (.ireturn, 1) := by decide +kernel
theorem dX11_count_96 : decode cX11_count 96 = .ok (.aload_n 0, 1) := by decide +kernel
theorem dX11_count_97 : decode cX11_count 97 = .ok (.getfield 19, 3) := by decide +kernel
theorem dX11_count_100 : decode cX11_count 100 = .ok (.invokevirtual 334, 3) := by decide +kernel
theorem dX11_count_103 : decode cX11_count 103 = .ok (.invokevirtual 149, 3) := by decide +kernel
theorem dX11_count_106 : decode cX11_count 106 = .ok (.ireturn, 1) := by decide +kernel
theorem dX11_count_107 : decode cX11_count 107 = .ok (.aload_n 0, 1) := by decide +kernel
theorem dX11_count_108 : decode cX11_count 108 = .ok (.getfield 10, 3) := by decide +kernel
theorem dX11_count_111 : decode cX11_count 111 = .ok (.invokevirtual 126, 3) := by decide +kernel
theorem dX11_count_114 : decode cX11_count 114 = .ok (.ireturn, 1) := by decide +kernel
theorem dX11_count_115 : decode cX11_count 115 = .ok (.aload_n 0, 1) := by decide +kernel
theorem dX11_count_116 : decode cX11_count 116 = .ok (.iload_n 1, 1) := by decide +kernel
theorem dX11_count_117 : decode cX11_count 117 = .ok (.invokevirtual 337, 3) := by decide +kernel
theorem dX11_count_120 : decode cX11_count 120 = .ok (.ireturn, 1) := by decide +kernel
theorem dX11_countOfOne_0 : decode cX11_countOfOne 0 = .ok (.iload_n 1, 1) := by decide +kernel
theorem dX11_countOfOne_1 : decode cX11_countOfOne 1 = .ok (.bipush 10, 2) := by decide +kernel
theorem dX11_countOfOne_3 : decode cX11_countOfOne 3 = .ok (.bipush 17, 2) := by decide +kernel
theorem dX11_countOfOne_5 : decode cX11_countOfOne 5 = .ok (.invokestatic 94, 3) := by decide +kernel
theorem dX11_countOfOne_8 : decode cX11_countOfOne 8 = .ok (.ifCond .eq 29, 3) := by decide +kernel
theorem dX11_countOfOne_11 : decode cX11_countOfOne 11 = .ok (.aload_n 0, 1) := by decide +kernel
theorem dX11_countOfOne_12 : decode cX11_countOfOne 12 = .ok (.getfield 19, 3) := by decide +kernel
theorem dX11_countOfOne_15 : decode cX11_countOfOne 15 = .ok (.iload_n 1, 1) := by decide +kernel
theorem dX11_countOfOne_16 : decode cX11_countOfOne 16 = .ok (.bipush 10, 2) := by decide +kernel
theorem dX11_countOfOne_18 : decode cX11_countOfOne 18 = .ok (.isub, 1) := by decide +kernel
theorem dX11_countOfOne_19 : decode cX11_countOfOne 19 = .ok (.invokevirtual 107, 3) := by decide +kernel
theorem dX11_countOfOne_22 : decode cX11_countOfOne 22 = .ok (.ifCond .eq 15, 3) := by decide +kernel
theorem dX11_countOfOne_25 : decode cX11_countOfOne 25 = .ok (.aload_n 0, 1) := by decide +kernel
theorem dX11_countOfOne_26 : decode cX11_countOfOne 26 = .ok (.getfield 19, 3) := by decide +kernel
theorem dX11_countOfOne_29 : decode cX11_countOfOne 29 = .ok (.iload_n 1, 1) := by decide +kernel
theorem dX11_countOfOne_30 : decode cX11_countOfOne 30 = .ok (.bipush 10, 2) := by decide +kernel
theorem dX11_countOfOne_32 : decode cX11_countOfOne 32 = .ok (.isub, 1) := by decide +kernel
theorem dX11_countOfOne_33 : decode cX11_countOfOne 33 = .ok (.invokevirtual 112, 3) := by decide +kernel
theorem dX11_countOfOne_36 : decode cX11_countOfOne 36 = .ok (.ireturn, 1) := by decide +kernel
theorem dX11_countOfOne_37 : decode cX11_countOfOne 37 = .ok (.iload_n 1, 1) := by decide +kernel
theorem dX11_countOfOne_38 : decode cX11_countOfOne 38 = .ok (.bipush 20, 2) := by decide +kernel
theorem dX11_countOfOne_40 : decode cX11_countOfOne 40 = .ok (.bipush 27, 2) := by decide +kernel
theorem dX11_countOfOne_42 : decode cX11_countOfOne 42 = .ok (.invokestatic 94, 3) := by decide +kernel
theorem dX11_countOfOne_45 : decode cX11_countOfOne 45 = .ok (.ifCond .eq 15, 3) := by decide +kernel
theorem dX11_countOfOne_48 : decode cX11_countOfOne 48 = .ok (.aload_n 0, 1) := by decide +kernel
theorem dX11_countOfOne_49 : decode cX11_countOfOne 49 = .ok (.iload_n 1, 1) := by decide +kernel
theorem dX11_countOfOne_50 : decode cX11_countOfOne 50 = .ok (.bipush 20, 2) := by decide +kernel
theorem dX11_countOfOne_52 : decode cX11_countOfOne 52 = .ok (.isub, 1) := by decide +kernel
theorem dX11_countOfOne_53 : decode cX11_countOfOne 53 = .ok (.invokevirtual 152, 3) := by decide +kernel
theorem dX11_countOfOne_56 : decode cX11_countOfOne 56 = .ok (.invokestatic 224, 3) := by decide +kernel
theorem dX11_countOfOne_59 : decode cX11_countOfOne 59 = .ok (.ireturn, 1) := by decide +kernel
theorem dX11_countOfOne_60 : decode cX11_countOfOne 60 = .ok (.iconst (-1), 1) := by decide +kernel
theorem dX11_countOfOne_61 : decode cX11_countOfOne 61 = .ok (.ireturn, 1) := by decide +kernel
theorem dX11_programOf_0 : decode cX11_programOf 0 = .ok (.iload_n 1, 1) := by decide +kernel
theorem dX11_programOf_1 : decode cX11_programOf 1 = .ok (.ifCond .lt 21, 3) := by decide +kernel
theorem dX11_programOf_4 : decode cX11_programOf 4 = .ok (.iload_n 1, 1) := by decide +kernel
theorem dX11_programOf_5 : decode cX11_programOf 5 = .ok (.aload_n 0, 1) := by decide +kernel
theorem dX11_programOf_6 : decode cX11_programOf 6 = .ok (.getfield 38, 3) := by decide +kernel
theorem dX11_programOf_9 : decode cX11_programOf 9 = .ok (.arraylength, 1) := by decide +kernel
theorem dX11_programOf_10 : decode cX11_programOf 10 = .ok (.if_icmp .ge 12, 3) := by decide +kernel
theorem dX11_programOf_13 : decode cX11_programOf 13 = .ok (.aload_n 0, 1) := by decide +kernel
theorem dX11_programOf_14 : decode cX11_programOf 14 = .ok (.getfield 38, 3) := by decide +kernel
theorem dX11_programOf_17 : decode cX11_programOf 17 = .ok (.iload_n 1, 1) := by decide +kernel
theorem dX11_programOf_18 : decode cX11_programOf 18 = .ok (.aaload, 1) := by decide +kernel
theorem dX11_programOf_19 : decode cX11_programOf 19 = .ok (.goto 4, 3) := by decide +kernel
theorem dX11_programOf_22 : decode cX11_programOf 22 = .ok (.aconst_null, 1) := by decide +kernel
theorem dX11_programOf_23 : decode cX11_programOf 23 = .ok (.areturn, 1) := by decide +kernel
theorem dX11_pullsOf_0 : decode cX11_pullsOf 0 = .ok (.aload_n 0, 1) := by decide +kernel
theorem dX11_pullsOf_1 : decode cX11_pullsOf 1 = .ok (.ifnonnull 7, 3) := by decide +kernel
theorem dX11_pullsOf_4 : decode cX11_pullsOf 4 = .ok (.iconst 0, 1) := by decide +kernel
theorem dX11_pullsOf_5 : decode cX11_pullsOf 5 = .ok (.goto 7, 3) := by decide +kernel
theorem dX11_pullsOf_8 : decode cX11_pullsOf 8 = .ok (.aload_n 0, 1) := by decide +kernel
theorem dX11_pullsOf_9 : decode cX11_pullsOf 9 = .ok (.invokevirtual 166, 3) := by decide +kernel
theorem dX11_pullsOf_12 : decode cX11_pullsOf 12 = .ok (.ireturn, 1) := by decide +kernel
theorem dX11_canFly_0 : decode cX11_canFly 0 = .ok (.aload_n 0, 1) := by decide +kernel
theorem dX11_canFly_1 : decode cX11_canFly 1 = .ok (.ifnull 40, 3) := by decide +kernel
theorem dX11_canFly_4 : decode cX11_canFly 4 = .ok (.iload_n 1, 1) := by decide +kernel
theorem dX11_canFly_5 : decode cX11_canFly 5 = .ok (.iconst 0, 1) := by decide +kernel
theorem dX11_canFly_6 : decode cX11_canFly 6 = .ok (.bipush 99, 2) := by decide +kernel
theorem dX11_canFly_8 : decode cX11_canFly 8 = .ok (.invokestatic 94, 3) := by decide +kernel
theorem dX11_canFly_11 : decode cX11_canFly 11 = .ok (.ifCond .eq 30, 3) := by decide +kernel
theorem dX11_canFly_14 : decode cX11_canFly 14 = .ok (.iload_n 2, 1) := by decide +kernel
theorem dX11_canFly_15 : decode cX11_canFly 15 = .ok (.iconst 0, 1) := by decide +kernel
theorem dX11_canFly_16 : decode cX11_canFly 16 = .ok (.sipush 2000, 3) := by decide +kernel
theorem dX11_canFly_19 : decode cX11_canFly 19 = .ok (.invokestatic 94, 3) := by decide +kernel
theorem dX11_canFly_22 : decode cX11_canFly 22 = .ok (.ifCond .eq 19, 3) := by decide +kernel
theorem dX11_canFly_25 : decode cX11_canFly 25 = .ok (.aload_n 0, 1) := by decide +kernel
theorem dX11_canFly_26 : decode cX11_canFly 26 = .ok (.invokevirtual 166, 3) := by decide +kernel
theorem dX11_canFly_29 : decode cX11_canFly 29 = .ok (.iload_n 2, 1) := by decide +kernel
theorem dX11_canFly_30 : decode cX11_canFly 30 = .ok (.iadd, 1) := by decide +kernel
theorem dX11_canFly_31 : decode cX11_canFly 31 = .ok (.sipush 2000, 3) := by decide +kernel
theorem dX11_canFly_34 : decode cX11_canFly 34 = .ok (.if_icmp .gt 7, 3) := by decide +kernel
theorem dX11_canFly_37 : decode cX11_canFly 37 = .ok (.iconst 1, 1) := by decide +kernel
theorem dX11_canFly_38 : decode cX11_canFly 38 = .ok (.goto 4, 3) := by decide +kernel
theorem dX11_canFly_41 : decode cX11_canFly 41 = .ok (.iconst 0, 1) := by decide +kernel
theorem dX11_canFly_42 : decode cX11_canFly 42 = .ok (.ireturn, 1) := by decide +kernel
theorem dX11_within_0 : decode cX11_within 0 = .ok (.iload_n 0, 1) := by decide +kernel
theorem dX11_within_1 : decode cX11_within 1 = .ok (.iload_n 1, 1) := by decide +kernel
theorem dX11_within_2 : decode cX11_within 2 = .ok (.if_icmp .lt 12, 3) := by decide +kernel
theorem dX11_within_5 : decode cX11_within 5 = .ok (.iload_n 0, 1) := by decide +kernel
theorem dX11_within_6 : decode cX11_within 6 = .ok (.iload_n 2, 1) := by decide +kernel
theorem dX11_within_7 : decode cX11_within 7 = .ok (.if_icmp .gt 7, 3) := by decide +kernel
theorem dX11_within_10 : decode cX11_within 10 = .ok (.iconst 1, 1) := by decide +kernel
theorem dX11_within_11 : decode cX11_within 11 = .ok (.goto 4, 3) := by decide +kernel
theorem dX11_within_14 : decode cX11_within 14 = .ok (.iconst 0, 1) := by decide +kernel
theorem dX11_within_15 : decode cX11_within 15 = .ok (.ireturn, 1) := by decide +kernel
theorem dX11_at_0 : decode cX11_at 0 = .ok (.iload_n 1, 1) := by decide +kernel
theorem dX11_at_1 : decode cX11_at 1 = .ok (.ifCond .lt 15, 3) := by decide +kernel
theorem dX11_at_4 : decode cX11_at 4 = .ok (.iload_n 1, 1) := by decide +kernel
theorem dX11_at_5 : decode cX11_at 5 = .ok (.aload_n 0, 1) := by decide +kernel
theorem dX11_at_6 : decode cX11_at 6 = .ok (.arraylength, 1) := by decide +kernel
theorem dX11_at_7 : decode cX11_at 7 = .ok (.if_icmp .ge 9, 3) := by decide +kernel
theorem dX11_at_10 : decode cX11_at 10 = .ok (.aload_n 0, 1) := by decide +kernel
theorem dX11_at_11 : decode cX11_at 11 = .ok (.iload_n 1, 1) := by decide +kernel
theorem dX11_at_12 : decode cX11_at 12 = .ok (.iaload, 1) := by decide +kernel
theorem dX11_at_13 : decode cX11_at 13 = .ok (.goto 4, 3) := by decide +kernel
theorem dX11_at_16 : decode cX11_at 16 = .ok (.iconst 0, 1) := by decide +kernel
theorem dX11_at_17 : decode cX11_at 17 = .ok (.ireturn, 1) := by decide +kernel
theorem dX11_put_0 : decode cX11_put 0 = .ok (.iload_n 1, 1) := by decide +kernel
theorem dX11_put_1 : decode cX11_put 1 = .ok (.ifCond .lt 13, 3) := by decide +kernel
theorem dX11_put_4 : decode cX11_put 4 = .ok (.iload_n 1, 1) := by decide +kernel
theorem dX11_put_5 : decode cX11_put 5 = .ok (.aload_n 0, 1) := by decide +kernel
theorem dX11_put_6 : decode cX11_put 6 = .ok (.arraylength, 1) := by decide +kernel
theorem dX11_put_7 : decode cX11_put 7 = .ok (.if_icmp .ge 7, 3) := by decide +kernel
theorem dX11_put_10 : decode cX11_put 10 = .ok (.aload_n 0, 1) := by decide +kernel
theorem dX11_put_11 : decode cX11_put 11 = .ok (.iload_n 1, 1) := by decide +kernel
theorem dX11_put_12 : decode cX11_put 12 = .ok (.iload_n 2, 1) := by decide +kernel
theorem dX11_put_13 : decode cX11_put 13 = .ok (.iastore, 1) := by decide +kernel
theorem dX11_put_14 : decode cX11_put 14 = .ok (.return_, 1) := by decide +kernel
theorem dX11_longAt_0 : decode cX11_longAt 0 = .ok (.iload_n 1, 1) := by decide +kernel
theorem dX11_longAt_1 : decode cX11_longAt 1 = .ok (.ifCond .lt 15, 3) := by decide +kernel
theorem dX11_longAt_4 : decode cX11_longAt 4 = .ok (.iload_n 1, 1) := by decide +kernel
theorem dX11_longAt_5 : decode cX11_longAt 5 = .ok (.aload_n 0, 1) := by decide +kernel
theorem dX11_longAt_6 : decode cX11_longAt 6 = .ok (.arraylength, 1) := by decide +kernel
theorem dX11_longAt_7 : decode cX11_longAt 7 = .ok (.if_icmp .ge 9, 3) := by decide +kernel
theorem dX11_longAt_10 : decode cX11_longAt 10 = .ok (.aload_n 0, 1) := by decide +kernel
theorem dX11_longAt_11 : decode cX11_longAt 11 = .ok (.iload_n 1, 1) := by decide +kernel
theorem dX11_longAt_12 : decode cX11_longAt 12 = .ok (.laload, 1) := by decide +kernel
theorem dX11_longAt_13 : decode cX11_longAt 13 = .ok (.goto 4, 3) := by decide +kernel
theorem dX11_longAt_16 : decode cX11_longAt 16 = .ok (.lconst 0, 1) := by decide +kernel
theorem dX11_longAt_17 : decode cX11_longAt 17 = .ok (.lreturn, 1) := by decide +kernel
theorem dX11_putLong_0 : decode cX11_putLong 0 = .ok (.iload_n 1, 1) := by decide +kernel
theorem dX11_putLong_1 : decode cX11_putLong 1 = .ok (.ifCond .lt 13, 3) := by decide +kernel
theorem dX11_putLong_4 : decode cX11_putLong 4 = .ok (.iload_n 1, 1) := by decide +kernel
theorem dX11_putLong_5 : decode cX11_putLong 5 = .ok (.aload_n 0, 1) := by decide +kernel
theorem dX11_putLong_6 : decode cX11_putLong 6 = .ok (.arraylength, 1) := by decide +kernel
theorem dX11_putLong_7 : decode cX11_putLong 7 = .ok (.if_icmp .ge 7, 3) := by decide +kernel
theorem dX11_putLong_10 : decode cX11_putLong 10 = .ok (.aload_n 0, 1) := by decide +kernel
theorem dX11_putLong_11 : decode cX11_putLong 11 = .ok (.iload_n 1, 1) := by decide +kernel
theorem dX11_putLong_12 : decode cX11_putLong 12 = .ok (.lload_n 2, 1) := by decide +kernel
theorem dX11_putLong_13 : decode cX11_putLong 13 = .ok (.lastore, 1) := by decide +kernel
theorem dX11_putLong_14 : decode cX11_putLong 14 = .ok (.return_, 1) := by decide +kernel
theorem dX11_shortened_0 : decode cX11_shortened 0 = .ok (.lload_n 0, 1) := by decide +kernel
theorem dX11_shortened_1 : decode cX11_shortened 1 = .ok (.lstore 5, 2) := by decide +kernel
theorem dX11_shortened_3 : decode cX11_shortened 3 = .ok (.lload_n 2, 1) := by decide +kernel
theorem dX11_shortened_4 : decode cX11_shortened 4 = .ok (.lstore 7, 2) := by decide +kernel
theorem dX11_shortened_6 : decode cX11_shortened 6 = .ok (.iconst 0, 1) := by decide +kernel
theorem dX11_shortened_7 : decode cX11_shortened 7 = .ok (.istore 9, 2) := by decide +kernel
theorem dX11_shortened_9 : decode cX11_shortened 9 = .ok (.iload 9, 2) := by decide +kernel
theorem dX11_shortened_11 : decode cX11_shortened 11 = .ok (.bipush 100, 2) := by decide +kernel
theorem dX11_shortened_13 : decode cX11_shortened 13 = .ok (.if_icmp .ge 31, 3) := by decide +kernel
theorem dX11_shortened_16 : decode cX11_shortened 16 = .ok (.lload 7, 2) := by decide +kernel
theorem dX11_shortened_18 : decode cX11_shortened 18 = .ok (.lconst 0, 1) := by decide +kernel
theorem dX11_shortened_19 : decode cX11_shortened 19 = .ok (.lcmp, 1) := by decide +kernel
theorem dX11_shortened_20 : decode cX11_shortened 20 = .ok (.ifCond .eq 24, 3) := by decide +kernel
theorem dX11_shortened_23 : decode cX11_shortened 23 = .ok (.lload 5, 2) := by decide +kernel
theorem dX11_shortened_25 : decode cX11_shortened 25 = .ok (.lload 7, 2) := by decide +kernel
theorem dX11_shortened_27 : decode cX11_shortened 27 = .ok (.lrem, 1) := by decide +kernel
theorem dX11_shortened_28 : decode cX11_shortened 28 = .ok (.lstore 10, 2) := by decide +kernel
theorem dX11_shortened_30 : decode cX11_shortened 30 = .ok (.lload 7, 2) := by decide +kernel
theorem dX11_shortened_32 : decode cX11_shortened 32 = .ok (.lstore 5, 2) := by decide +kernel
theorem dX11_shortened_34 : decode cX11_shortened 34 = .ok (.lload 10, 2) := by decide +kernel
theorem dX11_shortened_36 : decode cX11_shortened 36 = .ok (.lstore 7, 2) := by decide +kernel
theorem dX11_shortened_38 : decode cX11_shortened 38 = .ok (.iinc 9 1, 3) := by decide +kernel
theorem dX11_shortened_41 : decode cX11_shortened 41 = .ok (.goto (-32), 3) := by decide +kernel
theorem dX11_shortened_44 : decode cX11_shortened 44 = .ok (.lload 5, 2) := by decide +kernel
theorem dX11_shortened_46 : decode cX11_shortened 46 = .ok (.lconst 0, 1) := by decide +kernel
theorem dX11_shortened_47 : decode cX11_shortened 47 = .ok (.lcmp, 1) := by decide +kernel
theorem dX11_shortened_48 : decode cX11_shortened 48 = .ok (.ifCond .ne 5, 3) := by decide +kernel
theorem dX11_shortened_51 : decode cX11_shortened 51 = .ok (.lconst 0, 1) := by decide +kernel
theorem dX11_shortened_52 : decode cX11_shortened 52 = .ok (.lreturn, 1) := by decide +kernel
theorem dX11_shortened_53 : decode cX11_shortened 53 = .ok (.iload 4, 2) := by decide +kernel
theorem dX11_shortened_55 : decode cX11_shortened 55 = .ok (.ifCond .ne 10, 3) := by decide +kernel
theorem dX11_shortened_58 : decode cX11_shortened 58 = .ok (.lload_n 0, 1) := by decide +kernel
theorem dX11_shortened_59 : decode cX11_shortened 59 = .ok (.lload 5, 2) := by decide +kernel
theorem dX11_shortened_61 : decode cX11_shortened 61 = .ok (.ldiv, 1) := by decide +kernel
theorem dX11_shortened_62 : decode cX11_shortened 62 = .ok (.goto 7, 3) := by decide +kernel
theorem dX11_shortened_65 : decode cX11_shortened 65 = .ok (.lload_n 2, 1) := by decide +kernel
theorem dX11_shortened_66 : decode cX11_shortened 66 = .ok (.lload 5, 2) := by decide +kernel
theorem dX11_shortened_68 : decode cX11_shortened 68 = .ok (.ldiv, 1) := by decide +kernel
theorem dX11_shortened_69 : decode cX11_shortened 69 = .ok (.lreturn, 1) := by decide +kernel
theorem dX12_init_0 : decode cX12_init 0 = .ok (.aload_n 0, 1) := by decide +kernel
theorem dX12_init_1 : decode cX12_init 1 = .ok (.invokespecial 1, 3) := by decide +kernel
theorem dX12_init_4 : decode cX12_init 4 = .ok (.aload_n 0, 1) := by decide +kernel
theorem dX12_init_5 : decode cX12_init 5 = .ok (.sipush 200, 3) := by decide +kernel
theorem dX12_init_8 : decode cX12_init 8 = .ok (.newarray .byte, 2) := by decide +kernel
theorem dX12_init_10 : decode cX12_init 10 = .ok (.putfield 7, 3) := by decide +kernel
theorem dX12_init_13 : decode cX12_init 13 = .ok (.aload_n 0, 1) := by decide +kernel
theorem dX12_init_14 : decode cX12_init 14 = .ok (.bipush 8, 2) := by decide +kernel
theorem dX12_init_16 : decode cX12_init 16 = .ok (.newarray .int, 2) := by decide +kernel
theorem dX12_init_18 : decode cX12_init 18 = .ok (.putfield 13, 3) := by decide +kernel
theorem dX12_init_21 : decode cX12_init 21 = .ok (.aload_n 0, 1) := by decide +kernel
theorem dX12_init_22 : decode cX12_init 22 = .ok (.bipush 8, 2) := by decide +kernel
theorem dX12_init_24 : decode cX12_init 24 = .ok (.newarray .int, 2) := by decide +kernel
theorem dX12_init_26 : decode cX12_init 26 = .ok (.putfield 17, 3) := by decide +kernel
theorem dX12_init_29 : decode cX12_init 29 = .ok (.aload_n 0, 1) := by decide +kernel
theorem dX12_init_30 : decode cX12_init 30 = .ok (.bipush 8, 2) := by decide +kernel
theorem dX12_init_32 : decode cX12_init 32 = .ok (.newarray .int, 2) := by decide +kernel
theorem dX12_init_34 : decode cX12_init 34 = .ok (.putfield 20, 3) := by decide +kernel
theorem dX12_init_37 : decode cX12_init 37 = .ok (.aload_n 0, 1) := by decide +kernel
theorem dX12_init_38 : decode cX12_init 38 = .ok (.bipush 8, 2) := by decide +kernel
theorem dX12_init_40 : decode cX12_init 40 = .ok (.newarray .int, 2) := by decide +kernel
theorem dX12_init_42 : decode cX12_init 42 = .ok (.putfield 23, 3) := by decide +kernel
theorem dX12_init_45 : decode cX12_init 45 = .ok (.aload_n 0, 1) := by decide +kernel
theorem dX12_init_46 : decode cX12_init 46 = .ok (.bipush 8, 2) := by decide +kernel
theorem dX12_init_48 : decode cX12_init 48 = .ok (.newarray .int, 2) := by decide +kernel
theorem dX12_init_50 : decode cX12_init 50 = .ok (.putfield 26, 3) := by decide +kernel
theorem dX12_init_53 : decode cX12_init 53 = .ok (.aload_n 0, 1) := by decide +kernel
theorem dX12_init_54 : decode cX12_init 54 = .ok (.bipush 32, 2) := by decide +kernel
theorem dX12_init_56 : decode cX12_init 56 = .ok (.newarray .int, 2) := by decide +kernel
theorem dX12_init_58 : decode cX12_init 58 = .ok (.putfield 29, 3) := by decide +kernel
theorem dX12_init_61 : decode cX12_init 61 = .ok (.aload_n 0, 1) := by decide +kernel
theorem dX12_init_62 : decode cX12_init 62 = .ok (.bipush 32, 2) := by decide +kernel
theorem dX12_init_64 : decode cX12_init 64 = .ok (.newarray .int, 2) := by decide +kernel
theorem dX12_init_66 : decode cX12_init 66 = .ok (.putfield 32, 3) := by decide +kernel
theorem dX12_init_69 : decode cX12_init 69 = .ok (.aload_n 0, 1) := by decide +kernel
theorem dX12_init_70 : decode cX12_init 70 = .ok (.bipush 12, 2) := by decide +kernel
theorem dX12_init_72 : decode cX12_init 72 = .ok (.newarray .int, 2) := by decide +kernel
theorem dX12_init_74 : decode cX12_init 74 = .ok (.putfield 35, 3) := by decide +kernel
theorem dX12_init_77 : decode cX12_init 77 = .ok (.aload_n 0, 1) := by decide +kernel
theorem dX12_init_78 : decode cX12_init 78 = .ok (.bipush 12, 2) := by decide +kernel
theorem dX12_init_80 : decode cX12_init 80 = .ok (.newarray .int, 2) := by decide +kernel
theorem dX12_init_82 : decode cX12_init 82 = .ok (.putfield 38, 3) := by decide +kernel
theorem dX12_init_85 : decode cX12_init 85 = .ok (.aload_n 0, 1) := by decide +kernel
theorem dX12_init_86 : decode cX12_init 86 = .ok (.bipush 12, 2) := by decide +kernel
theorem dX12_init_88 : decode cX12_init 88 = .ok (.newarray .int, 2) := by decide +kernel
theorem dX12_init_90 : decode cX12_init 90 = .ok (.putfield 41, 3) := by decide +kernel
theorem dX12_init_93 : decode cX12_init 93 = .ok (.aload_n 0, 1) := by decide +kernel
theorem dX12_init_94 : decode cX12_init 94 = .ok (.bipush 12, 2) := by decide +kernel
theorem dX12_init_96 : decode cX12_init 96 = .ok (.newarray .int, 2) := by decide +kernel
theorem dX12_init_98 : decode cX12_init 98 = .ok (.putfield 44, 3) := by decide +kernel
theorem dX12_init_101 : decode cX12_init 101 = .ok (.aload_n 0, 1) := by decide +kernel
theorem dX12_init_102 : decode cX12_init 102 = .ok (.sipush 160, 3) := by decide +kernel
theorem dX12_init_105 : decode cX12_init 105 = .ok (.newarray .int, 2) := by decide +kernel
theorem dX12_init_107 : decode cX12_init 107 = .ok (.putfield 47, 3) := by decide +kernel
theorem dX12_init_110 : decode cX12_init 110 = .ok (.aload_n 0, 1) := by decide +kernel
theorem dX12_init_111 : decode cX12_init 111 = .ok (.sipush 160, 3) := by decide +kernel
theorem dX12_init_114 : decode cX12_init 114 = .ok (.newarray .int, 2) := by decide +kernel
theorem dX12_init_116 : decode cX12_init 116 = .ok (.putfield 50, 3) := by decide +kernel
theorem dX12_init_119 : decode cX12_init 119 = .ok (.aload_n 0, 1) := by decide +kernel
theorem dX12_init_120 : decode cX12_init 120 = .ok (.bipush 12, 2) := by decide +kernel
theorem dX12_init_122 : decode cX12_init 122 = .ok (.newarray .int, 2) := by decide +kernel
theorem dX12_init_124 : decode cX12_init 124 = .ok (.putfield 53, 3) := by decide +kernel
theorem dX12_init_127 : decode cX12_init 127 = .ok (.aload_n 0, 1) := by decide +kernel
theorem dX12_init_128 : decode cX12_init 128 = .ok (.bipush 12, 2) := by decide +kernel
theorem dX12_init_130 : decode cX12_init 130 = .ok (.newarray .int, 2) := by decide +kernel
theorem dX12_init_132 : decode cX12_init 132 = .ok (.putfield 56, 3) := by decide +kernel
theorem dX12_init_135 : decode cX12_init 135 = .ok (.aload_n 0, 1) := by decide +kernel
theorem dX12_init_136 : decode cX12_init 136 = .ok (.bipush 12, 2) := by decide +kernel
theorem dX12_init_138 : decode cX12_init 138 = .ok (.newarray .int, 2) := by decide +kernel
theorem dX12_init_140 : decode cX12_init 140 = .ok (.putfield 59, 3) := by decide +kernel
theorem dX12_init_143 : decode cX12_init 143 = .ok (.aload_n 0, 1) := by decide +kernel
theorem dX12_init_144 : decode cX12_init 144 = .ok (.bipush 12, 2) := by decide +kernel
theorem dX12_init_146 : decode cX12_init 146 = .ok (.newarray .int, 2) := by decide +kernel
theorem dX12_init_148 : decode cX12_init 148 = .ok (.putfield 62, 3) := by decide +kernel
theorem dX12_init_151 : decode cX12_init 151 = .ok (.aload_n 0, 1) := by decide +kernel
theorem dX12_init_152 : decode cX12_init 152 = .ok (.sipush 160, 3) := by decide +kernel
theorem dX12_init_155 : decode cX12_init 155 = .ok (.newarray .int, 2) := by decide +kernel
theorem dX12_init_157 : decode cX12_init 157 = .ok (.putfield 65, 3) := by decide +kernel
theorem dX12_init_160 : decode cX12_init 160 = .ok (.aload_n 0, 1) := by decide +kernel
theorem dX12_init_161 : decode cX12_init 161 = .ok (.sipush 160, 3) := by decide +kernel
theorem dX12_init_164 : decode cX12_init 164 = .ok (.newarray .int, 2) := by decide +kernel
theorem dX12_init_166 : decode cX12_init 166 = .ok (.putfield 68, 3) := by decide +kernel
theorem dX12_init_169 : decode cX12_init 169 = .ok (.aload_n 0, 1) := by decide +kernel
theorem dX12_init_170 : decode cX12_init 170 = .ok (.sipush 200, 3) := by decide +kernel
theorem dX12_init_173 : decode cX12_init 173 = .ok (.newarray .int, 2) := by decide +kernel
theorem dX12_init_175 : decode cX12_init 175 = .ok (.putfield 71, 3) := by decide +kernel
theorem dX12_init_178 : decode cX12_init 178 = .ok (.aload_n 0, 1) := by decide +kernel
theorem dX12_init_179 : decode cX12_init 179 = .ok (.sipush 200, 3) := by decide +kernel
theorem dX12_init_182 : decode cX12_init 182 = .ok (.newarray .int, 2) := by decide +kernel
theorem dX12_init_184 : decode cX12_init 184 = .ok (.putfield 74, 3) := by decide +kernel
theorem dX12_init_187 : decode cX12_init 187 = .ok (.aload_n 0, 1) := by decide +kernel
theorem dX12_init_188 : decode cX12_init 188 = .ok (.sipush 200, 3) := by decide +kernel
theorem dX12_init_191 : decode cX12_init 191 = .ok (.newarray .boolean, 2) := by decide +kernel
theorem dX12_init_193 : decode cX12_init 193 = .ok (.putfield 77, 3) := by decide +kernel
theorem dX12_init_196 : decode cX12_init 196 = .ok (.aload_n 0, 1) := by decide +kernel
theorem dX12_init_197 : decode cX12_init 197 = .ok (.bipush 16, 2) := by decide +kernel
theorem dX12_init_199 : decode cX12_init 199 = .ok (.newarray .int, 2) := by decide +kernel
theorem dX12_init_201 : decode cX12_init 201 = .ok (.putfield 81, 3) := by decide +kernel
theorem dX12_init_204 : decode cX12_init 204 = .ok (.aload_n 0, 1) := by decide +kernel
theorem dX12_init_205 : decode cX12_init 205 = .ok (.sipush 128, 3) := by decide +kernel
theorem dX12_init_208 : decode cX12_init 208 = .ok (.newarray .int, 2) := by decide +kernel
theorem dX12_init_210 : decode cX12_init 210 = .ok (.putfield 84, 3) := by decide +kernel
theorem dX12_init_213 : decode cX12_init 213 = .ok (.aload_n 0, 1) := by decide +kernel
theorem dX12_init_214 : decode cX12_init 214 = .ok (.sipush 128, 3) := by decide +kernel
theorem dX12_init_217 : decode cX12_init 217 = .ok (.newarray .int, 2) := by decide +kernel
theorem dX12_init_219 : decode cX12_init 219 = .ok (.putfield 87, 3) := by decide +kernel
theorem dX12_init_222 : decode cX12_init 222 = .ok (.aload_n 0, 1) := by decide +kernel
theorem dX12_init_223 : decode cX12_init 223 = .ok (.bipush 16, 2) := by decide +kernel
theorem dX12_init_225 : decode cX12_init 225 = .ok (.newarray .int, 2) := by decide +kernel
theorem dX12_init_227 : decode cX12_init 227 = .ok (.putfield 90, 3) := by decide +kernel
theorem dX12_init_230 : decode cX12_init 230 = .ok (.aload_n 0, 1) := by decide +kernel
theorem dX12_init_231 : decode cX12_init 231 = .ok (.bipush 8, 2) := by decide +kernel
theorem dX12_init_233 : decode cX12_init 233 = .ok (.newarray .int, 2) := by decide +kernel
theorem dX12_init_235 : decode cX12_init 235 = .ok (.putfield 93, 3) := by decide +kernel
theorem dX12_init_238 : decode cX12_init 238 = .ok (.aload_n 0, 1) := by decide +kernel
theorem dX12_init_239 : decode cX12_init 239 = .ok (.bipush 8, 2) := by decide +kernel
theorem dX12_init_241 : decode cX12_init 241 = .ok (.newarray .int, 2) := by decide +kernel
theorem dX12_init_243 : decode cX12_init 243 = .ok (.putfield 96, 3) := by decide +kernel
theorem dX12_init_246 : decode cX12_init 246 = .ok (.aload_n 0, 1) := by decide +kernel
theorem dX12_init_247 : decode cX12_init 247 = .ok (.bipush 32, 2) := by decide +kernel
theorem dX12_init_249 : decode cX12_init 249 = .ok (.newarray .int, 2) := by decide +kernel
theorem dX12_init_251 : decode cX12_init 251 = .ok (.putfield 99, 3) := by decide +kernel
theorem dX12_init_254 : decode cX12_init 254 = .ok (.aload_n 0, 1) := by decide +kernel
theorem dX12_init_255 : decode cX12_init 255 = .ok (.bipush 8, 2) := by decide +kernel
theorem dX12_init_257 : decode cX12_init 257 = .ok (.newarray .int, 2) := by decide +kernel
theorem dX12_init_259 : decode cX12_init 259 = .ok (.putfield 102, 3) := by decide +kernel
theorem dX12_init_262 : decode cX12_init 262 = .ok (.aload_n 0, 1) := by decide +kernel
theorem dX12_init_263 : decode cX12_init 263 = .ok (.bipush 8, 2) := by decide +kernel
theorem dX12_init_265 : decode cX12_init 265 = .ok (.newarray .int, 2) := by decide +kernel
theorem dX12_init_267 : decode cX12_init 267 = .ok (.putfield 105, 3) := by decide +kernel
theorem dX12_init_270 : decode cX12_init 270 = .ok (.aload_n 0, 1) := by decide +kernel
theorem dX12_init_271 : decode cX12_init 271 = .ok (.bipush 8, 2) := by decide +kernel
theorem dX12_init_273 : decode cX12_init 273 = .ok (.newarray .int, 2) := by decide +kernel
theorem dX12_init_275 : decode cX12_init 275 = .ok (.putfield 108, 3) := by decide +kernel
theorem dX12_init_278 : decode cX12_init 278 = .ok (.aload_n 0, 1) := by decide +kernel
theorem dX12_init_279 : decode cX12_init 279 = .ok (.bipush 8, 2) := by decide +kernel
theorem dX12_init_281 : decode cX12_init 281 = .ok (.newarray .int, 2) := by decide +kernel
theorem dX12_init_283 : decode cX12_init 283 = .ok (.putfield 111, 3) := by decide +kernel
theorem dX12_init_286 : decode cX12_init 286 = .ok (.aload_n 0, 1) := by decide +kernel
theorem dX12_init_287 : decode cX12_init 287 = .ok (.bipush 10, 2) := by decide +kernel
theorem dX12_init_289 : decode cX12_init 289 = .ok (.newarray .int, 2) := by decide +kernel
theorem dX12_init_291 : decode cX12_init 291 = .ok (.putfield 114, 3) := by decide +kernel
theorem dX12_init_294 : decode cX12_init 294 = .ok (.aload_n 0, 1) := by decide +kernel
theorem dX12_init_295 : decode cX12_init 295 = .ok (.bipush 10, 2) := by decide +kernel
theorem dX12_init_297 : decode cX12_init 297 = .ok (.newarray .int, 2) := by decide +kernel
theorem dX12_init_299 : decode cX12_init 299 = .ok (.putfield 117, 3) := by decide +kernel
theorem dX12_init_302 : decode cX12_init 302 = .ok (.aload_n 0, 1) := by decide +kernel
theorem dX12_init_303 : decode cX12_init 303 = .ok (.bipush 80, 2) := by decide +kernel
theorem dX12_init_305 : decode cX12_init 305 = .ok (.newarray .int, 2) := by decide +kernel
theorem dX12_init_307 : decode cX12_init 307 = .ok (.putfield 120, 3) := by decide +kernel
theorem dX12_init_310 : decode cX12_init 310 = .ok (.aload_n 0, 1) := by decide +kernel
theorem dX12_init_311 : decode cX12_init 311 = .ok (.bipush 80, 2) := by decide +kernel
theorem dX12_init_313 : decode cX12_init 313 = .ok (.newarray .int, 2) := by decide +kernel
theorem dX12_init_315 : decode cX12_init 315 = .ok (.putfield 123, 3) := by decide +kernel
theorem dX12_init_318 : decode cX12_init 318 = .ok (.aload_n 0, 1) := by decide +kernel
theorem dX12_init_319 : decode cX12_init 319 = .ok (.bipush 80, 2) := by decide +kernel
theorem dX12_init_321 : decode cX12_init 321 = .ok (.newarray .int, 2) := by decide +kernel
theorem dX12_init_323 : decode cX12_init 323 = .ok (.putfield 126, 3) := by decide +kernel
theorem dX12_init_326 : decode cX12_init 326 = .ok (.aload_n 0, 1) := by decide +kernel
theorem dX12_init_327 : decode cX12_init 327 = .ok (.bipush 80, 2) := by decide +kernel
theorem dX12_init_329 : decode cX12_init 329 = .ok (.newarray .int, 2) := by decide +kernel
theorem dX12_init_331 : decode cX12_init 331 = .ok (.putfield 129, 3) := by decide +kernel
theorem dX12_init_334 : decode cX12_init 334 = .ok (.aload_n 0, 1) := by decide +kernel
theorem dX12_init_335 : decode cX12_init 335 = .ok (.bipush 6, 2) := by decide +kernel
theorem dX12_init_337 : decode cX12_init 337 = .ok (.newarray .int, 2) := by decide +kernel
theorem dX12_init_339 : decode cX12_init 339 = .ok (.putfield 132, 3) := by decide +kernel
theorem dX12_init_342 : decode cX12_init 342 = .ok (.aload_n 0, 1) := by decide +kernel
theorem dX12_init_343 : decode cX12_init 343 = .ok (.bipush 60, 2) := by decide +kernel
theorem dX12_init_345 : decode cX12_init 345 = .ok (.newarray .int, 2) := by decide +kernel
theorem dX12_init_347 : decode cX12_init 347 = .ok (.putfield 135, 3) := by decide +kernel
theorem dX12_init_350 : decode cX12_init 350 = .ok (.aload_n 0, 1) := by decide +kernel
theorem dX12_init_351 : decode cX12_init 351 = .ok (.bipush 10, 2) := by decide +kernel
theorem dX12_init_353 : decode cX12_init 353 = .ok (.newarray .int, 2) := by decide +kernel
theorem dX12_init_355 : decode cX12_init 355 = .ok (.putfield 138, 3) := by decide +kernel
theorem dX12_init_358 : decode cX12_init 358 = .ok (.aload_n 0, 1) := by decide +kernel
theorem dX12_init_359 : decode cX12_init 359 = .ok (.iconst 1, 1) := by decide +kernel
theorem dX12_init_360 : decode cX12_init 360 = .ok (.putfield 141, 3) := by decide +kernel
theorem dX12_init_363 : decode cX12_init 363 = .ok (.aload_n 0, 1) := by decide +kernel
theorem dX12_init_364 : decode cX12_init 364 = .ok (.bipush 10, 2) := by decide +kernel
theorem dX12_init_366 : decode cX12_init 366 = .ok (.newarray .int, 2) := by decide +kernel
theorem dX12_init_368 : decode cX12_init 368 = .ok (.putfield 145, 3) := by decide +kernel
theorem dX12_init_371 : decode cX12_init 371 = .ok (.aload_n 0, 1) := by decide +kernel
theorem dX12_init_372 : decode cX12_init 372 = .ok (.bipush 10, 2) := by decide +kernel
theorem dX12_init_374 : decode cX12_init 374 = .ok (.newarray .int, 2) := by decide +kernel
theorem dX12_init_376 : decode cX12_init 376 = .ok (.putfield 148, 3) := by decide +kernel
theorem dX12_init_379 : decode cX12_init 379 = .ok (.aload_n 0, 1) := by decide +kernel
theorem dX12_init_380 : decode cX12_init 380 = .ok (.sipush 240, 3) := by decide +kernel
theorem dX12_init_383 : decode cX12_init 383 = .ok (.newarray .int, 2) := by decide +kernel
theorem dX12_init_385 : decode cX12_init 385 = .ok (.putfield 151, 3) := by decide +kernel
theorem dX12_init_388 : decode cX12_init 388 = .ok (.aload_n 0, 1) := by decide +kernel
theorem dX12_init_389 : decode cX12_init 389 = .ok (.bipush 41, 2) := by decide +kernel
theorem dX12_init_391 : decode cX12_init 391 = .ok (.newarray .long, 2) := by decide +kernel
theorem dX12_init_393 : decode cX12_init 393 = .ok (.putfield 154, 3) := by decide +kernel
theorem dX12_init_396 : decode cX12_init 396 = .ok (.aload_n 0, 1) := by decide +kernel
theorem dX12_init_397 : decode cX12_init 397 = .ok (.sipush 205, 3) := by decide +kernel
theorem dX12_init_400 : decode cX12_init 400 = .ok (.newarray .long, 2) := by decide +kernel
theorem dX12_init_402 : decode cX12_init 402 = .ok (.putfield 158, 3) := by decide +kernel
theorem dX12_init_405 : decode cX12_init 405 = .ok (.iconst 0, 1) := by decide +kernel
theorem dX12_init_406 : decode cX12_init 406 = .ok (.istore_n 1, 1) := by decide +kernel
theorem dX12_init_407 : decode cX12_init 407 = .ok (.iload_n 1, 1) := by decide +kernel
theorem dX12_init_408 : decode cX12_init 408 = .ok (.bipush 60, 2) := by decide +kernel
theorem dX12_init_410 : decode cX12_init 410 = .ok (.if_icmp .ge 16, 3) := by decide +kernel
theorem dX12_init_413 : decode cX12_init 413 = .ok (.aload_n 0, 1) := by decide +kernel
theorem dX12_init_414 : decode cX12_init 414 = .ok (.getfield 135, 3) := by decide +kernel
theorem dX12_init_417 : decode cX12_init 417 = .ok (.iload_n 1, 1) := by decide +kernel
theorem dX12_init_418 : decode cX12_init 418 = .ok (.iconst 5, 1) := by decide +kernel
theorem dX12_init_419 : decode cX12_init 419 = .ok (.iastore, 1) := by decide +kernel
theorem dX12_init_420 : decode cX12_init 420 = .ok (.iinc 1 1, 3) := by decide +kernel
theorem dX12_init_423 : decode cX12_init 423 = .ok (.goto (-16), 3) := by decide +kernel
theorem dX12_init_426 : decode cX12_init 426 = .ok (.iconst 0, 1) := by decide +kernel
theorem dX12_init_427 : decode cX12_init 427 = .ok (.istore_n 1, 1) := by decide +kernel
theorem dX12_init_428 : decode cX12_init 428 = .ok (.iload_n 1, 1) := by decide +kernel
theorem dX12_init_429 : decode cX12_init 429 = .ok (.bipush 10, 2) := by decide +kernel
theorem dX12_init_431 : decode cX12_init 431 = .ok (.if_icmp .ge 16, 3) := by decide +kernel
theorem dX12_init_434 : decode cX12_init 434 = .ok (.aload_n 0, 1) := by decide +kernel
theorem dX12_init_435 : decode cX12_init 435 = .ok (.getfield 138, 3) := by decide +kernel
theorem dX12_init_438 : decode cX12_init 438 = .ok (.iload_n 1, 1) := by decide +kernel
theorem dX12_init_439 : decode cX12_init 439 = .ok (.iconst (-1), 1) := by decide +kernel
theorem dX12_init_440 : decode cX12_init 440 = .ok (.iastore, 1) := by decide +kernel
theorem dX12_init_441 : decode cX12_init 441 = .ok (.iinc 1 1, 3) := by decide +kernel
theorem dX12_init_444 : decode cX12_init 444 = .ok (.goto (-16), 3) := by decide +kernel
theorem dX12_init_447 : decode cX12_init 447 = .ok (.return_, 1) := by decide +kernel
