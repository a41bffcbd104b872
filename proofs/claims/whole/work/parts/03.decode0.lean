theorem dX0_init_0 : decode cX0_init 0 = .ok (.aload_n 0, 1) := by decide +kernel
theorem dX0_init_1 : decode cX0_init 1 = .ok (.invokespecial 3, 3) := by decide +kernel
theorem dX0_init_4 : decode cX0_init 4 = .ok (.aload_n 0, 1) := by decide +kernel
theorem dX0_init_5 : decode cX0_init 5 = .ok (.bipush 10, 2) := by decide +kernel
theorem dX0_init_7 : decode cX0_init 7 = .ok (.newarray .int, 2) := by decide +kernel
theorem dX0_init_9 : decode cX0_init 9 = .ok (.putfield 11, 3) := by decide +kernel
theorem dX0_init_12 : decode cX0_init 12 = .ok (.aload_n 0, 1) := by decide +kernel
theorem dX0_init_13 : decode cX0_init 13 = .ok (.bipush 10, 2) := by decide +kernel
theorem dX0_init_15 : decode cX0_init 15 = .ok (.newarray .int, 2) := by decide +kernel
theorem dX0_init_17 : decode cX0_init 17 = .ok (.putfield 15, 3) := by decide +kernel
theorem dX0_init_20 : decode cX0_init 20 = .ok (.aload_n 0, 1) := by decide +kernel
theorem dX0_init_21 : decode cX0_init 21 = .ok (.iconst 1, 1) := by decide +kernel
theorem dX0_init_22 : decode cX0_init 22 = .ok (.putfield 18, 3) := by decide +kernel
theorem dX0_init_25 : decode cX0_init 25 = .ok (.return_, 1) := by decide +kernel
theorem dX0_size_0 : decode cX0_size 0 = .ok (.aload_n 0, 1) := by decide +kernel
theorem dX0_size_1 : decode cX0_size 1 = .ok (.getfield 22, 3) := by decide +kernel
theorem dX0_size_4 : decode cX0_size 4 = .ok (.ireturn, 1) := by decide +kernel
theorem dX0_has_0 : decode cX0_has 0 = .ok (.iload_n 1, 1) := by decide +kernel
theorem dX0_has_1 : decode cX0_has 1 = .ok (.ifCond .lt 15, 3) := by decide +kernel
theorem dX0_has_4 : decode cX0_has 4 = .ok (.iload_n 1, 1) := by decide +kernel
theorem dX0_has_5 : decode cX0_has 5 = .ok (.aload_n 0, 1) := by decide +kernel
theorem dX0_has_6 : decode cX0_has 6 = .ok (.getfield 22, 3) := by decide +kernel
theorem dX0_has_9 : decode cX0_has 9 = .ok (.if_icmp .ge 7, 3) := by decide +kernel
theorem dX0_has_12 : decode cX0_has 12 = .ok (.iconst 1, 1) := by decide +kernel
theorem dX0_has_13 : decode cX0_has 13 = .ok (.goto 4, 3) := by decide +kernel
theorem dX0_has_16 : decode cX0_has 16 = .ok (.iconst 0, 1) := by decide +kernel
theorem dX0_has_17 : decode cX0_has 17 = .ok (.ireturn, 1) := by decide +kernel
theorem dX0_add_0 : decode cX0_add 0 = .ok (.aload_n 0, 1) := by decide +kernel
theorem dX0_add_1 : decode cX0_add 1 = .ok (.getfield 11, 3) := by decide +kernel
theorem dX0_add_4 : decode cX0_add 4 = .ok (.aload_n 0, 1) := by decide +kernel
theorem dX0_add_5 : decode cX0_add 5 = .ok (.getfield 22, 3) := by decide +kernel
theorem dX0_add_8 : decode cX0_add 8 = .ok (.iload_n 1, 1) := by decide +kernel
theorem dX0_add_9 : decode cX0_add 9 = .ok (.invokestatic 25, 3) := by decide +kernel
theorem dX0_add_12 : decode cX0_add 12 = .ok (.aload_n 0, 1) := by decide +kernel
theorem dX0_add_13 : decode cX0_add 13 = .ok (.getfield 15, 3) := by decide +kernel
theorem dX0_add_16 : decode cX0_add 16 = .ok (.aload_n 0, 1) := by decide +kernel
theorem dX0_add_17 : decode cX0_add 17 = .ok (.getfield 22, 3) := by decide +kernel
theorem dX0_add_20 : decode cX0_add 20 = .ok (.iload_n 2, 1) := by decide +kernel
theorem dX0_add_21 : decode cX0_add 21 = .ok (.invokestatic 25, 3) := by decide +kernel
theorem dX0_add_24 : decode cX0_add 24 = .ok (.aload_n 0, 1) := by decide +kernel
theorem dX0_add_25 : decode cX0_add 25 = .ok (.dup, 1) := by decide +kernel
theorem dX0_add_26 : decode cX0_add 26 = .ok (.getfield 22, 3) := by decide +kernel
theorem dX0_add_29 : decode cX0_add 29 = .ok (.iconst 1, 1) := by decide +kernel
theorem dX0_add_30 : decode cX0_add 30 = .ok (.iadd, 1) := by decide +kernel
theorem dX0_add_31 : decode cX0_add 31 = .ok (.putfield 22, 3) := by decide +kernel
theorem dX0_add_34 : decode cX0_add 34 = .ok (.aload_n 0, 1) := by decide +kernel
theorem dX0_add_35 : decode cX0_add 35 = .ok (.getfield 22, 3) := by decide +kernel
theorem dX0_add_38 : decode cX0_add 38 = .ok (.iconst 1, 1) := by decide +kernel
theorem dX0_add_39 : decode cX0_add 39 = .ok (.isub, 1) := by decide +kernel
theorem dX0_add_40 : decode cX0_add 40 = .ok (.ireturn, 1) := by decide +kernel
theorem dX0_blow_0 : decode cX0_blow 0 = .ok (.aload_n 0, 1) := by decide +kernel
theorem dX0_blow_1 : decode cX0_blow 1 = .ok (.iload_n 1, 1) := by decide +kernel
theorem dX0_blow_2 : decode cX0_blow 2 = .ok (.putfield 18, 3) := by decide +kernel
theorem dX0_blow_5 : decode cX0_blow 5 = .ok (.aload_n 0, 1) := by decide +kernel
theorem dX0_blow_6 : decode cX0_blow 6 = .ok (.iload_n 2, 1) := by decide +kernel
theorem dX0_blow_7 : decode cX0_blow 7 = .ok (.putfield 29, 3) := by decide +kernel
theorem dX0_blow_10 : decode cX0_blow 10 = .ok (.aload_n 0, 1) := by decide +kernel
theorem dX0_blow_11 : decode cX0_blow 11 = .ok (.iload_n 3, 1) := by decide +kernel
theorem dX0_blow_12 : decode cX0_blow 12 = .ok (.putfield 32, 3) := by decide +kernel
theorem dX0_blow_15 : decode cX0_blow 15 = .ok (.return_, 1) := by decide +kernel
theorem dX0_secondBy_0 : decode cX0_secondBy 0 = .ok (.aload_n 0, 1) := by decide +kernel
theorem dX0_secondBy_1 : decode cX0_secondBy 1 = .ok (.getfield 11, 3) := by decide +kernel
theorem dX0_secondBy_4 : decode cX0_secondBy 4 = .ok (.iload_n 1, 1) := by decide +kernel
theorem dX0_secondBy_5 : decode cX0_secondBy 5 = .ok (.invokestatic 35, 3) := by decide +kernel
theorem dX0_secondBy_8 : decode cX0_secondBy 8 = .ok (.iload_n 2, 1) := by decide +kernel
theorem dX0_secondBy_9 : decode cX0_secondBy 9 = .ok (.aload_n 0, 1) := by decide +kernel
theorem dX0_secondBy_10 : decode cX0_secondBy 10 = .ok (.getfield 15, 3) := by decide +kernel
theorem dX0_secondBy_13 : decode cX0_secondBy 13 = .ok (.iload_n 1, 1) := by decide +kernel
theorem dX0_secondBy_14 : decode cX0_secondBy 14 = .ok (.invokestatic 35, 3) := by decide +kernel
theorem dX0_secondBy_17 : decode cX0_secondBy 17 = .ok (.imul, 1) := by decide +kernel
theorem dX0_secondBy_18 : decode cX0_secondBy 18 = .ok (.isub, 1) := by decide +kernel
theorem dX0_secondBy_19 : decode cX0_secondBy 19 = .ok (.istore_n 3, 1) := by decide +kernel
theorem dX0_secondBy_20 : decode cX0_secondBy 20 = .ok (.iload_n 3, 1) := by decide +kernel
theorem dX0_secondBy_21 : decode cX0_secondBy 21 = .ok (.ifCond .lt 32, 3) := by decide +kernel
theorem dX0_secondBy_24 : decode cX0_secondBy 24 = .ok (.aload_n 0, 1) := by decide +kernel
theorem dX0_secondBy_25 : decode cX0_secondBy 25 = .ok (.getfield 18, 3) := by decide +kernel
theorem dX0_secondBy_28 : decode cX0_secondBy 28 = .ok (.iconst 1, 1) := by decide +kernel
theorem dX0_secondBy_29 : decode cX0_secondBy 29 = .ok (.if_icmp .lt 24, 3) := by decide +kernel
theorem dX0_secondBy_32 : decode cX0_secondBy 32 = .ok (.iload_n 3, 1) := by decide +kernel
theorem dX0_secondBy_33 : decode cX0_secondBy 33 = .ok (.aload_n 0, 1) := by decide +kernel
theorem dX0_secondBy_34 : decode cX0_secondBy 34 = .ok (.getfield 18, 3) := by decide +kernel
theorem dX0_secondBy_37 : decode cX0_secondBy 37 = .ok (.irem, 1) := by decide +kernel
theorem dX0_secondBy_38 : decode cX0_secondBy 38 = .ok (.ifCond .ne 15, 3) := by decide +kernel
theorem dX0_secondBy_41 : decode cX0_secondBy 41 = .ok (.iload_n 3, 1) := by decide +kernel
theorem dX0_secondBy_42 : decode cX0_secondBy 42 = .ok (.aload_n 0, 1) := by decide +kernel
theorem dX0_secondBy_43 : decode cX0_secondBy 43 = .ok (.getfield 18, 3) := by decide +kernel
theorem dX0_secondBy_46 : decode cX0_secondBy 46 = .ok (.idiv, 1) := by decide +kernel
theorem dX0_secondBy_47 : decode cX0_secondBy 47 = .ok (.sipush 9999, 3) := by decide +kernel
theorem dX0_secondBy_50 : decode cX0_secondBy 50 = .ok (.if_icmp .le 5, 3) := by decide +kernel
theorem dX0_secondBy_53 : decode cX0_secondBy 53 = .ok (.iconst (-1), 1) := by decide +kernel
theorem dX0_secondBy_54 : decode cX0_secondBy 54 = .ok (.ireturn, 1) := by decide +kernel
theorem dX0_secondBy_55 : decode cX0_secondBy 55 = .ok (.iload_n 3, 1) := by decide +kernel
theorem dX0_secondBy_56 : decode cX0_secondBy 56 = .ok (.aload_n 0, 1) := by decide +kernel
theorem dX0_secondBy_57 : decode cX0_secondBy 57 = .ok (.getfield 18, 3) := by decide +kernel
theorem dX0_secondBy_60 : decode cX0_secondBy 60 = .ok (.idiv, 1) := by decide +kernel
theorem dX0_secondBy_61 : decode cX0_secondBy 61 = .ok (.ireturn, 1) := by decide +kernel
theorem dX0_earliest_0 : decode cX0_earliest 0 = .ok (.bipush (-2), 2) := by decide +kernel
theorem dX0_earliest_2 : decode cX0_earliest 2 = .ok (.istore_n 2, 1) := by decide +kernel
theorem dX0_earliest_3 : decode cX0_earliest 3 = .ok (.aload_n 0, 1) := by decide +kernel
theorem dX0_earliest_4 : decode cX0_earliest 4 = .ok (.getfield 29, 3) := by decide +kernel
theorem dX0_earliest_7 : decode cX0_earliest 7 = .ok (.istore_n 3, 1) := by decide +kernel
theorem dX0_earliest_8 : decode cX0_earliest 8 = .ok (.iload_n 3, 1) := by decide +kernel
theorem dX0_earliest_9 : decode cX0_earliest 9 = .ok (.aload_n 0, 1) := by decide +kernel
theorem dX0_earliest_10 : decode cX0_earliest 10 = .ok (.getfield 32, 3) := by decide +kernel
theorem dX0_earliest_13 : decode cX0_earliest 13 = .ok (.if_icmp .gt 35, 3) := by decide +kernel
theorem dX0_earliest_16 : decode cX0_earliest 16 = .ok (.aload_n 0, 1) := by decide +kernel
theorem dX0_earliest_17 : decode cX0_earliest 17 = .ok (.iload_n 1, 1) := by decide +kernel
theorem dX0_earliest_18 : decode cX0_earliest 18 = .ok (.iload_n 3, 1) := by decide +kernel
theorem dX0_earliest_19 : decode cX0_earliest 19 = .ok (.invokevirtual 39, 3) := by decide +kernel
theorem dX0_earliest_22 : decode cX0_earliest 22 = .ok (.istore 4, 2) := by decide +kernel
theorem dX0_earliest_24 : decode cX0_earliest 24 = .ok (.iload 4, 2) := by decide +kernel
theorem dX0_earliest_26 : decode cX0_earliest 26 = .ok (.ifCond .lt 16, 3) := by decide +kernel
theorem dX0_earliest_29 : decode cX0_earliest 29 = .ok (.iload_n 2, 1) := by decide +kernel
theorem dX0_earliest_30 : decode cX0_earliest 30 = .ok (.ifCond .lt 9, 3) := by decide +kernel
theorem dX0_earliest_33 : decode cX0_earliest 33 = .ok (.iload 4, 2) := by decide +kernel
theorem dX0_earliest_35 : decode cX0_earliest 35 = .ok (.iload_n 2, 1) := by decide +kernel
theorem dX0_earliest_36 : decode cX0_earliest 36 = .ok (.if_icmp .ge 6, 3) := by decide +kernel
theorem dX0_earliest_39 : decode cX0_earliest 39 = .ok (.iload 4, 2) := by decide +kernel
theorem dX0_earliest_41 : decode cX0_earliest 41 = .ok (.istore_n 2, 1) := by decide +kernel
theorem dX0_earliest_42 : decode cX0_earliest 42 = .ok (.iinc 3 1, 3) := by decide +kernel
theorem dX0_earliest_45 : decode cX0_earliest 45 = .ok (.goto (-37), 3) := by decide +kernel
theorem dX0_earliest_48 : decode cX0_earliest 48 = .ok (.iload_n 2, 1) := by decide +kernel
theorem dX0_earliest_49 : decode cX0_earliest 49 = .ok (.ireturn, 1) := by decide +kernel
theorem dX0_latest_0 : decode cX0_latest 0 = .ok (.bipush (-2), 2) := by decide +kernel
theorem dX0_latest_2 : decode cX0_latest 2 = .ok (.istore_n 2, 1) := by decide +kernel
theorem dX0_latest_3 : decode cX0_latest 3 = .ok (.aload_n 0, 1) := by decide +kernel
theorem dX0_latest_4 : decode cX0_latest 4 = .ok (.getfield 29, 3) := by decide +kernel
theorem dX0_latest_7 : decode cX0_latest 7 = .ok (.istore_n 3, 1) := by decide +kernel
theorem dX0_latest_8 : decode cX0_latest 8 = .ok (.iload_n 3, 1) := by decide +kernel
theorem dX0_latest_9 : decode cX0_latest 9 = .ok (.aload_n 0, 1) := by decide +kernel
theorem dX0_latest_10 : decode cX0_latest 10 = .ok (.getfield 32, 3) := by decide +kernel
theorem dX0_latest_13 : decode cX0_latest 13 = .ok (.if_icmp .gt 31, 3) := by decide +kernel
theorem dX0_latest_16 : decode cX0_latest 16 = .ok (.aload_n 0, 1) := by decide +kernel
theorem dX0_latest_17 : decode cX0_latest 17 = .ok (.iload_n 1, 1) := by decide +kernel
theorem dX0_latest_18 : decode cX0_latest 18 = .ok (.iload_n 3, 1) := by decide +kernel
theorem dX0_latest_19 : decode cX0_latest 19 = .ok (.invokevirtual 39, 3) := by decide +kernel
theorem dX0_latest_22 : decode cX0_latest 22 = .ok (.istore 4, 2) := by decide +kernel
theorem dX0_latest_24 : decode cX0_latest 24 = .ok (.iload 4, 2) := by decide +kernel
theorem dX0_latest_26 : decode cX0_latest 26 = .ok (.ifCond .lt 12, 3) := by decide +kernel
theorem dX0_latest_29 : decode cX0_latest 29 = .ok (.iload 4, 2) := by decide +kernel
theorem dX0_latest_31 : decode cX0_latest 31 = .ok (.iload_n 2, 1) := by decide +kernel
theorem dX0_latest_32 : decode cX0_latest 32 = .ok (.if_icmp .le 6, 3) := by decide +kernel
theorem dX0_latest_35 : decode cX0_latest 35 = .ok (.iload 4, 2) := by decide +kernel
theorem dX0_latest_37 : decode cX0_latest 37 = .ok (.istore_n 2, 1) := by decide +kernel
theorem dX0_latest_38 : decode cX0_latest 38 = .ok (.iinc 3 1, 3) := by decide +kernel
theorem dX0_latest_41 : decode cX0_latest 41 = .ok (.goto (-33), 3) := by decide +kernel
theorem dX0_latest_44 : decode cX0_latest 44 = .ok (.iload_n 2, 1) := by decide +kernel
theorem dX0_latest_45 : decode cX0_latest 45 = .ok (.ireturn, 1) := by decide +kernel
theorem dX0_compare_0 : decode cX0_compare 0 = .ok (.iconst 4, 1) := by decide +kernel
theorem dX0_compare_1 : decode cX0_compare 1 = .ok (.istore_n 3, 1) := by decide +kernel
theorem dX0_compare_2 : decode cX0_compare 2 = .ok (.aload_n 0, 1) := by decide +kernel
theorem dX0_compare_3 : decode cX0_compare 3 = .ok (.getfield 29, 3) := by decide +kernel
theorem dX0_compare_6 : decode cX0_compare 6 = .ok (.istore 4, 2) := by decide +kernel
theorem dX0_compare_8 : decode cX0_compare 8 = .ok (.iload 4, 2) := by decide +kernel
theorem dX0_compare_10 : decode cX0_compare 10 = .ok (.aload_n 0, 1) := by decide +kernel
theorem dX0_compare_11 : decode cX0_compare 11 = .ok (.getfield 32, 3) := by decide +kernel
theorem dX0_compare_14 : decode cX0_compare 14 = .ok (.if_icmp .gt 80, 3) := by decide +kernel
theorem dX0_compare_17 : decode cX0_compare 17 = .ok (.aload_n 0, 1) := by decide +kernel
theorem dX0_compare_18 : decode cX0_compare 18 = .ok (.iload_n 1, 1) := by decide +kernel
theorem dX0_compare_19 : decode cX0_compare 19 = .ok (.iload 4, 2) := by decide +kernel
theorem dX0_compare_21 : decode cX0_compare 21 = .ok (.invokevirtual 39, 3) := by decide +kernel
theorem dX0_compare_24 : decode cX0_compare 24 = .ok (.istore 5, 2) := by decide +kernel
theorem dX0_compare_26 : decode cX0_compare 26 = .ok (.aload_n 0, 1) := by decide +kernel
theorem dX0_compare_27 : decode cX0_compare 27 = .ok (.iload_n 2, 1) := by decide +kernel
theorem dX0_compare_28 : decode cX0_compare 28 = .ok (.iload 4, 2) := by decide +kernel
theorem dX0_compare_30 : decode cX0_compare 30 = .ok (.invokevirtual 39, 3) := by decide +kernel
theorem dX0_compare_33 : decode cX0_compare 33 = .ok (.istore 6, 2) := by decide +kernel
theorem dX0_compare_35 : decode cX0_compare 35 = .ok (.iload 5, 2) := by decide +kernel
theorem dX0_compare_37 : decode cX0_compare 37 = .ok (.ifCond .lt 51, 3) := by decide +kernel
theorem dX0_compare_40 : decode cX0_compare 40 = .ok (.iload 6, 2) := by decide +kernel
theorem dX0_compare_42 : decode cX0_compare 42 = .ok (.ifCond .lt 46, 3) := by decide +kernel
theorem dX0_compare_45 : decode cX0_compare 45 = .ok (.iload 5, 2) := by decide +kernel
theorem dX0_compare_47 : decode cX0_compare 47 = .ok (.iload 6, 2) := by decide +kernel
theorem dX0_compare_49 : decode cX0_compare 49 = .ok (.if_icmp .ge 7, 3) := by decide +kernel
theorem dX0_compare_52 : decode cX0_compare 52 = .ok (.iconst 0, 1) := by decide +kernel
theorem dX0_compare_53 : decode cX0_compare 53 = .ok (.goto 15, 3) := by decide +kernel
theorem dX0_compare_56 : decode cX0_compare 56 = .ok (.iload 5, 2) := by decide +kernel
theorem dX0_compare_58 : decode cX0_compare 58 = .ok (.iload 6, 2) := by decide +kernel
theorem dX0_compare_60 : decode cX0_compare 60 = .ok (.if_icmp .le 7, 3) := by decide +kernel
theorem dX0_compare_63 : decode cX0_compare 63 = .ok (.iconst 1, 1) := by decide +kernel
theorem dX0_compare_64 : decode cX0_compare 64 = .ok (.goto 4, 3) := by decide +kernel
theorem dX0_compare_67 : decode cX0_compare 67 = .ok (.iconst 2, 1) := by decide +kernel
theorem dX0_compare_68 : decode cX0_compare 68 = .ok (.istore 7, 2) := by decide +kernel
theorem dX0_compare_70 : decode cX0_compare 70 = .ok (.iload_n 3, 1) := by decide +kernel
theorem dX0_compare_71 : decode cX0_compare 71 = .ok (.iconst 4, 1) := by decide +kernel
theorem dX0_compare_72 : decode cX0_compare 72 = .ok (.if_icmp .eq 9, 3) := by decide +kernel
theorem dX0_compare_75 : decode cX0_compare 75 = .ok (.iload_n 3, 1) := by decide +kernel
theorem dX0_compare_76 : decode cX0_compare 76 = .ok (.iload 7, 2) := by decide +kernel
theorem dX0_compare_78 : decode cX0_compare 78 = .ok (.if_icmp .ne 8, 3) := by decide +kernel
theorem dX0_compare_81 : decode cX0_compare 81 = .ok (.iload 7, 2) := by decide +kernel
theorem dX0_compare_83 : decode cX0_compare 83 = .ok (.goto 4, 3) := by decide +kernel
theorem dX0_compare_86 : decode cX0_compare 86 = .ok (.iconst 3, 1) := by decide +kernel
theorem dX0_compare_87 : decode cX0_compare 87 = .ok (.istore_n 3, 1) := by decide +kernel
theorem dX0_compare_88 : decode cX0_compare 88 = .ok (.iinc 4 1, 3) := by decide +kernel
theorem dX0_compare_91 : decode cX0_compare 91 = .ok (.goto (-83), 3) := by decide +kernel
theorem dX0_compare_94 : decode cX0_compare 94 = .ok (.iload_n 3, 1) := by decide +kernel
theorem dX0_compare_95 : decode cX0_compare 95 = .ok (.ireturn, 1) := by decide +kernel
theorem dX1_init_0 : decode cX1_init 0 = .ok (.aload_n 0, 1) := by decide +kernel
theorem dX1_init_1 : decode cX1_init 1 = .ok (.invokespecial 1, 3) := by decide +kernel
theorem dX1_init_4 : decode cX1_init 4 = .ok (.aload_n 0, 1) := by decide +kernel
theorem dX1_init_5 : decode cX1_init 5 = .ok (.bipush 8, 2) := by decide +kernel
theorem dX1_init_7 : decode cX1_init 7 = .ok (.newarray .int, 2) := by decide +kernel
theorem dX1_init_9 : decode cX1_init 9 = .ok (.putfield 9, 3) := by decide +kernel
theorem dX1_init_12 : decode cX1_init 12 = .ok (.aload_n 0, 1) := by decide +kernel
theorem dX1_init_13 : decode cX1_init 13 = .ok (.bipush 8, 2) := by decide +kernel
theorem dX1_init_15 : decode cX1_init 15 = .ok (.newarray .int, 2) := by decide +kernel
theorem dX1_init_17 : decode cX1_init 17 = .ok (.putfield 13, 3) := by decide +kernel
theorem dX1_init_20 : decode cX1_init 20 = .ok (.aload_n 0, 1) := by decide +kernel
theorem dX1_init_21 : decode cX1_init 21 = .ok (.bipush 8, 2) := by decide +kernel
theorem dX1_init_23 : decode cX1_init 23 = .ok (.newarray .int, 2) := by decide +kernel
theorem dX1_init_25 : decode cX1_init 25 = .ok (.putfield 16, 3) := by decide +kernel
theorem dX1_init_28 : decode cX1_init 28 = .ok (.aload_n 0, 1) := by decide +kernel
theorem dX1_init_29 : decode cX1_init 29 = .ok (.bipush 8, 2) := by decide +kernel
theorem dX1_init_31 : decode cX1_init 31 = .ok (.newarray .int, 2) := by decide +kernel
theorem dX1_init_33 : decode cX1_init 33 = .ok (.putfield 19, 3) := by decide +kernel
theorem dX1_init_36 : decode cX1_init 36 = .ok (.aload_n 0, 1) := by decide +kernel
theorem dX1_init_37 : decode cX1_init 37 = .ok (.bipush 8, 2) := by decide +kernel
theorem dX1_init_39 : decode cX1_init 39 = .ok (.newarray .int, 2) := by decide +kernel
theorem dX1_init_41 : decode cX1_init 41 = .ok (.putfield 22, 3) := by decide +kernel
theorem dX1_init_44 : decode cX1_init 44 = .ok (.aload_n 0, 1) := by decide +kernel
theorem dX1_init_45 : decode cX1_init 45 = .ok (.bipush 32, 2) := by decide +kernel
theorem dX1_init_47 : decode cX1_init 47 = .ok (.newarray .int, 2) := by decide +kernel
theorem dX1_init_49 : decode cX1_init 49 = .ok (.putfield 25, 3) := by decide +kernel
theorem dX1_init_52 : decode cX1_init 52 = .ok (.aload_n 0, 1) := by decide +kernel
theorem dX1_init_53 : decode cX1_init 53 = .ok (.bipush 32, 2) := by decide +kernel
theorem dX1_init_55 : decode cX1_init 55 = .ok (.newarray .int, 2) := by decide +kernel
theorem dX1_init_57 : decode cX1_init 57 = .ok (.putfield 28, 3) := by decide +kernel
theorem dX1_init_60 : decode cX1_init 60 = .ok (.aload_n 0, 1) := by decide +kernel
theorem dX1_init_61 : decode cX1_init 61 = .ok (.new 31, 3) := by decide +kernel
theorem dX1_init_64 : decode cX1_init 64 = .ok (.dup, 1) := by decide +kernel
theorem dX1_init_65 : decode cX1_init 65 = .ok (.invokespecial 33, 3) := by decide +kernel
theorem dX1_init_68 : decode cX1_init 68 = .ok (.putfield 34, 3) := by decide +kernel
theorem dX1_init_71 : decode cX1_init 71 = .ok (.aload_n 0, 1) := by decide +kernel
theorem dX1_init_72 : decode cX1_init 72 = .ok (.new 31, 3) := by decide +kernel
theorem dX1_init_75 : decode cX1_init 75 = .ok (.dup, 1) := by decide +kernel
theorem dX1_init_76 : decode cX1_init 76 = .ok (.invokespecial 33, 3) := by decide +kernel
theorem dX1_init_79 : decode cX1_init 79 = .ok (.putfield 38, 3) := by decide +kernel
theorem dX1_init_82 : decode cX1_init 82 = .ok (.return_, 1) := by decide +kernel
theorem dX1_size_0 : decode cX1_size 0 = .ok (.aload_n 0, 1) := by decide +kernel
theorem dX1_size_1 : decode cX1_size 1 = .ok (.getfield 41, 3) := by decide +kernel
theorem dX1_size_4 : decode cX1_size 4 = .ok (.ireturn, 1) := by decide +kernel
theorem dX1_has_0 : decode cX1_has 0 = .ok (.iload_n 1, 1) := by decide +kernel
theorem dX1_has_1 : decode cX1_has 1 = .ok (.ifCond .lt 15, 3) := by decide +kernel
theorem dX1_has_4 : decode cX1_has 4 = .ok (.iload_n 1, 1) := by decide +kernel
theorem dX1_has_5 : decode cX1_has 5 = .ok (.aload_n 0, 1) := by decide +kernel
theorem dX1_has_6 : decode cX1_has 6 = .ok (.getfield 41, 3) := by decide +kernel
theorem dX1_has_9 : decode cX1_has 9 = .ok (.if_icmp .ge 7, 3) := by decide +kernel
theorem dX1_has_12 : decode cX1_has 12 = .ok (.iconst 1, 1) := by decide +kernel
theorem dX1_has_13 : decode cX1_has 13 = .ok (.goto 4, 3) := by decide +kernel
theorem dX1_has_16 : decode cX1_has 16 = .ok (.iconst 0, 1) := by decide +kernel
theorem dX1_has_17 : decode cX1_has 17 = .ok (.ireturn, 1) := by decide +kernel
theorem dX1_hasLife_0 : decode cX1_hasLife 0 = .ok (.aload_n 0, 1) := by decide +kernel
theorem dX1_hasLife_1 : decode cX1_hasLife 1 = .ok (.iload_n 1, 1) := by decide +kernel
theorem dX1_hasLife_2 : decode cX1_hasLife 2 = .ok (.invokevirtual 45, 3) := by decide +kernel
theorem dX1_hasLife_5 : decode cX1_hasLife 5 = .ok (.ifCond .eq 23, 3) := by decide +kernel
theorem dX1_hasLife_8 : decode cX1_hasLife 8 = .ok (.iload_n 2, 1) := by decide +kernel
theorem dX1_hasLife_9 : decode cX1_hasLife 9 = .ok (.ifCond .lt 19, 3) := by decide +kernel
theorem dX1_hasLife_12 : decode cX1_hasLife 12 = .ok (.iload_n 2, 1) := by decide +kernel
theorem dX1_hasLife_13 : decode cX1_hasLife 13 = .ok (.aload_n 0, 1) := by decide +kernel
theorem dX1_hasLife_14 : decode cX1_hasLife 14 = .ok (.getfield 22, 3) := by decide +kernel
theorem dX1_hasLife_17 : decode cX1_hasLife 17 = .ok (.iload_n 1, 1) := by decide +kernel
theorem dX1_hasLife_18 : decode cX1_hasLife 18 = .ok (.invokestatic 49, 3) := by decide +kernel
theorem dX1_hasLife_21 : decode cX1_hasLife 21 = .ok (.if_icmp .ge 7, 3) := by decide +kernel
theorem dX1_hasLife_24 : decode cX1_hasLife 24 = .ok (.iconst 1, 1) := by decide +kernel
theorem dX1_hasLife_25 : decode cX1_hasLife 25 = .ok (.goto 4, 3) := by decide +kernel
theorem dX1_hasLife_28 : decode cX1_hasLife 28 = .ok (.iconst 0, 1) := by decide +kernel
theorem dX1_hasLife_29 : decode cX1_hasLife 29 = .ok (.ireturn, 1) := by decide +kernel
theorem dX1_every_0 : decode cX1_every 0 = .ok (.iconst 1, 1) := by decide +kernel
theorem dX1_every_1 : decode cX1_every 1 = .ok (.aload_n 0, 1) := by decide +kernel
theorem dX1_every_2 : decode cX1_every 2 = .ok (.getfield 41, 3) := by decide +kernel
theorem dX1_every_5 : decode cX1_every 5 = .ok (.ishl, 1) := by decide +kernel
theorem dX1_every_6 : decode cX1_every 6 = .ok (.iconst 1, 1) := by decide +kernel
theorem dX1_every_7 : decode cX1_every 7 = .ok (.isub, 1) := by decide +kernel
theorem dX1_every_8 : decode cX1_every 8 = .ok (.ireturn, 1) := by decide +kernel
theorem dX1_hasPiece_0 : decode cX1_hasPiece 0 = .ok (.iload_n 1, 1) := by decide +kernel
theorem dX1_hasPiece_1 : decode cX1_hasPiece 1 = .ok (.ifCond .le 15, 3) := by decide +kernel
theorem dX1_hasPiece_4 : decode cX1_hasPiece 4 = .ok (.iload_n 1, 1) := by decide +kernel
theorem dX1_hasPiece_5 : decode cX1_hasPiece 5 = .ok (.aload_n 0, 1) := by decide +kernel
theorem dX1_hasPiece_6 : decode cX1_hasPiece 6 = .ok (.invokevirtual 55, 3) := by decide +kernel
theorem dX1_hasPiece_9 : decode cX1_hasPiece 9 = .ok (.if_icmp .gt 7, 3) := by decide +kernel
theorem dX1_hasPiece_12 : decode cX1_hasPiece 12 = .ok (.iconst 1, 1) := by decide +kernel
theorem dX1_hasPiece_13 : decode cX1_hasPiece 13 = .ok (.goto 4, 3) := by decide +kernel
theorem dX1_hasPiece_16 : decode cX1_hasPiece 16 = .ok (.iconst 0, 1) := by decide +kernel
theorem dX1_hasPiece_17 : decode cX1_hasPiece 17 = .ok (.ireturn, 1) := by decide +kernel
theorem dX1_changed_0 : decode cX1_changed 0 = .ok (.aload_n 0, 1) := by decide +kernel
theorem dX1_changed_1 : decode cX1_changed 1 = .ok (.dup, 1) := by decide +kernel
theorem dX1_changed_2 : decode cX1_changed 2 = .ok (.getfield 59, 3) := by decide +kernel
theorem dX1_changed_5 : decode cX1_changed 5 = .ok (.iconst 1, 1) := by decide +kernel
theorem dX1_changed_6 : decode cX1_changed 6 = .ok (.iadd, 1) := by decide +kernel
theorem dX1_changed_7 : decode cX1_changed 7 = .ok (.putfield 59, 3) := by decide +kernel
theorem dX1_changed_10 : decode cX1_changed 10 = .ok (.return_, 1) := by decide +kernel
theorem dX1_stamp_0 : decode cX1_stamp 0 = .ok (.aload_n 0, 1) := by decide +kernel
theorem dX1_stamp_1 : decode cX1_stamp 1 = .ok (.getfield 59, 3) := by decide +kernel
theorem dX1_stamp_4 : decode cX1_stamp 4 = .ok (.ireturn, 1) := by decide +kernel
theorem dX1_lawNow_0 : decode cX1_lawNow 0 = .ok (.aload_n 0, 1) := by decide +kernel
theorem dX1_lawNow_1 : decode cX1_lawNow 1 = .ok (.getfield 34, 3) := by decide +kernel
theorem dX1_lawNow_4 : decode cX1_lawNow 4 = .ok (.areturn, 1) := by decide +kernel
theorem dX1_spareLaw_0 : decode cX1_spareLaw 0 = .ok (.aload_n 0, 1) := by decide +kernel
theorem dX1_spareLaw_1 : decode cX1_spareLaw 1 = .ok (.getfield 38, 3) := by decide +kernel
theorem dX1_spareLaw_4 : decode cX1_spareLaw 4 = .ok (.areturn, 1) := by decide +kernel
theorem dX1_takeSpareLaw_0 : decode cX1_takeSpareLaw 0 = .ok (.aload_n 0, 1) := by decide +kernel
theorem dX1_takeSpareLaw_1 : decode cX1_takeSpareLaw 1 = .ok (.getfield 34, 3) := by decide +kernel
theorem dX1_takeSpareLaw_4 : decode cX1_takeSpareLaw 4 = .ok (.astore_n 1, 1) := by decide +kernel
theorem dX1_takeSpareLaw_5 : decode cX1_takeSpareLaw 5 = .ok (.aload_n 0, 1) := by decide +kernel
theorem dX1_takeSpareLaw_6 : decode cX1_takeSpareLaw 6 = .ok (.aload_n 0, 1) := by decide +kernel
theorem dX1_takeSpareLaw_7 : decode cX1_takeSpareLaw 7 = .ok (.getfield 38, 3) := by decide +kernel
theorem dX1_takeSpareLaw_10 : decode cX1_takeSpareLaw 10 = .ok (.putfield 34, 3) := by decide +kernel
theorem dX1_takeSpareLaw_13 : decode cX1_takeSpareLaw 13 = .ok (.aload_n 0, 1) := by decide +kernel
theorem dX1_takeSpareLaw_14 : decode cX1_takeSpareLaw 14 = .ok (.aload_n 1, 1) := by decide +kernel
theorem dX1_takeSpareLaw_15 : decode cX1_takeSpareLaw 15 = .ok (.putfield 38, 3) := by decide +kernel
theorem dX1_takeSpareLaw_18 : decode cX1_takeSpareLaw 18 = .ok (.aload_n 0, 1) := by decide +kernel
theorem dX1_takeSpareLaw_19 : decode cX1_takeSpareLaw 19 = .ok (.invokevirtual 62, 3) := by decide +kernel
theorem dX1_takeSpareLaw_22 : decode cX1_takeSpareLaw 22 = .ok (.return_, 1) := by decide +kernel
theorem dX1_add_0 : decode cX1_add 0 = .ok (.aload_n 0, 1) := by decide +kernel
theorem dX1_add_1 : decode cX1_add 1 = .ok (.getfield 9, 3) := by decide +kernel
theorem dX1_add_4 : decode cX1_add 4 = .ok (.aload_n 0, 1) := by decide +kernel
theorem dX1_add_5 : decode cX1_add 5 = .ok (.getfield 41, 3) := by decide +kernel
theorem dX1_add_8 : decode cX1_add 8 = .ok (.iload_n 1, 1) := by decide +kernel
theorem dX1_add_9 : decode cX1_add 9 = .ok (.invokestatic 65, 3) := by decide +kernel
theorem dX1_add_12 : decode cX1_add 12 = .ok (.aload_n 0, 1) := by decide +kernel
theorem dX1_add_13 : decode cX1_add 13 = .ok (.getfield 13, 3) := by decide +kernel
theorem dX1_add_16 : decode cX1_add 16 = .ok (.aload_n 0, 1) := by decide +kernel
theorem dX1_add_17 : decode cX1_add 17 = .ok (.getfield 41, 3) := by decide +kernel
theorem dX1_add_20 : decode cX1_add 20 = .ok (.iload_n 2, 1) := by decide +kernel
theorem dX1_add_21 : decode cX1_add 21 = .ok (.invokestatic 65, 3) := by decide +kernel
theorem dX1_add_24 : decode cX1_add 24 = .ok (.aload_n 0, 1) := by decide +kernel
theorem dX1_add_25 : decode cX1_add 25 = .ok (.getfield 16, 3) := by decide +kernel
theorem dX1_add_28 : decode cX1_add 28 = .ok (.aload_n 0, 1) := by decide +kernel
theorem dX1_add_29 : decode cX1_add 29 = .ok (.getfield 41, 3) := by decide +kernel
theorem dX1_add_32 : decode cX1_add 32 = .ok (.iload_n 3, 1) := by decide +kernel
theorem dX1_add_33 : decode cX1_add 33 = .ok (.invokestatic 65, 3) := by decide +kernel
theorem dX1_add_36 : decode cX1_add 36 = .ok (.aload_n 0, 1) := by decide +kernel
theorem dX1_add_37 : decode cX1_add 37 = .ok (.getfield 19, 3) := by decide +kernel
theorem dX1_add_40 : decode cX1_add 40 = .ok (.aload_n 0, 1) := by decide +kernel
theorem dX1_add_41 : decode cX1_add 41 = .ok (.getfield 41, 3) := by decide +kernel
theorem dX1_add_44 : decode cX1_add 44 = .ok (.iload 4, 2) := by decide +kernel
theorem dX1_add_46 : decode cX1_add 46 = .ok (.invokestatic 65, 3) := by decide +kernel
theorem dX1_add_49 : decode cX1_add 49 = .ok (.aload_n 0, 1) := by decide +kernel
theorem dX1_add_50 : decode cX1_add 50 = .ok (.dup, 1) := by decide +kernel
theorem dX1_add_51 : decode cX1_add 51 = .ok (.getfield 41, 3) := by decide +kernel
theorem dX1_add_54 : decode cX1_add 54 = .ok (.iconst 1, 1) := by decide +kernel
theorem dX1_add_55 : decode cX1_add 55 = .ok (.iadd, 1) := by decide +kernel
theorem dX1_add_56 : decode cX1_add 56 = .ok (.putfield 41, 3) := by decide +kernel
theorem dX1_add_59 : decode cX1_add 59 = .ok (.aload_n 0, 1) := by decide +kernel
theorem dX1_add_60 : decode cX1_add 60 = .ok (.invokevirtual 62, 3) := by decide +kernel
theorem dX1_add_63 : decode cX1_add 63 = .ok (.aload_n 0, 1) := by decide +kernel
theorem dX1_add_64 : decode cX1_add 64 = .ok (.getfield 41, 3) := by decide +kernel
theorem dX1_add_67 : decode cX1_add 67 = .ok (.iconst 1, 1) := by decide +kernel
theorem dX1_add_68 : decode cX1_add 68 = .ok (.isub, 1) := by decide +kernel
theorem dX1_add_69 : decode cX1_add 69 = .ok (.ireturn, 1) := by decide +kernel
theorem dX1_addLife_0 : decode cX1_addLife 0 = .ok (.aload_n 0, 1) := by decide +kernel
theorem dX1_addLife_1 : decode cX1_addLife 1 = .ok (.iload_n 1, 1) := by decide +kernel
theorem dX1_addLife_2 : decode cX1_addLife 2 = .ok (.invokevirtual 69, 3) := by decide +kernel
theorem dX1_addLife_5 : decode cX1_addLife 5 = .ok (.istore 4, 2) := by decide +kernel
theorem dX1_addLife_7 : decode cX1_addLife 7 = .ok (.aload_n 0, 1) := by decide +kernel
theorem dX1_addLife_8 : decode cX1_addLife 8 = .ok (.getfield 25, 3) := by decide +kernel
theorem dX1_addLife_11 : decode cX1_addLife 11 = .ok (.iload_n 1, 1) := by decide +kernel
theorem dX1_addLife_12 : decode cX1_addLife 12 = .ok (.iconst 4, 1) := by decide +kernel
theorem dX1_addLife_13 : decode cX1_addLife 13 = .ok (.imul, 1) := by decide +kernel
theorem dX1_addLife_14 : decode cX1_addLife 14 = .ok (.iload 4, 2) := by decide +kernel
theorem dX1_addLife_16 : decode cX1_addLife 16 = .ok (.iadd, 1) := by decide +kernel
theorem dX1_addLife_17 : decode cX1_addLife 17 = .ok (.iload_n 2, 1) := by decide +kernel
theorem dX1_addLife_18 : decode cX1_addLife 18 = .ok (.invokestatic 65, 3) := by decide +kernel
theorem dX1_addLife_21 : decode cX1_addLife 21 = .ok (.aload_n 0, 1) := by decide +kernel
theorem dX1_addLife_22 : decode cX1_addLife 22 = .ok (.getfield 28, 3) := by decide +kernel
theorem dX1_addLife_25 : decode cX1_addLife 25 = .ok (.iload_n 1, 1) := by decide +kernel
theorem dX1_addLife_26 : decode cX1_addLife 26 = .ok (.iconst 4, 1) := by decide +kernel
theorem dX1_addLife_27 : decode cX1_addLife 27 = .ok (.imul, 1) := by decide +kernel
theorem dX1_addLife_28 : decode cX1_addLife 28 = .ok (.iload 4, 2) := by decide +kernel
theorem dX1_addLife_30 : decode cX1_addLife 30 = .ok (.iadd, 1) := by decide +kernel
theorem dX1_addLife_31 : decode cX1_addLife 31 = .ok (.iload_n 3, 1) := by decide +kernel
theorem dX1_addLife_32 : decode cX1_addLife 32 = .ok (.invokestatic 65, 3) := by decide +kernel
theorem dX1_addLife_35 : decode cX1_addLife 35 = .ok (.aload_n 0, 1) := by decide +kernel
theorem dX1_addLife_36 : decode cX1_addLife 36 = .ok (.getfield 22, 3) := by decide +kernel
theorem dX1_addLife_39 : decode cX1_addLife 39 = .ok (.iload_n 1, 1) := by decide +kernel
theorem dX1_addLife_40 : decode cX1_addLife 40 = .ok (.iload 4, 2) := by decide +kernel
theorem dX1_addLife_42 : decode cX1_addLife 42 = .ok (.iconst 1, 1) := by decide +kernel
theorem dX1_addLife_43 : decode cX1_addLife 43 = .ok (.iadd, 1) := by decide +kernel
theorem dX1_addLife_44 : decode cX1_addLife 44 = .ok (.invokestatic 65, 3) := by decide +kernel
theorem dX1_addLife_47 : decode cX1_addLife 47 = .ok (.aload_n 0, 1) := by decide +kernel
theorem dX1_addLife_48 : decode cX1_addLife 48 = .ok (.invokevirtual 62, 3) := by decide +kernel
theorem dX1_addLife_51 : decode cX1_addLife 51 = .ok (.iload 4, 2) := by decide +kernel
theorem dX1_addLife_53 : decode cX1_addLife 53 = .ok (.ireturn, 1) := by decide +kernel
theorem dX1_livesOf_0 : decode cX1_livesOf 0 = .ok (.aload_n 0, 1) := by decide +kernel
theorem dX1_livesOf_1 : decode cX1_livesOf 1 = .ok (.getfield 22, 3) := by decide +kernel
theorem dX1_livesOf_4 : decode cX1_livesOf 4 = .ok (.iload_n 1, 1) := by decide +kernel
theorem dX1_livesOf_5 : decode cX1_livesOf 5 = .ok (.invokestatic 49, 3) := by decide +kernel
theorem dX1_livesOf_8 : decode cX1_livesOf 8 = .ok (.ireturn, 1) := by decide +kernel
theorem dX1_lifeOf_0 : decode cX1_lifeOf 0 = .ok (.aload_n 0, 1) := by decide +kernel
theorem dX1_lifeOf_1 : decode cX1_lifeOf 1 = .ok (.iload_n 1, 1) := by decide +kernel
theorem dX1_lifeOf_2 : decode cX1_lifeOf 2 = .ok (.iload_n 2, 1) := by decide +kernel
theorem dX1_lifeOf_3 : decode cX1_lifeOf 3 = .ok (.invokevirtual 72, 3) := by decide +kernel
theorem dX1_lifeOf_6 : decode cX1_lifeOf 6 = .ok (.ifCond .eq 18, 3) := by decide +kernel
theorem dX1_lifeOf_9 : decode cX1_lifeOf 9 = .ok (.aload_n 0, 1) := by decide +kernel
theorem dX1_lifeOf_10 : decode cX1_lifeOf 10 = .ok (.getfield 25, 3) := by decide +kernel
theorem dX1_lifeOf_13 : decode cX1_lifeOf 13 = .ok (.iload_n 1, 1) := by decide +kernel
theorem dX1_lifeOf_14 : decode cX1_lifeOf 14 = .ok (.iconst 4, 1) := by decide +kernel
theorem dX1_lifeOf_15 : decode cX1_lifeOf 15 = .ok (.imul, 1) := by decide +kernel
theorem dX1_lifeOf_16 : decode cX1_lifeOf 16 = .ok (.iload_n 2, 1) := by decide +kernel
theorem dX1_lifeOf_17 : decode cX1_lifeOf 17 = .ok (.iadd, 1) := by decide +kernel
theorem dX1_lifeOf_18 : decode cX1_lifeOf 18 = .ok (.invokestatic 49, 3) := by decide +kernel
theorem dX1_lifeOf_21 : decode cX1_lifeOf 21 = .ok (.goto 4, 3) := by decide +kernel
theorem dX1_lifeOf_24 : decode cX1_lifeOf 24 = .ok (.iconst 0, 1) := by decide +kernel
theorem dX1_lifeOf_25 : decode cX1_lifeOf 25 = .ok (.ireturn, 1) := by decide +kernel
theorem dX1_weightOf_0 : decode cX1_weightOf 0 = .ok (.aload_n 0, 1) := by decide +kernel
theorem dX1_weightOf_1 : decode cX1_weightOf 1 = .ok (.getfield 28, 3) := by decide +kernel
theorem dX1_weightOf_4 : decode cX1_weightOf 4 = .ok (.iload_n 1, 1) := by decide +kernel
theorem dX1_weightOf_5 : decode cX1_weightOf 5 = .ok (.iconst 4, 1) := by decide +kernel
theorem dX1_weightOf_6 : decode cX1_weightOf 6 = .ok (.imul, 1) := by decide +kernel
theorem dX1_weightOf_7 : decode cX1_weightOf 7 = .ok (.iload_n 2, 1) := by decide +kernel
theorem dX1_weightOf_8 : decode cX1_weightOf 8 = .ok (.iadd, 1) := by decide +kernel
theorem dX1_weightOf_9 : decode cX1_weightOf 9 = .ok (.invokestatic 49, 3) := by decide +kernel
theorem dX1_weightOf_12 : decode cX1_weightOf 12 = .ok (.ireturn, 1) := by decide +kernel
theorem dX1_reachOf_0 : decode cX1_reachOf 0 = .ok (.aload_n 0, 1) := by decide +kernel
theorem dX1_reachOf_1 : decode cX1_reachOf 1 = .ok (.getfield 19, 3) := by decide +kernel
theorem dX1_reachOf_4 : decode cX1_reachOf 4 = .ok (.iload_n 1, 1) := by decide +kernel
theorem dX1_reachOf_5 : decode cX1_reachOf 5 = .ok (.invokestatic 49, 3) := by decide +kernel
theorem dX1_reachOf_8 : decode cX1_reachOf 8 = .ok (.ireturn, 1) := by decide +kernel
theorem dX1_tellLaw_0 : decode cX1_tellLaw 0 = .ok (.aload_n 0, 1) := by decide +kernel
theorem dX1_tellLaw_1 : decode cX1_tellLaw 1 = .ok (.getfield 34, 3) := by decide +kernel
theorem dX1_tellLaw_4 : decode cX1_tellLaw 4 = .ok (.aload_n 0, 1) := by decide +kernel
theorem dX1_tellLaw_5 : decode cX1_tellLaw 5 = .ok (.getfield 13, 3) := by decide +kernel
theorem dX1_tellLaw_8 : decode cX1_tellLaw 8 = .ok (.iload_n 1, 1) := by decide +kernel
theorem dX1_tellLaw_9 : decode cX1_tellLaw 9 = .ok (.invokestatic 49, 3) := by decide +kernel
theorem dX1_tellLaw_12 : decode cX1_tellLaw 12 = .ok (.aload_n 0, 1) := by decide +kernel
theorem dX1_tellLaw_13 : decode cX1_tellLaw 13 = .ok (.getfield 16, 3) := by decide +kernel
theorem dX1_tellLaw_16 : decode cX1_tellLaw 16 = .ok (.iload_n 1, 1) := by decide +kernel
theorem dX1_tellLaw_17 : decode cX1_tellLaw 17 = .ok (.invokestatic 49, 3) := by decide +kernel
theorem dX1_tellLaw_20 : decode cX1_tellLaw 20 = .ok (.aload_n 0, 1) := by decide +kernel
theorem dX1_tellLaw_21 : decode cX1_tellLaw 21 = .ok (.getfield 9, 3) := by decide +kernel
theorem dX1_tellLaw_24 : decode cX1_tellLaw 24 = .ok (.iload_n 1, 1) := by decide +kernel
theorem dX1_tellLaw_25 : decode cX1_tellLaw 25 = .ok (.invokestatic 49, 3) := by decide +kernel
theorem dX1_tellLaw_28 : decode cX1_tellLaw 28 = .ok (.iload_n 1, 1) := by decide +kernel
theorem dX1_tellLaw_29 : decode cX1_tellLaw 29 = .ok (.invokevirtual 76, 3) := by decide +kernel
theorem dX1_tellLaw_32 : decode cX1_tellLaw 32 = .ok (.return_, 1) := by decide +kernel
theorem dX1_fits_0 : decode cX1_fits 0 = .ok (.iload_n 1, 1) := by decide +kernel
theorem dX1_fits_1 : decode cX1_fits 1 = .ok (.ifCond .lt 10, 3) := by decide +kernel
theorem dX1_fits_4 : decode cX1_fits 4 = .ok (.iload_n 1, 1) := by decide +kernel
theorem dX1_fits_5 : decode cX1_fits 5 = .ok (.bipush 16, 2) := by decide +kernel
theorem dX1_fits_7 : decode cX1_fits 7 = .ok (.ishr, 1) := by decide +kernel
theorem dX1_fits_8 : decode cX1_fits 8 = .ok (.ifCond .eq 5, 3) := by decide +kernel
theorem dX1_fits_11 : decode cX1_fits 11 = .ok (.iconst 0, 1) := by decide +kernel
theorem dX1_fits_12 : decode cX1_fits 12 = .ok (.ireturn, 1) := by decide +kernel
theorem dX1_fits_13 : decode cX1_fits 13 = .ok (.iconst 0, 1) := by decide +kernel
theorem dX1_fits_14 : decode cX1_fits 14 = .ok (.istore_n 2, 1) := by decide +kernel
theorem dX1_fits_15 : decode cX1_fits 15 = .ok (.iload_n 2, 1) := by decide +kernel
theorem dX1_fits_16 : decode cX1_fits 16 = .ok (.bipush 8, 2) := by decide +kernel
theorem dX1_fits_18 : decode cX1_fits 18 = .ok (.if_icmp .ge 33, 3) := by decide +kernel
theorem dX1_fits_21 : decode cX1_fits 21 = .ok (.iload_n 1, 1) := by decide +kernel
theorem dX1_fits_22 : decode cX1_fits 22 = .ok (.iconst 2, 1) := by decide +kernel
theorem dX1_fits_23 : decode cX1_fits 23 = .ok (.iload_n 2, 1) := by decide +kernel
theorem dX1_fits_24 : decode cX1_fits 24 = .ok (.imul, 1) := by decide +kernel
theorem dX1_fits_25 : decode cX1_fits 25 = .ok (.ishr, 1) := by decide +kernel
theorem dX1_fits_26 : decode cX1_fits 26 = .ok (.iconst 3, 1) := by decide +kernel
theorem dX1_fits_27 : decode cX1_fits 27 = .ok (.iand, 1) := by decide +kernel
theorem dX1_fits_28 : decode cX1_fits 28 = .ok (.istore_n 3, 1) := by decide +kernel
theorem dX1_fits_29 : decode cX1_fits 29 = .ok (.iload_n 3, 1) := by decide +kernel
theorem dX1_fits_30 : decode cX1_fits 30 = .ok (.ifCond .le 15, 3) := by decide +kernel
theorem dX1_fits_33 : decode cX1_fits 33 = .ok (.iload_n 3, 1) := by decide +kernel
theorem dX1_fits_34 : decode cX1_fits 34 = .ok (.aload_n 0, 1) := by decide +kernel
theorem dX1_fits_35 : decode cX1_fits 35 = .ok (.getfield 22, 3) := by decide +kernel
theorem dX1_fits_38 : decode cX1_fits 38 = .ok (.iload_n 2, 1) := by decide +kernel
theorem dX1_fits_39 : decode cX1_fits 39 = .ok (.iaload, 1) := by decide +kernel
theorem dX1_fits_40 : decode cX1_fits 40 = .ok (.if_icmp .lt 5, 3) := by decide +kernel
theorem dX1_fits_43 : decode cX1_fits 43 = .ok (.iconst 0, 1) := by decide +kernel
theorem dX1_fits_44 : decode cX1_fits 44 = .ok (.ireturn, 1) := by decide +kernel
theorem dX1_fits_45 : decode cX1_fits 45 = .ok (.iinc 2 1, 3) := by decide +kernel
theorem dX1_fits_48 : decode cX1_fits 48 = .ok (.goto (-33), 3) := by decide +kernel
theorem dX1_fits_51 : decode cX1_fits 51 = .ok (.iconst 1, 1) := by decide +kernel
theorem dX1_fits_52 : decode cX1_fits 52 = .ok (.ireturn, 1) := by decide +kernel
theorem dX2_init_0 : decode cX2_init 0 = .ok (.aload_n 0, 1) := by decide +kernel
theorem dX2_init_1 : decode cX2_init 1 = .ok (.invokespecial 3, 3) := by decide +kernel
theorem dX2_init_4 : decode cX2_init 4 = .ok (.aload_n 0, 1) := by decide +kernel
theorem dX2_init_5 : decode cX2_init 5 = .ok (.bipush 80, 2) := by decide +kernel
theorem dX2_init_7 : decode cX2_init 7 = .ok (.anewarray 13, 3) := by decide +kernel
theorem dX2_init_10 : decode cX2_init 10 = .ok (.putfield 15, 3) := by decide +kernel
theorem dX2_init_13 : decode cX2_init 13 = .ok (.aload_n 0, 1) := by decide +kernel
theorem dX2_init_14 : decode cX2_init 14 = .ok (.bipush 10, 2) := by decide +kernel
theorem dX2_init_16 : decode cX2_init 16 = .ok (.newarray .int, 2) := by decide +kernel
theorem dX2_init_18 : decode cX2_init 18 = .ok (.putfield 19, 3) := by decide +kernel
theorem dX2_init_21 : decode cX2_init 21 = .ok (.aload_n 0, 1) := by decide +kernel
theorem dX2_init_22 : decode cX2_init 22 = .ok (.bipush 10, 2) := by decide +kernel
theorem dX2_init_24 : decode cX2_init 24 = .ok (.newarray .int, 2) := by decide +kernel
theorem dX2_init_26 : decode cX2_init 26 = .ok (.putfield 23, 3) := by decide +kernel
theorem dX2_init_29 : decode cX2_init 29 = .ok (.aload_n 0, 1) := by decide +kernel
theorem dX2_init_30 : decode cX2_init 30 = .ok (.aload_n 1, 1) := by decide +kernel
theorem dX2_init_31 : decode cX2_init 31 = .ok (.putfield 26, 3) := by decide +kernel
theorem dX2_init_34 : decode cX2_init 34 = .ok (.iconst 0, 1) := by decide +kernel
theorem dX2_init_35 : decode cX2_init 35 = .ok (.istore_n 2, 1) := by decide +kernel
theorem dX2_init_36 : decode cX2_init 36 = .ok (.iload_n 2, 1) := by decide +kernel
theorem dX2_init_37 : decode cX2_init 37 = .ok (.aload_n 0, 1) := by decide +kernel
theorem dX2_init_38 : decode cX2_init 38 = .ok (.getfield 15, 3) := by decide +kernel
theorem dX2_init_41 : decode cX2_init 41 = .ok (.arraylength, 1) := by decide +kernel
theorem dX2_init_42 : decode cX2_init 42 = .ok (.if_icmp .ge 23, 3) := by decide +kernel
theorem dX2_init_45 : decode cX2_init 45 = .ok (.aload_n 0, 1) := by decide +kernel
theorem dX2_init_46 : decode cX2_init 46 = .ok (.getfield 15, 3) := by decide +kernel
theorem dX2_init_49 : decode cX2_init 49 = .ok (.iload_n 2, 1) := by decide +kernel
theorem dX2_init_50 : decode cX2_init 50 = .ok (.new 13, 3) := by decide +kernel
theorem dX2_init_53 : decode cX2_init 53 = .ok (.dup, 1) := by decide +kernel
theorem dX2_init_54 : decode cX2_init 54 = .ok (.aload_n 1, 1) := by decide +kernel
theorem dX2_init_55 : decode cX2_init 55 = .ok (.invokespecial 30, 3) := by decide +kernel
theorem dX2_init_58 : decode cX2_init 58 = .ok (.aastore, 1) := by decide +kernel
theorem dX2_init_59 : decode cX2_init 59 = .ok (.iinc 2 1, 3) := by decide +kernel
theorem dX2_init_62 : decode cX2_init 62 = .ok (.goto (-26), 3) := by decide +kernel
theorem dX2_init_65 : decode cX2_init 65 = .ok (.return_, 1) := by decide +kernel
theorem dX2_size_0 : decode cX2_size 0 = .ok (.aload_n 0, 1) := by decide +kernel
theorem dX2_size_1 : decode cX2_size 1 = .ok (.getfield 33, 3) := by decide +kernel
theorem dX2_size_4 : decode cX2_size 4 = .ok (.ireturn, 1) := by decide +kernel
theorem dX2_has_0 : decode cX2_has 0 = .ok (.iload_n 1, 1) := by decide +kernel
theorem dX2_has_1 : decode cX2_has 1 = .ok (.ifCond .lt 15, 3) := by decide +kernel
theorem dX2_has_4 : decode cX2_has 4 = .ok (.iload_n 1, 1) := by decide +kernel
theorem dX2_has_5 : decode cX2_has 5 = .ok (.aload_n 0, 1) := by decide +kernel
theorem dX2_has_6 : decode cX2_has 6 = .ok (.getfield 33, 3) := by decide +kernel
theorem dX2_has_9 : decode cX2_has 9 = .ok (.if_icmp .ge 7, 3) := by decide +kernel
theorem dX2_has_12 : decode cX2_has 12 = .ok (.iconst 1, 1) := by decide +kernel
theorem dX2_has_13 : decode cX2_has 13 = .ok (.goto 4, 3) := by decide +kernel
theorem dX2_has_16 : decode cX2_has 16 = .ok (.iconst 0, 1) := by decide +kernel
theorem dX2_has_17 : decode cX2_has 17 = .ok (.ireturn, 1) := by decide +kernel
theorem dX2_add_0 : decode cX2_add 0 = .ok (.iconst 0, 1) := by decide +kernel
theorem dX2_add_1 : decode cX2_add 1 = .ok (.istore_n 2, 1) := by decide +kernel
theorem dX2_add_2 : decode cX2_add 2 = .ok (.iload_n 2, 1) := by decide +kernel
theorem dX2_add_3 : decode cX2_add 3 = .ok (.aload_n 0, 1) := by decide +kernel
theorem dX2_add_4 : decode cX2_add 4 = .ok (.getfield 26, 3) := by decide +kernel
theorem dX2_add_7 : decode cX2_add 7 = .ok (.invokevirtual 37, 3) := by decide +kernel
theorem dX2_add_10 : decode cX2_add 10 = .ok (.if_icmp .ge 43, 3) := by decide +kernel
theorem dX2_add_13 : decode cX2_add 13 = .ok (.aload_n 0, 1) := by decide +kernel
theorem dX2_add_14 : decode cX2_add 14 = .ok (.aload_n 0, 1) := by decide +kernel
theorem dX2_add_15 : decode cX2_add 15 = .ok (.getfield 33, 3) := by decide +kernel
theorem dX2_add_18 : decode cX2_add 18 = .ok (.iload_n 2, 1) := by decide +kernel
theorem dX2_add_19 : decode cX2_add 19 = .ok (.invokevirtual 40, 3) := by decide +kernel
theorem dX2_add_22 : decode cX2_add 22 = .ok (.astore_n 3, 1) := by decide +kernel
theorem dX2_add_23 : decode cX2_add 23 = .ok (.aload_n 3, 1) := by decide +kernel
theorem dX2_add_24 : decode cX2_add 24 = .ok (.ifnull 23, 3) := by decide +kernel
theorem dX2_add_27 : decode cX2_add 27 = .ok (.aload_n 3, 1) := by decide +kernel
theorem dX2_add_28 : decode cX2_add 28 = .ok (.iload_n 2, 1) := by decide +kernel
theorem dX2_add_29 : decode cX2_add 29 = .ok (.aload_n 0, 1) := by decide +kernel
theorem dX2_add_30 : decode cX2_add 30 = .ok (.getfield 26, 3) := by decide +kernel
theorem dX2_add_33 : decode cX2_add 33 = .ok (.iload_n 2, 1) := by decide +kernel
theorem dX2_add_34 : decode cX2_add 34 = .ok (.iload_n 1, 1) := by decide +kernel
theorem dX2_add_35 : decode cX2_add 35 = .ok (.iconst 2, 1) := by decide +kernel
theorem dX2_add_36 : decode cX2_add 36 = .ok (.iload_n 2, 1) := by decide +kernel
theorem dX2_add_37 : decode cX2_add 37 = .ok (.imul, 1) := by decide +kernel
theorem dX2_add_38 : decode cX2_add 38 = .ok (.ishr, 1) := by decide +kernel
theorem dX2_add_39 : decode cX2_add 39 = .ok (.iconst 3, 1) := by decide +kernel
theorem dX2_add_40 : decode cX2_add 40 = .ok (.iand, 1) := by decide +kernel
theorem dX2_add_41 : decode cX2_add 41 = .ok (.invokevirtual 44, 3) := by decide +kernel
theorem dX2_add_44 : decode cX2_add 44 = .ok (.invokevirtual 48, 3) := by decide +kernel
theorem dX2_add_47 : decode cX2_add 47 = .ok (.iinc 2 1, 3) := by decide +kernel
theorem dX2_add_50 : decode cX2_add 50 = .ok (.goto (-48), 3) := by decide +kernel
theorem dX2_add_53 : decode cX2_add 53 = .ok (.aload_n 0, 1) := by decide +kernel
theorem dX2_add_54 : decode cX2_add 54 = .ok (.getfield 19, 3) := by decide +kernel
theorem dX2_add_57 : decode cX2_add 57 = .ok (.aload_n 0, 1) := by decide +kernel
theorem dX2_add_58 : decode cX2_add 58 = .ok (.getfield 33, 3) := by decide +kernel
theorem dX2_add_61 : decode cX2_add 61 = .ok (.iconst 0, 1) := by decide +kernel
theorem dX2_add_62 : decode cX2_add 62 = .ok (.invokestatic 52, 3) := by decide +kernel
theorem dX2_add_65 : decode cX2_add 65 = .ok (.aload_n 0, 1) := by decide +kernel
theorem dX2_add_66 : decode cX2_add 66 = .ok (.getfield 23, 3) := by decide +kernel
theorem dX2_add_69 : decode cX2_add 69 = .ok (.aload_n 0, 1) := by decide +kernel
theorem dX2_add_70 : decode cX2_add 70 = .ok (.getfield 33, 3) := by decide +kernel
theorem dX2_add_73 : decode cX2_add 73 = .ok (.iconst (-1), 1) := by decide +kernel
theorem dX2_add_74 : decode cX2_add 74 = .ok (.invokestatic 52, 3) := by decide +kernel
theorem dX2_add_77 : decode cX2_add 77 = .ok (.aload_n 0, 1) := by decide +kernel
theorem dX2_add_78 : decode cX2_add 78 = .ok (.dup, 1) := by decide +kernel
theorem dX2_add_79 : decode cX2_add 79 = .ok (.getfield 33, 3) := by decide +kernel
theorem dX2_add_82 : decode cX2_add 82 = .ok (.iconst 1, 1) := by decide +kernel
theorem dX2_add_83 : decode cX2_add 83 = .ok (.iadd, 1) := by decide +kernel
theorem dX2_add_84 : decode cX2_add 84 = .ok (.putfield 33, 3) := by decide +kernel
theorem dX2_add_87 : decode cX2_add 87 = .ok (.aload_n 0, 1) := by decide +kernel
theorem dX2_add_88 : decode cX2_add 88 = .ok (.getfield 33, 3) := by decide +kernel
theorem dX2_add_91 : decode cX2_add 91 = .ok (.iconst 1, 1) := by decide +kernel
theorem dX2_add_92 : decode cX2_add 92 = .ok (.isub, 1) := by decide +kernel
theorem dX2_add_93 : decode cX2_add 93 = .ok (.ireturn, 1) := by decide +kernel
theorem dX2_pulls_0 : decode cX2_pulls 0 = .ok (.aload_n 0, 1) := by decide +kernel
theorem dX2_pulls_1 : decode cX2_pulls 1 = .ok (.getfield 19, 3) := by decide +kernel
theorem dX2_pulls_4 : decode cX2_pulls 4 = .ok (.iload_n 1, 1) := by decide +kernel
theorem dX2_pulls_5 : decode cX2_pulls 5 = .ok (.invokestatic 56, 3) := by decide +kernel
theorem dX2_pulls_8 : decode cX2_pulls 8 = .ok (.ireturn, 1) := by decide +kernel
theorem dX2_lostBy_0 : decode cX2_lostBy 0 = .ok (.aload_n 0, 1) := by decide +kernel
theorem dX2_lostBy_1 : decode cX2_lostBy 1 = .ok (.getfield 23, 3) := by decide +kernel
theorem dX2_lostBy_4 : decode cX2_lostBy 4 = .ok (.iload_n 1, 1) := by decide +kernel
theorem dX2_lostBy_5 : decode cX2_lostBy 5 = .ok (.invokestatic 56, 3) := by decide +kernel
theorem dX2_lostBy_8 : decode cX2_lostBy 8 = .ok (.ireturn, 1) := by decide +kernel
theorem dX2_stateOf_0 : decode cX2_stateOf 0 = .ok (.aload_n 0, 1) := by decide +kernel
theorem dX2_stateOf_1 : decode cX2_stateOf 1 = .ok (.iload_n 1, 1) := by decide +kernel
theorem dX2_stateOf_2 : decode cX2_stateOf 2 = .ok (.iload_n 2, 1) := by decide +kernel
theorem dX2_stateOf_3 : decode cX2_stateOf 3 = .ok (.invokevirtual 40, 3) := by decide +kernel
theorem dX2_stateOf_6 : decode cX2_stateOf 6 = .ok (.astore 4, 2) := by decide +kernel
theorem dX2_stateOf_8 : decode cX2_stateOf 8 = .ok (.aload 4, 2) := by decide +kernel
theorem dX2_stateOf_10 : decode cX2_stateOf 10 = .ok (.ifnonnull 5, 3) := by decide +kernel
theorem dX2_stateOf_13 : decode cX2_stateOf 13 = .ok (.iconst (-1), 1) := by decide +kernel
theorem dX2_stateOf_14 : decode cX2_stateOf 14 = .ok (.ireturn, 1) := by decide +kernel
theorem dX2_stateOf_15 : decode cX2_stateOf 15 = .ok (.iload_n 3, 1) := by decide +kernel
theorem dX2_stateOf_16 : decode cX2_stateOf 16 = .ok (.ifCond .ne 11, 3) := by decide +kernel
theorem dX2_stateOf_19 : decode cX2_stateOf 19 = .ok (.aload 4, 2) := by decide +kernel
theorem dX2_stateOf_21 : decode cX2_stateOf 21 = .ok (.invokevirtual 60, 3) := by decide +kernel
theorem dX2_stateOf_24 : decode cX2_stateOf 24 = .ok (.goto 21, 3) := by decide +kernel
theorem dX2_stateOf_27 : decode cX2_stateOf 27 = .ok (.iload_n 3, 1) := by decide +kernel
theorem dX2_stateOf_28 : decode cX2_stateOf 28 = .ok (.iconst 1, 1) := by decide +kernel
theorem dX2_stateOf_29 : decode cX2_stateOf 29 = .ok (.if_icmp .ne 11, 3) := by decide +kernel
theorem dX2_stateOf_32 : decode cX2_stateOf 32 = .ok (.aload 4, 2) := by decide +kernel
theorem dX2_stateOf_34 : decode cX2_stateOf 34 = .ok (.invokevirtual 63, 3) := by decide +kernel
theorem dX2_stateOf_37 : decode cX2_stateOf 37 = .ok (.goto 8, 3) := by decide +kernel
theorem dX2_stateOf_40 : decode cX2_stateOf 40 = .ok (.aload 4, 2) := by decide +kernel
theorem dX2_stateOf_42 : decode cX2_stateOf 42 = .ok (.invokevirtual 66, 3) := by decide +kernel
theorem dX2_stateOf_45 : decode cX2_stateOf 45 = .ok (.ireturn, 1) := by decide +kernel
theorem dX2_goOn_0 : decode cX2_goOn 0 = .ok (.iconst 0, 1) := by decide +kernel
theorem dX2_goOn_1 : decode cX2_goOn 1 = .ok (.istore 4, 2) := by decide +kernel
theorem dX2_goOn_3 : decode cX2_goOn 3 = .ok (.iload 4, 2) := by decide +kernel
theorem dX2_goOn_5 : decode cX2_goOn 5 = .ok (.aload_n 0, 1) := by decide +kernel
theorem dX2_goOn_6 : decode cX2_goOn 6 = .ok (.getfield 26, 3) := by decide +kernel
theorem dX2_goOn_9 : decode cX2_goOn 9 = .ok (.invokevirtual 37, 3) := by decide +kernel
theorem dX2_goOn_12 : decode cX2_goOn 12 = .ok (.if_icmp .ge 28, 3) := by decide +kernel
theorem dX2_goOn_15 : decode cX2_goOn 15 = .ok (.aload_n 0, 1) := by decide +kernel
theorem dX2_goOn_16 : decode cX2_goOn 16 = .ok (.iload_n 1, 1) := by decide +kernel
theorem dX2_goOn_17 : decode cX2_goOn 17 = .ok (.iload 4, 2) := by decide +kernel
theorem dX2_goOn_19 : decode cX2_goOn 19 = .ok (.invokevirtual 40, 3) := by decide +kernel
theorem dX2_goOn_22 : decode cX2_goOn 22 = .ok (.astore 5, 2) := by decide +kernel
theorem dX2_goOn_24 : decode cX2_goOn 24 = .ok (.aload 5, 2) := by decide +kernel
theorem dX2_goOn_26 : decode cX2_goOn 26 = .ok (.ifnull 8, 3) := by decide +kernel
theorem dX2_goOn_29 : decode cX2_goOn 29 = .ok (.aload 5, 2) := by decide +kernel
theorem dX2_goOn_31 : decode cX2_goOn 31 = .ok (.invokevirtual 69, 3) := by decide +kernel
theorem dX2_goOn_34 : decode cX2_goOn 34 = .ok (.iinc 4 1, 3) := by decide +kernel
theorem dX2_goOn_37 : decode cX2_goOn 37 = .ok (.goto (-34), 3) := by decide +kernel
theorem dX2_goOn_40 : decode cX2_goOn 40 = .ok (.iconst 0, 1) := by decide +kernel
theorem dX2_goOn_41 : decode cX2_goOn 41 = .ok (.istore 4, 2) := by decide +kernel
theorem dX2_goOn_43 : decode cX2_goOn 43 = .ok (.iconst 0, 1) := by decide +kernel
theorem dX2_goOn_44 : decode cX2_goOn 44 = .ok (.istore 5, 2) := by decide +kernel
theorem dX2_goOn_46 : decode cX2_goOn 46 = .ok (.iload 5, 2) := by decide +kernel
theorem dX2_goOn_48 : decode cX2_goOn 48 = .ok (.iload_n 3, 1) := by decide +kernel
theorem dX2_goOn_49 : decode cX2_goOn 49 = .ok (.if_icmp .ge 35, 3) := by decide +kernel
theorem dX2_goOn_52 : decode cX2_goOn 52 = .ok (.aload_n 0, 1) := by decide +kernel
theorem dX2_goOn_53 : decode cX2_goOn 53 = .ok (.iload_n 1, 1) := by decide +kernel
theorem dX2_goOn_54 : decode cX2_goOn 54 = .ok (.invokevirtual 72, 3) := by decide +kernel
theorem dX2_goOn_57 : decode cX2_goOn 57 = .ok (.iconst (-1), 1) := by decide +kernel
theorem dX2_goOn_58 : decode cX2_goOn 58 = .ok (.if_icmp .ne 26, 3) := by decide +kernel
theorem dX2_goOn_61 : decode cX2_goOn 61 = .ok (.aload_n 0, 1) := by decide +kernel
theorem dX2_goOn_62 : decode cX2_goOn 62 = .ok (.getfield 23, 3) := by decide +kernel
theorem dX2_goOn_65 : decode cX2_goOn 65 = .ok (.iload_n 1, 1) := by decide +kernel
theorem dX2_goOn_66 : decode cX2_goOn 66 = .ok (.aload_n 0, 1) := by decide +kernel
theorem dX2_goOn_67 : decode cX2_goOn 67 = .ok (.iload_n 1, 1) := by decide +kernel
theorem dX2_goOn_68 : decode cX2_goOn 68 = .ok (.iload_n 2, 1) := by decide +kernel
theorem dX2_goOn_69 : decode cX2_goOn 69 = .ok (.invokevirtual 75, 3) := by decide +kernel
theorem dX2_goOn_72 : decode cX2_goOn 72 = .ok (.invokestatic 52, 3) := by decide +kernel
theorem dX2_goOn_75 : decode cX2_goOn 75 = .ok (.iinc 4 1, 3) := by decide +kernel
theorem dX2_goOn_78 : decode cX2_goOn 78 = .ok (.iinc 5 1, 3) := by decide +kernel
theorem dX2_goOn_81 : decode cX2_goOn 81 = .ok (.goto (-35), 3) := by decide +kernel
theorem dX2_goOn_84 : decode cX2_goOn 84 = .ok (.aload_n 0, 1) := by decide +kernel
theorem dX2_goOn_85 : decode cX2_goOn 85 = .ok (.getfield 19, 3) := by decide +kernel
theorem dX2_goOn_88 : decode cX2_goOn 88 = .ok (.iload_n 1, 1) := by decide +kernel
theorem dX2_goOn_89 : decode cX2_goOn 89 = .ok (.aload_n 0, 1) := by decide +kernel
theorem dX2_goOn_90 : decode cX2_goOn 90 = .ok (.iload_n 1, 1) := by decide +kernel
theorem dX2_goOn_91 : decode cX2_goOn 91 = .ok (.invokevirtual 78, 3) := by decide +kernel
theorem dX2_goOn_94 : decode cX2_goOn 94 = .ok (.iload 4, 2) := by decide +kernel
theorem dX2_goOn_96 : decode cX2_goOn 96 = .ok (.iadd, 1) := by decide +kernel
theorem dX2_goOn_97 : decode cX2_goOn 97 = .ok (.invokestatic 52, 3) := by decide +kernel
theorem dX2_goOn_100 : decode cX2_goOn 100 = .ok (.iload 4, 2) := by decide +kernel
theorem dX2_goOn_102 : decode cX2_goOn 102 = .ok (.ireturn, 1) := by decide +kernel
theorem dX2_pullAll_0 : decode cX2_pullAll 0 = .ok (.iconst (-1), 1) := by decide +kernel
theorem dX2_pullAll_1 : decode cX2_pullAll 1 = .ok (.istore_n 3, 1) := by decide +kernel
theorem dX2_pullAll_2 : decode cX2_pullAll 2 = .ok (.iconst 0, 1) := by decide +kernel
theorem dX2_pullAll_3 : decode cX2_pullAll 3 = .ok (.istore 4, 2) := by decide +kernel
theorem dX2_pullAll_5 : decode cX2_pullAll 5 = .ok (.iload 4, 2) := by decide +kernel
theorem dX2_pullAll_7 : decode cX2_pullAll 7 = .ok (.aload_n 0, 1) := by decide +kernel
theorem dX2_pullAll_8 : decode cX2_pullAll 8 = .ok (.getfield 26, 3) := by decide +kernel
theorem dX2_pullAll_11 : decode cX2_pullAll 11 = .ok (.invokevirtual 37, 3) := by decide +kernel
theorem dX2_pullAll_14 : decode cX2_pullAll 14 = .ok (.if_icmp .ge 49, 3) := by decide +kernel
theorem dX2_pullAll_17 : decode cX2_pullAll 17 = .ok (.aload_n 0, 1) := by decide +kernel
theorem dX2_pullAll_18 : decode cX2_pullAll 18 = .ok (.iload_n 1, 1) := by decide +kernel
theorem dX2_pullAll_19 : decode cX2_pullAll 19 = .ok (.iload 4, 2) := by decide +kernel
theorem dX2_pullAll_21 : decode cX2_pullAll 21 = .ok (.invokevirtual 40, 3) := by decide +kernel
theorem dX2_pullAll_24 : decode cX2_pullAll 24 = .ok (.astore 5, 2) := by decide +kernel
theorem dX2_pullAll_26 : decode cX2_pullAll 26 = .ok (.aload 5, 2) := by decide +kernel
theorem dX2_pullAll_28 : decode cX2_pullAll 28 = .ok (.ifnull 29, 3) := by decide +kernel
theorem dX2_pullAll_31 : decode cX2_pullAll 31 = .ok (.aload 5, 2) := by decide +kernel
theorem dX2_pullAll_33 : decode cX2_pullAll 33 = .ok (.iload_n 2, 1) := by decide +kernel
theorem dX2_pullAll_34 : decode cX2_pullAll 34 = .ok (.invokevirtual 80, 3) := by decide +kernel
theorem dX2_pullAll_37 : decode cX2_pullAll 37 = .ok (.iload_n 3, 1) := by decide +kernel
theorem dX2_pullAll_38 : decode cX2_pullAll 38 = .ok (.iconst (-1), 1) := by decide +kernel
theorem dX2_pullAll_39 : decode cX2_pullAll 39 = .ok (.if_icmp .ne 16, 3) := by decide +kernel
theorem dX2_pullAll_42 : decode cX2_pullAll 42 = .ok (.aload 5, 2) := by decide +kernel
theorem dX2_pullAll_44 : decode cX2_pullAll 44 = .ok (.invokevirtual 84, 3) := by decide +kernel
theorem dX2_pullAll_47 : decode cX2_pullAll 47 = .ok (.ifCond .le 8, 3) := by decide +kernel
theorem dX2_pullAll_50 : decode cX2_pullAll 50 = .ok (.iload 4, 2) := by decide +kernel
theorem dX2_pullAll_52 : decode cX2_pullAll 52 = .ok (.goto 4, 3) := by decide +kernel
theorem dX2_pullAll_55 : decode cX2_pullAll 55 = .ok (.iload_n 3, 1) := by decide +kernel
theorem dX2_pullAll_56 : decode cX2_pullAll 56 = .ok (.istore_n 3, 1) := by decide +kernel
theorem dX2_pullAll_57 : decode cX2_pullAll 57 = .ok (.iinc 4 1, 3) := by decide +kernel
theorem dX2_pullAll_60 : decode cX2_pullAll 60 = .ok (.goto (-55), 3) := by decide +kernel
theorem dX2_pullAll_63 : decode cX2_pullAll 63 = .ok (.iload_n 3, 1) := by decide +kernel
theorem dX2_pullAll_64 : decode cX2_pullAll 64 = .ok (.ireturn, 1) := by decide +kernel
theorem dX2_firstWrong_0 : decode cX2_firstWrong 0 = .ok (.iconst 0, 1) := by decide +kernel
theorem dX2_firstWrong_1 : decode cX2_firstWrong 1 = .ok (.istore 4, 2) := by decide +kernel
theorem dX2_firstWrong_3 : decode cX2_firstWrong 3 = .ok (.iload 4, 2) := by decide +kernel
theorem dX2_firstWrong_5 : decode cX2_firstWrong 5 = .ok (.iload_n 2, 1) := by decide +kernel
theorem dX2_firstWrong_6 : decode cX2_firstWrong 6 = .ok (.if_icmp .ge 95, 3) := by decide +kernel
theorem dX2_firstWrong_9 : decode cX2_firstWrong 9 = .ok (.iload 4, 2) := by decide +kernel
theorem dX2_firstWrong_11 : decode cX2_firstWrong 11 = .ok (.aload_n 0, 1) := by decide +kernel
theorem dX2_firstWrong_12 : decode cX2_firstWrong 12 = .ok (.getfield 26, 3) := by decide +kernel
theorem dX2_firstWrong_15 : decode cX2_firstWrong 15 = .ok (.invokevirtual 37, 3) := by decide +kernel
theorem dX2_firstWrong_18 : decode cX2_firstWrong 18 = .ok (.if_icmp .ge 16, 3) := by decide +kernel
theorem dX2_firstWrong_21 : decode cX2_firstWrong 21 = .ok (.aload_n 3, 1) := by decide +kernel
theorem dX2_firstWrong_22 : decode cX2_firstWrong 22 = .ok (.iconst 3, 1) := by decide +kernel
theorem dX2_firstWrong_23 : decode cX2_firstWrong 23 = .ok (.iload 4, 2) := by decide +kernel
theorem dX2_firstWrong_25 : decode cX2_firstWrong 25 = .ok (.imul, 1) := by decide +kernel
theorem dX2_firstWrong_26 : decode cX2_firstWrong 26 = .ok (.invokevirtual 87, 3) := by decide +kernel
theorem dX2_firstWrong_29 : decode cX2_firstWrong 29 = .ok (.iload 4, 2) := by decide +kernel
theorem dX2_firstWrong_31 : decode cX2_firstWrong 31 = .ok (.if_icmp .eq 8, 3) := by decide +kernel
theorem dX2_firstWrong_34 : decode cX2_firstWrong 34 = .ok (.iconst 3, 1) := by decide +kernel
theorem dX2_firstWrong_35 : decode cX2_firstWrong 35 = .ok (.iload 4, 2) := by decide +kernel
theorem dX2_firstWrong_37 : decode cX2_firstWrong 37 = .ok (.imul, 1) := by decide +kernel
theorem dX2_firstWrong_38 : decode cX2_firstWrong 38 = .ok (.ireturn, 1) := by decide +kernel
theorem dX2_firstWrong_39 : decode cX2_firstWrong 39 = .ok (.aload_n 3, 1) := by decide +kernel
theorem dX2_firstWrong_40 : decode cX2_firstWrong 40 = .ok (.iconst 3, 1) := by decide +kernel
theorem dX2_firstWrong_41 : decode cX2_firstWrong 41 = .ok (.iload 4, 2) := by decide +kernel
theorem dX2_firstWrong_43 : decode cX2_firstWrong 43 = .ok (.imul, 1) := by decide +kernel
theorem dX2_firstWrong_44 : decode cX2_firstWrong 44 = .ok (.iconst 1, 1) := by decide +kernel
theorem dX2_firstWrong_45 : decode cX2_firstWrong 45 = .ok (.iadd, 1) := by decide +kernel
theorem dX2_firstWrong_46 : decode cX2_firstWrong 46 = .ok (.invokevirtual 87, 3) := by decide +kernel
theorem dX2_firstWrong_49 : decode cX2_firstWrong 49 = .ok (.aload_n 0, 1) := by decide +kernel
theorem dX2_firstWrong_50 : decode cX2_firstWrong 50 = .ok (.iload_n 1, 1) := by decide +kernel
theorem dX2_firstWrong_51 : decode cX2_firstWrong 51 = .ok (.iload 4, 2) := by decide +kernel
theorem dX2_firstWrong_53 : decode cX2_firstWrong 53 = .ok (.iconst 0, 1) := by decide +kernel
theorem dX2_firstWrong_54 : decode cX2_firstWrong 54 = .ok (.invokevirtual 92, 3) := by decide +kernel
theorem dX2_firstWrong_57 : decode cX2_firstWrong 57 = .ok (.if_icmp .eq 10, 3) := by decide +kernel
theorem dX2_firstWrong_60 : decode cX2_firstWrong 60 = .ok (.iconst 3, 1) := by decide +kernel
theorem dX2_firstWrong_61 : decode cX2_firstWrong 61 = .ok (.iload 4, 2) := by decide +kernel
theorem dX2_firstWrong_63 : decode cX2_firstWrong 63 = .ok (.imul, 1) := by decide +kernel
theorem dX2_firstWrong_64 : decode cX2_firstWrong 64 = .ok (.iconst 1, 1) := by decide +kernel
theorem dX2_firstWrong_65 : decode cX2_firstWrong 65 = .ok (.iadd, 1) := by decide +kernel
theorem dX2_firstWrong_66 : decode cX2_firstWrong 66 = .ok (.ireturn, 1) := by decide +kernel
theorem dX2_firstWrong_67 : decode cX2_firstWrong 67 = .ok (.aload_n 3, 1) := by decide +kernel
theorem dX2_firstWrong_68 : decode cX2_firstWrong 68 = .ok (.iconst 3, 1) := by decide +kernel
theorem dX2_firstWrong_69 : decode cX2_firstWrong 69 = .ok (.iload 4, 2) := by decide +kernel
theorem dX2_firstWrong_71 : decode cX2_firstWrong 71 = .ok (.imul, 1) := by decide +kernel
theorem dX2_firstWrong_72 : decode cX2_firstWrong 72 = .ok (.iconst 2, 1) := by decide +kernel
theorem dX2_firstWrong_73 : decode cX2_firstWrong 73 = .ok (.iadd, 1) := by decide +kernel
theorem dX2_firstWrong_74 : decode cX2_firstWrong 74 = .ok (.invokevirtual 87, 3) := by decide +kernel
theorem dX2_firstWrong_77 : decode cX2_firstWrong 77 = .ok (.aload_n 0, 1) := by decide +kernel
theorem dX2_firstWrong_78 : decode cX2_firstWrong 78 = .ok (.iload_n 1, 1) := by decide +kernel
theorem dX2_firstWrong_79 : decode cX2_firstWrong 79 = .ok (.iload 4, 2) := by decide +kernel
theorem dX2_firstWrong_81 : decode cX2_firstWrong 81 = .ok (.iconst 1, 1) := by decide +kernel
theorem dX2_firstWrong_82 : decode cX2_firstWrong 82 = .ok (.invokevirtual 92, 3) := by decide +kernel
theorem dX2_firstWrong_85 : decode cX2_firstWrong 85 = .ok (.if_icmp .eq 10, 3) := by decide +kernel
theorem dX2_firstWrong_88 : decode cX2_firstWrong 88 = .ok (.iconst 3, 1) := by decide +kernel
theorem dX2_firstWrong_89 : decode cX2_firstWrong 89 = .ok (.iload 4, 2) := by decide +kernel
theorem dX2_firstWrong_91 : decode cX2_firstWrong 91 = .ok (.imul, 1) := by decide +kernel
theorem dX2_firstWrong_92 : decode cX2_firstWrong 92 = .ok (.iconst 2, 1) := by decide +kernel
theorem dX2_firstWrong_93 : decode cX2_firstWrong 93 = .ok (.iadd, 1) := by decide +kernel
theorem dX2_firstWrong_94 : decode cX2_firstWrong 94 = .ok (.ireturn, 1) := by decide +kernel
theorem dX2_firstWrong_95 : decode cX2_firstWrong 95 = .ok (.iinc 4 1, 3) := by decide +kernel
theorem dX2_firstWrong_98 : decode cX2_firstWrong 98 = .ok (.goto (-95), 3) := by decide +kernel
theorem dX2_firstWrong_101 : decode cX2_firstWrong 101 = .ok (.iload_n 2, 1) := by decide +kernel
theorem dX2_firstWrong_102 : decode cX2_firstWrong 102 = .ok (.aload_n 0, 1) := by decide +kernel
theorem dX2_firstWrong_103 : decode cX2_firstWrong 103 = .ok (.getfield 26, 3) := by decide +kernel
theorem dX2_firstWrong_106 : decode cX2_firstWrong 106 = .ok (.invokevirtual 37, 3) := by decide +kernel
theorem dX2_firstWrong_109 : decode cX2_firstWrong 109 = .ok (.if_icmp .ge 9, 3) := by decide +kernel
theorem dX2_firstWrong_112 : decode cX2_firstWrong 112 = .ok (.iconst 3, 1) := by decide +kernel
theorem dX2_firstWrong_113 : decode cX2_firstWrong 113 = .ok (.iload_n 2, 1) := by decide +kernel
theorem dX2_firstWrong_114 : decode cX2_firstWrong 114 = .ok (.imul, 1) := by decide +kernel
theorem dX2_firstWrong_115 : decode cX2_firstWrong 115 = .ok (.goto 4, 3) := by decide +kernel
theorem dX2_firstWrong_118 : decode cX2_firstWrong 118 = .ok (.iconst (-1), 1) := by decide +kernel
theorem dX2_firstWrong_119 : decode cX2_firstWrong 119 = .ok (.ireturn, 1) := by decide +kernel
theorem dX2_strainOf_0 : decode cX2_strainOf 0 = .ok (.iload_n 1, 1) := by decide +kernel
theorem dX2_strainOf_1 : decode cX2_strainOf 1 = .ok (.bipush 8, 2) := by decide +kernel
theorem dX2_strainOf_3 : decode cX2_strainOf 3 = .ok (.imul, 1) := by decide +kernel
theorem dX2_strainOf_4 : decode cX2_strainOf 4 = .ok (.iload_n 2, 1) := by decide +kernel
theorem dX2_strainOf_5 : decode cX2_strainOf 5 = .ok (.iadd, 1) := by decide +kernel
theorem dX2_strainOf_6 : decode cX2_strainOf 6 = .ok (.istore_n 3, 1) := by decide +kernel
theorem dX2_strainOf_7 : decode cX2_strainOf 7 = .ok (.iload_n 3, 1) := by decide +kernel
theorem dX2_strainOf_8 : decode cX2_strainOf 8 = .ok (.ifCond .lt 21, 3) := by decide +kernel
theorem dX2_strainOf_11 : decode cX2_strainOf 11 = .ok (.iload_n 3, 1) := by decide +kernel
theorem dX2_strainOf_12 : decode cX2_strainOf 12 = .ok (.aload_n 0, 1) := by decide +kernel
theorem dX2_strainOf_13 : decode cX2_strainOf 13 = .ok (.getfield 15, 3) := by decide +kernel
theorem dX2_strainOf_16 : decode cX2_strainOf 16 = .ok (.arraylength, 1) := by decide +kernel
theorem dX2_strainOf_17 : decode cX2_strainOf 17 = .ok (.if_icmp .ge 12, 3) := by decide +kernel
theorem dX2_strainOf_20 : decode cX2_strainOf 20 = .ok (.aload_n 0, 1) := by decide +kernel
theorem dX2_strainOf_21 : decode cX2_strainOf 21 = .ok (.getfield 15, 3) := by decide +kernel
theorem dX2_strainOf_24 : decode cX2_strainOf 24 = .ok (.iload_n 3, 1) := by decide +kernel
theorem dX2_strainOf_25 : decode cX2_strainOf 25 = .ok (.aaload, 1) := by decide +kernel
theorem dX2_strainOf_26 : decode cX2_strainOf 26 = .ok (.goto 4, 3) := by decide +kernel
theorem dX2_strainOf_29 : decode cX2_strainOf 29 = .ok (.aconst_null, 1) := by decide +kernel
theorem dX2_strainOf_30 : decode cX2_strainOf 30 = .ok (.areturn, 1) := by decide +kernel
theorem dX3_init_0 : decode cX3_init 0 = .ok (.aload_n 0, 1) := by decide +kernel
theorem dX3_init_1 : decode cX3_init 1 = .ok (.invokespecial 3, 3) := by decide +kernel
theorem dX3_init_4 : decode cX3_init 4 = .ok (.aload_n 0, 1) := by decide +kernel
theorem dX3_init_5 : decode cX3_init 5 = .ok (.sipush 160, 3) := by decide +kernel
theorem dX3_init_8 : decode cX3_init 8 = .ok (.newarray .int, 2) := by decide +kernel
theorem dX3_init_10 : decode cX3_init 10 = .ok (.putfield 9, 3) := by decide +kernel
theorem dX3_init_13 : decode cX3_init 13 = .ok (.aload_n 0, 1) := by decide +kernel
theorem dX3_init_14 : decode cX3_init 14 = .ok (.bipush 12, 2) := by decide +kernel
theorem dX3_init_16 : decode cX3_init 16 = .ok (.newarray .int, 2) := by decide +kernel
theorem dX3_init_18 : decode cX3_init 18 = .ok (.putfield 13, 3) := by decide +kernel
theorem dX3_init_21 : decode cX3_init 21 = .ok (.aload_n 0, 1) := by decide +kernel
theorem dX3_init_22 : decode cX3_init 22 = .ok (.bipush 12, 2) := by decide +kernel
theorem dX3_init_24 : decode cX3_init 24 = .ok (.newarray .int, 2) := by decide +kernel
theorem dX3_init_26 : decode cX3_init 26 = .ok (.putfield 16, 3) := by decide +kernel
theorem dX3_init_29 : decode cX3_init 29 = .ok (.aload_n 0, 1) := by decide +kernel
theorem dX3_init_30 : decode cX3_init 30 = .ok (.bipush 12, 2) := by decide +kernel
theorem dX3_init_32 : decode cX3_init 32 = .ok (.newarray .int, 2) := by decide +kernel
theorem dX3_init_34 : decode cX3_init 34 = .ok (.putfield 19, 3) := by decide +kernel
theorem dX3_init_37 : decode cX3_init 37 = .ok (.aload_n 0, 1) := by decide +kernel
theorem dX3_init_38 : decode cX3_init 38 = .ok (.bipush 12, 2) := by decide +kernel
theorem dX3_init_40 : decode cX3_init 40 = .ok (.newarray .int, 2) := by decide +kernel
theorem dX3_init_42 : decode cX3_init 42 = .ok (.putfield 22, 3) := by decide +kernel
theorem dX3_init_45 : decode cX3_init 45 = .ok (.aload_n 0, 1) := by decide +kernel
theorem dX3_init_46 : decode cX3_init 46 = .ok (.bipush 10, 2) := by decide +kernel
theorem dX3_init_48 : decode cX3_init 48 = .ok (.newarray .int, 2) := by decide +kernel
theorem dX3_init_50 : decode cX3_init 50 = .ok (.putfield 25, 3) := by decide +kernel
theorem dX3_init_53 : decode cX3_init 53 = .ok (.aload_n 0, 1) := by decide +kernel
theorem dX3_init_54 : decode cX3_init 54 = .ok (.bipush 40, 2) := by decide +kernel
theorem dX3_init_56 : decode cX3_init 56 = .ok (.newarray .int, 2) := by decide +kernel
theorem dX3_init_58 : decode cX3_init 58 = .ok (.putfield 28, 3) := by decide +kernel
theorem dX3_init_61 : decode cX3_init 61 = .ok (.return_, 1) := by decide +kernel
theorem dX3_clauses_0 : decode cX3_clauses 0 = .ok (.aload_n 0, 1) := by decide +kernel
theorem dX3_clauses_1 : decode cX3_clauses 1 = .ok (.getfield 31, 3) := by decide +kernel
theorem dX3_clauses_4 : decode cX3_clauses 4 = .ok (.ireturn, 1) := by decide +kernel
theorem dX3_uses_0 : decode cX3_uses 0 = .ok (.aload_n 0, 1) := by decide +kernel
theorem dX3_uses_1 : decode cX3_uses 1 = .ok (.getfield 35, 3) := by decide +kernel
theorem dX3_uses_4 : decode cX3_uses 4 = .ok (.iload_n 1, 1) := by decide +kernel
theorem dX3_uses_5 : decode cX3_uses 5 = .ok (.ishr, 1) := by decide +kernel
theorem dX3_uses_6 : decode cX3_uses 6 = .ok (.iconst 1, 1) := by decide +kernel
theorem dX3_uses_7 : decode cX3_uses 7 = .ok (.iand, 1) := by decide +kernel
theorem dX3_uses_8 : decode cX3_uses 8 = .ok (.iconst 1, 1) := by decide +kernel
theorem dX3_uses_9 : decode cX3_uses 9 = .ok (.if_icmp .ne 7, 3) := by decide +kernel
theorem dX3_uses_12 : decode cX3_uses 12 = .ok (.iconst 1, 1) := by decide +kernel
theorem dX3_uses_13 : decode cX3_uses 13 = .ok (.goto 4, 3) := by decide +kernel
theorem dX3_uses_16 : decode cX3_uses 16 = .ok (.iconst 0, 1) := by decide +kernel
theorem dX3_uses_17 : decode cX3_uses 17 = .ok (.ireturn, 1) := by decide +kernel
theorem dX3_empty_0 : decode cX3_empty 0 = .ok (.aload_n 0, 1) := by decide +kernel
theorem dX3_empty_1 : decode cX3_empty 1 = .ok (.iconst 0, 1) := by decide +kernel
theorem dX3_empty_2 : decode cX3_empty 2 = .ok (.putfield 38, 3) := by decide +kernel
theorem dX3_empty_5 : decode cX3_empty 5 = .ok (.aload_n 0, 1) := by decide +kernel
theorem dX3_empty_6 : decode cX3_empty 6 = .ok (.iconst 0, 1) := by decide +kernel
theorem dX3_empty_7 : decode cX3_empty 7 = .ok (.putfield 31, 3) := by decide +kernel
theorem dX3_empty_10 : decode cX3_empty 10 = .ok (.aload_n 0, 1) := by decide +kernel
theorem dX3_empty_11 : decode cX3_empty 11 = .ok (.iconst 0, 1) := by decide +kernel
theorem dX3_empty_12 : decode cX3_empty 12 = .ok (.putfield 35, 3) := by decide +kernel
theorem dX3_empty_15 : decode cX3_empty 15 = .ok (.return_, 1) := by decide +kernel
theorem dX3_openClause_0 : decode cX3_openClause 0 = .ok (.aload_n 0, 1) := by decide +kernel
theorem dX3_openClause_1 : decode cX3_openClause 1 = .ok (.getfield 13, 3) := by decide +kernel
theorem dX3_openClause_4 : decode cX3_openClause 4 = .ok (.aload_n 0, 1) := by decide +kernel
theorem dX3_openClause_5 : decode cX3_openClause 5 = .ok (.getfield 31, 3) := by decide +kernel
theorem dX3_openClause_8 : decode cX3_openClause 8 = .ok (.iload_n 1, 1) := by decide +kernel
theorem dX3_openClause_9 : decode cX3_openClause 9 = .ok (.invokestatic 41, 3) := by decide +kernel
theorem dX3_openClause_12 : decode cX3_openClause 12 = .ok (.aload_n 0, 1) := by decide +kernel
theorem dX3_openClause_13 : decode cX3_openClause 13 = .ok (.getfield 16, 3) := by decide +kernel
theorem dX3_openClause_16 : decode cX3_openClause 16 = .ok (.aload_n 0, 1) := by decide +kernel
theorem dX3_openClause_17 : decode cX3_openClause 17 = .ok (.getfield 31, 3) := by decide +kernel
theorem dX3_openClause_20 : decode cX3_openClause 20 = .ok (.aload_n 0, 1) := by decide +kernel
theorem dX3_openClause_21 : decode cX3_openClause 21 = .ok (.getfield 38, 3) := by decide +kernel
theorem dX3_openClause_24 : decode cX3_openClause 24 = .ok (.invokestatic 41, 3) := by decide +kernel
theorem dX3_openClause_27 : decode cX3_openClause 27 = .ok (.return_, 1) := by decide +kernel
theorem dX3_openCondition_0 : decode cX3_openCondition 0 = .ok (.aload_n 0, 1) := by decide +kernel
theorem dX3_openCondition_1 : decode cX3_openCondition 1 = .ok (.getfield 19, 3) := by decide +kernel
theorem dX3_openCondition_4 : decode cX3_openCondition 4 = .ok (.aload_n 0, 1) := by decide +kernel
theorem dX3_openCondition_5 : decode cX3_openCondition 5 = .ok (.getfield 31, 3) := by decide +kernel
theorem dX3_openCondition_8 : decode cX3_openCondition 8 = .ok (.aload_n 0, 1) := by decide +kernel
theorem dX3_openCondition_9 : decode cX3_openCondition 9 = .ok (.getfield 38, 3) := by decide +kernel
theorem dX3_openCondition_12 : decode cX3_openCondition 12 = .ok (.invokestatic 41, 3) := by decide +kernel
theorem dX3_openCondition_15 : decode cX3_openCondition 15 = .ok (.return_, 1) := by decide +kernel
theorem dX3_closeClause_0 : decode cX3_closeClause 0 = .ok (.aload_n 0, 1) := by decide +kernel
theorem dX3_closeClause_1 : decode cX3_closeClause 1 = .ok (.getfield 22, 3) := by decide +kernel
theorem dX3_closeClause_4 : decode cX3_closeClause 4 = .ok (.aload_n 0, 1) := by decide +kernel
theorem dX3_closeClause_5 : decode cX3_closeClause 5 = .ok (.getfield 31, 3) := by decide +kernel
theorem dX3_closeClause_8 : decode cX3_closeClause 8 = .ok (.aload_n 0, 1) := by decide +kernel
theorem dX3_closeClause_9 : decode cX3_closeClause 9 = .ok (.getfield 38, 3) := by decide +kernel
theorem dX3_closeClause_12 : decode cX3_closeClause 12 = .ok (.invokestatic 41, 3) := by decide +kernel
theorem dX3_closeClause_15 : decode cX3_closeClause 15 = .ok (.aload_n 0, 1) := by decide +kernel
theorem dX3_closeClause_16 : decode cX3_closeClause 16 = .ok (.dup, 1) := by decide +kernel
theorem dX3_closeClause_17 : decode cX3_closeClause 17 = .ok (.getfield 31, 3) := by decide +kernel
theorem dX3_closeClause_20 : decode cX3_closeClause 20 = .ok (.iconst 1, 1) := by decide +kernel
theorem dX3_closeClause_21 : decode cX3_closeClause 21 = .ok (.iadd, 1) := by decide +kernel
theorem dX3_closeClause_22 : decode cX3_closeClause 22 = .ok (.putfield 31, 3) := by decide +kernel
theorem dX3_closeClause_25 : decode cX3_closeClause 25 = .ok (.return_, 1) := by decide +kernel
theorem dX3_add_0 : decode cX3_add 0 = .ok (.aload_n 0, 1) := by decide +kernel
theorem dX3_add_1 : decode cX3_add 1 = .ok (.getfield 9, 3) := by decide +kernel
theorem dX3_add_4 : decode cX3_add 4 = .ok (.aload_n 0, 1) := by decide +kernel
theorem dX3_add_5 : decode cX3_add 5 = .ok (.getfield 38, 3) := by decide +kernel
theorem dX3_add_8 : decode cX3_add 8 = .ok (.iload_n 1, 1) := by decide +kernel
theorem dX3_add_9 : decode cX3_add 9 = .ok (.bipush 20, 2) := by decide +kernel
theorem dX3_add_11 : decode cX3_add 11 = .ok (.ishl, 1) := by decide +kernel
theorem dX3_add_12 : decode cX3_add 12 = .ok (.iload_n 2, 1) := by decide +kernel
theorem dX3_add_13 : decode cX3_add 13 = .ok (.ior, 1) := by decide +kernel
theorem dX3_add_14 : decode cX3_add 14 = .ok (.invokestatic 41, 3) := by decide +kernel
theorem dX3_add_17 : decode cX3_add 17 = .ok (.aload_n 0, 1) := by decide +kernel
theorem dX3_add_18 : decode cX3_add 18 = .ok (.dup, 1) := by decide +kernel
theorem dX3_add_19 : decode cX3_add 19 = .ok (.getfield 38, 3) := by decide +kernel
theorem dX3_add_22 : decode cX3_add 22 = .ok (.iconst 1, 1) := by decide +kernel
theorem dX3_add_23 : decode cX3_add 23 = .ok (.iadd, 1) := by decide +kernel
theorem dX3_add_24 : decode cX3_add 24 = .ok (.putfield 38, 3) := by decide +kernel
theorem dX3_add_27 : decode cX3_add 27 = .ok (.return_, 1) := by decide +kernel
theorem dX3_addLetter_0 : decode cX3_addLetter 0 = .ok (.aload_n 0, 1) := by decide +kernel
theorem dX3_addLetter_1 : decode cX3_addLetter 1 = .ok (.dup, 1) := by decide +kernel
theorem dX3_addLetter_2 : decode cX3_addLetter 2 = .ok (.getfield 35, 3) := by decide +kernel
theorem dX3_addLetter_5 : decode cX3_addLetter 5 = .ok (.iconst 1, 1) := by decide +kernel
theorem dX3_addLetter_6 : decode cX3_addLetter 6 = .ok (.iload_n 1, 1) := by decide +kernel
theorem dX3_addLetter_7 : decode cX3_addLetter 7 = .ok (.ishl, 1) := by decide +kernel
theorem dX3_addLetter_8 : decode cX3_addLetter 8 = .ok (.ior, 1) := by decide +kernel
theorem dX3_addLetter_9 : decode cX3_addLetter 9 = .ok (.putfield 35, 3) := by decide +kernel
theorem dX3_addLetter_12 : decode cX3_addLetter 12 = .ok (.aload_n 0, 1) := by decide +kernel
theorem dX3_addLetter_13 : decode cX3_addLetter 13 = .ok (.iconst 2, 1) := by decide +kernel
theorem dX3_addLetter_14 : decode cX3_addLetter 14 = .ok (.iload_n 1, 1) := by decide +kernel
theorem dX3_addLetter_15 : decode cX3_addLetter 15 = .ok (.invokevirtual 47, 3) := by decide +kernel
theorem dX3_addLetter_18 : decode cX3_addLetter 18 = .ok (.return_, 1) := by decide +kernel
theorem dX3_addSkip_0 : decode cX3_addSkip 0 = .ok (.aload_n 0, 1) := by decide +kernel
theorem dX3_addSkip_1 : decode cX3_addSkip 1 = .ok (.iload_n 1, 1) := by decide +kernel
theorem dX3_addSkip_2 : decode cX3_addSkip 2 = .ok (.iload_n 2, 1) := by decide +kernel
theorem dX3_addSkip_3 : decode cX3_addSkip 3 = .ok (.iconst 1, 1) := by decide +kernel
theorem dX3_addSkip_4 : decode cX3_addSkip 4 = .ok (.iadd, 1) := by decide +kernel
theorem dX3_addSkip_5 : decode cX3_addSkip 5 = .ok (.invokevirtual 47, 3) := by decide +kernel
theorem dX3_addSkip_8 : decode cX3_addSkip 8 = .ok (.aload_n 0, 1) := by decide +kernel
theorem dX3_addSkip_9 : decode cX3_addSkip 9 = .ok (.getfield 38, 3) := by decide +kernel
theorem dX3_addSkip_12 : decode cX3_addSkip 12 = .ok (.iconst 1, 1) := by decide +kernel
theorem dX3_addSkip_13 : decode cX3_addSkip 13 = .ok (.isub, 1) := by decide +kernel
theorem dX3_addSkip_14 : decode cX3_addSkip 14 = .ok (.ireturn, 1) := by decide +kernel
theorem dX3_endSkipsHere_0 : decode cX3_endSkipsHere 0 = .ok (.iload_n 1, 1) := by decide +kernel
theorem dX3_endSkipsHere_1 : decode cX3_endSkipsHere 1 = .ok (.istore_n 2, 1) := by decide +kernel
theorem dX3_endSkipsHere_2 : decode cX3_endSkipsHere 2 = .ok (.iconst 0, 1) := by decide +kernel
theorem dX3_endSkipsHere_3 : decode cX3_endSkipsHere 3 = .ok (.istore_n 3, 1) := by decide +kernel
theorem dX3_endSkipsHere_4 : decode cX3_endSkipsHere 4 = .ok (.iload_n 3, 1) := by decide +kernel
theorem dX3_endSkipsHere_5 : decode cX3_endSkipsHere 5 = .ok (.aload_n 0, 1) := by decide +kernel
theorem dX3_endSkipsHere_6 : decode cX3_endSkipsHere 6 = .ok (.getfield 9, 3) := by decide +kernel
theorem dX3_endSkipsHere_9 : decode cX3_endSkipsHere 9 = .ok (.arraylength, 1) := by decide +kernel
theorem dX3_endSkipsHere_10 : decode cX3_endSkipsHere 10 = .ok (.if_icmp .ge 58, 3) := by decide +kernel
theorem dX3_endSkipsHere_13 : decode cX3_endSkipsHere 13 = .ok (.iload_n 2, 1) := by decide +kernel
theorem dX3_endSkipsHere_14 : decode cX3_endSkipsHere 14 = .ok (.ifCond .lt 54, 3) := by decide +kernel
theorem dX3_endSkipsHere_17 : decode cX3_endSkipsHere 17 = .ok (.iload_n 2, 1) := by decide +kernel
theorem dX3_endSkipsHere_18 : decode cX3_endSkipsHere 18 = .ok (.aload_n 0, 1) := by decide +kernel
theorem dX3_endSkipsHere_19 : decode cX3_endSkipsHere 19 = .ok (.getfield 9, 3) := by decide +kernel
theorem dX3_endSkipsHere_22 : decode cX3_endSkipsHere 22 = .ok (.arraylength, 1) := by decide +kernel
theorem dX3_endSkipsHere_23 : decode cX3_endSkipsHere 23 = .ok (.if_icmp .ge 45, 3) := by decide +kernel
theorem dX3_endSkipsHere_26 : decode cX3_endSkipsHere 26 = .ok (.aload_n 0, 1) := by decide +kernel
theorem dX3_endSkipsHere_27 : decode cX3_endSkipsHere 27 = .ok (.getfield 9, 3) := by decide +kernel
theorem dX3_endSkipsHere_30 : decode cX3_endSkipsHere 30 = .ok (.iload_n 2, 1) := by decide +kernel
theorem dX3_endSkipsHere_31 : decode cX3_endSkipsHere 31 = .ok (.iaload, 1) := by decide +kernel
theorem dX3_endSkipsHere_32 : decode cX3_endSkipsHere 32 = .ok (.ldc 51, 2) := by decide +kernel
theorem dX3_endSkipsHere_34 : decode cX3_endSkipsHere 34 = .ok (.iand, 1) := by decide +kernel
theorem dX3_endSkipsHere_35 : decode cX3_endSkipsHere 35 = .ok (.iconst 1, 1) := by decide +kernel
theorem dX3_endSkipsHere_36 : decode cX3_endSkipsHere 36 = .ok (.isub, 1) := by decide +kernel
theorem dX3_endSkipsHere_37 : decode cX3_endSkipsHere 37 = .ok (.istore 4, 2) := by decide +kernel
theorem dX3_endSkipsHere_39 : decode cX3_endSkipsHere 39 = .ok (.aload_n 0, 1) := by decide +kernel
theorem dX3_endSkipsHere_40 : decode cX3_endSkipsHere 40 = .ok (.getfield 9, 3) := by decide +kernel
theorem dX3_endSkipsHere_43 : decode cX3_endSkipsHere 43 = .ok (.iload_n 2, 1) := by decide +kernel
theorem dX3_endSkipsHere_44 : decode cX3_endSkipsHere 44 = .ok (.aload_n 0, 1) := by decide +kernel
theorem dX3_endSkipsHere_45 : decode cX3_endSkipsHere 45 = .ok (.getfield 9, 3) := by decide +kernel
theorem dX3_endSkipsHere_48 : decode cX3_endSkipsHere 48 = .ok (.iload_n 2, 1) := by decide +kernel
theorem dX3_endSkipsHere_49 : decode cX3_endSkipsHere 49 = .ok (.iaload, 1) := by decide +kernel
theorem dX3_endSkipsHere_50 : decode cX3_endSkipsHere 50 = .ok (.ldc 52, 2) := by decide +kernel
theorem dX3_endSkipsHere_52 : decode cX3_endSkipsHere 52 = .ok (.iand, 1) := by decide +kernel
theorem dX3_endSkipsHere_53 : decode cX3_endSkipsHere 53 = .ok (.aload_n 0, 1) := by decide +kernel
theorem dX3_endSkipsHere_54 : decode cX3_endSkipsHere 54 = .ok (.getfield 38, 3) := by decide +kernel
theorem dX3_endSkipsHere_57 : decode cX3_endSkipsHere 57 = .ok (.ior, 1) := by decide +kernel
theorem dX3_endSkipsHere_58 : decode cX3_endSkipsHere 58 = .ok (.iastore, 1) := by decide +kernel
theorem dX3_endSkipsHere_59 : decode cX3_endSkipsHere 59 = .ok (.iload 4, 2) := by decide +kernel
theorem dX3_endSkipsHere_61 : decode cX3_endSkipsHere 61 = .ok (.istore_n 2, 1) := by decide +kernel
theorem dX3_endSkipsHere_62 : decode cX3_endSkipsHere 62 = .ok (.iinc 3 1, 3) := by decide +kernel
theorem dX3_endSkipsHere_65 : decode cX3_endSkipsHere 65 = .ok (.goto (-61), 3) := by decide +kernel
theorem dX3_endSkipsHere_68 : decode cX3_endSkipsHere 68 = .ok (.return_, 1) := by decide +kernel
theorem dX3_setCorner_0 : decode cX3_setCorner 0 = .ok (.aload_n 0, 1) := by decide +kernel
theorem dX3_setCorner_1 : decode cX3_setCorner 1 = .ok (.getfield 25, 3) := by decide +kernel
theorem dX3_setCorner_4 : decode cX3_setCorner 4 = .ok (.iconst 1, 1) := by decide +kernel
theorem dX3_setCorner_5 : decode cX3_setCorner 5 = .ok (.iload_n 1, 1) := by decide +kernel
theorem dX3_setCorner_6 : decode cX3_setCorner 6 = .ok (.iastore, 1) := by decide +kernel
theorem dX3_setCorner_7 : decode cX3_setCorner 7 = .ok (.aload_n 0, 1) := by decide +kernel
theorem dX3_setCorner_8 : decode cX3_setCorner 8 = .ok (.getfield 25, 3) := by decide +kernel
theorem dX3_setCorner_11 : decode cX3_setCorner 11 = .ok (.iconst 2, 1) := by decide +kernel
theorem dX3_setCorner_12 : decode cX3_setCorner 12 = .ok (.iload_n 2, 1) := by decide +kernel
theorem dX3_setCorner_13 : decode cX3_setCorner 13 = .ok (.iastore, 1) := by decide +kernel
theorem dX3_setCorner_14 : decode cX3_setCorner 14 = .ok (.aload_n 0, 1) := by decide +kernel
theorem dX3_setCorner_15 : decode cX3_setCorner 15 = .ok (.getfield 25, 3) := by decide +kernel
theorem dX3_setCorner_18 : decode cX3_setCorner 18 = .ok (.iconst 3, 1) := by decide +kernel
theorem dX3_setCorner_19 : decode cX3_setCorner 19 = .ok (.iload_n 3, 1) := by decide +kernel
theorem dX3_setCorner_20 : decode cX3_setCorner 20 = .ok (.iastore, 1) := by decide +kernel
theorem dX3_setCorner_21 : decode cX3_setCorner 21 = .ok (.aload_n 0, 1) := by decide +kernel
theorem dX3_setCorner_22 : decode cX3_setCorner 22 = .ok (.getfield 25, 3) := by decide +kernel
theorem dX3_setCorner_25 : decode cX3_setCorner 25 = .ok (.iconst 4, 1) := by decide +kernel
theorem dX3_setCorner_26 : decode cX3_setCorner 26 = .ok (.iload 4, 2) := by decide +kernel
theorem dX3_setCorner_28 : decode cX3_setCorner 28 = .ok (.iastore, 1) := by decide +kernel
theorem dX3_setCorner_29 : decode cX3_setCorner 29 = .ok (.return_, 1) := by decide +kernel
theorem dX3_setState_0 : decode cX3_setState 0 = .ok (.aload_n 0, 1) := by decide +kernel
theorem dX3_setState_1 : decode cX3_setState 1 = .ok (.getfield 25, 3) := by decide +kernel
theorem dX3_setState_4 : decode cX3_setState 4 = .ok (.iconst 0, 1) := by decide +kernel
theorem dX3_setState_5 : decode cX3_setState 5 = .ok (.iload_n 1, 1) := by decide +kernel
theorem dX3_setState_6 : decode cX3_setState 6 = .ok (.iastore, 1) := by decide +kernel
theorem dX3_setState_7 : decode cX3_setState 7 = .ok (.aload_n 0, 1) := by decide +kernel
theorem dX3_setState_8 : decode cX3_setState 8 = .ok (.getfield 25, 3) := by decide +kernel
theorem dX3_setState_11 : decode cX3_setState 11 = .ok (.iconst 5, 1) := by decide +kernel
theorem dX3_setState_12 : decode cX3_setState 12 = .ok (.iload_n 2, 1) := by decide +kernel
theorem dX3_setState_13 : decode cX3_setState 13 = .ok (.iastore, 1) := by decide +kernel
theorem dX3_setState_14 : decode cX3_setState 14 = .ok (.aload_n 0, 1) := by decide +kernel
theorem dX3_setState_15 : decode cX3_setState 15 = .ok (.getfield 25, 3) := by decide +kernel
theorem dX3_setState_18 : decode cX3_setState 18 = .ok (.bipush 6, 2) := by decide +kernel
theorem dX3_setState_20 : decode cX3_setState 20 = .ok (.iconst 0, 1) := by decide +kernel
theorem dX3_setState_21 : decode cX3_setState 21 = .ok (.iastore, 1) := by decide +kernel
theorem dX3_setState_22 : decode cX3_setState 22 = .ok (.aload_n 0, 1) := by decide +kernel
theorem dX3_setState_23 : decode cX3_setState 23 = .ok (.getfield 25, 3) := by decide +kernel
theorem dX3_setState_26 : decode cX3_setState 26 = .ok (.bipush 7, 2) := by decide +kernel
theorem dX3_setState_28 : decode cX3_setState 28 = .ok (.iload_n 3, 1) := by decide +kernel
theorem dX3_setState_29 : decode cX3_setState 29 = .ok (.iastore, 1) := by decide +kernel
theorem dX3_setState_30 : decode cX3_setState 30 = .ok (.aload_n 0, 1) := by decide +kernel
theorem dX3_setState_31 : decode cX3_setState 31 = .ok (.getfield 25, 3) := by decide +kernel
theorem dX3_setState_34 : decode cX3_setState 34 = .ok (.bipush 8, 2) := by decide +kernel
theorem dX3_setState_36 : decode cX3_setState 36 = .ok (.iload 4, 2) := by decide +kernel
theorem dX3_setState_38 : decode cX3_setState 38 = .ok (.iastore, 1) := by decide +kernel
theorem dX3_setState_39 : decode cX3_setState 39 = .ok (.aload_n 0, 1) := by decide +kernel
theorem dX3_setState_40 : decode cX3_setState 40 = .ok (.getfield 25, 3) := by decide +kernel
theorem dX3_setState_43 : decode cX3_setState 43 = .ok (.bipush 9, 2) := by decide +kernel
theorem dX3_setState_45 : decode cX3_setState 45 = .ok (.iload 5, 2) := by decide +kernel
theorem dX3_setState_47 : decode cX3_setState 47 = .ok (.iastore, 1) := by decide +kernel
theorem dX3_setState_48 : decode cX3_setState 48 = .ok (.return_, 1) := by decide +kernel
theorem dX3_setPulled_0 : decode cX3_setPulled 0 = .ok (.aload_n 0, 1) := by decide +kernel
theorem dX3_setPulled_1 : decode cX3_setPulled 1 = .ok (.getfield 25, 3) := by decide +kernel
theorem dX3_setPulled_4 : decode cX3_setPulled 4 = .ok (.bipush 6, 2) := by decide +kernel
theorem dX3_setPulled_6 : decode cX3_setPulled 6 = .ok (.iload_n 1, 1) := by decide +kernel
theorem dX3_setPulled_7 : decode cX3_setPulled 7 = .ok (.iastore, 1) := by decide +kernel
theorem dX3_setPulled_8 : decode cX3_setPulled 8 = .ok (.return_, 1) := by decide +kernel
theorem dX3_amount_0 : decode cX3_amount 0 = .ok (.iconst 0, 1) := by decide +kernel
theorem dX3_amount_1 : decode cX3_amount 1 = .ok (.istore_n 3, 1) := by decide +kernel
theorem dX3_amount_2 : decode cX3_amount 2 = .ok (.iload_n 3, 1) := by decide +kernel
theorem dX3_amount_3 : decode cX3_amount 3 = .ok (.aload_n 0, 1) := by decide +kernel
theorem dX3_amount_4 : decode cX3_amount 4 = .ok (.getfield 31, 3) := by decide +kernel
theorem dX3_amount_7 : decode cX3_amount 7 = .ok (.if_icmp .ge 97, 3) := by decide +kernel
theorem dX3_amount_10 : decode cX3_amount 10 = .ok (.iload_n 3, 1) := by decide +kernel
theorem dX3_amount_11 : decode cX3_amount 11 = .ok (.bipush 12, 2) := by decide +kernel
theorem dX3_amount_13 : decode cX3_amount 13 = .ok (.if_icmp .ge 91, 3) := by decide +kernel
theorem dX3_amount_16 : decode cX3_amount 16 = .ok (.aload_n 0, 1) := by decide +kernel
theorem dX3_amount_17 : decode cX3_amount 17 = .ok (.getfield 13, 3) := by decide +kernel
theorem dX3_amount_20 : decode cX3_amount 20 = .ok (.iload_n 3, 1) := by decide +kernel
theorem dX3_amount_21 : decode cX3_amount 21 = .ok (.iaload, 1) := by decide +kernel
theorem dX3_amount_22 : decode cX3_amount 22 = .ok (.iload_n 1, 1) := by decide +kernel
theorem dX3_amount_23 : decode cX3_amount 23 = .ok (.if_icmp .ne 75, 3) := by decide +kernel
theorem dX3_amount_26 : decode cX3_amount 26 = .ok (.aload_n 0, 1) := by decide +kernel
theorem dX3_amount_27 : decode cX3_amount 27 = .ok (.aload_n 0, 1) := by decide +kernel
theorem dX3_amount_28 : decode cX3_amount 28 = .ok (.getfield 19, 3) := by decide +kernel
theorem dX3_amount_31 : decode cX3_amount 31 = .ok (.iload_n 3, 1) := by decide +kernel
theorem dX3_amount_32 : decode cX3_amount 32 = .ok (.iaload, 1) := by decide +kernel
theorem dX3_amount_33 : decode cX3_amount 33 = .ok (.aload_n 0, 1) := by decide +kernel
theorem dX3_amount_34 : decode cX3_amount 34 = .ok (.getfield 22, 3) := by decide +kernel
theorem dX3_amount_37 : decode cX3_amount 37 = .ok (.iload_n 3, 1) := by decide +kernel
theorem dX3_amount_38 : decode cX3_amount 38 = .ok (.iaload, 1) := by decide +kernel
theorem dX3_amount_39 : decode cX3_amount 39 = .ok (.invokevirtual 53, 3) := by decide +kernel
theorem dX3_amount_42 : decode cX3_amount 42 = .ok (.aload_n 0, 1) := by decide +kernel
theorem dX3_amount_43 : decode cX3_amount 43 = .ok (.getfield 56, 3) := by decide +kernel
theorem dX3_amount_46 : decode cX3_amount 46 = .ok (.ifCond .eq 52, 3) := by decide +kernel
theorem dX3_amount_49 : decode cX3_amount 49 = .ok (.aload_n 0, 1) := by decide +kernel
theorem dX3_amount_50 : decode cX3_amount 50 = .ok (.getfield 60, 3) := by decide +kernel
theorem dX3_amount_53 : decode cX3_amount 53 = .ok (.ifCond .ne 45, 3) := by decide +kernel
theorem dX3_amount_56 : decode cX3_amount 56 = .ok (.aload_n 0, 1) := by decide +kernel
theorem dX3_amount_57 : decode cX3_amount 57 = .ok (.aload_n 0, 1) := by decide +kernel
theorem dX3_amount_58 : decode cX3_amount 58 = .ok (.getfield 16, 3) := by decide +kernel
theorem dX3_amount_61 : decode cX3_amount 61 = .ok (.iload_n 3, 1) := by decide +kernel
theorem dX3_amount_62 : decode cX3_amount 62 = .ok (.iaload, 1) := by decide +kernel
theorem dX3_amount_63 : decode cX3_amount 63 = .ok (.aload_n 0, 1) := by decide +kernel
theorem dX3_amount_64 : decode cX3_amount 64 = .ok (.getfield 19, 3) := by decide +kernel
theorem dX3_amount_67 : decode cX3_amount 67 = .ok (.iload_n 3, 1) := by decide +kernel
theorem dX3_amount_68 : decode cX3_amount 68 = .ok (.iaload, 1) := by decide +kernel
theorem dX3_amount_69 : decode cX3_amount 69 = .ok (.invokevirtual 53, 3) := by decide +kernel
theorem dX3_amount_72 : decode cX3_amount 72 = .ok (.aload_n 0, 1) := by decide +kernel
theorem dX3_amount_73 : decode cX3_amount 73 = .ok (.getfield 60, 3) := by decide +kernel
theorem dX3_amount_76 : decode cX3_amount 76 = .ok (.ifCond .eq 7, 3) := by decide +kernel
theorem dX3_amount_79 : decode cX3_amount 79 = .ok (.iconst 0, 1) := by decide +kernel
theorem dX3_amount_80 : decode cX3_amount 80 = .ok (.goto 17, 3) := by decide +kernel
theorem dX3_amount_83 : decode cX3_amount 83 = .ok (.iconst 0, 1) := by decide +kernel
theorem dX3_amount_84 : decode cX3_amount 84 = .ok (.iload_n 2, 1) := by decide +kernel
theorem dX3_amount_85 : decode cX3_amount 85 = .ok (.aload_n 0, 1) := by decide +kernel
theorem dX3_amount_86 : decode cX3_amount 86 = .ok (.getfield 28, 3) := by decide +kernel
theorem dX3_amount_89 : decode cX3_amount 89 = .ok (.iconst 0, 1) := by decide +kernel
theorem dX3_amount_90 : decode cX3_amount 90 = .ok (.iaload, 1) := by decide +kernel
theorem dX3_amount_91 : decode cX3_amount 91 = .ok (.invokestatic 63, 3) := by decide +kernel
theorem dX3_amount_94 : decode cX3_amount 94 = .ok (.invokestatic 69, 3) := by decide +kernel
theorem dX3_amount_97 : decode cX3_amount 97 = .ok (.ireturn, 1) := by decide +kernel
theorem dX3_amount_98 : decode cX3_amount 98 = .ok (.iinc 3 1, 3) := by decide +kernel
theorem dX3_amount_101 : decode cX3_amount 101 = .ok (.goto (-99), 3) := by decide +kernel
theorem dX3_amount_104 : decode cX3_amount 104 = .ok (.iconst 0, 1) := by decide +kernel
theorem dX3_amount_105 : decode cX3_amount 105 = .ok (.ireturn, 1) := by decide +kernel
theorem dX3_run_0 : decode cX3_run 0 = .ok (.aload_n 0, 1) := by decide +kernel
theorem dX3_run_1 : decode cX3_run 1 = .ok (.iconst 0, 1) := by decide +kernel
theorem dX3_run_2 : decode cX3_run 2 = .ok (.putfield 72, 3) := by decide +kernel
theorem dX3_run_5 : decode cX3_run 5 = .ok (.aload_n 0, 1) := by decide +kernel
theorem dX3_run_6 : decode cX3_run 6 = .ok (.iconst 0, 1) := by decide +kernel
theorem dX3_run_7 : decode cX3_run 7 = .ok (.putfield 56, 3) := by decide +kernel
theorem dX3_run_10 : decode cX3_run 10 = .ok (.aload_n 0, 1) := by decide +kernel
theorem dX3_run_11 : decode cX3_run 11 = .ok (.iconst 0, 1) := by decide +kernel
theorem dX3_run_12 : decode cX3_run 12 = .ok (.putfield 60, 3) := by decide +kernel
theorem dX3_run_15 : decode cX3_run 15 = .ok (.iload_n 1, 1) := by decide +kernel
theorem dX3_run_16 : decode cX3_run 16 = .ok (.istore_n 3, 1) := by decide +kernel
theorem dX3_run_17 : decode cX3_run 17 = .ok (.iload_n 3, 1) := by decide +kernel
theorem dX3_run_18 : decode cX3_run 18 = .ok (.iload_n 2, 1) := by decide +kernel
theorem dX3_run_19 : decode cX3_run 19 = .ok (.if_icmp .ge 167, 3) := by decide +kernel
theorem dX3_run_22 : decode cX3_run 22 = .ok (.aload_n 0, 1) := by decide +kernel
theorem dX3_run_23 : decode cX3_run 23 = .ok (.getfield 60, 3) := by decide +kernel
theorem dX3_run_26 : decode cX3_run 26 = .ok (.ifCond .ne 160, 3) := by decide +kernel
theorem dX3_run_29 : decode cX3_run 29 = .ok (.aload_n 0, 1) := by decide +kernel
theorem dX3_run_30 : decode cX3_run 30 = .ok (.getfield 9, 3) := by decide +kernel
theorem dX3_run_33 : decode cX3_run 33 = .ok (.iload_n 3, 1) := by decide +kernel
theorem dX3_run_34 : decode cX3_run 34 = .ok (.invokestatic 75, 3) := by decide +kernel
theorem dX3_run_37 : decode cX3_run 37 = .ok (.istore 4, 2) := by decide +kernel
theorem dX3_run_39 : decode cX3_run 39 = .ok (.iload 4, 2) := by decide +kernel
theorem dX3_run_41 : decode cX3_run 41 = .ok (.ldc 51, 2) := by decide +kernel
theorem dX3_run_43 : decode cX3_run 43 = .ok (.iand, 1) := by decide +kernel
theorem dX3_run_44 : decode cX3_run 44 = .ok (.istore 5, 2) := by decide +kernel
theorem dX3_run_46 : decode cX3_run 46 = .ok (.iinc 3 1, 3) := by decide +kernel
theorem dX3_run_49 : decode cX3_run 49 = .ok (.iload 4, 2) := by decide +kernel
theorem dX3_run_51 : decode cX3_run 51 = .ok (.bipush 20, 2) := by decide +kernel
theorem dX3_run_53 : decode cX3_run 53 = .ok (.ishr, 1) := by decide +kernel
theorem dX3_run_54 : decode cX3_run 54 = .ok (.tableswitch 120 1 5 #[34, 43, 59, 78, 99], 34) := by decide +kernel
theorem dX3_run_88 : decode cX3_run 88 = .ok (.aload_n 0, 1) := by decide +kernel
theorem dX3_run_89 : decode cX3_run 89 = .ok (.iload 5, 2) := by decide +kernel
theorem dX3_run_91 : decode cX3_run 91 = .ok (.invokevirtual 79, 3) := by decide +kernel
theorem dX3_run_94 : decode cX3_run 94 = .ok (.goto 89, 3) := by decide +kernel
theorem dX3_run_97 : decode cX3_run 97 = .ok (.aload_n 0, 1) := by decide +kernel
theorem dX3_run_98 : decode cX3_run 98 = .ok (.aload_n 0, 1) := by decide +kernel
theorem dX3_run_99 : decode cX3_run 99 = .ok (.getfield 25, 3) := by decide +kernel
theorem dX3_run_102 : decode cX3_run 102 = .ok (.iload 5, 2) := by decide +kernel
theorem dX3_run_104 : decode cX3_run 104 = .ok (.invokestatic 75, 3) := by decide +kernel
theorem dX3_run_107 : decode cX3_run 107 = .ok (.invokevirtual 79, 3) := by decide +kernel
theorem dX3_run_110 : decode cX3_run 110 = .ok (.goto 73, 3) := by decide +kernel
theorem dX3_run_113 : decode cX3_run 113 = .ok (.aload_n 0, 1) := by decide +kernel
theorem dX3_run_114 : decode cX3_run 114 = .ok (.aload_n 0, 1) := by decide +kernel
theorem dX3_run_115 : decode cX3_run 115 = .ok (.getfield 56, 3) := by decide +kernel
theorem dX3_run_118 : decode cX3_run 118 = .ok (.ifCond .ne 7, 3) := by decide +kernel
theorem dX3_run_121 : decode cX3_run 121 = .ok (.iconst 1, 1) := by decide +kernel
theorem dX3_run_122 : decode cX3_run 122 = .ok (.goto 4, 3) := by decide +kernel
theorem dX3_run_125 : decode cX3_run 125 = .ok (.iconst 0, 1) := by decide +kernel
theorem dX3_run_126 : decode cX3_run 126 = .ok (.putfield 56, 3) := by decide +kernel
theorem dX3_run_129 : decode cX3_run 129 = .ok (.goto 54, 3) := by decide +kernel
theorem dX3_run_132 : decode cX3_run 132 = .ok (.aload_n 0, 1) := by decide +kernel
theorem dX3_run_133 : decode cX3_run 133 = .ok (.getfield 56, 3) := by decide +kernel
theorem dX3_run_136 : decode cX3_run 136 = .ok (.ifCond .eq 12, 3) := by decide +kernel
theorem dX3_run_139 : decode cX3_run 139 = .ok (.iload_n 3, 1) := by decide +kernel
theorem dX3_run_140 : decode cX3_run 140 = .ok (.iload 5, 2) := by decide +kernel
theorem dX3_run_142 : decode cX3_run 142 = .ok (.invokestatic 69, 3) := by decide +kernel
theorem dX3_run_145 : decode cX3_run 145 = .ok (.goto 4, 3) := by decide +kernel
theorem dX3_run_148 : decode cX3_run 148 = .ok (.iload_n 3, 1) := by decide +kernel
theorem dX3_run_149 : decode cX3_run 149 = .ok (.istore_n 3, 1) := by decide +kernel
theorem dX3_run_150 : decode cX3_run 150 = .ok (.goto 33, 3) := by decide +kernel
theorem dX3_run_153 : decode cX3_run 153 = .ok (.aload_n 0, 1) := by decide +kernel
theorem dX3_run_154 : decode cX3_run 154 = .ok (.getfield 56, 3) := by decide +kernel
theorem dX3_run_157 : decode cX3_run 157 = .ok (.ifCond .eq 7, 3) := by decide +kernel
theorem dX3_run_160 : decode cX3_run 160 = .ok (.iload_n 3, 1) := by decide +kernel
theorem dX3_run_161 : decode cX3_run 161 = .ok (.goto 9, 3) := by decide +kernel
theorem dX3_run_164 : decode cX3_run 164 = .ok (.iload_n 3, 1) := by decide +kernel
theorem dX3_run_165 : decode cX3_run 165 = .ok (.iload 5, 2) := by decide +kernel
theorem dX3_run_167 : decode cX3_run 167 = .ok (.invokestatic 69, 3) := by decide +kernel
theorem dX3_run_170 : decode cX3_run 170 = .ok (.istore_n 3, 1) := by decide +kernel
theorem dX3_run_171 : decode cX3_run 171 = .ok (.goto 12, 3) := by decide +kernel
theorem dX3_run_174 : decode cX3_run 174 = .ok (.aload_n 0, 1) := by decide +kernel
theorem dX3_run_175 : decode cX3_run 175 = .ok (.iload 4, 2) := by decide +kernel
theorem dX3_run_177 : decode cX3_run 177 = .ok (.bipush 20, 2) := by decide +kernel
theorem dX3_run_179 : decode cX3_run 179 = .ok (.ishr, 1) := by decide +kernel
theorem dX3_run_180 : decode cX3_run 180 = .ok (.invokevirtual 83, 3) := by decide +kernel
theorem dX3_run_183 : decode cX3_run 183 = .ok (.goto (-166), 3) := by decide +kernel
theorem dX3_run_186 : decode cX3_run 186 = .ok (.return_, 1) := by decide +kernel
theorem dX3_push_0 : decode cX3_push 0 = .ok (.aload_n 0, 1) := by decide +kernel
theorem dX3_push_1 : decode cX3_push 1 = .ok (.getfield 72, 3) := by decide +kernel
theorem dX3_push_4 : decode cX3_push 4 = .ok (.ifCond .lt 38, 3) := by decide +kernel
theorem dX3_push_7 : decode cX3_push 7 = .ok (.aload_n 0, 1) := by decide +kernel
theorem dX3_push_8 : decode cX3_push 8 = .ok (.getfield 72, 3) := by decide +kernel
theorem dX3_push_11 : decode cX3_push 11 = .ok (.aload_n 0, 1) := by decide +kernel
theorem dX3_push_12 : decode cX3_push 12 = .ok (.getfield 28, 3) := by decide +kernel
theorem dX3_push_15 : decode cX3_push 15 = .ok (.arraylength, 1) := by decide +kernel
theorem dX3_push_16 : decode cX3_push 16 = .ok (.if_icmp .ge 26, 3) := by decide +kernel
theorem dX3_push_19 : decode cX3_push 19 = .ok (.aload_n 0, 1) := by decide +kernel
theorem dX3_push_20 : decode cX3_push 20 = .ok (.getfield 28, 3) := by decide +kernel
theorem dX3_push_23 : decode cX3_push 23 = .ok (.aload_n 0, 1) := by decide +kernel
theorem dX3_push_24 : decode cX3_push 24 = .ok (.getfield 72, 3) := by decide +kernel
theorem dX3_push_27 : decode cX3_push 27 = .ok (.iload_n 1, 1) := by decide +kernel
theorem dX3_push_28 : decode cX3_push 28 = .ok (.iastore, 1) := by decide +kernel
theorem dX3_push_29 : decode cX3_push 29 = .ok (.aload_n 0, 1) := by decide +kernel
theorem dX3_push_30 : decode cX3_push 30 = .ok (.dup, 1) := by decide +kernel
theorem dX3_push_31 : decode cX3_push 31 = .ok (.getfield 72, 3) := by decide +kernel
theorem dX3_push_34 : decode cX3_push 34 = .ok (.iconst 1, 1) := by decide +kernel
theorem dX3_push_35 : decode cX3_push 35 = .ok (.iadd, 1) := by decide +kernel
theorem dX3_push_36 : decode cX3_push 36 = .ok (.putfield 72, 3) := by decide +kernel
theorem dX3_push_39 : decode cX3_push 39 = .ok (.goto 8, 3) := by decide +kernel
theorem dX3_push_42 : decode cX3_push 42 = .ok (.aload_n 0, 1) := by decide +kernel
theorem dX3_push_43 : decode cX3_push 43 = .ok (.iconst 1, 1) := by decide +kernel
theorem dX3_push_44 : decode cX3_push 44 = .ok (.putfield 60, 3) := by decide +kernel
theorem dX3_push_47 : decode cX3_push 47 = .ok (.return_, 1) := by decide +kernel
theorem dX3_reckon_0 : decode cX3_reckon 0 = .ok (.aload_n 0, 1) := by decide +kernel
theorem dX3_reckon_1 : decode cX3_reckon 1 = .ok (.getfield 72, 3) := by decide +kernel
theorem dX3_reckon_4 : decode cX3_reckon 4 = .ok (.iconst 2, 1) := by decide +kernel
theorem dX3_reckon_5 : decode cX3_reckon 5 = .ok (.if_icmp .lt 41, 3) := by decide +kernel
theorem dX3_reckon_8 : decode cX3_reckon 8 = .ok (.aload_n 0, 1) := by decide +kernel
theorem dX3_reckon_9 : decode cX3_reckon 9 = .ok (.getfield 72, 3) := by decide +kernel
theorem dX3_reckon_12 : decode cX3_reckon 12 = .ok (.aload_n 0, 1) := by decide +kernel
theorem dX3_reckon_13 : decode cX3_reckon 13 = .ok (.getfield 28, 3) := by decide +kernel
theorem dX3_reckon_16 : decode cX3_reckon 16 = .ok (.arraylength, 1) := by decide +kernel
theorem dX3_reckon_17 : decode cX3_reckon 17 = .ok (.if_icmp .gt 29, 3) := by decide +kernel
theorem dX3_reckon_20 : decode cX3_reckon 20 = .ok (.iload_n 1, 1) := by decide +kernel
theorem dX3_reckon_21 : decode cX3_reckon 21 = .ok (.bipush 47, 2) := by decide +kernel
theorem dX3_reckon_23 : decode cX3_reckon 23 = .ok (.if_icmp .eq 9, 3) := by decide +kernel
theorem dX3_reckon_26 : decode cX3_reckon 26 = .ok (.iload_n 1, 1) := by decide +kernel
theorem dX3_reckon_27 : decode cX3_reckon 27 = .ok (.bipush 37, 2) := by decide +kernel
theorem dX3_reckon_29 : decode cX3_reckon 29 = .ok (.if_icmp .ne 23, 3) := by decide +kernel
theorem dX3_reckon_32 : decode cX3_reckon 32 = .ok (.aload_n 0, 1) := by decide +kernel
theorem dX3_reckon_33 : decode cX3_reckon 33 = .ok (.getfield 28, 3) := by decide +kernel
theorem dX3_reckon_36 : decode cX3_reckon 36 = .ok (.aload_n 0, 1) := by decide +kernel
theorem dX3_reckon_37 : decode cX3_reckon 37 = .ok (.getfield 72, 3) := by decide +kernel
theorem dX3_reckon_40 : decode cX3_reckon 40 = .ok (.iconst 1, 1) := by decide +kernel
theorem dX3_reckon_41 : decode cX3_reckon 41 = .ok (.isub, 1) := by decide +kernel
theorem dX3_reckon_42 : decode cX3_reckon 42 = .ok (.iaload, 1) := by decide +kernel
theorem dX3_reckon_43 : decode cX3_reckon 43 = .ok (.ifCond .ne 9, 3) := by decide +kernel
theorem dX3_reckon_46 : decode cX3_reckon 46 = .ok (.aload_n 0, 1) := by decide +kernel
theorem dX3_reckon_47 : decode cX3_reckon 47 = .ok (.iconst 1, 1) := by decide +kernel
theorem dX3_reckon_48 : decode cX3_reckon 48 = .ok (.putfield 60, 3) := by decide +kernel
theorem dX3_reckon_51 : decode cX3_reckon 51 = .ok (.return_, 1) := by decide +kernel
theorem dX3_reckon_52 : decode cX3_reckon 52 = .ok (.aload_n 0, 1) := by decide +kernel
theorem dX3_reckon_53 : decode cX3_reckon 53 = .ok (.getfield 28, 3) := by decide +kernel
theorem dX3_reckon_56 : decode cX3_reckon 56 = .ok (.aload_n 0, 1) := by decide +kernel
theorem dX3_reckon_57 : decode cX3_reckon 57 = .ok (.getfield 72, 3) := by decide +kernel
theorem dX3_reckon_60 : decode cX3_reckon 60 = .ok (.iconst 1, 1) := by decide +kernel
theorem dX3_reckon_61 : decode cX3_reckon 61 = .ok (.isub, 1) := by decide +kernel
theorem dX3_reckon_62 : decode cX3_reckon 62 = .ok (.iaload, 1) := by decide +kernel
theorem dX3_reckon_63 : decode cX3_reckon 63 = .ok (.istore_n 2, 1) := by decide +kernel
theorem dX3_reckon_64 : decode cX3_reckon 64 = .ok (.aload_n 0, 1) := by decide +kernel
theorem dX3_reckon_65 : decode cX3_reckon 65 = .ok (.getfield 28, 3) := by decide +kernel
theorem dX3_reckon_68 : decode cX3_reckon 68 = .ok (.aload_n 0, 1) := by decide +kernel
theorem dX3_reckon_69 : decode cX3_reckon 69 = .ok (.getfield 72, 3) := by decide +kernel
theorem dX3_reckon_72 : decode cX3_reckon 72 = .ok (.iconst 2, 1) := by decide +kernel
theorem dX3_reckon_73 : decode cX3_reckon 73 = .ok (.isub, 1) := by decide +kernel
theorem dX3_reckon_74 : decode cX3_reckon 74 = .ok (.iaload, 1) := by decide +kernel
theorem dX3_reckon_75 : decode cX3_reckon 75 = .ok (.istore_n 3, 1) := by decide +kernel
theorem dX3_reckon_76 : decode cX3_reckon 76 = .ok (.aload_n 0, 1) := by decide +kernel
theorem dX3_reckon_77 : decode cX3_reckon 77 = .ok (.dup, 1) := by decide +kernel
theorem dX3_reckon_78 : decode cX3_reckon 78 = .ok (.getfield 72, 3) := by decide +kernel
theorem dX3_reckon_81 : decode cX3_reckon 81 = .ok (.iconst 1, 1) := by decide +kernel
theorem dX3_reckon_82 : decode cX3_reckon 82 = .ok (.isub, 1) := by decide +kernel
theorem dX3_reckon_83 : decode cX3_reckon 83 = .ok (.putfield 72, 3) := by decide +kernel
theorem dX3_reckon_86 : decode cX3_reckon 86 = .ok (.iload_n 1, 1) := by decide +kernel
theorem dX3_reckon_87 : decode cX3_reckon 87 = .ok (.tableswitch 142 37 47 #[125, 142, 142, 142, 142, 91, 57, 142, 74, 142, 108], 57) := by decide +kernel
theorem dX3_reckon_144 : decode cX3_reckon 144 = .ok (.aload_n 0, 1) := by decide +kernel
theorem dX3_reckon_145 : decode cX3_reckon 145 = .ok (.getfield 28, 3) := by decide +kernel
theorem dX3_reckon_148 : decode cX3_reckon 148 = .ok (.aload_n 0, 1) := by decide +kernel
theorem dX3_reckon_149 : decode cX3_reckon 149 = .ok (.getfield 72, 3) := by decide +kernel
theorem dX3_reckon_152 : decode cX3_reckon 152 = .ok (.iconst 1, 1) := by decide +kernel
theorem dX3_reckon_153 : decode cX3_reckon 153 = .ok (.isub, 1) := by decide +kernel
theorem dX3_reckon_154 : decode cX3_reckon 154 = .ok (.iload_n 3, 1) := by decide +kernel
theorem dX3_reckon_155 : decode cX3_reckon 155 = .ok (.iload_n 2, 1) := by decide +kernel
theorem dX3_reckon_156 : decode cX3_reckon 156 = .ok (.iadd, 1) := by decide +kernel
theorem dX3_reckon_157 : decode cX3_reckon 157 = .ok (.iastore, 1) := by decide +kernel
theorem dX3_reckon_158 : decode cX3_reckon 158 = .ok (.goto 133, 3) := by decide +kernel
theorem dX3_reckon_161 : decode cX3_reckon 161 = .ok (.aload_n 0, 1) := by decide +kernel
theorem dX3_reckon_162 : decode cX3_reckon 162 = .ok (.getfield 28, 3) := by decide +kernel
theorem dX3_reckon_165 : decode cX3_reckon 165 = .ok (.aload_n 0, 1) := by decide +kernel
theorem dX3_reckon_166 : decode cX3_reckon 166 = .ok (.getfield 72, 3) := by decide +kernel
theorem dX3_reckon_169 : decode cX3_reckon 169 = .ok (.iconst 1, 1) := by decide +kernel
theorem dX3_reckon_170 : decode cX3_reckon 170 = .ok (.isub, 1) := by decide +kernel
theorem dX3_reckon_171 : decode cX3_reckon 171 = .ok (.iload_n 3, 1) := by decide +kernel
theorem dX3_reckon_172 : decode cX3_reckon 172 = .ok (.iload_n 2, 1) := by decide +kernel
theorem dX3_reckon_173 : decode cX3_reckon 173 = .ok (.isub, 1) := by decide +kernel
theorem dX3_reckon_174 : decode cX3_reckon 174 = .ok (.iastore, 1) := by decide +kernel
theorem dX3_reckon_175 : decode cX3_reckon 175 = .ok (.goto 116, 3) := by decide +kernel
theorem dX3_reckon_178 : decode cX3_reckon 178 = .ok (.aload_n 0, 1) := by decide +kernel
theorem dX3_reckon_179 : decode cX3_reckon 179 = .ok (.getfield 28, 3) := by decide +kernel
theorem dX3_reckon_182 : decode cX3_reckon 182 = .ok (.aload_n 0, 1) := by decide +kernel
theorem dX3_reckon_183 : decode cX3_reckon 183 = .ok (.getfield 72, 3) := by decide +kernel
theorem dX3_reckon_186 : decode cX3_reckon 186 = .ok (.iconst 1, 1) := by decide +kernel
theorem dX3_reckon_187 : decode cX3_reckon 187 = .ok (.isub, 1) := by decide +kernel
theorem dX3_reckon_188 : decode cX3_reckon 188 = .ok (.iload_n 3, 1) := by decide +kernel
theorem dX3_reckon_189 : decode cX3_reckon 189 = .ok (.iload_n 2, 1) := by decide +kernel
theorem dX3_reckon_190 : decode cX3_reckon 190 = .ok (.imul, 1) := by decide +kernel
theorem dX3_reckon_191 : decode cX3_reckon 191 = .ok (.iastore, 1) := by decide +kernel
theorem dX3_reckon_192 : decode cX3_reckon 192 = .ok (.goto 99, 3) := by decide +kernel
theorem dX3_reckon_195 : decode cX3_reckon 195 = .ok (.aload_n 0, 1) := by decide +kernel
theorem dX3_reckon_196 : decode cX3_reckon 196 = .ok (.getfield 28, 3) := by decide +kernel
theorem dX3_reckon_199 : decode cX3_reckon 199 = .ok (.aload_n 0, 1) := by decide +kernel
theorem dX3_reckon_200 : decode cX3_reckon 200 = .ok (.getfield 72, 3) := by decide +kernel
theorem dX3_reckon_203 : decode cX3_reckon 203 = .ok (.iconst 1, 1) := by decide +kernel
theorem dX3_reckon_204 : decode cX3_reckon 204 = .ok (.isub, 1) := by decide +kernel
theorem dX3_reckon_205 : decode cX3_reckon 205 = .ok (.iload_n 3, 1) := by decide +kernel
theorem dX3_reckon_206 : decode cX3_reckon 206 = .ok (.iload_n 2, 1) := by decide +kernel
theorem dX3_reckon_207 : decode cX3_reckon 207 = .ok (.idiv, 1) := by decide +kernel
theorem dX3_reckon_208 : decode cX3_reckon 208 = .ok (.iastore, 1) := by decide +kernel
theorem dX3_reckon_209 : decode cX3_reckon 209 = .ok (.goto 82, 3) := by decide +kernel
theorem dX3_reckon_212 : decode cX3_reckon 212 = .ok (.aload_n 0, 1) := by decide +kernel
theorem dX3_reckon_213 : decode cX3_reckon 213 = .ok (.getfield 28, 3) := by decide +kernel
theorem dX3_reckon_216 : decode cX3_reckon 216 = .ok (.aload_n 0, 1) := by decide +kernel
theorem dX3_reckon_217 : decode cX3_reckon 217 = .ok (.getfield 72, 3) := by decide +kernel
theorem dX3_reckon_220 : decode cX3_reckon 220 = .ok (.iconst 1, 1) := by decide +kernel
theorem dX3_reckon_221 : decode cX3_reckon 221 = .ok (.isub, 1) := by decide +kernel
theorem dX3_reckon_222 : decode cX3_reckon 222 = .ok (.iload_n 3, 1) := by decide +kernel
theorem dX3_reckon_223 : decode cX3_reckon 223 = .ok (.iload_n 2, 1) := by decide +kernel
theorem dX3_reckon_224 : decode cX3_reckon 224 = .ok (.irem, 1) := by decide +kernel
theorem dX3_reckon_225 : decode cX3_reckon 225 = .ok (.iastore, 1) := by decide +kernel
theorem dX3_reckon_226 : decode cX3_reckon 226 = .ok (.goto 65, 3) := by decide +kernel
theorem dX3_reckon_229 : decode cX3_reckon 229 = .ok (.aload_n 0, 1) := by decide +kernel
theorem dX3_reckon_230 : decode cX3_reckon 230 = .ok (.iload_n 1, 1) := by decide +kernel
theorem dX3_reckon_231 : decode cX3_reckon 231 = .ok (.bipush 60, 2) := by decide +kernel
theorem dX3_reckon_233 : decode cX3_reckon 233 = .ok (.if_icmp .ne 16, 3) := by decide +kernel
theorem dX3_reckon_236 : decode cX3_reckon 236 = .ok (.iload_n 3, 1) := by decide +kernel
theorem dX3_reckon_237 : decode cX3_reckon 237 = .ok (.iload_n 2, 1) := by decide +kernel
theorem dX3_reckon_238 : decode cX3_reckon 238 = .ok (.if_icmp .ge 7, 3) := by decide +kernel
theorem dX3_reckon_241 : decode cX3_reckon 241 = .ok (.iconst 1, 1) := by decide +kernel
theorem dX3_reckon_242 : decode cX3_reckon 242 = .ok (.goto 36, 3) := by decide +kernel
theorem dX3_reckon_245 : decode cX3_reckon 245 = .ok (.iconst 0, 1) := by decide +kernel
theorem dX3_reckon_246 : decode cX3_reckon 246 = .ok (.goto 32, 3) := by decide +kernel
theorem dX3_reckon_249 : decode cX3_reckon 249 = .ok (.iload_n 1, 1) := by decide +kernel
theorem dX3_reckon_250 : decode cX3_reckon 250 = .ok (.bipush 62, 2) := by decide +kernel
theorem dX3_reckon_252 : decode cX3_reckon 252 = .ok (.if_icmp .ne 16, 3) := by decide +kernel
theorem dX3_reckon_255 : decode cX3_reckon 255 = .ok (.iload_n 3, 1) := by decide +kernel
theorem dX3_reckon_256 : decode cX3_reckon 256 = .ok (.iload_n 2, 1) := by decide +kernel
theorem dX3_reckon_257 : decode cX3_reckon 257 = .ok (.if_icmp .le 7, 3) := by decide +kernel
theorem dX3_reckon_260 : decode cX3_reckon 260 = .ok (.iconst 1, 1) := by decide +kernel
theorem dX3_reckon_261 : decode cX3_reckon 261 = .ok (.goto 17, 3) := by decide +kernel
theorem dX3_reckon_264 : decode cX3_reckon 264 = .ok (.iconst 0, 1) := by decide +kernel
theorem dX3_reckon_265 : decode cX3_reckon 265 = .ok (.goto 13, 3) := by decide +kernel
theorem dX3_reckon_268 : decode cX3_reckon 268 = .ok (.iload_n 3, 1) := by decide +kernel
theorem dX3_reckon_269 : decode cX3_reckon 269 = .ok (.iload_n 2, 1) := by decide +kernel
theorem dX3_reckon_270 : decode cX3_reckon 270 = .ok (.if_icmp .ne 7, 3) := by decide +kernel
theorem dX3_reckon_273 : decode cX3_reckon 273 = .ok (.iconst 1, 1) := by decide +kernel
theorem dX3_reckon_274 : decode cX3_reckon 274 = .ok (.goto 4, 3) := by decide +kernel
theorem dX3_reckon_277 : decode cX3_reckon 277 = .ok (.iconst 0, 1) := by decide +kernel
theorem dX3_reckon_278 : decode cX3_reckon 278 = .ok (.putfield 56, 3) := by decide +kernel
theorem dX3_reckon_281 : decode cX3_reckon 281 = .ok (.aload_n 0, 1) := by decide +kernel
theorem dX3_reckon_282 : decode cX3_reckon 282 = .ok (.dup, 1) := by decide +kernel
theorem dX3_reckon_283 : decode cX3_reckon 283 = .ok (.getfield 72, 3) := by decide +kernel
theorem dX3_reckon_286 : decode cX3_reckon 286 = .ok (.iconst 1, 1) := by decide +kernel
theorem dX3_reckon_287 : decode cX3_reckon 287 = .ok (.isub, 1) := by decide +kernel
theorem dX3_reckon_288 : decode cX3_reckon 288 = .ok (.putfield 72, 3) := by decide +kernel
theorem dX3_reckon_291 : decode cX3_reckon 291 = .ok (.return_, 1) := by decide +kernel
theorem dX4_init_0 : decode cX4_init 0 = .ok (.aload_n 0, 1) := by decide +kernel
theorem dX4_init_1 : decode cX4_init 1 = .ok (.invokespecial 3, 3) := by decide +kernel
theorem dX4_init_4 : decode cX4_init 4 = .ok (.aload_n 0, 1) := by decide +kernel
theorem dX4_init_5 : decode cX4_init 5 = .ok (.aload_n 1, 1) := by decide +kernel
theorem dX4_init_6 : decode cX4_init 6 = .ok (.putfield 9, 3) := by decide +kernel
theorem dX4_init_9 : decode cX4_init 9 = .ok (.aload_n 0, 1) := by decide +kernel
theorem dX4_init_10 : decode cX4_init 10 = .ok (.aload_n 2, 1) := by decide +kernel
theorem dX4_init_11 : decode cX4_init 11 = .ok (.putfield 15, 3) := by decide +kernel
theorem dX4_init_14 : decode cX4_init 14 = .ok (.return_, 1) := by decide +kernel
theorem dX4_read_0 : decode cX4_read 0 = .ok (.aload_n 0, 1) := by decide +kernel
theorem dX4_read_1 : decode cX4_read 1 = .ok (.aload_n 1, 1) := by decide +kernel
theorem dX4_read_2 : decode cX4_read 2 = .ok (.putfield 15, 3) := by decide +kernel
theorem dX4_read_5 : decode cX4_read 5 = .ok (.aload_n 0, 1) := by decide +kernel
theorem dX4_read_6 : decode cX4_read 6 = .ok (.getfield 15, 3) := by decide +kernel
theorem dX4_read_9 : decode cX4_read 9 = .ok (.invokevirtual 19, 3) := by decide +kernel
theorem dX4_read_12 : decode cX4_read 12 = .ok (.iconst 0, 1) := by decide +kernel
theorem dX4_read_13 : decode cX4_read 13 = .ok (.istore_n 2, 1) := by decide +kernel
theorem dX4_read_14 : decode cX4_read 14 = .ok (.iload_n 2, 1) := by decide +kernel
theorem dX4_read_15 : decode cX4_read 15 = .ok (.bipush 12, 2) := by decide +kernel
theorem dX4_read_17 : decode cX4_read 17 = .ok (.if_icmp .gt 44, 3) := by decide +kernel
theorem dX4_read_20 : decode cX4_read 20 = .ok (.aload_n 0, 1) := by decide +kernel
theorem dX4_read_21 : decode cX4_read 21 = .ok (.getfield 9, 3) := by decide +kernel
theorem dX4_read_24 : decode cX4_read 24 = .ok (.invokevirtual 24, 3) := by decide +kernel
theorem dX4_read_27 : decode cX4_read 27 = .ok (.ifCond .eq 34, 3) := by decide +kernel
theorem dX4_read_30 : decode cX4_read 30 = .ok (.aload_n 0, 1) := by decide +kernel
theorem dX4_read_31 : decode cX4_read 31 = .ok (.iload_n 2, 1) := by decide +kernel
theorem dX4_read_32 : decode cX4_read 32 = .ok (.invokevirtual 30, 3) := by decide +kernel
theorem dX4_read_35 : decode cX4_read 35 = .ok (.aload_n 0, 1) := by decide +kernel
theorem dX4_read_36 : decode cX4_read 36 = .ok (.getfield 9, 3) := by decide +kernel
theorem dX4_read_39 : decode cX4_read 39 = .ok (.invokevirtual 34, 3) := by decide +kernel
theorem dX4_read_42 : decode cX4_read 42 = .ok (.ifCond .eq 4, 3) := by decide +kernel
theorem dX4_read_45 : decode cX4_read 45 = .ok (.return_, 1) := by decide +kernel
theorem dX4_read_46 : decode cX4_read 46 = .ok (.aload_n 0, 1) := by decide +kernel
theorem dX4_read_47 : decode cX4_read 47 = .ok (.getfield 9, 3) := by decide +kernel
theorem dX4_read_50 : decode cX4_read 50 = .ok (.bipush 59, 2) := by decide +kernel
theorem dX4_read_52 : decode cX4_read 52 = .ok (.invokevirtual 37, 3) := by decide +kernel
theorem dX4_read_55 : decode cX4_read 55 = .ok (.iinc 2 1, 3) := by decide +kernel
theorem dX4_read_58 : decode cX4_read 58 = .ok (.goto (-44), 3) := by decide +kernel
theorem dX4_read_61 : decode cX4_read 61 = .ok (.return_, 1) := by decide +kernel
theorem dX4_readClause_0 : decode cX4_readClause 0 = .ok (.aload_n 0, 1) := by decide +kernel
theorem dX4_readClause_1 : decode cX4_readClause 1 = .ok (.getfield 9, 3) := by decide +kernel
theorem dX4_readClause_4 : decode cX4_readClause 4 = .ok (.invokevirtual 40, 3) := by decide +kernel
theorem dX4_readClause_7 : decode cX4_readClause 7 = .ok (.istore_n 2, 1) := by decide +kernel
theorem dX4_readClause_8 : decode cX4_readClause 8 = .ok (.iload_n 2, 1) := by decide +kernel
theorem dX4_readClause_9 : decode cX4_readClause 9 = .ok (.bipush 113, 2) := by decide +kernel
theorem dX4_readClause_11 : decode cX4_readClause 11 = .ok (.if_icmp .eq 31, 3) := by decide +kernel
theorem dX4_readClause_14 : decode cX4_readClause 14 = .ok (.iload_n 2, 1) := by decide +kernel
theorem dX4_readClause_15 : decode cX4_readClause 15 = .ok (.bipush 100, 2) := by decide +kernel
theorem dX4_readClause_17 : decode cX4_readClause 17 = .ok (.if_icmp .eq 25, 3) := by decide +kernel
theorem dX4_readClause_20 : decode cX4_readClause 20 = .ok (.iload_n 2, 1) := by decide +kernel
theorem dX4_readClause_21 : decode cX4_readClause 21 = .ok (.bipush 103, 2) := by decide +kernel
theorem dX4_readClause_23 : decode cX4_readClause 23 = .ok (.if_icmp .eq 19, 3) := by decide +kernel
theorem dX4_readClause_26 : decode cX4_readClause 26 = .ok (.aload_n 0, 1) := by decide +kernel
theorem dX4_readClause_27 : decode cX4_readClause 27 = .ok (.getfield 9, 3) := by decide +kernel
theorem dX4_readClause_30 : decode cX4_readClause 30 = .ok (.iconst 1, 1) := by decide +kernel
theorem dX4_readClause_31 : decode cX4_readClause 31 = .ok (.aload_n 0, 1) := by decide +kernel
theorem dX4_readClause_32 : decode cX4_readClause 32 = .ok (.getfield 9, 3) := by decide +kernel
theorem dX4_readClause_35 : decode cX4_readClause 35 = .ok (.invokevirtual 44, 3) := by decide +kernel
theorem dX4_readClause_38 : decode cX4_readClause 38 = .ok (.invokevirtual 47, 3) := by decide +kernel
theorem dX4_readClause_41 : decode cX4_readClause 41 = .ok (.return_, 1) := by decide +kernel
theorem dX4_readClause_42 : decode cX4_readClause 42 = .ok (.iload_n 1, 1) := by decide +kernel
theorem dX4_readClause_43 : decode cX4_readClause 43 = .ok (.bipush 12, 2) := by decide +kernel
theorem dX4_readClause_45 : decode cX4_readClause 45 = .ok (.if_icmp .lt 19, 3) := by decide +kernel
theorem dX4_readClause_48 : decode cX4_readClause 48 = .ok (.aload_n 0, 1) := by decide +kernel
theorem dX4_readClause_49 : decode cX4_readClause 49 = .ok (.getfield 9, 3) := by decide +kernel
theorem dX4_readClause_52 : decode cX4_readClause 52 = .ok (.iconst 4, 1) := by decide +kernel
theorem dX4_readClause_53 : decode cX4_readClause 53 = .ok (.aload_n 0, 1) := by decide +kernel
theorem dX4_readClause_54 : decode cX4_readClause 54 = .ok (.getfield 9, 3) := by decide +kernel
theorem dX4_readClause_57 : decode cX4_readClause 57 = .ok (.invokevirtual 44, 3) := by decide +kernel
theorem dX4_readClause_60 : decode cX4_readClause 60 = .ok (.invokevirtual 47, 3) := by decide +kernel
theorem dX4_readClause_63 : decode cX4_readClause 63 = .ok (.return_, 1) := by decide +kernel
theorem dX4_readClause_64 : decode cX4_readClause 64 = .ok (.aload_n 0, 1) := by decide +kernel
theorem dX4_readClause_65 : decode cX4_readClause 65 = .ok (.getfield 9, 3) := by decide +kernel
theorem dX4_readClause_68 : decode cX4_readClause 68 = .ok (.iload_n 2, 1) := by decide +kernel
theorem dX4_readClause_69 : decode cX4_readClause 69 = .ok (.invokevirtual 37, 3) := by decide +kernel
theorem dX4_readClause_72 : decode cX4_readClause 72 = .ok (.aload_n 0, 1) := by decide +kernel
theorem dX4_readClause_73 : decode cX4_readClause 73 = .ok (.getfield 15, 3) := by decide +kernel
theorem dX4_readClause_76 : decode cX4_readClause 76 = .ok (.iload_n 2, 1) := by decide +kernel
theorem dX4_readClause_77 : decode cX4_readClause 77 = .ok (.invokevirtual 51, 3) := by decide +kernel
theorem dX4_readClause_80 : decode cX4_readClause 80 = .ok (.aload_n 0, 1) := by decide +kernel
theorem dX4_readClause_81 : decode cX4_readClause 81 = .ok (.iconst 0, 1) := by decide +kernel
theorem dX4_readClause_82 : decode cX4_readClause 82 = .ok (.invokevirtual 54, 3) := by decide +kernel
theorem dX4_readClause_85 : decode cX4_readClause 85 = .ok (.aload_n 0, 1) := by decide +kernel
theorem dX4_readClause_86 : decode cX4_readClause 86 = .ok (.getfield 15, 3) := by decide +kernel
theorem dX4_readClause_89 : decode cX4_readClause 89 = .ok (.invokevirtual 57, 3) := by decide +kernel
theorem dX4_readClause_92 : decode cX4_readClause 92 = .ok (.aload_n 0, 1) := by decide +kernel
theorem dX4_readClause_93 : decode cX4_readClause 93 = .ok (.getfield 9, 3) := by decide +kernel
theorem dX4_readClause_96 : decode cX4_readClause 96 = .ok (.bipush 40, 2) := by decide +kernel
theorem dX4_readClause_98 : decode cX4_readClause 98 = .ok (.invokevirtual 37, 3) := by decide +kernel
theorem dX4_readClause_101 : decode cX4_readClause 101 = .ok (.aload_n 0, 1) := by decide +kernel
theorem dX4_readClause_102 : decode cX4_readClause 102 = .ok (.iconst 1, 1) := by decide +kernel
theorem dX4_readClause_103 : decode cX4_readClause 103 = .ok (.invokevirtual 60, 3) := by decide +kernel
theorem dX4_readClause_106 : decode cX4_readClause 106 = .ok (.aload_n 0, 1) := by decide +kernel
theorem dX4_readClause_107 : decode cX4_readClause 107 = .ok (.getfield 9, 3) := by decide +kernel
theorem dX4_readClause_110 : decode cX4_readClause 110 = .ok (.bipush 41, 2) := by decide +kernel
theorem dX4_readClause_112 : decode cX4_readClause 112 = .ok (.invokevirtual 37, 3) := by decide +kernel
theorem dX4_readClause_115 : decode cX4_readClause 115 = .ok (.aload_n 0, 1) := by decide +kernel
theorem dX4_readClause_116 : decode cX4_readClause 116 = .ok (.getfield 15, 3) := by decide +kernel
theorem dX4_readClause_119 : decode cX4_readClause 119 = .ok (.invokevirtual 63, 3) := by decide +kernel
theorem dX4_readClause_122 : decode cX4_readClause 122 = .ok (.return_, 1) := by decide +kernel
theorem dX4_readChoice_0 : decode cX4_readChoice 0 = .ok (.iconst (-1), 1) := by decide +kernel
theorem dX4_readChoice_1 : decode cX4_readChoice 1 = .ok (.istore_n 2, 1) := by decide +kernel
theorem dX4_readChoice_2 : decode cX4_readChoice 2 = .ok (.aload_n 0, 1) := by decide +kernel
theorem dX4_readChoice_3 : decode cX4_readChoice 3 = .ok (.iload_n 1, 1) := by decide +kernel
theorem dX4_readChoice_4 : decode cX4_readChoice 4 = .ok (.invokevirtual 66, 3) := by decide +kernel
theorem dX4_readChoice_7 : decode cX4_readChoice 7 = .ok (.iconst 0, 1) := by decide +kernel
theorem dX4_readChoice_8 : decode cX4_readChoice 8 = .ok (.istore_n 3, 1) := by decide +kernel
theorem dX4_readChoice_9 : decode cX4_readChoice 9 = .ok (.iload_n 3, 1) := by decide +kernel
theorem dX4_readChoice_10 : decode cX4_readChoice 10 = .ok (.sipush 160, 3) := by decide +kernel
theorem dX4_readChoice_13 : decode cX4_readChoice 13 = .ok (.if_icmp .ge 45, 3) := by decide +kernel
theorem dX4_readChoice_16 : decode cX4_readChoice 16 = .ok (.aload_n 0, 1) := by decide +kernel
theorem dX4_readChoice_17 : decode cX4_readChoice 17 = .ok (.getfield 9, 3) := by decide +kernel
theorem dX4_readChoice_20 : decode cX4_readChoice 20 = .ok (.invokevirtual 40, 3) := by decide +kernel
theorem dX4_readChoice_23 : decode cX4_readChoice 23 = .ok (.bipush 124, 2) := by decide +kernel
theorem dX4_readChoice_25 : decode cX4_readChoice 25 = .ok (.if_icmp .ne 33, 3) := by decide +kernel
theorem dX4_readChoice_28 : decode cX4_readChoice 28 = .ok (.aload_n 0, 1) := by decide +kernel
theorem dX4_readChoice_29 : decode cX4_readChoice 29 = .ok (.getfield 9, 3) := by decide +kernel
theorem dX4_readChoice_32 : decode cX4_readChoice 32 = .ok (.bipush 124, 2) := by decide +kernel
theorem dX4_readChoice_34 : decode cX4_readChoice 34 = .ok (.invokevirtual 37, 3) := by decide +kernel
theorem dX4_readChoice_37 : decode cX4_readChoice 37 = .ok (.aload_n 0, 1) := by decide +kernel
theorem dX4_readChoice_38 : decode cX4_readChoice 38 = .ok (.getfield 15, 3) := by decide +kernel
theorem dX4_readChoice_41 : decode cX4_readChoice 41 = .ok (.iconst 4, 1) := by decide +kernel
theorem dX4_readChoice_42 : decode cX4_readChoice 42 = .ok (.iload_n 2, 1) := by decide +kernel
theorem dX4_readChoice_43 : decode cX4_readChoice 43 = .ok (.invokevirtual 69, 3) := by decide +kernel
theorem dX4_readChoice_46 : decode cX4_readChoice 46 = .ok (.istore_n 2, 1) := by decide +kernel
theorem dX4_readChoice_47 : decode cX4_readChoice 47 = .ok (.aload_n 0, 1) := by decide +kernel
theorem dX4_readChoice_48 : decode cX4_readChoice 48 = .ok (.iload_n 1, 1) := by decide +kernel
theorem dX4_readChoice_49 : decode cX4_readChoice 49 = .ok (.invokevirtual 66, 3) := by decide +kernel
theorem dX4_readChoice_52 : decode cX4_readChoice 52 = .ok (.iinc 3 1, 3) := by decide +kernel
theorem dX4_readChoice_55 : decode cX4_readChoice 55 = .ok (.goto (-46), 3) := by decide +kernel
theorem dX4_readChoice_58 : decode cX4_readChoice 58 = .ok (.aload_n 0, 1) := by decide +kernel
theorem dX4_readChoice_59 : decode cX4_readChoice 59 = .ok (.getfield 15, 3) := by decide +kernel
theorem dX4_readChoice_62 : decode cX4_readChoice 62 = .ok (.iload_n 2, 1) := by decide +kernel
theorem dX4_readChoice_63 : decode cX4_readChoice 63 = .ok (.invokevirtual 73, 3) := by decide +kernel
theorem dX4_readChoice_66 : decode cX4_readChoice 66 = .ok (.return_, 1) := by decide +kernel
theorem dX4_readPart_0 : decode cX4_readPart 0 = .ok (.iconst (-1), 1) := by decide +kernel
theorem dX4_readPart_1 : decode cX4_readPart 1 = .ok (.istore_n 2, 1) := by decide +kernel
theorem dX4_readPart_2 : decode cX4_readPart 2 = .ok (.aload_n 0, 1) := by decide +kernel
theorem dX4_readPart_3 : decode cX4_readPart 3 = .ok (.iload_n 1, 1) := by decide +kernel
theorem dX4_readPart_4 : decode cX4_readPart 4 = .ok (.invokevirtual 76, 3) := by decide +kernel
theorem dX4_readPart_7 : decode cX4_readPart 7 = .ok (.iconst 0, 1) := by decide +kernel
theorem dX4_readPart_8 : decode cX4_readPart 8 = .ok (.istore_n 3, 1) := by decide +kernel
theorem dX4_readPart_9 : decode cX4_readPart 9 = .ok (.iload_n 3, 1) := by decide +kernel
theorem dX4_readPart_10 : decode cX4_readPart 10 = .ok (.sipush 160, 3) := by decide +kernel
theorem dX4_readPart_13 : decode cX4_readPart 13 = .ok (.if_icmp .ge 45, 3) := by decide +kernel
theorem dX4_readPart_16 : decode cX4_readPart 16 = .ok (.aload_n 0, 1) := by decide +kernel
theorem dX4_readPart_17 : decode cX4_readPart 17 = .ok (.getfield 9, 3) := by decide +kernel
theorem dX4_readPart_20 : decode cX4_readPart 20 = .ok (.invokevirtual 40, 3) := by decide +kernel
theorem dX4_readPart_23 : decode cX4_readPart 23 = .ok (.bipush 38, 2) := by decide +kernel
theorem dX4_readPart_25 : decode cX4_readPart 25 = .ok (.if_icmp .ne 33, 3) := by decide +kernel
theorem dX4_readPart_28 : decode cX4_readPart 28 = .ok (.aload_n 0, 1) := by decide +kernel
theorem dX4_readPart_29 : decode cX4_readPart 29 = .ok (.getfield 9, 3) := by decide +kernel
theorem dX4_readPart_32 : decode cX4_readPart 32 = .ok (.bipush 38, 2) := by decide +kernel
theorem dX4_readPart_34 : decode cX4_readPart 34 = .ok (.invokevirtual 37, 3) := by decide +kernel
theorem dX4_readPart_37 : decode cX4_readPart 37 = .ok (.aload_n 0, 1) := by decide +kernel
theorem dX4_readPart_38 : decode cX4_readPart 38 = .ok (.getfield 15, 3) := by decide +kernel
theorem dX4_readPart_41 : decode cX4_readPart 41 = .ok (.iconst 5, 1) := by decide +kernel
theorem dX4_readPart_42 : decode cX4_readPart 42 = .ok (.iload_n 2, 1) := by decide +kernel
theorem dX4_readPart_43 : decode cX4_readPart 43 = .ok (.invokevirtual 69, 3) := by decide +kernel
theorem dX4_readPart_46 : decode cX4_readPart 46 = .ok (.istore_n 2, 1) := by decide +kernel
theorem dX4_readPart_47 : decode cX4_readPart 47 = .ok (.aload_n 0, 1) := by decide +kernel
theorem dX4_readPart_48 : decode cX4_readPart 48 = .ok (.iload_n 1, 1) := by decide +kernel
theorem dX4_readPart_49 : decode cX4_readPart 49 = .ok (.invokevirtual 76, 3) := by decide +kernel
theorem dX4_readPart_52 : decode cX4_readPart 52 = .ok (.iinc 3 1, 3) := by decide +kernel
theorem dX4_readPart_55 : decode cX4_readPart 55 = .ok (.goto (-46), 3) := by decide +kernel
theorem dX4_readPart_58 : decode cX4_readPart 58 = .ok (.aload_n 0, 1) := by decide +kernel
theorem dX4_readPart_59 : decode cX4_readPart 59 = .ok (.getfield 15, 3) := by decide +kernel
theorem dX4_readPart_62 : decode cX4_readPart 62 = .ok (.iload_n 2, 1) := by decide +kernel
theorem dX4_readPart_63 : decode cX4_readPart 63 = .ok (.invokevirtual 73, 3) := by decide +kernel
theorem dX4_readPart_66 : decode cX4_readPart 66 = .ok (.return_, 1) := by decide +kernel
theorem dX4_readPiece_0 : decode cX4_readPiece 0 = .ok (.aload_n 0, 1) := by decide +kernel
theorem dX4_readPiece_1 : decode cX4_readPiece 1 = .ok (.getfield 9, 3) := by decide +kernel
theorem dX4_readPiece_4 : decode cX4_readPiece 4 = .ok (.invokevirtual 40, 3) := by decide +kernel
theorem dX4_readPiece_7 : decode cX4_readPiece 7 = .ok (.istore_n 2, 1) := by decide +kernel
theorem dX4_readPiece_8 : decode cX4_readPiece 8 = .ok (.iload_n 2, 1) := by decide +kernel
theorem dX4_readPiece_9 : decode cX4_readPiece 9 = .ok (.bipush 33, 2) := by decide +kernel
theorem dX4_readPiece_11 : decode cX4_readPiece 11 = .ok (.if_icmp .eq 9, 3) := by decide +kernel
theorem dX4_readPiece_14 : decode cX4_readPiece 14 = .ok (.iload_n 2, 1) := by decide +kernel
theorem dX4_readPiece_15 : decode cX4_readPiece 15 = .ok (.bipush 40, 2) := by decide +kernel
theorem dX4_readPiece_17 : decode cX4_readPiece 17 = .ok (.if_icmp .ne 10, 3) := by decide +kernel
theorem dX4_readPiece_20 : decode cX4_readPiece 20 = .ok (.aload_n 0, 1) := by decide +kernel
theorem dX4_readPiece_21 : decode cX4_readPiece 21 = .ok (.iload_n 2, 1) := by decide +kernel
theorem dX4_readPiece_22 : decode cX4_readPiece 22 = .ok (.iload_n 1, 1) := by decide +kernel
theorem dX4_readPiece_23 : decode cX4_readPiece 23 = .ok (.invokevirtual 79, 3) := by decide +kernel
theorem dX4_readPiece_26 : decode cX4_readPiece 26 = .ok (.return_, 1) := by decide +kernel
theorem dX4_readPiece_27 : decode cX4_readPiece 27 = .ok (.aload_n 0, 1) := by decide +kernel
theorem dX4_readPiece_28 : decode cX4_readPiece 28 = .ok (.iload_n 1, 1) := by decide +kernel
theorem dX4_readPiece_29 : decode cX4_readPiece 29 = .ok (.invokevirtual 54, 3) := by decide +kernel
theorem dX4_readPiece_32 : decode cX4_readPiece 32 = .ok (.aload_n 0, 1) := by decide +kernel
theorem dX4_readPiece_33 : decode cX4_readPiece 33 = .ok (.getfield 9, 3) := by decide +kernel
theorem dX4_readPiece_36 : decode cX4_readPiece 36 = .ok (.invokevirtual 40, 3) := by decide +kernel
theorem dX4_readPiece_39 : decode cX4_readPiece 39 = .ok (.istore_n 3, 1) := by decide +kernel
theorem dX4_readPiece_40 : decode cX4_readPiece 40 = .ok (.iload_n 3, 1) := by decide +kernel
theorem dX4_readPiece_41 : decode cX4_readPiece 41 = .ok (.bipush 60, 2) := by decide +kernel
theorem dX4_readPiece_43 : decode cX4_readPiece 43 = .ok (.if_icmp .eq 31, 3) := by decide +kernel
theorem dX4_readPiece_46 : decode cX4_readPiece 46 = .ok (.iload_n 3, 1) := by decide +kernel
theorem dX4_readPiece_47 : decode cX4_readPiece 47 = .ok (.bipush 62, 2) := by decide +kernel
theorem dX4_readPiece_49 : decode cX4_readPiece 49 = .ok (.if_icmp .eq 25, 3) := by decide +kernel
theorem dX4_readPiece_52 : decode cX4_readPiece 52 = .ok (.iload_n 3, 1) := by decide +kernel
theorem dX4_readPiece_53 : decode cX4_readPiece 53 = .ok (.bipush 61, 2) := by decide +kernel
theorem dX4_readPiece_55 : decode cX4_readPiece 55 = .ok (.if_icmp .eq 19, 3) := by decide +kernel
theorem dX4_readPiece_58 : decode cX4_readPiece 58 = .ok (.aload_n 0, 1) := by decide +kernel
theorem dX4_readPiece_59 : decode cX4_readPiece 59 = .ok (.getfield 9, 3) := by decide +kernel
theorem dX4_readPiece_62 : decode cX4_readPiece 62 = .ok (.iconst 1, 1) := by decide +kernel
theorem dX4_readPiece_63 : decode cX4_readPiece 63 = .ok (.aload_n 0, 1) := by decide +kernel
theorem dX4_readPiece_64 : decode cX4_readPiece 64 = .ok (.getfield 9, 3) := by decide +kernel
theorem dX4_readPiece_67 : decode cX4_readPiece 67 = .ok (.invokevirtual 44, 3) := by decide +kernel
theorem dX4_readPiece_70 : decode cX4_readPiece 70 = .ok (.invokevirtual 47, 3) := by decide +kernel
theorem dX4_readPiece_73 : decode cX4_readPiece 73 = .ok (.return_, 1) := by decide +kernel
theorem dX4_readPiece_74 : decode cX4_readPiece 74 = .ok (.aload_n 0, 1) := by decide +kernel
theorem dX4_readPiece_75 : decode cX4_readPiece 75 = .ok (.getfield 9, 3) := by decide +kernel
theorem dX4_readPiece_78 : decode cX4_readPiece 78 = .ok (.iload_n 3, 1) := by decide +kernel
theorem dX4_readPiece_79 : decode cX4_readPiece 79 = .ok (.invokevirtual 37, 3) := by decide +kernel
theorem dX4_readPiece_82 : decode cX4_readPiece 82 = .ok (.aload_n 0, 1) := by decide +kernel
theorem dX4_readPiece_83 : decode cX4_readPiece 83 = .ok (.iload_n 1, 1) := by decide +kernel
theorem dX4_readPiece_84 : decode cX4_readPiece 84 = .ok (.invokevirtual 54, 3) := by decide +kernel
theorem dX4_readPiece_87 : decode cX4_readPiece 87 = .ok (.aload_n 0, 1) := by decide +kernel
theorem dX4_readPiece_88 : decode cX4_readPiece 88 = .ok (.getfield 15, 3) := by decide +kernel
theorem dX4_readPiece_91 : decode cX4_readPiece 91 = .ok (.iload_n 3, 1) := by decide +kernel
theorem dX4_readPiece_92 : decode cX4_readPiece 92 = .ok (.iconst 0, 1) := by decide +kernel
theorem dX4_readPiece_93 : decode cX4_readPiece 93 = .ok (.invokevirtual 82, 3) := by decide +kernel
theorem dX4_readPiece_96 : decode cX4_readPiece 96 = .ok (.return_, 1) := by decide +kernel
theorem dX4_readInside_0 : decode cX4_readInside 0 = .ok (.iload_n 2, 1) := by decide +kernel
theorem dX4_readInside_1 : decode cX4_readInside 1 = .ok (.bipush 6, 2) := by decide +kernel
theorem dX4_readInside_3 : decode cX4_readInside 3 = .ok (.if_icmp .lt 19, 3) := by decide +kernel
theorem dX4_readInside_6 : decode cX4_readInside 6 = .ok (.aload_n 0, 1) := by decide +kernel
theorem dX4_readInside_7 : decode cX4_readInside 7 = .ok (.getfield 9, 3) := by decide +kernel
theorem dX4_readInside_10 : decode cX4_readInside 10 = .ok (.iconst 5, 1) := by decide +kernel
theorem dX4_readInside_11 : decode cX4_readInside 11 = .ok (.aload_n 0, 1) := by decide +kernel
theorem dX4_readInside_12 : decode cX4_readInside 12 = .ok (.getfield 9, 3) := by decide +kernel
theorem dX4_readInside_15 : decode cX4_readInside 15 = .ok (.invokevirtual 44, 3) := by decide +kernel
theorem dX4_readInside_18 : decode cX4_readInside 18 = .ok (.invokevirtual 47, 3) := by decide +kernel
theorem dX4_readInside_21 : decode cX4_readInside 21 = .ok (.return_, 1) := by decide +kernel
theorem dX4_readInside_22 : decode cX4_readInside 22 = .ok (.aload_n 0, 1) := by decide +kernel
theorem dX4_readInside_23 : decode cX4_readInside 23 = .ok (.getfield 9, 3) := by decide +kernel
theorem dX4_readInside_26 : decode cX4_readInside 26 = .ok (.iload_n 1, 1) := by decide +kernel
theorem dX4_readInside_27 : decode cX4_readInside 27 = .ok (.invokevirtual 37, 3) := by decide +kernel
theorem dX4_readInside_30 : decode cX4_readInside 30 = .ok (.iload_n 1, 1) := by decide +kernel
theorem dX4_readInside_31 : decode cX4_readInside 31 = .ok (.bipush 33, 2) := by decide +kernel
theorem dX4_readInside_33 : decode cX4_readInside 33 = .ok (.if_icmp .ne 22, 3) := by decide +kernel
theorem dX4_readInside_36 : decode cX4_readInside 36 = .ok (.aload_n 0, 1) := by decide +kernel
theorem dX4_readInside_37 : decode cX4_readInside 37 = .ok (.iload_n 2, 1) := by decide +kernel
theorem dX4_readInside_38 : decode cX4_readInside 38 = .ok (.iconst 1, 1) := by decide +kernel
theorem dX4_readInside_39 : decode cX4_readInside 39 = .ok (.iadd, 1) := by decide +kernel
theorem dX4_readInside_40 : decode cX4_readInside 40 = .ok (.invokevirtual 76, 3) := by decide +kernel
theorem dX4_readInside_43 : decode cX4_readInside 43 = .ok (.aload_n 0, 1) := by decide +kernel
theorem dX4_readInside_44 : decode cX4_readInside 44 = .ok (.getfield 15, 3) := by decide +kernel
theorem dX4_readInside_47 : decode cX4_readInside 47 = .ok (.iconst 3, 1) := by decide +kernel
theorem dX4_readInside_48 : decode cX4_readInside 48 = .ok (.iconst 0, 1) := by decide +kernel
theorem dX4_readInside_49 : decode cX4_readInside 49 = .ok (.invokevirtual 82, 3) := by decide +kernel
theorem dX4_readInside_52 : decode cX4_readInside 52 = .ok (.goto 19, 3) := by decide +kernel
theorem dX4_readInside_55 : decode cX4_readInside 55 = .ok (.aload_n 0, 1) := by decide +kernel
theorem dX4_readInside_56 : decode cX4_readInside 56 = .ok (.iload_n 2, 1) := by decide +kernel
theorem dX4_readInside_57 : decode cX4_readInside 57 = .ok (.iconst 1, 1) := by decide +kernel
theorem dX4_readInside_58 : decode cX4_readInside 58 = .ok (.iadd, 1) := by decide +kernel
theorem dX4_readInside_59 : decode cX4_readInside 59 = .ok (.invokevirtual 60, 3) := by decide +kernel
theorem dX4_readInside_62 : decode cX4_readInside 62 = .ok (.aload_n 0, 1) := by decide +kernel
theorem dX4_readInside_63 : decode cX4_readInside 63 = .ok (.getfield 9, 3) := by decide +kernel
theorem dX4_readInside_66 : decode cX4_readInside 66 = .ok (.bipush 41, 2) := by decide +kernel
theorem dX4_readInside_68 : decode cX4_readInside 68 = .ok (.invokevirtual 37, 3) := by decide +kernel
theorem dX4_readInside_71 : decode cX4_readInside 71 = .ok (.return_, 1) := by decide +kernel
theorem dX4_readSum_0 : decode cX4_readSum 0 = .ok (.aload_n 0, 1) := by decide +kernel
theorem dX4_readSum_1 : decode cX4_readSum 1 = .ok (.iload_n 1, 1) := by decide +kernel
theorem dX4_readSum_2 : decode cX4_readSum 2 = .ok (.invokevirtual 85, 3) := by decide +kernel
theorem dX4_readSum_5 : decode cX4_readSum 5 = .ok (.aload_n 0, 1) := by decide +kernel
theorem dX4_readSum_6 : decode cX4_readSum 6 = .ok (.getfield 9, 3) := by decide +kernel
theorem dX4_readSum_9 : decode cX4_readSum 9 = .ok (.invokevirtual 40, 3) := by decide +kernel
theorem dX4_readSum_12 : decode cX4_readSum 12 = .ok (.istore_n 2, 1) := by decide +kernel
theorem dX4_readSum_13 : decode cX4_readSum 13 = .ok (.iconst 0, 1) := by decide +kernel
theorem dX4_readSum_14 : decode cX4_readSum 14 = .ok (.istore_n 3, 1) := by decide +kernel
theorem dX4_readSum_15 : decode cX4_readSum 15 = .ok (.iload_n 3, 1) := by decide +kernel
theorem dX4_readSum_16 : decode cX4_readSum 16 = .ok (.sipush 160, 3) := by decide +kernel
theorem dX4_readSum_19 : decode cX4_readSum 19 = .ok (.if_icmp .ge 51, 3) := by decide +kernel
theorem dX4_readSum_22 : decode cX4_readSum 22 = .ok (.iload_n 2, 1) := by decide +kernel
theorem dX4_readSum_23 : decode cX4_readSum 23 = .ok (.bipush 43, 2) := by decide +kernel
theorem dX4_readSum_25 : decode cX4_readSum 25 = .ok (.if_icmp .eq 9, 3) := by decide +kernel
theorem dX4_readSum_28 : decode cX4_readSum 28 = .ok (.iload_n 2, 1) := by decide +kernel
theorem dX4_readSum_29 : decode cX4_readSum 29 = .ok (.bipush 45, 2) := by decide +kernel
theorem dX4_readSum_31 : decode cX4_readSum 31 = .ok (.if_icmp .ne 39, 3) := by decide +kernel
theorem dX4_readSum_34 : decode cX4_readSum 34 = .ok (.aload_n 0, 1) := by decide +kernel
theorem dX4_readSum_35 : decode cX4_readSum 35 = .ok (.getfield 9, 3) := by decide +kernel
theorem dX4_readSum_38 : decode cX4_readSum 38 = .ok (.iload_n 2, 1) := by decide +kernel
theorem dX4_readSum_39 : decode cX4_readSum 39 = .ok (.invokevirtual 37, 3) := by decide +kernel
theorem dX4_readSum_42 : decode cX4_readSum 42 = .ok (.aload_n 0, 1) := by decide +kernel
theorem dX4_readSum_43 : decode cX4_readSum 43 = .ok (.iload_n 1, 1) := by decide +kernel
theorem dX4_readSum_44 : decode cX4_readSum 44 = .ok (.invokevirtual 85, 3) := by decide +kernel
theorem dX4_readSum_47 : decode cX4_readSum 47 = .ok (.aload_n 0, 1) := by decide +kernel
theorem dX4_readSum_48 : decode cX4_readSum 48 = .ok (.getfield 15, 3) := by decide +kernel
theorem dX4_readSum_51 : decode cX4_readSum 51 = .ok (.iload_n 2, 1) := by decide +kernel
theorem dX4_readSum_52 : decode cX4_readSum 52 = .ok (.iconst 0, 1) := by decide +kernel
theorem dX4_readSum_53 : decode cX4_readSum 53 = .ok (.invokevirtual 82, 3) := by decide +kernel
theorem dX4_readSum_56 : decode cX4_readSum 56 = .ok (.aload_n 0, 1) := by decide +kernel
theorem dX4_readSum_57 : decode cX4_readSum 57 = .ok (.getfield 9, 3) := by decide +kernel
theorem dX4_readSum_60 : decode cX4_readSum 60 = .ok (.invokevirtual 40, 3) := by decide +kernel
theorem dX4_readSum_63 : decode cX4_readSum 63 = .ok (.istore_n 2, 1) := by decide +kernel
theorem dX4_readSum_64 : decode cX4_readSum 64 = .ok (.iinc 3 1, 3) := by decide +kernel
theorem dX4_readSum_67 : decode cX4_readSum 67 = .ok (.goto (-52), 3) := by decide +kernel
theorem dX4_readSum_70 : decode cX4_readSum 70 = .ok (.return_, 1) := by decide +kernel
theorem dX4_readTerm_0 : decode cX4_readTerm 0 = .ok (.aload_n 0, 1) := by decide +kernel
theorem dX4_readTerm_1 : decode cX4_readTerm 1 = .ok (.iload_n 1, 1) := by decide +kernel
theorem dX4_readTerm_2 : decode cX4_readTerm 2 = .ok (.invokevirtual 88, 3) := by decide +kernel
theorem dX4_readTerm_5 : decode cX4_readTerm 5 = .ok (.aload_n 0, 1) := by decide +kernel
theorem dX4_readTerm_6 : decode cX4_readTerm 6 = .ok (.getfield 9, 3) := by decide +kernel
theorem dX4_readTerm_9 : decode cX4_readTerm 9 = .ok (.invokevirtual 40, 3) := by decide +kernel
theorem dX4_readTerm_12 : decode cX4_readTerm 12 = .ok (.istore_n 2, 1) := by decide +kernel
theorem dX4_readTerm_13 : decode cX4_readTerm 13 = .ok (.iconst 0, 1) := by decide +kernel
theorem dX4_readTerm_14 : decode cX4_readTerm 14 = .ok (.istore_n 3, 1) := by decide +kernel
theorem dX4_readTerm_15 : decode cX4_readTerm 15 = .ok (.iload_n 3, 1) := by decide +kernel
theorem dX4_readTerm_16 : decode cX4_readTerm 16 = .ok (.sipush 160, 3) := by decide +kernel
theorem dX4_readTerm_19 : decode cX4_readTerm 19 = .ok (.if_icmp .ge 57, 3) := by decide +kernel
theorem dX4_readTerm_22 : decode cX4_readTerm 22 = .ok (.iload_n 2, 1) := by decide +kernel
theorem dX4_readTerm_23 : decode cX4_readTerm 23 = .ok (.bipush 42, 2) := by decide +kernel
theorem dX4_readTerm_25 : decode cX4_readTerm 25 = .ok (.if_icmp .eq 15, 3) := by decide +kernel
theorem dX4_readTerm_28 : decode cX4_readTerm 28 = .ok (.iload_n 2, 1) := by decide +kernel
theorem dX4_readTerm_29 : decode cX4_readTerm 29 = .ok (.bipush 47, 2) := by decide +kernel
theorem dX4_readTerm_31 : decode cX4_readTerm 31 = .ok (.if_icmp .eq 9, 3) := by decide +kernel
theorem dX4_readTerm_34 : decode cX4_readTerm 34 = .ok (.iload_n 2, 1) := by decide +kernel
theorem dX4_readTerm_35 : decode cX4_readTerm 35 = .ok (.bipush 37, 2) := by decide +kernel
theorem dX4_readTerm_37 : decode cX4_readTerm 37 = .ok (.if_icmp .ne 39, 3) := by decide +kernel
theorem dX4_readTerm_40 : decode cX4_readTerm 40 = .ok (.aload_n 0, 1) := by decide +kernel
theorem dX4_readTerm_41 : decode cX4_readTerm 41 = .ok (.getfield 9, 3) := by decide +kernel
theorem dX4_readTerm_44 : decode cX4_readTerm 44 = .ok (.iload_n 2, 1) := by decide +kernel
theorem dX4_readTerm_45 : decode cX4_readTerm 45 = .ok (.invokevirtual 37, 3) := by decide +kernel
theorem dX4_readTerm_48 : decode cX4_readTerm 48 = .ok (.aload_n 0, 1) := by decide +kernel
theorem dX4_readTerm_49 : decode cX4_readTerm 49 = .ok (.iload_n 1, 1) := by decide +kernel
theorem dX4_readTerm_50 : decode cX4_readTerm 50 = .ok (.invokevirtual 88, 3) := by decide +kernel
theorem dX4_readTerm_53 : decode cX4_readTerm 53 = .ok (.aload_n 0, 1) := by decide +kernel
theorem dX4_readTerm_54 : decode cX4_readTerm 54 = .ok (.getfield 15, 3) := by decide +kernel
theorem dX4_readTerm_57 : decode cX4_readTerm 57 = .ok (.iload_n 2, 1) := by decide +kernel
theorem dX4_readTerm_58 : decode cX4_readTerm 58 = .ok (.iconst 0, 1) := by decide +kernel
theorem dX4_readTerm_59 : decode cX4_readTerm 59 = .ok (.invokevirtual 82, 3) := by decide +kernel
theorem dX4_readTerm_62 : decode cX4_readTerm 62 = .ok (.aload_n 0, 1) := by decide +kernel
theorem dX4_readTerm_63 : decode cX4_readTerm 63 = .ok (.getfield 9, 3) := by decide +kernel
theorem dX4_readTerm_66 : decode cX4_readTerm 66 = .ok (.invokevirtual 40, 3) := by decide +kernel
theorem dX4_readTerm_69 : decode cX4_readTerm 69 = .ok (.istore_n 2, 1) := by decide +kernel
theorem dX4_readTerm_70 : decode cX4_readTerm 70 = .ok (.iinc 3 1, 3) := by decide +kernel
theorem dX4_readTerm_73 : decode cX4_readTerm 73 = .ok (.goto (-58), 3) := by decide +kernel
theorem dX4_readTerm_76 : decode cX4_readTerm 76 = .ok (.return_, 1) := by decide +kernel
theorem dX4_readFactor_0 : decode cX4_readFactor 0 = .ok (.aload_n 0, 1) := by decide +kernel
theorem dX4_readFactor_1 : decode cX4_readFactor 1 = .ok (.getfield 9, 3) := by decide +kernel
theorem dX4_readFactor_4 : decode cX4_readFactor 4 = .ok (.invokevirtual 40, 3) := by decide +kernel
theorem dX4_readFactor_7 : decode cX4_readFactor 7 = .ok (.istore_n 2, 1) := by decide +kernel
theorem dX4_readFactor_8 : decode cX4_readFactor 8 = .ok (.iload_n 2, 1) := by decide +kernel
theorem dX4_readFactor_9 : decode cX4_readFactor 9 = .ok (.iconst (-1), 1) := by decide +kernel
theorem dX4_readFactor_10 : decode cX4_readFactor 10 = .ok (.if_icmp .ne 7, 3) := by decide +kernel
theorem dX4_readFactor_13 : decode cX4_readFactor 13 = .ok (.iconst (-1), 1) := by decide +kernel
theorem dX4_readFactor_14 : decode cX4_readFactor 14 = .ok (.goto 10, 3) := by decide +kernel
theorem dX4_readFactor_17 : decode cX4_readFactor 17 = .ok (.ldc 91, 2) := by decide +kernel
theorem dX4_readFactor_19 : decode cX4_readFactor 19 = .ok (.iload_n 2, 1) := by decide +kernel
theorem dX4_readFactor_20 : decode cX4_readFactor 20 = .ok (.i2c, 1) := by decide +kernel
theorem dX4_readFactor_21 : decode cX4_readFactor 21 = .ok (.invokevirtual 93, 3) := by decide +kernel
theorem dX4_readFactor_24 : decode cX4_readFactor 24 = .ok (.istore_n 3, 1) := by decide +kernel
theorem dX4_readFactor_25 : decode cX4_readFactor 25 = .ok (.iload_n 3, 1) := by decide +kernel
theorem dX4_readFactor_26 : decode cX4_readFactor 26 = .ok (.ifCond .lt 22, 3) := by decide +kernel
theorem dX4_readFactor_29 : decode cX4_readFactor 29 = .ok (.aload_n 0, 1) := by decide +kernel
theorem dX4_readFactor_30 : decode cX4_readFactor 30 = .ok (.getfield 9, 3) := by decide +kernel
theorem dX4_readFactor_33 : decode cX4_readFactor 33 = .ok (.iload_n 2, 1) := by decide +kernel
theorem dX4_readFactor_34 : decode cX4_readFactor 34 = .ok (.invokevirtual 37, 3) := by decide +kernel
theorem dX4_readFactor_37 : decode cX4_readFactor 37 = .ok (.aload_n 0, 1) := by decide +kernel
theorem dX4_readFactor_38 : decode cX4_readFactor 38 = .ok (.getfield 15, 3) := by decide +kernel
theorem dX4_readFactor_41 : decode cX4_readFactor 41 = .ok (.iload_n 3, 1) := by decide +kernel
theorem dX4_readFactor_42 : decode cX4_readFactor 42 = .ok (.invokevirtual 99, 3) := by decide +kernel
theorem dX4_readFactor_45 : decode cX4_readFactor 45 = .ok (.goto 77, 3) := by decide +kernel
theorem dX4_readFactor_48 : decode cX4_readFactor 48 = .ok (.iload_n 2, 1) := by decide +kernel
theorem dX4_readFactor_49 : decode cX4_readFactor 49 = .ok (.bipush 91, 2) := by decide +kernel
theorem dX4_readFactor_51 : decode cX4_readFactor 51 = .ok (.if_icmp .eq 22, 3) := by decide +kernel
theorem dX4_readFactor_54 : decode cX4_readFactor 54 = .ok (.aload_n 0, 1) := by decide +kernel
theorem dX4_readFactor_55 : decode cX4_readFactor 55 = .ok (.getfield 15, 3) := by decide +kernel
theorem dX4_readFactor_58 : decode cX4_readFactor 58 = .ok (.iconst 1, 1) := by decide +kernel
theorem dX4_readFactor_59 : decode cX4_readFactor 59 = .ok (.aload_n 0, 1) := by decide +kernel
theorem dX4_readFactor_60 : decode cX4_readFactor 60 = .ok (.getfield 9, 3) := by decide +kernel
theorem dX4_readFactor_63 : decode cX4_readFactor 63 = .ok (.iconst 5, 1) := by decide +kernel
theorem dX4_readFactor_64 : decode cX4_readFactor 64 = .ok (.invokevirtual 102, 3) := by decide +kernel
theorem dX4_readFactor_67 : decode cX4_readFactor 67 = .ok (.invokevirtual 82, 3) := by decide +kernel
theorem dX4_readFactor_70 : decode cX4_readFactor 70 = .ok (.goto 52, 3) := by decide +kernel
theorem dX4_readFactor_73 : decode cX4_readFactor 73 = .ok (.iload_n 1, 1) := by decide +kernel
theorem dX4_readFactor_74 : decode cX4_readFactor 74 = .ok (.bipush 6, 2) := by decide +kernel
theorem dX4_readFactor_76 : decode cX4_readFactor 76 = .ok (.if_icmp .lt 21, 3) := by decide +kernel
theorem dX4_readFactor_79 : decode cX4_readFactor 79 = .ok (.aload_n 0, 1) := by decide +kernel
theorem dX4_readFactor_80 : decode cX4_readFactor 80 = .ok (.getfield 9, 3) := by decide +kernel
theorem dX4_readFactor_83 : decode cX4_readFactor 83 = .ok (.iconst 5, 1) := by decide +kernel
theorem dX4_readFactor_84 : decode cX4_readFactor 84 = .ok (.aload_n 0, 1) := by decide +kernel
theorem dX4_readFactor_85 : decode cX4_readFactor 85 = .ok (.getfield 9, 3) := by decide +kernel
theorem dX4_readFactor_88 : decode cX4_readFactor 88 = .ok (.invokevirtual 44, 3) := by decide +kernel
theorem dX4_readFactor_91 : decode cX4_readFactor 91 = .ok (.invokevirtual 47, 3) := by decide +kernel
theorem dX4_readFactor_94 : decode cX4_readFactor 94 = .ok (.goto 28, 3) := by decide +kernel
theorem dX4_readFactor_97 : decode cX4_readFactor 97 = .ok (.aload_n 0, 1) := by decide +kernel
theorem dX4_readFactor_98 : decode cX4_readFactor 98 = .ok (.getfield 9, 3) := by decide +kernel
theorem dX4_readFactor_101 : decode cX4_readFactor 101 = .ok (.bipush 91, 2) := by decide +kernel
theorem dX4_readFactor_103 : decode cX4_readFactor 103 = .ok (.invokevirtual 37, 3) := by decide +kernel
theorem dX4_readFactor_106 : decode cX4_readFactor 106 = .ok (.aload_n 0, 1) := by decide +kernel
theorem dX4_readFactor_107 : decode cX4_readFactor 107 = .ok (.iload_n 1, 1) := by decide +kernel
theorem dX4_readFactor_108 : decode cX4_readFactor 108 = .ok (.iconst 1, 1) := by decide +kernel
theorem dX4_readFactor_109 : decode cX4_readFactor 109 = .ok (.iadd, 1) := by decide +kernel
theorem dX4_readFactor_110 : decode cX4_readFactor 110 = .ok (.invokevirtual 54, 3) := by decide +kernel
theorem dX4_readFactor_113 : decode cX4_readFactor 113 = .ok (.aload_n 0, 1) := by decide +kernel
theorem dX4_readFactor_114 : decode cX4_readFactor 114 = .ok (.getfield 9, 3) := by decide +kernel
theorem dX4_readFactor_117 : decode cX4_readFactor 117 = .ok (.bipush 93, 2) := by decide +kernel
theorem dX4_readFactor_119 : decode cX4_readFactor 119 = .ok (.invokevirtual 37, 3) := by decide +kernel
theorem dX4_readFactor_122 : decode cX4_readFactor 122 = .ok (.return_, 1) := by decide +kernel
theorem dX5_init_0 : decode cX5_init 0 = .ok (.aload_n 0, 1) := by decide +kernel
theorem dX5_init_1 : decode cX5_init 1 = .ok (.invokespecial 3, 3) := by decide +kernel
theorem dX5_init_4 : decode cX5_init 4 = .ok (.aload_n 0, 1) := by decide +kernel
theorem dX5_init_5 : decode cX5_init 5 = .ok (.sipush 2000, 3) := by decide +kernel
theorem dX5_init_8 : decode cX5_init 8 = .ok (.newarray .int, 2) := by decide +kernel
theorem dX5_init_10 : decode cX5_init 10 = .ok (.putfield 9, 3) := by decide +kernel
theorem dX5_init_13 : decode cX5_init 13 = .ok (.aload_n 0, 1) := by decide +kernel
theorem dX5_init_14 : decode cX5_init 14 = .ok (.bipush 32, 2) := by decide +kernel
theorem dX5_init_16 : decode cX5_init 16 = .ok (.newarray .int, 2) := by decide +kernel
theorem dX5_init_18 : decode cX5_init 18 = .ok (.putfield 17, 3) := by decide +kernel
theorem dX5_init_21 : decode cX5_init 21 = .ok (.aload_n 0, 1) := by decide +kernel
theorem dX5_init_22 : decode cX5_init 22 = .ok (.bipush 8, 2) := by decide +kernel
theorem dX5_init_24 : decode cX5_init 24 = .ok (.newarray .int, 2) := by decide +kernel
theorem dX5_init_26 : decode cX5_init 26 = .ok (.putfield 20, 3) := by decide +kernel
theorem dX5_init_29 : decode cX5_init 29 = .ok (.aload_n 0, 1) := by decide +kernel
theorem dX5_init_30 : decode cX5_init 30 = .ok (.bipush 8, 2) := by decide +kernel
theorem dX5_init_32 : decode cX5_init 32 = .ok (.newarray .int, 2) := by decide +kernel
theorem dX5_init_34 : decode cX5_init 34 = .ok (.putfield 23, 3) := by decide +kernel
theorem dX5_init_37 : decode cX5_init 37 = .ok (.aload_n 0, 1) := by decide +kernel
theorem dX5_init_38 : decode cX5_init 38 = .ok (.bipush 8, 2) := by decide +kernel
theorem dX5_init_40 : decode cX5_init 40 = .ok (.newarray .int, 2) := by decide +kernel
theorem dX5_init_42 : decode cX5_init 42 = .ok (.putfield 26, 3) := by decide +kernel
theorem dX5_init_45 : decode cX5_init 45 = .ok (.aload_n 0, 1) := by decide +kernel
theorem dX5_init_46 : decode cX5_init 46 = .ok (.bipush 8, 2) := by decide +kernel
theorem dX5_init_48 : decode cX5_init 48 = .ok (.newarray .int, 2) := by decide +kernel
theorem dX5_init_50 : decode cX5_init 50 = .ok (.putfield 29, 3) := by decide +kernel
theorem dX5_init_53 : decode cX5_init 53 = .ok (.aload_n 0, 1) := by decide +kernel
theorem dX5_init_54 : decode cX5_init 54 = .ok (.aload_n 1, 1) := by decide +kernel
theorem dX5_init_55 : decode cX5_init 55 = .ok (.putfield 32, 3) := by decide +kernel
theorem dX5_init_58 : decode cX5_init 58 = .ok (.aload_n 0, 1) := by decide +kernel
theorem dX5_init_59 : decode cX5_init 59 = .ok (.new 36, 3) := by decide +kernel
theorem dX5_init_62 : decode cX5_init 62 = .ok (.dup, 1) := by decide +kernel
theorem dX5_init_63 : decode cX5_init 63 = .ok (.aload_n 1, 1) := by decide +kernel
theorem dX5_init_64 : decode cX5_init 64 = .ok (.invokespecial 38, 3) := by decide +kernel
theorem dX5_init_67 : decode cX5_init 67 = .ok (.putfield 41, 3) := by decide +kernel
theorem dX5_init_70 : decode cX5_init 70 = .ok (.return_, 1) := by decide +kernel
theorem dX5_crackedBy_0 : decode cX5_crackedBy 0 = .ok (.aload_n 3, 1) := by decide +kernel
theorem dX5_crackedBy_1 : decode cX5_crackedBy 1 = .ok (.aload_n 0, 1) := by decide +kernel
theorem dX5_crackedBy_2 : decode cX5_crackedBy 2 = .ok (.getfield 9, 3) := by decide +kernel
theorem dX5_crackedBy_5 : decode cX5_crackedBy 5 = .ok (.iconst 0, 1) := by decide +kernel
theorem dX5_crackedBy_6 : decode cX5_crackedBy 6 = .ok (.iconst 0, 1) := by decide +kernel
theorem dX5_crackedBy_7 : decode cX5_crackedBy 7 = .ok (.invokevirtual 45, 3) := by decide +kernel
theorem dX5_crackedBy_10 : decode cX5_crackedBy 10 = .ok (.aload_n 0, 1) := by decide +kernel
theorem dX5_crackedBy_11 : decode cX5_crackedBy 11 = .ok (.iload_n 1, 1) := by decide +kernel
theorem dX5_crackedBy_12 : decode cX5_crackedBy 12 = .ok (.iload_n 2, 1) := by decide +kernel
theorem dX5_crackedBy_13 : decode cX5_crackedBy 13 = .ok (.aload_n 3, 1) := by decide +kernel
theorem dX5_crackedBy_14 : decode cX5_crackedBy 14 = .ok (.invokevirtual 51, 3) := by decide +kernel
theorem dX5_crackedBy_17 : decode cX5_crackedBy 17 = .ok (.invokevirtual 55, 3) := by decide +kernel
theorem dX5_crackedBy_20 : decode cX5_crackedBy 20 = .ok (.aload_n 0, 1) := by decide +kernel
theorem dX5_crackedBy_21 : decode cX5_crackedBy 21 = .ok (.getfield 41, 3) := by decide +kernel
theorem dX5_crackedBy_24 : decode cX5_crackedBy 24 = .ok (.invokevirtual 59, 3) := by decide +kernel
theorem dX5_crackedBy_27 : decode cX5_crackedBy 27 = .ok (.ireturn, 1) := by decide +kernel
theorem dX5_ranBy_0 : decode cX5_ranBy 0 = .ok (.aload_n 3, 1) := by decide +kernel
theorem dX5_ranBy_1 : decode cX5_ranBy 1 = .ok (.aload_n 0, 1) := by decide +kernel
theorem dX5_ranBy_2 : decode cX5_ranBy 2 = .ok (.getfield 9, 3) := by decide +kernel
theorem dX5_ranBy_5 : decode cX5_ranBy 5 = .ok (.iconst 0, 1) := by decide +kernel
theorem dX5_ranBy_6 : decode cX5_ranBy 6 = .ok (.iconst 0, 1) := by decide +kernel
theorem dX5_ranBy_7 : decode cX5_ranBy 7 = .ok (.invokevirtual 45, 3) := by decide +kernel
theorem dX5_ranBy_10 : decode cX5_ranBy 10 = .ok (.aload_n 0, 1) := by decide +kernel
theorem dX5_ranBy_11 : decode cX5_ranBy 11 = .ok (.iload_n 1, 1) := by decide +kernel
theorem dX5_ranBy_12 : decode cX5_ranBy 12 = .ok (.iload_n 2, 1) := by decide +kernel
theorem dX5_ranBy_13 : decode cX5_ranBy 13 = .ok (.aload_n 3, 1) := by decide +kernel
theorem dX5_ranBy_14 : decode cX5_ranBy 14 = .ok (.invokevirtual 51, 3) := by decide +kernel
theorem dX5_ranBy_17 : decode cX5_ranBy 17 = .ok (.invokevirtual 55, 3) := by decide +kernel
theorem dX5_ranBy_20 : decode cX5_ranBy 20 = .ok (.aload_n 0, 1) := by decide +kernel
theorem dX5_ranBy_21 : decode cX5_ranBy 21 = .ok (.getfield 41, 3) := by decide +kernel
theorem dX5_ranBy_24 : decode cX5_ranBy 24 = .ok (.invokevirtual 62, 3) := by decide +kernel
theorem dX5_ranBy_27 : decode cX5_ranBy 27 = .ok (.ireturn, 1) := by decide +kernel
theorem dX5_follow_0 : decode cX5_follow 0 = .ok (.aload_n 0, 1) := by decide +kernel
theorem dX5_follow_1 : decode cX5_follow 1 = .ok (.getfield 41, 3) := by decide +kernel
theorem dX5_follow_4 : decode cX5_follow 4 = .ok (.iload_n 1, 1) := by decide +kernel
theorem dX5_follow_5 : decode cX5_follow 5 = .ok (.aload_n 0, 1) := by decide +kernel
theorem dX5_follow_6 : decode cX5_follow 6 = .ok (.getfield 32, 3) := by decide +kernel
theorem dX5_follow_9 : decode cX5_follow 9 = .ok (.iload_n 1, 1) := by decide +kernel
theorem dX5_follow_10 : decode cX5_follow 10 = .ok (.iload_n 2, 1) := by decide +kernel
theorem dX5_follow_11 : decode cX5_follow 11 = .ok (.invokevirtual 65, 3) := by decide +kernel
theorem dX5_follow_14 : decode cX5_follow 14 = .ok (.invokevirtual 69, 3) := by decide +kernel
theorem dX5_follow_17 : decode cX5_follow 17 = .ok (.iconst 0, 1) := by decide +kernel
theorem dX5_follow_18 : decode cX5_follow 18 = .ok (.istore 4, 2) := by decide +kernel
theorem dX5_follow_20 : decode cX5_follow 20 = .ok (.iload 4, 2) := by decide +kernel
theorem dX5_follow_22 : decode cX5_follow 22 = .ok (.iload_n 3, 1) := by decide +kernel
theorem dX5_follow_23 : decode cX5_follow 23 = .ok (.if_icmp .ge 43, 3) := by decide +kernel
theorem dX5_follow_26 : decode cX5_follow 26 = .ok (.iload 4, 2) := by decide +kernel
theorem dX5_follow_28 : decode cX5_follow 28 = .ok (.aload_n 0, 1) := by decide +kernel
theorem dX5_follow_29 : decode cX5_follow 29 = .ok (.getfield 9, 3) := by decide +kernel
theorem dX5_follow_32 : decode cX5_follow 32 = .ok (.arraylength, 1) := by decide +kernel
theorem dX5_follow_33 : decode cX5_follow 33 = .ok (.if_icmp .ge 33, 3) := by decide +kernel
theorem dX5_follow_36 : decode cX5_follow 36 = .ok (.aload_n 0, 1) := by decide +kernel
theorem dX5_follow_37 : decode cX5_follow 37 = .ok (.getfield 41, 3) := by decide +kernel
theorem dX5_follow_40 : decode cX5_follow 40 = .ok (.invokevirtual 62, 3) := by decide +kernel
theorem dX5_follow_43 : decode cX5_follow 43 = .ok (.ifCond .ne 23, 3) := by decide +kernel
theorem dX5_follow_46 : decode cX5_follow 46 = .ok (.aload_n 0, 1) := by decide +kernel
theorem dX5_follow_47 : decode cX5_follow 47 = .ok (.getfield 41, 3) := by decide +kernel
theorem dX5_follow_50 : decode cX5_follow 50 = .ok (.aload_n 0, 1) := by decide +kernel
theorem dX5_follow_51 : decode cX5_follow 51 = .ok (.getfield 9, 3) := by decide +kernel
theorem dX5_follow_54 : decode cX5_follow 54 = .ok (.iload 4, 2) := by decide +kernel
theorem dX5_follow_56 : decode cX5_follow 56 = .ok (.iaload, 1) := by decide +kernel
theorem dX5_follow_57 : decode cX5_follow 57 = .ok (.invokevirtual 73, 3) := by decide +kernel
theorem dX5_follow_60 : decode cX5_follow 60 = .ok (.iinc 4 1, 3) := by decide +kernel
theorem dX5_follow_63 : decode cX5_follow 63 = .ok (.goto (-43), 3) := by decide +kernel
theorem dX5_follow_66 : decode cX5_follow 66 = .ok (.return_, 1) := by decide +kernel
theorem dX5_prepare_0 : decode cX5_prepare 0 = .ok (.aload_n 3, 1) := by decide +kernel
theorem dX5_prepare_1 : decode cX5_prepare 1 = .ok (.ifnonnull 4, 3) := by decide +kernel
theorem dX5_prepare_4 : decode cX5_prepare 4 = .ok (.return_, 1) := by decide +kernel
theorem dX5_prepare_5 : decode cX5_prepare 5 = .ok (.iconst 0, 1) := by decide +kernel
theorem dX5_prepare_6 : decode cX5_prepare 6 = .ok (.istore 6, 2) := by decide +kernel
theorem dX5_prepare_8 : decode cX5_prepare 8 = .ok (.iconst 0, 1) := by decide +kernel
theorem dX5_prepare_9 : decode cX5_prepare 9 = .ok (.istore 7, 2) := by decide +kernel
theorem dX5_prepare_11 : decode cX5_prepare 11 = .ok (.iload 7, 2) := by decide +kernel
theorem dX5_prepare_13 : decode cX5_prepare 13 = .ok (.aload_n 0, 1) := by decide +kernel
theorem dX5_prepare_14 : decode cX5_prepare 14 = .ok (.getfield 32, 3) := by decide +kernel
theorem dX5_prepare_17 : decode cX5_prepare 17 = .ok (.invokevirtual 77, 3) := by decide +kernel
theorem dX5_prepare_20 : decode cX5_prepare 20 = .ok (.if_icmp .ge 154, 3) := by decide +kernel
theorem dX5_prepare_23 : decode cX5_prepare 23 = .ok (.iload_n 1, 1) := by decide +kernel
theorem dX5_prepare_24 : decode cX5_prepare 24 = .ok (.iload 7, 2) := by decide +kernel
theorem dX5_prepare_26 : decode cX5_prepare 26 = .ok (.invokestatic 80, 3) := by decide +kernel
theorem dX5_prepare_29 : decode cX5_prepare 29 = .ok (.ifCond .eq 139, 3) := by decide +kernel
theorem dX5_prepare_32 : decode cX5_prepare 32 = .ok (.aload_n 0, 1) := by decide +kernel
theorem dX5_prepare_33 : decode cX5_prepare 33 = .ok (.iload 7, 2) := by decide +kernel
theorem dX5_prepare_35 : decode cX5_prepare 35 = .ok (.iload_n 2, 1) := by decide +kernel
theorem dX5_prepare_36 : decode cX5_prepare 36 = .ok (.iload 4, 2) := by decide +kernel
theorem dX5_prepare_38 : decode cX5_prepare 38 = .ok (.iload 5, 2) := by decide +kernel
theorem dX5_prepare_40 : decode cX5_prepare 40 = .ok (.invokevirtual 84, 3) := by decide +kernel
theorem dX5_prepare_43 : decode cX5_prepare 43 = .ok (.ifCond .ne 125, 3) := by decide +kernel
theorem dX5_prepare_46 : decode cX5_prepare 46 = .ok (.iload 6, 2) := by decide +kernel
theorem dX5_prepare_48 : decode cX5_prepare 48 = .ok (.ifCond .ne 18, 3) := by decide +kernel
theorem dX5_prepare_51 : decode cX5_prepare 51 = .ok (.aload_n 3, 1) := by decide +kernel
theorem dX5_prepare_52 : decode cX5_prepare 52 = .ok (.aload_n 0, 1) := by decide +kernel
theorem dX5_prepare_53 : decode cX5_prepare 53 = .ok (.getfield 9, 3) := by decide +kernel
theorem dX5_prepare_56 : decode cX5_prepare 56 = .ok (.iload 4, 2) := by decide +kernel
theorem dX5_prepare_58 : decode cX5_prepare 58 = .ok (.iload 5, 2) := by decide +kernel
theorem dX5_prepare_60 : decode cX5_prepare 60 = .ok (.invokevirtual 45, 3) := by decide +kernel
theorem dX5_prepare_63 : decode cX5_prepare 63 = .ok (.iconst 1, 1) := by decide +kernel
theorem dX5_prepare_64 : decode cX5_prepare 64 = .ok (.istore 6, 2) := by decide +kernel
theorem dX5_prepare_66 : decode cX5_prepare 66 = .ok (.iconst 0, 1) := by decide +kernel
theorem dX5_prepare_67 : decode cX5_prepare 67 = .ok (.istore 8, 2) := by decide +kernel
theorem dX5_prepare_69 : decode cX5_prepare 69 = .ok (.iload 8, 2) := by decide +kernel
theorem dX5_prepare_71 : decode cX5_prepare 71 = .ok (.aload_n 0, 1) := by decide +kernel
theorem dX5_prepare_72 : decode cX5_prepare 72 = .ok (.getfield 32, 3) := by decide +kernel
theorem dX5_prepare_75 : decode cX5_prepare 75 = .ok (.iload 7, 2) := by decide +kernel
theorem dX5_prepare_77 : decode cX5_prepare 77 = .ok (.invokevirtual 88, 3) := by decide +kernel
theorem dX5_prepare_80 : decode cX5_prepare 80 = .ok (.if_icmp .ge 40, 3) := by decide +kernel
theorem dX5_prepare_83 : decode cX5_prepare 83 = .ok (.aload_n 0, 1) := by decide +kernel
theorem dX5_prepare_84 : decode cX5_prepare 84 = .ok (.iload 7, 2) := by decide +kernel
theorem dX5_prepare_86 : decode cX5_prepare 86 = .ok (.iload 8, 2) := by decide +kernel
theorem dX5_prepare_88 : decode cX5_prepare 88 = .ok (.iload 5, 2) := by decide +kernel
theorem dX5_prepare_90 : decode cX5_prepare 90 = .ok (.invokevirtual 55, 3) := by decide +kernel
theorem dX5_prepare_93 : decode cX5_prepare 93 = .ok (.aload_n 0, 1) := by decide +kernel
theorem dX5_prepare_94 : decode cX5_prepare 94 = .ok (.getfield 17, 3) := by decide +kernel
theorem dX5_prepare_97 : decode cX5_prepare 97 = .ok (.iload 7, 2) := by decide +kernel
theorem dX5_prepare_99 : decode cX5_prepare 99 = .ok (.iconst 4, 1) := by decide +kernel
theorem dX5_prepare_100 : decode cX5_prepare 100 = .ok (.imul, 1) := by decide +kernel
theorem dX5_prepare_101 : decode cX5_prepare 101 = .ok (.iload 8, 2) := by decide +kernel
theorem dX5_prepare_103 : decode cX5_prepare 103 = .ok (.iadd, 1) := by decide +kernel
theorem dX5_prepare_104 : decode cX5_prepare 104 = .ok (.aload_n 0, 1) := by decide +kernel
theorem dX5_prepare_105 : decode cX5_prepare 105 = .ok (.getfield 41, 3) := by decide +kernel
theorem dX5_prepare_108 : decode cX5_prepare 108 = .ok (.invokevirtual 62, 3) := by decide +kernel
theorem dX5_prepare_111 : decode cX5_prepare 111 = .ok (.invokestatic 92, 3) := by decide +kernel
theorem dX5_prepare_114 : decode cX5_prepare 114 = .ok (.iinc 8 1, 3) := by decide +kernel
theorem dX5_prepare_117 : decode cX5_prepare 117 = .ok (.goto (-48), 3) := by decide +kernel
theorem dX5_prepare_120 : decode cX5_prepare 120 = .ok (.aload_n 0, 1) := by decide +kernel
theorem dX5_prepare_121 : decode cX5_prepare 121 = .ok (.getfield 20, 3) := by decide +kernel
theorem dX5_prepare_124 : decode cX5_prepare 124 = .ok (.iload 7, 2) := by decide +kernel
theorem dX5_prepare_126 : decode cX5_prepare 126 = .ok (.aload_n 0, 1) := by decide +kernel
theorem dX5_prepare_127 : decode cX5_prepare 127 = .ok (.getfield 32, 3) := by decide +kernel
theorem dX5_prepare_130 : decode cX5_prepare 130 = .ok (.invokevirtual 95, 3) := by decide +kernel
theorem dX5_prepare_133 : decode cX5_prepare 133 = .ok (.invokestatic 92, 3) := by decide +kernel
theorem dX5_prepare_136 : decode cX5_prepare 136 = .ok (.aload_n 0, 1) := by decide +kernel
theorem dX5_prepare_137 : decode cX5_prepare 137 = .ok (.getfield 23, 3) := by decide +kernel
theorem dX5_prepare_140 : decode cX5_prepare 140 = .ok (.iload 7, 2) := by decide +kernel
theorem dX5_prepare_142 : decode cX5_prepare 142 = .ok (.iload_n 2, 1) := by decide +kernel
theorem dX5_prepare_143 : decode cX5_prepare 143 = .ok (.invokestatic 92, 3) := by decide +kernel
theorem dX5_prepare_146 : decode cX5_prepare 146 = .ok (.aload_n 0, 1) := by decide +kernel
theorem dX5_prepare_147 : decode cX5_prepare 147 = .ok (.getfield 26, 3) := by decide +kernel
theorem dX5_prepare_150 : decode cX5_prepare 150 = .ok (.iload 7, 2) := by decide +kernel
theorem dX5_prepare_152 : decode cX5_prepare 152 = .ok (.iload 4, 2) := by decide +kernel
theorem dX5_prepare_154 : decode cX5_prepare 154 = .ok (.invokestatic 92, 3) := by decide +kernel
theorem dX5_prepare_157 : decode cX5_prepare 157 = .ok (.aload_n 0, 1) := by decide +kernel
theorem dX5_prepare_158 : decode cX5_prepare 158 = .ok (.getfield 29, 3) := by decide +kernel
theorem dX5_prepare_161 : decode cX5_prepare 161 = .ok (.iload 7, 2) := by decide +kernel
theorem dX5_prepare_163 : decode cX5_prepare 163 = .ok (.iload 5, 2) := by decide +kernel
theorem dX5_prepare_165 : decode cX5_prepare 165 = .ok (.invokestatic 92, 3) := by decide +kernel
theorem dX5_prepare_168 : decode cX5_prepare 168 = .ok (.iinc 7 1, 3) := by decide +kernel
theorem dX5_prepare_171 : decode cX5_prepare 171 = .ok (.goto (-160), 3) := by decide +kernel
theorem dX5_prepare_174 : decode cX5_prepare 174 = .ok (.return_, 1) := by decide +kernel
theorem dX5_isKnown_0 : decode cX5_isKnown 0 = .ok (.aload_n 0, 1) := by decide +kernel
theorem dX5_isKnown_1 : decode cX5_isKnown 1 = .ok (.getfield 20, 3) := by decide +kernel
theorem dX5_isKnown_4 : decode cX5_isKnown 4 = .ok (.iload_n 1, 1) := by decide +kernel
theorem dX5_isKnown_5 : decode cX5_isKnown 5 = .ok (.invokestatic 98, 3) := by decide +kernel
theorem dX5_isKnown_8 : decode cX5_isKnown 8 = .ok (.aload_n 0, 1) := by decide +kernel
theorem dX5_isKnown_9 : decode cX5_isKnown 9 = .ok (.getfield 32, 3) := by decide +kernel
theorem dX5_isKnown_12 : decode cX5_isKnown 12 = .ok (.invokevirtual 95, 3) := by decide +kernel
theorem dX5_isKnown_15 : decode cX5_isKnown 15 = .ok (.if_icmp .ne 44, 3) := by decide +kernel
theorem dX5_isKnown_18 : decode cX5_isKnown 18 = .ok (.aload_n 0, 1) := by decide +kernel
theorem dX5_isKnown_19 : decode cX5_isKnown 19 = .ok (.getfield 23, 3) := by decide +kernel
theorem dX5_isKnown_22 : decode cX5_isKnown 22 = .ok (.iload_n 1, 1) := by decide +kernel
theorem dX5_isKnown_23 : decode cX5_isKnown 23 = .ok (.invokestatic 98, 3) := by decide +kernel
theorem dX5_isKnown_26 : decode cX5_isKnown 26 = .ok (.iload_n 2, 1) := by decide +kernel
theorem dX5_isKnown_27 : decode cX5_isKnown 27 = .ok (.if_icmp .ne 32, 3) := by decide +kernel
theorem dX5_isKnown_30 : decode cX5_isKnown 30 = .ok (.aload_n 0, 1) := by decide +kernel
theorem dX5_isKnown_31 : decode cX5_isKnown 31 = .ok (.getfield 26, 3) := by decide +kernel
theorem dX5_isKnown_34 : decode cX5_isKnown 34 = .ok (.iload_n 1, 1) := by decide +kernel
theorem dX5_isKnown_35 : decode cX5_isKnown 35 = .ok (.invokestatic 98, 3) := by decide +kernel
theorem dX5_isKnown_38 : decode cX5_isKnown 38 = .ok (.iload_n 3, 1) := by decide +kernel
theorem dX5_isKnown_39 : decode cX5_isKnown 39 = .ok (.if_icmp .ne 20, 3) := by decide +kernel
theorem dX5_isKnown_42 : decode cX5_isKnown 42 = .ok (.aload_n 0, 1) := by decide +kernel
theorem dX5_isKnown_43 : decode cX5_isKnown 43 = .ok (.getfield 29, 3) := by decide +kernel
theorem dX5_isKnown_46 : decode cX5_isKnown 46 = .ok (.iload_n 1, 1) := by decide +kernel
theorem dX5_isKnown_47 : decode cX5_isKnown 47 = .ok (.invokestatic 98, 3) := by decide +kernel
theorem dX5_isKnown_50 : decode cX5_isKnown 50 = .ok (.iload 4, 2) := by decide +kernel
theorem dX5_isKnown_52 : decode cX5_isKnown 52 = .ok (.if_icmp .lt 7, 3) := by decide +kernel
theorem dX5_isKnown_55 : decode cX5_isKnown 55 = .ok (.iconst 1, 1) := by decide +kernel
theorem dX5_isKnown_56 : decode cX5_isKnown 56 = .ok (.goto 4, 3) := by decide +kernel
theorem dX5_isKnown_59 : decode cX5_isKnown 59 = .ok (.iconst 0, 1) := by decide +kernel
theorem dX5_isKnown_60 : decode cX5_isKnown 60 = .ok (.ireturn, 1) := by decide +kernel
theorem dX5_isIn_0 : decode cX5_isIn 0 = .ok (.iload_n 0, 1) := by decide +kernel
theorem dX5_isIn_1 : decode cX5_isIn 1 = .ok (.iload_n 1, 1) := by decide +kernel
theorem dX5_isIn_2 : decode cX5_isIn 2 = .ok (.ishr, 1) := by decide +kernel
theorem dX5_isIn_3 : decode cX5_isIn 3 = .ok (.iconst 1, 1) := by decide +kernel
theorem dX5_isIn_4 : decode cX5_isIn 4 = .ok (.iand, 1) := by decide +kernel
theorem dX5_isIn_5 : decode cX5_isIn 5 = .ok (.iconst 1, 1) := by decide +kernel
theorem dX5_isIn_6 : decode cX5_isIn 6 = .ok (.if_icmp .ne 7, 3) := by decide +kernel
theorem dX5_isIn_9 : decode cX5_isIn 9 = .ok (.iconst 1, 1) := by decide +kernel
theorem dX5_isIn_10 : decode cX5_isIn 10 = .ok (.goto 4, 3) := by decide +kernel
theorem dX5_isIn_13 : decode cX5_isIn 13 = .ok (.iconst 0, 1) := by decide +kernel
theorem dX5_isIn_14 : decode cX5_isIn 14 = .ok (.ireturn, 1) := by decide +kernel
theorem dX5_ways_0 : decode cX5_ways 0 = .ok (.lconst 1, 1) := by decide +kernel
theorem dX5_ways_1 : decode cX5_ways 1 = .ok (.lstore_n 2, 1) := by decide +kernel
theorem dX5_ways_2 : decode cX5_ways 2 = .ok (.iconst 0, 1) := by decide +kernel
theorem dX5_ways_3 : decode cX5_ways 3 = .ok (.istore 4, 2) := by decide +kernel
theorem dX5_ways_5 : decode cX5_ways 5 = .ok (.iload 4, 2) := by decide +kernel
theorem dX5_ways_7 : decode cX5_ways 7 = .ok (.aload_n 0, 1) := by decide +kernel
theorem dX5_ways_8 : decode cX5_ways 8 = .ok (.getfield 32, 3) := by decide +kernel
theorem dX5_ways_11 : decode cX5_ways 11 = .ok (.invokevirtual 77, 3) := by decide +kernel
theorem dX5_ways_14 : decode cX5_ways 14 = .ok (.if_icmp .ge 28, 3) := by decide +kernel
theorem dX5_ways_17 : decode cX5_ways 17 = .ok (.iload_n 1, 1) := by decide +kernel
theorem dX5_ways_18 : decode cX5_ways 18 = .ok (.iload 4, 2) := by decide +kernel
theorem dX5_ways_20 : decode cX5_ways 20 = .ok (.invokestatic 80, 3) := by decide +kernel
theorem dX5_ways_23 : decode cX5_ways 23 = .ok (.ifCond .eq 13, 3) := by decide +kernel
theorem dX5_ways_26 : decode cX5_ways 26 = .ok (.lload_n 2, 1) := by decide +kernel
theorem dX5_ways_27 : decode cX5_ways 27 = .ok (.aload_n 0, 1) := by decide +kernel
theorem dX5_ways_28 : decode cX5_ways 28 = .ok (.iload 4, 2) := by decide +kernel
theorem dX5_ways_30 : decode cX5_ways 30 = .ok (.iconst 0, 1) := by decide +kernel
theorem dX5_ways_31 : decode cX5_ways 31 = .ok (.invokevirtual 102, 3) := by decide +kernel
theorem dX5_ways_34 : decode cX5_ways 34 = .ok (.lmul, 1) := by decide +kernel
theorem dX5_ways_35 : decode cX5_ways 35 = .ok (.lstore_n 2, 1) := by decide +kernel
theorem dX5_ways_36 : decode cX5_ways 36 = .ok (.iinc 4 1, 3) := by decide +kernel
theorem dX5_ways_39 : decode cX5_ways 39 = .ok (.goto (-34), 3) := by decide +kernel
theorem dX5_ways_42 : decode cX5_ways 42 = .ok (.lload_n 2, 1) := by decide +kernel
theorem dX5_ways_43 : decode cX5_ways 43 = .ok (.lreturn, 1) := by decide +kernel
theorem dX5_weightPast_0 : decode cX5_weightPast 0 = .ok (.aload_n 0, 1) := by decide +kernel
theorem dX5_weightPast_1 : decode cX5_weightPast 1 = .ok (.getfield 32, 3) := by decide +kernel
theorem dX5_weightPast_4 : decode cX5_weightPast 4 = .ok (.iload_n 1, 1) := by decide +kernel
theorem dX5_weightPast_5 : decode cX5_weightPast 5 = .ok (.invokevirtual 88, 3) := by decide +kernel
theorem dX5_weightPast_8 : decode cX5_weightPast 8 = .ok (.istore_n 3, 1) := by decide +kernel
theorem dX5_weightPast_9 : decode cX5_weightPast 9 = .ok (.iload_n 3, 1) := by decide +kernel
theorem dX5_weightPast_10 : decode cX5_weightPast 10 = .ok (.ifCond .ne 7, 3) := by decide +kernel
theorem dX5_weightPast_13 : decode cX5_weightPast 13 = .ok (.lconst 1, 1) := by decide +kernel
theorem dX5_weightPast_14 : decode cX5_weightPast 14 = .ok (.goto 4, 3) := by decide +kernel
theorem dX5_weightPast_17 : decode cX5_weightPast 17 = .ok (.lconst 0, 1) := by decide +kernel
theorem dX5_weightPast_18 : decode cX5_weightPast 18 = .ok (.lstore 4, 2) := by decide +kernel
theorem dX5_weightPast_20 : decode cX5_weightPast 20 = .ok (.iconst 0, 1) := by decide +kernel
theorem dX5_weightPast_21 : decode cX5_weightPast 21 = .ok (.istore 6, 2) := by decide +kernel
theorem dX5_weightPast_23 : decode cX5_weightPast 23 = .ok (.iload 6, 2) := by decide +kernel
theorem dX5_weightPast_25 : decode cX5_weightPast 25 = .ok (.iload_n 3, 1) := by decide +kernel
theorem dX5_weightPast_26 : decode cX5_weightPast 26 = .ok (.if_icmp .ge 55, 3) := by decide +kernel
theorem dX5_weightPast_29 : decode cX5_weightPast 29 = .ok (.aload_n 0, 1) := by decide +kernel
theorem dX5_weightPast_30 : decode cX5_weightPast 30 = .ok (.getfield 17, 3) := by decide +kernel
theorem dX5_weightPast_33 : decode cX5_weightPast 33 = .ok (.iload_n 1, 1) := by decide +kernel
theorem dX5_weightPast_34 : decode cX5_weightPast 34 = .ok (.iconst 4, 1) := by decide +kernel
theorem dX5_weightPast_35 : decode cX5_weightPast 35 = .ok (.imul, 1) := by decide +kernel
theorem dX5_weightPast_36 : decode cX5_weightPast 36 = .ok (.iload 6, 2) := by decide +kernel
theorem dX5_weightPast_38 : decode cX5_weightPast 38 = .ok (.iadd, 1) := by decide +kernel
theorem dX5_weightPast_39 : decode cX5_weightPast 39 = .ok (.invokestatic 98, 3) := by decide +kernel
theorem dX5_weightPast_42 : decode cX5_weightPast 42 = .ok (.istore 7, 2) := by decide +kernel
theorem dX5_weightPast_44 : decode cX5_weightPast 44 = .ok (.iload_n 2, 1) := by decide +kernel
theorem dX5_weightPast_45 : decode cX5_weightPast 45 = .ok (.ifCond .eq 14, 3) := by decide +kernel
theorem dX5_weightPast_48 : decode cX5_weightPast 48 = .ok (.iload 7, 2) := by decide +kernel
theorem dX5_weightPast_50 : decode cX5_weightPast 50 = .ok (.ifCond .eq 9, 3) := by decide +kernel
theorem dX5_weightPast_53 : decode cX5_weightPast 53 = .ok (.iload 7, 2) := by decide +kernel
theorem dX5_weightPast_55 : decode cX5_weightPast 55 = .ok (.iload_n 2, 1) := by decide +kernel
theorem dX5_weightPast_56 : decode cX5_weightPast 56 = .ok (.if_icmp .le 19, 3) := by decide +kernel
theorem dX5_weightPast_59 : decode cX5_weightPast 59 = .ok (.lload 4, 2) := by decide +kernel
theorem dX5_weightPast_61 : decode cX5_weightPast 61 = .ok (.aload_n 0, 1) := by decide +kernel
theorem dX5_weightPast_62 : decode cX5_weightPast 62 = .ok (.getfield 32, 3) := by decide +kernel
theorem dX5_weightPast_65 : decode cX5_weightPast 65 = .ok (.iload_n 1, 1) := by decide +kernel
theorem dX5_weightPast_66 : decode cX5_weightPast 66 = .ok (.iload 6, 2) := by decide +kernel
theorem dX5_weightPast_68 : decode cX5_weightPast 68 = .ok (.invokevirtual 106, 3) := by decide +kernel
theorem dX5_weightPast_71 : decode cX5_weightPast 71 = .ok (.i2l, 1) := by decide +kernel
theorem dX5_weightPast_72 : decode cX5_weightPast 72 = .ok (.ladd, 1) := by decide +kernel
theorem dX5_weightPast_73 : decode cX5_weightPast 73 = .ok (.lstore 4, 2) := by decide +kernel
theorem dX5_weightPast_75 : decode cX5_weightPast 75 = .ok (.iinc 6 1, 3) := by decide +kernel
theorem dX5_weightPast_78 : decode cX5_weightPast 78 = .ok (.goto (-55), 3) := by decide +kernel
theorem dX5_weightPast_81 : decode cX5_weightPast 81 = .ok (.lload 4, 2) := by decide +kernel
theorem dX5_weightPast_83 : decode cX5_weightPast 83 = .ok (.lreturn, 1) := by decide +kernel
theorem dX5_lost_0 : decode cX5_lost 0 = .ok (.lconst 1, 1) := by decide +kernel
theorem dX5_lost_1 : decode cX5_lost 1 = .ok (.lstore_n 3, 1) := by decide +kernel
theorem dX5_lost_2 : decode cX5_lost 2 = .ok (.iconst 0, 1) := by decide +kernel
theorem dX5_lost_3 : decode cX5_lost 3 = .ok (.istore 5, 2) := by decide +kernel
theorem dX5_lost_5 : decode cX5_lost 5 = .ok (.iload 5, 2) := by decide +kernel
theorem dX5_lost_7 : decode cX5_lost 7 = .ok (.aload_n 0, 1) := by decide +kernel
theorem dX5_lost_8 : decode cX5_lost 8 = .ok (.getfield 32, 3) := by decide +kernel
theorem dX5_lost_11 : decode cX5_lost 11 = .ok (.invokevirtual 77, 3) := by decide +kernel
theorem dX5_lost_14 : decode cX5_lost 14 = .ok (.if_icmp .ge 28, 3) := by decide +kernel
theorem dX5_lost_17 : decode cX5_lost 17 = .ok (.iload_n 1, 1) := by decide +kernel
theorem dX5_lost_18 : decode cX5_lost 18 = .ok (.iload 5, 2) := by decide +kernel
theorem dX5_lost_20 : decode cX5_lost 20 = .ok (.invokestatic 80, 3) := by decide +kernel
theorem dX5_lost_23 : decode cX5_lost 23 = .ok (.ifCond .eq 13, 3) := by decide +kernel
theorem dX5_lost_26 : decode cX5_lost 26 = .ok (.lload_n 3, 1) := by decide +kernel
theorem dX5_lost_27 : decode cX5_lost 27 = .ok (.aload_n 0, 1) := by decide +kernel
theorem dX5_lost_28 : decode cX5_lost 28 = .ok (.iload 5, 2) := by decide +kernel
theorem dX5_lost_30 : decode cX5_lost 30 = .ok (.iload_n 2, 1) := by decide +kernel
theorem dX5_lost_31 : decode cX5_lost 31 = .ok (.invokevirtual 102, 3) := by decide +kernel
theorem dX5_lost_34 : decode cX5_lost 34 = .ok (.lmul, 1) := by decide +kernel
theorem dX5_lost_35 : decode cX5_lost 35 = .ok (.lstore_n 3, 1) := by decide +kernel
theorem dX5_lost_36 : decode cX5_lost 36 = .ok (.iinc 5 1, 3) := by decide +kernel
theorem dX5_lost_39 : decode cX5_lost 39 = .ok (.goto (-34), 3) := by decide +kernel
theorem dX5_lost_42 : decode cX5_lost 42 = .ok (.aload_n 0, 1) := by decide +kernel
theorem dX5_lost_43 : decode cX5_lost 43 = .ok (.iload_n 1, 1) := by decide +kernel
theorem dX5_lost_44 : decode cX5_lost 44 = .ok (.invokevirtual 109, 3) := by decide +kernel
theorem dX5_lost_47 : decode cX5_lost 47 = .ok (.lload_n 3, 1) := by decide +kernel
theorem dX5_lost_48 : decode cX5_lost 48 = .ok (.lsub, 1) := by decide +kernel
theorem dX5_lost_49 : decode cX5_lost 49 = .ok (.lreturn, 1) := by decide +kernel
theorem dX5_first_0 : decode cX5_first 0 = .ok (.lconst 0, 1) := by decide +kernel
theorem dX5_first_1 : decode cX5_first 1 = .ok (.lstore_n 3, 1) := by decide +kernel
theorem dX5_first_2 : decode cX5_first 2 = .ok (.iconst 0, 1) := by decide +kernel
theorem dX5_first_3 : decode cX5_first 3 = .ok (.istore 5, 2) := by decide +kernel
theorem dX5_first_5 : decode cX5_first 5 = .ok (.iload 5, 2) := by decide +kernel
theorem dX5_first_7 : decode cX5_first 7 = .ok (.aload_n 0, 1) := by decide +kernel
theorem dX5_first_8 : decode cX5_first 8 = .ok (.getfield 32, 3) := by decide +kernel
theorem dX5_first_11 : decode cX5_first 11 = .ok (.iload_n 1, 1) := by decide +kernel
theorem dX5_first_12 : decode cX5_first 12 = .ok (.invokevirtual 88, 3) := by decide +kernel
theorem dX5_first_15 : decode cX5_first 15 = .ok (.if_icmp .ge 110, 3) := by decide +kernel
theorem dX5_first_18 : decode cX5_first 18 = .ok (.aload_n 0, 1) := by decide +kernel
theorem dX5_first_19 : decode cX5_first 19 = .ok (.getfield 17, 3) := by decide +kernel
theorem dX5_first_22 : decode cX5_first 22 = .ok (.iload_n 1, 1) := by decide +kernel
theorem dX5_first_23 : decode cX5_first 23 = .ok (.iconst 4, 1) := by decide +kernel
theorem dX5_first_24 : decode cX5_first 24 = .ok (.imul, 1) := by decide +kernel
theorem dX5_first_25 : decode cX5_first 25 = .ok (.iload 5, 2) := by decide +kernel
theorem dX5_first_27 : decode cX5_first 27 = .ok (.iadd, 1) := by decide +kernel
theorem dX5_first_28 : decode cX5_first 28 = .ok (.invokestatic 98, 3) := by decide +kernel
theorem dX5_first_31 : decode cX5_first 31 = .ok (.istore 6, 2) := by decide +kernel
theorem dX5_first_33 : decode cX5_first 33 = .ok (.iload 6, 2) := by decide +kernel
theorem dX5_first_35 : decode cX5_first 35 = .ok (.ifCond .le 84, 3) := by decide +kernel
theorem dX5_first_38 : decode cX5_first 38 = .ok (.iload 6, 2) := by decide +kernel
theorem dX5_first_40 : decode cX5_first 40 = .ok (.iload_n 2, 1) := by decide +kernel
theorem dX5_first_41 : decode cX5_first 41 = .ok (.if_icmp .gt 78, 3) := by decide +kernel
theorem dX5_first_44 : decode cX5_first 44 = .ok (.aload_n 0, 1) := by decide +kernel
theorem dX5_first_45 : decode cX5_first 45 = .ok (.getfield 32, 3) := by decide +kernel
theorem dX5_first_48 : decode cX5_first 48 = .ok (.iload_n 1, 1) := by decide +kernel
theorem dX5_first_49 : decode cX5_first 49 = .ok (.iload 5, 2) := by decide +kernel
theorem dX5_first_51 : decode cX5_first 51 = .ok (.invokevirtual 106, 3) := by decide +kernel
theorem dX5_first_54 : decode cX5_first 54 = .ok (.i2l, 1) := by decide +kernel
theorem dX5_first_55 : decode cX5_first 55 = .ok (.lstore 7, 2) := by decide +kernel
theorem dX5_first_57 : decode cX5_first 57 = .ok (.iconst 0, 1) := by decide +kernel
theorem dX5_first_58 : decode cX5_first 58 = .ok (.istore 9, 2) := by decide +kernel
theorem dX5_first_60 : decode cX5_first 60 = .ok (.iload 9, 2) := by decide +kernel
theorem dX5_first_62 : decode cX5_first 62 = .ok (.aload_n 0, 1) := by decide +kernel
theorem dX5_first_63 : decode cX5_first 63 = .ok (.getfield 32, 3) := by decide +kernel
theorem dX5_first_66 : decode cX5_first 66 = .ok (.invokevirtual 77, 3) := by decide +kernel
theorem dX5_first_69 : decode cX5_first 69 = .ok (.if_icmp .ge 45, 3) := by decide +kernel
theorem dX5_first_72 : decode cX5_first 72 = .ok (.lload 7, 2) := by decide +kernel
theorem dX5_first_74 : decode cX5_first 74 = .ok (.iload 9, 2) := by decide +kernel
theorem dX5_first_76 : decode cX5_first 76 = .ok (.iload_n 1, 1) := by decide +kernel
theorem dX5_first_77 : decode cX5_first 77 = .ok (.if_icmp .ne 7, 3) := by decide +kernel
theorem dX5_first_80 : decode cX5_first 80 = .ok (.lconst 1, 1) := by decide +kernel
theorem dX5_first_81 : decode cX5_first 81 = .ok (.goto 24, 3) := by decide +kernel
theorem dX5_first_84 : decode cX5_first 84 = .ok (.aload_n 0, 1) := by decide +kernel
theorem dX5_first_85 : decode cX5_first 85 = .ok (.iload 9, 2) := by decide +kernel
theorem dX5_first_87 : decode cX5_first 87 = .ok (.iload 9, 2) := by decide +kernel
theorem dX5_first_89 : decode cX5_first 89 = .ok (.iload_n 1, 1) := by decide +kernel
theorem dX5_first_90 : decode cX5_first 90 = .ok (.if_icmp .ge 8, 3) := by decide +kernel
theorem dX5_first_93 : decode cX5_first 93 = .ok (.iload 6, 2) := by decide +kernel
theorem dX5_first_95 : decode cX5_first 95 = .ok (.goto 7, 3) := by decide +kernel
theorem dX5_first_98 : decode cX5_first 98 = .ok (.iload 6, 2) := by decide +kernel
theorem dX5_first_100 : decode cX5_first 100 = .ok (.iconst 1, 1) := by decide +kernel
theorem dX5_first_101 : decode cX5_first 101 = .ok (.isub, 1) := by decide +kernel
theorem dX5_first_102 : decode cX5_first 102 = .ok (.invokevirtual 102, 3) := by decide +kernel
theorem dX5_first_105 : decode cX5_first 105 = .ok (.lmul, 1) := by decide +kernel
theorem dX5_first_106 : decode cX5_first 106 = .ok (.lstore 7, 2) := by decide +kernel
theorem dX5_first_108 : decode cX5_first 108 = .ok (.iinc 9 1, 3) := by decide +kernel
theorem dX5_first_111 : decode cX5_first 111 = .ok (.goto (-51), 3) := by decide +kernel
theorem dX5_first_114 : decode cX5_first 114 = .ok (.lload_n 3, 1) := by decide +kernel
theorem dX5_first_115 : decode cX5_first 115 = .ok (.lload 7, 2) := by decide +kernel
theorem dX5_first_117 : decode cX5_first 117 = .ok (.ladd, 1) := by decide +kernel
theorem dX5_first_118 : decode cX5_first 118 = .ok (.lstore_n 3, 1) := by decide +kernel
theorem dX5_first_119 : decode cX5_first 119 = .ok (.iinc 5 1, 3) := by decide +kernel
theorem dX5_first_122 : decode cX5_first 122 = .ok (.goto (-117), 3) := by decide +kernel
theorem dX5_first_125 : decode cX5_first 125 = .ok (.lload_n 3, 1) := by decide +kernel
theorem dX5_first_126 : decode cX5_first 126 = .ok (.lreturn, 1) := by decide +kernel
theorem dX5_flightsTill_0 : decode cX5_flightsTill 0 = .ok (.aload_n 0, 1) := by decide +kernel
theorem dX5_flightsTill_1 : decode cX5_flightsTill 1 = .ok (.iload_n 1, 1) := by decide +kernel
theorem dX5_flightsTill_2 : decode cX5_flightsTill 2 = .ok (.iload_n 2, 1) := by decide +kernel
theorem dX5_flightsTill_3 : decode cX5_flightsTill 3 = .ok (.invokevirtual 113, 3) := by decide +kernel
theorem dX5_flightsTill_6 : decode cX5_flightsTill 6 = .ok (.lstore 4, 2) := by decide +kernel
theorem dX5_flightsTill_8 : decode cX5_flightsTill 8 = .ok (.aload_n 0, 1) := by decide +kernel
theorem dX5_flightsTill_9 : decode cX5_flightsTill 9 = .ok (.iload_n 1, 1) := by decide +kernel
theorem dX5_flightsTill_10 : decode cX5_flightsTill 10 = .ok (.invokevirtual 109, 3) := by decide +kernel
theorem dX5_flightsTill_13 : decode cX5_flightsTill 13 = .ok (.lload 4, 2) := by decide +kernel
theorem dX5_flightsTill_15 : decode cX5_flightsTill 15 = .ok (.lsub, 1) := by decide +kernel
theorem dX5_flightsTill_16 : decode cX5_flightsTill 16 = .ok (.lstore 6, 2) := by decide +kernel
theorem dX5_flightsTill_18 : decode cX5_flightsTill 18 = .ok (.lload 6, 2) := by decide +kernel
theorem dX5_flightsTill_20 : decode cX5_flightsTill 20 = .ok (.lconst 0, 1) := by decide +kernel
theorem dX5_flightsTill_21 : decode cX5_flightsTill 21 = .ok (.lcmp, 1) := by decide +kernel
theorem dX5_flightsTill_22 : decode cX5_flightsTill 22 = .ok (.ifCond .ne 6, 3) := by decide +kernel
theorem dX5_flightsTill_25 : decode cX5_flightsTill 25 = .ok (.bipush (-2), 2) := by decide +kernel
theorem dX5_flightsTill_27 : decode cX5_flightsTill 27 = .ok (.ireturn, 1) := by decide +kernel
theorem dX5_flightsTill_28 : decode cX5_flightsTill 28 = .ok (.bipush (-2), 2) := by decide +kernel
theorem dX5_flightsTill_30 : decode cX5_flightsTill 30 = .ok (.istore 8, 2) := by decide +kernel
theorem dX5_flightsTill_32 : decode cX5_flightsTill 32 = .ok (.iconst 0, 1) := by decide +kernel
theorem dX5_flightsTill_33 : decode cX5_flightsTill 33 = .ok (.istore 9, 2) := by decide +kernel
theorem dX5_flightsTill_35 : decode cX5_flightsTill 35 = .ok (.iload 9, 2) := by decide +kernel
theorem dX5_flightsTill_37 : decode cX5_flightsTill 37 = .ok (.aload_n 0, 1) := by decide +kernel
theorem dX5_flightsTill_38 : decode cX5_flightsTill 38 = .ok (.getfield 32, 3) := by decide +kernel
theorem dX5_flightsTill_41 : decode cX5_flightsTill 41 = .ok (.invokevirtual 77, 3) := by decide +kernel
theorem dX5_flightsTill_44 : decode cX5_flightsTill 44 = .ok (.if_icmp .ge 118, 3) := by decide +kernel
theorem dX5_flightsTill_47 : decode cX5_flightsTill 47 = .ok (.iconst 0, 1) := by decide +kernel
theorem dX5_flightsTill_48 : decode cX5_flightsTill 48 = .ok (.istore 10, 2) := by decide +kernel
theorem dX5_flightsTill_50 : decode cX5_flightsTill 50 = .ok (.iload 10, 2) := by decide +kernel
theorem dX5_flightsTill_52 : decode cX5_flightsTill 52 = .ok (.aload_n 0, 1) := by decide +kernel
theorem dX5_flightsTill_53 : decode cX5_flightsTill 53 = .ok (.getfield 32, 3) := by decide +kernel
theorem dX5_flightsTill_56 : decode cX5_flightsTill 56 = .ok (.iload 9, 2) := by decide +kernel
theorem dX5_flightsTill_58 : decode cX5_flightsTill 58 = .ok (.invokevirtual 88, 3) := by decide +kernel
theorem dX5_flightsTill_61 : decode cX5_flightsTill 61 = .ok (.if_icmp .ge 95, 3) := by decide +kernel
theorem dX5_flightsTill_64 : decode cX5_flightsTill 64 = .ok (.iload_n 1, 1) := by decide +kernel
theorem dX5_flightsTill_65 : decode cX5_flightsTill 65 = .ok (.iload 9, 2) := by decide +kernel
theorem dX5_flightsTill_67 : decode cX5_flightsTill 67 = .ok (.invokestatic 80, 3) := by decide +kernel
theorem dX5_flightsTill_70 : decode cX5_flightsTill 70 = .ok (.ifCond .eq 86, 3) := by decide +kernel
theorem dX5_flightsTill_73 : decode cX5_flightsTill 73 = .ok (.aload_n 0, 1) := by decide +kernel
theorem dX5_flightsTill_74 : decode cX5_flightsTill 74 = .ok (.getfield 17, 3) := by decide +kernel
theorem dX5_flightsTill_77 : decode cX5_flightsTill 77 = .ok (.iload 9, 2) := by decide +kernel
theorem dX5_flightsTill_79 : decode cX5_flightsTill 79 = .ok (.iconst 4, 1) := by decide +kernel
theorem dX5_flightsTill_80 : decode cX5_flightsTill 80 = .ok (.imul, 1) := by decide +kernel
theorem dX5_flightsTill_81 : decode cX5_flightsTill 81 = .ok (.iload 10, 2) := by decide +kernel
theorem dX5_flightsTill_83 : decode cX5_flightsTill 83 = .ok (.iadd, 1) := by decide +kernel
theorem dX5_flightsTill_84 : decode cX5_flightsTill 84 = .ok (.invokestatic 98, 3) := by decide +kernel
theorem dX5_flightsTill_87 : decode cX5_flightsTill 87 = .ok (.istore 11, 2) := by decide +kernel
theorem dX5_flightsTill_89 : decode cX5_flightsTill 89 = .ok (.iload 11, 2) := by decide +kernel
theorem dX5_flightsTill_91 : decode cX5_flightsTill 91 = .ok (.iload_n 2, 1) := by decide +kernel
theorem dX5_flightsTill_92 : decode cX5_flightsTill 92 = .ok (.if_icmp .le 21, 3) := by decide +kernel
theorem dX5_flightsTill_95 : decode cX5_flightsTill 95 = .ok (.iload 8, 2) := by decide +kernel
theorem dX5_flightsTill_97 : decode cX5_flightsTill 97 = .ok (.ifCond .lt 12, 3) := by decide +kernel
theorem dX5_flightsTill_100 : decode cX5_flightsTill 100 = .ok (.iload 11, 2) := by decide +kernel
theorem dX5_flightsTill_102 : decode cX5_flightsTill 102 = .ok (.iload_n 2, 1) := by decide +kernel
theorem dX5_flightsTill_103 : decode cX5_flightsTill 103 = .ok (.isub, 1) := by decide +kernel
theorem dX5_flightsTill_104 : decode cX5_flightsTill 104 = .ok (.iload 8, 2) := by decide +kernel
theorem dX5_flightsTill_106 : decode cX5_flightsTill 106 = .ok (.if_icmp .ge 7, 3) := by decide +kernel
theorem dX5_flightsTill_109 : decode cX5_flightsTill 109 = .ok (.iconst 1, 1) := by decide +kernel
theorem dX5_flightsTill_110 : decode cX5_flightsTill 110 = .ok (.goto 4, 3) := by decide +kernel
theorem dX5_flightsTill_113 : decode cX5_flightsTill 113 = .ok (.iconst 0, 1) := by decide +kernel
theorem dX5_flightsTill_114 : decode cX5_flightsTill 114 = .ok (.istore 12, 2) := by decide +kernel
theorem dX5_flightsTill_116 : decode cX5_flightsTill 116 = .ok (.iload 12, 2) := by decide +kernel
theorem dX5_flightsTill_118 : decode cX5_flightsTill 118 = .ok (.ifCond .eq 32, 3) := by decide +kernel
theorem dX5_flightsTill_121 : decode cX5_flightsTill 121 = .ok (.aload_n 0, 1) := by decide +kernel
theorem dX5_flightsTill_122 : decode cX5_flightsTill 122 = .ok (.iload_n 1, 1) := by decide +kernel
theorem dX5_flightsTill_123 : decode cX5_flightsTill 123 = .ok (.iload 11, 2) := by decide +kernel
theorem dX5_flightsTill_125 : decode cX5_flightsTill 125 = .ok (.invokevirtual 113, 3) := by decide +kernel
theorem dX5_flightsTill_128 : decode cX5_flightsTill 128 = .ok (.lload 4, 2) := by decide +kernel
theorem dX5_flightsTill_130 : decode cX5_flightsTill 130 = .ok (.lsub, 1) := by decide +kernel
theorem dX5_flightsTill_131 : decode cX5_flightsTill 131 = .ok (.ldc2_w 116, 3) := by decide +kernel
theorem dX5_flightsTill_134 : decode cX5_flightsTill 134 = .ok (.lmul, 1) := by decide +kernel
theorem dX5_flightsTill_135 : decode cX5_flightsTill 135 = .ok (.iload_n 3, 1) := by decide +kernel
theorem dX5_flightsTill_136 : decode cX5_flightsTill 136 = .ok (.i2l, 1) := by decide +kernel
theorem dX5_flightsTill_137 : decode cX5_flightsTill 137 = .ok (.lload 6, 2) := by decide +kernel
theorem dX5_flightsTill_139 : decode cX5_flightsTill 139 = .ok (.lmul, 1) := by decide +kernel
theorem dX5_flightsTill_140 : decode cX5_flightsTill 140 = .ok (.lcmp, 1) := by decide +kernel
theorem dX5_flightsTill_141 : decode cX5_flightsTill 141 = .ok (.ifCond .lt 9, 3) := by decide +kernel
theorem dX5_flightsTill_144 : decode cX5_flightsTill 144 = .ok (.iload 11, 2) := by decide +kernel
theorem dX5_flightsTill_146 : decode cX5_flightsTill 146 = .ok (.iload_n 2, 1) := by decide +kernel
theorem dX5_flightsTill_147 : decode cX5_flightsTill 147 = .ok (.isub, 1) := by decide +kernel
theorem dX5_flightsTill_148 : decode cX5_flightsTill 148 = .ok (.istore 8, 2) := by decide +kernel
theorem dX5_flightsTill_150 : decode cX5_flightsTill 150 = .ok (.iinc 10 1, 3) := by decide +kernel
theorem dX5_flightsTill_153 : decode cX5_flightsTill 153 = .ok (.goto (-103), 3) := by decide +kernel
theorem dX5_flightsTill_156 : decode cX5_flightsTill 156 = .ok (.iinc 9 1, 3) := by decide +kernel
theorem dX5_flightsTill_159 : decode cX5_flightsTill 159 = .ok (.goto (-124), 3) := by decide +kernel
theorem dX5_flightsTill_162 : decode cX5_flightsTill 162 = .ok (.iload 8, 2) := by decide +kernel
theorem dX5_flightsTill_164 : decode cX5_flightsTill 164 = .ok (.ireturn, 1) := by decide +kernel
theorem dX5_cheapestFlights_0 : decode cX5_cheapestFlights 0 = .ok (.aload_n 0, 1) := by decide +kernel
theorem dX5_cheapestFlights_1 : decode cX5_cheapestFlights 1 = .ok (.getfield 32, 3) := by decide +kernel
theorem dX5_cheapestFlights_4 : decode cX5_cheapestFlights 4 = .ok (.invokevirtual 118, 3) := by decide +kernel
theorem dX5_cheapestFlights_7 : decode cX5_cheapestFlights 7 = .ok (.istore 5, 2) := by decide +kernel
theorem dX5_cheapestFlights_9 : decode cX5_cheapestFlights 9 = .ok (.aload_n 0, 1) := by decide +kernel
theorem dX5_cheapestFlights_10 : decode cX5_cheapestFlights 10 = .ok (.iload 5, 2) := by decide +kernel
theorem dX5_cheapestFlights_12 : decode cX5_cheapestFlights 12 = .ok (.iload_n 1, 1) := by decide +kernel
theorem dX5_cheapestFlights_13 : decode cX5_cheapestFlights 13 = .ok (.invokevirtual 113, 3) := by decide +kernel
theorem dX5_cheapestFlights_16 : decode cX5_cheapestFlights 16 = .ok (.lstore 6, 2) := by decide +kernel
theorem dX5_cheapestFlights_18 : decode cX5_cheapestFlights 18 = .ok (.aload_n 0, 1) := by decide +kernel
theorem dX5_cheapestFlights_19 : decode cX5_cheapestFlights 19 = .ok (.iload 5, 2) := by decide +kernel
theorem dX5_cheapestFlights_21 : decode cX5_cheapestFlights 21 = .ok (.invokevirtual 109, 3) := by decide +kernel
theorem dX5_cheapestFlights_24 : decode cX5_cheapestFlights 24 = .ok (.lload 6, 2) := by decide +kernel
theorem dX5_cheapestFlights_26 : decode cX5_cheapestFlights 26 = .ok (.lsub, 1) := by decide +kernel
theorem dX5_cheapestFlights_27 : decode cX5_cheapestFlights 27 = .ok (.lstore 8, 2) := by decide +kernel
theorem dX5_cheapestFlights_29 : decode cX5_cheapestFlights 29 = .ok (.lload 8, 2) := by decide +kernel
theorem dX5_cheapestFlights_31 : decode cX5_cheapestFlights 31 = .ok (.lconst 0, 1) := by decide +kernel
theorem dX5_cheapestFlights_32 : decode cX5_cheapestFlights 32 = .ok (.lcmp, 1) := by decide +kernel
theorem dX5_cheapestFlights_33 : decode cX5_cheapestFlights 33 = .ok (.ifCond .ne 6, 3) := by decide +kernel
theorem dX5_cheapestFlights_36 : decode cX5_cheapestFlights 36 = .ok (.bipush (-2), 2) := by decide +kernel
theorem dX5_cheapestFlights_38 : decode cX5_cheapestFlights 38 = .ok (.ireturn, 1) := by decide +kernel
theorem dX5_cheapestFlights_39 : decode cX5_cheapestFlights 39 = .ok (.iconst 0, 1) := by decide +kernel
theorem dX5_cheapestFlights_40 : decode cX5_cheapestFlights 40 = .ok (.istore 10, 2) := by decide +kernel
theorem dX5_cheapestFlights_42 : decode cX5_cheapestFlights 42 = .ok (.iload 4, 2) := by decide +kernel
theorem dX5_cheapestFlights_44 : decode cX5_cheapestFlights 44 = .ok (.i2l, 1) := by decide +kernel
theorem dX5_cheapestFlights_45 : decode cX5_cheapestFlights 45 = .ok (.lload 8, 2) := by decide +kernel
theorem dX5_cheapestFlights_47 : decode cX5_cheapestFlights 47 = .ok (.lmul, 1) := by decide +kernel
theorem dX5_cheapestFlights_48 : decode cX5_cheapestFlights 48 = .ok (.iload_n 2, 1) := by decide +kernel
theorem dX5_cheapestFlights_49 : decode cX5_cheapestFlights 49 = .ok (.i2l, 1) := by decide +kernel
theorem dX5_cheapestFlights_50 : decode cX5_cheapestFlights 50 = .ok (.lmul, 1) := by decide +kernel
theorem dX5_cheapestFlights_51 : decode cX5_cheapestFlights 51 = .ok (.lstore 11, 2) := by decide +kernel
theorem dX5_cheapestFlights_53 : decode cX5_cheapestFlights 53 = .ok (.iconst 1, 1) := by decide +kernel
theorem dX5_cheapestFlights_54 : decode cX5_cheapestFlights 54 = .ok (.istore 13, 2) := by decide +kernel
theorem dX5_cheapestFlights_56 : decode cX5_cheapestFlights 56 = .ok (.iload 13, 2) := by decide +kernel
theorem dX5_cheapestFlights_58 : decode cX5_cheapestFlights 58 = .ok (.iload_n 2, 1) := by decide +kernel
theorem dX5_cheapestFlights_59 : decode cX5_cheapestFlights 59 = .ok (.if_icmp .gt 56, 3) := by decide +kernel
theorem dX5_cheapestFlights_62 : decode cX5_cheapestFlights 62 = .ok (.iload_n 3, 1) := by decide +kernel
theorem dX5_cheapestFlights_63 : decode cX5_cheapestFlights 63 = .ok (.i2l, 1) := by decide +kernel
theorem dX5_cheapestFlights_64 : decode cX5_cheapestFlights 64 = .ok (.aload_n 0, 1) := by decide +kernel
theorem dX5_cheapestFlights_65 : decode cX5_cheapestFlights 65 = .ok (.iload 5, 2) := by decide +kernel
theorem dX5_cheapestFlights_67 : decode cX5_cheapestFlights 67 = .ok (.iload_n 1, 1) := by decide +kernel
theorem dX5_cheapestFlights_68 : decode cX5_cheapestFlights 68 = .ok (.iload 13, 2) := by decide +kernel
theorem dX5_cheapestFlights_70 : decode cX5_cheapestFlights 70 = .ok (.iadd, 1) := by decide +kernel
theorem dX5_cheapestFlights_71 : decode cX5_cheapestFlights 71 = .ok (.invokevirtual 113, 3) := by decide +kernel
theorem dX5_cheapestFlights_74 : decode cX5_cheapestFlights 74 = .ok (.lload 6, 2) := by decide +kernel
theorem dX5_cheapestFlights_76 : decode cX5_cheapestFlights 76 = .ok (.lsub, 1) := by decide +kernel
theorem dX5_cheapestFlights_77 : decode cX5_cheapestFlights 77 = .ok (.lmul, 1) := by decide +kernel
theorem dX5_cheapestFlights_78 : decode cX5_cheapestFlights 78 = .ok (.iload 4, 2) := by decide +kernel
theorem dX5_cheapestFlights_80 : decode cX5_cheapestFlights 80 = .ok (.i2l, 1) := by decide +kernel
theorem dX5_cheapestFlights_81 : decode cX5_cheapestFlights 81 = .ok (.lload 8, 2) := by decide +kernel
theorem dX5_cheapestFlights_83 : decode cX5_cheapestFlights 83 = .ok (.lmul, 1) := by decide +kernel
theorem dX5_cheapestFlights_84 : decode cX5_cheapestFlights 84 = .ok (.iload_n 2, 1) := by decide +kernel
theorem dX5_cheapestFlights_85 : decode cX5_cheapestFlights 85 = .ok (.iload 13, 2) := by decide +kernel
theorem dX5_cheapestFlights_87 : decode cX5_cheapestFlights 87 = .ok (.isub, 1) := by decide +kernel
theorem dX5_cheapestFlights_88 : decode cX5_cheapestFlights 88 = .ok (.i2l, 1) := by decide +kernel
theorem dX5_cheapestFlights_89 : decode cX5_cheapestFlights 89 = .ok (.lmul, 1) := by decide +kernel
theorem dX5_cheapestFlights_90 : decode cX5_cheapestFlights 90 = .ok (.ladd, 1) := by decide +kernel
theorem dX5_cheapestFlights_91 : decode cX5_cheapestFlights 91 = .ok (.lstore 14, 2) := by decide +kernel
theorem dX5_cheapestFlights_93 : decode cX5_cheapestFlights 93 = .ok (.lload 14, 2) := by decide +kernel
theorem dX5_cheapestFlights_95 : decode cX5_cheapestFlights 95 = .ok (.lload 11, 2) := by decide +kernel
theorem dX5_cheapestFlights_97 : decode cX5_cheapestFlights 97 = .ok (.lcmp, 1) := by decide +kernel
theorem dX5_cheapestFlights_98 : decode cX5_cheapestFlights 98 = .ok (.ifCond .ge 11, 3) := by decide +kernel
theorem dX5_cheapestFlights_101 : decode cX5_cheapestFlights 101 = .ok (.lload 14, 2) := by decide +kernel
theorem dX5_cheapestFlights_103 : decode cX5_cheapestFlights 103 = .ok (.lstore 11, 2) := by decide +kernel
theorem dX5_cheapestFlights_105 : decode cX5_cheapestFlights 105 = .ok (.iload 13, 2) := by decide +kernel
theorem dX5_cheapestFlights_107 : decode cX5_cheapestFlights 107 = .ok (.istore 10, 2) := by decide +kernel
theorem dX5_cheapestFlights_109 : decode cX5_cheapestFlights 109 = .ok (.iinc 13 1, 3) := by decide +kernel
theorem dX5_cheapestFlights_112 : decode cX5_cheapestFlights 112 = .ok (.goto (-56), 3) := by decide +kernel
theorem dX5_cheapestFlights_115 : decode cX5_cheapestFlights 115 = .ok (.iload 10, 2) := by decide +kernel
theorem dX5_cheapestFlights_117 : decode cX5_cheapestFlights 117 = .ok (.ireturn, 1) := by decide +kernel
theorem dX6_init_0 : decode cX6_init 0 = .ok (.aload_n 0, 1) := by decide +kernel
theorem dX6_init_1 : decode cX6_init 1 = .ok (.invokespecial 3, 3) := by decide +kernel
theorem dX6_init_4 : decode cX6_init 4 = .ok (.aload_n 0, 1) := by decide +kernel
theorem dX6_init_5 : decode cX6_init 5 = .ok (.bipush 8, 2) := by decide +kernel
theorem dX6_init_7 : decode cX6_init 7 = .ok (.newarray .int, 2) := by decide +kernel
theorem dX6_init_9 : decode cX6_init 9 = .ok (.putfield 11, 3) := by decide +kernel
theorem dX6_init_12 : decode cX6_init 12 = .ok (.aload_n 0, 1) := by decide +kernel
theorem dX6_init_13 : decode cX6_init 13 = .ok (.bipush 8, 2) := by decide +kernel
theorem dX6_init_15 : decode cX6_init 15 = .ok (.newarray .int, 2) := by decide +kernel
theorem dX6_init_17 : decode cX6_init 17 = .ok (.putfield 15, 3) := by decide +kernel
theorem dX6_init_20 : decode cX6_init 20 = .ok (.return_, 1) := by decide +kernel
theorem dX6_pulls_0 : decode cX6_pulls 0 = .ok (.aload_n 0, 1) := by decide +kernel
theorem dX6_pulls_1 : decode cX6_pulls 1 = .ok (.getfield 18, 3) := by decide +kernel
theorem dX6_pulls_4 : decode cX6_pulls 4 = .ok (.ireturn, 1) := by decide +kernel
theorem dX6_copy_0 : decode cX6_copy 0 = .ok (.iconst 0, 1) := by decide +kernel
theorem dX6_copy_1 : decode cX6_copy 1 = .ok (.istore_n 2, 1) := by decide +kernel
theorem dX6_copy_2 : decode cX6_copy 2 = .ok (.iload_n 2, 1) := by decide +kernel
theorem dX6_copy_3 : decode cX6_copy 3 = .ok (.bipush 8, 2) := by decide +kernel
theorem dX6_copy_5 : decode cX6_copy 5 = .ok (.if_icmp .ge 33, 3) := by decide +kernel
theorem dX6_copy_8 : decode cX6_copy 8 = .ok (.aload_n 0, 1) := by decide +kernel
theorem dX6_copy_9 : decode cX6_copy 9 = .ok (.getfield 11, 3) := by decide +kernel
theorem dX6_copy_12 : decode cX6_copy 12 = .ok (.iload_n 2, 1) := by decide +kernel
theorem dX6_copy_13 : decode cX6_copy 13 = .ok (.aload_n 1, 1) := by decide +kernel
theorem dX6_copy_14 : decode cX6_copy 14 = .ok (.getfield 11, 3) := by decide +kernel
theorem dX6_copy_17 : decode cX6_copy 17 = .ok (.iload_n 2, 1) := by decide +kernel
theorem dX6_copy_18 : decode cX6_copy 18 = .ok (.iaload, 1) := by decide +kernel
theorem dX6_copy_19 : decode cX6_copy 19 = .ok (.iastore, 1) := by decide +kernel
theorem dX6_copy_20 : decode cX6_copy 20 = .ok (.aload_n 0, 1) := by decide +kernel
theorem dX6_copy_21 : decode cX6_copy 21 = .ok (.getfield 15, 3) := by decide +kernel
theorem dX6_copy_24 : decode cX6_copy 24 = .ok (.iload_n 2, 1) := by decide +kernel
theorem dX6_copy_25 : decode cX6_copy 25 = .ok (.aload_n 1, 1) := by decide +kernel
theorem dX6_copy_26 : decode cX6_copy 26 = .ok (.getfield 15, 3) := by decide +kernel
theorem dX6_copy_29 : decode cX6_copy 29 = .ok (.iload_n 2, 1) := by decide +kernel
theorem dX6_copy_30 : decode cX6_copy 30 = .ok (.iaload, 1) := by decide +kernel
theorem dX6_copy_31 : decode cX6_copy 31 = .ok (.iastore, 1) := by decide +kernel
theorem dX6_copy_32 : decode cX6_copy 32 = .ok (.iinc 2 1, 3) := by decide +kernel
theorem dX6_copy_35 : decode cX6_copy 35 = .ok (.goto (-33), 3) := by decide +kernel
theorem dX6_copy_38 : decode cX6_copy 38 = .ok (.aload_n 0, 1) := by decide +kernel
theorem dX6_copy_39 : decode cX6_copy 39 = .ok (.aload_n 1, 1) := by decide +kernel
theorem dX6_copy_40 : decode cX6_copy 40 = .ok (.getfield 22, 3) := by decide +kernel
theorem dX6_copy_43 : decode cX6_copy 43 = .ok (.putfield 22, 3) := by decide +kernel
theorem dX6_copy_46 : decode cX6_copy 46 = .ok (.aload_n 0, 1) := by decide +kernel
theorem dX6_copy_47 : decode cX6_copy 47 = .ok (.aload_n 1, 1) := by decide +kernel
theorem dX6_copy_48 : decode cX6_copy 48 = .ok (.getfield 18, 3) := by decide +kernel
theorem dX6_copy_51 : decode cX6_copy 51 = .ok (.putfield 18, 3) := by decide +kernel
theorem dX6_copy_54 : decode cX6_copy 54 = .ok (.return_, 1) := by decide +kernel
theorem dX6_read_0 : decode cX6_read 0 = .ok (.aload_n 0, 1) := by decide +kernel
theorem dX6_read_1 : decode cX6_read 1 = .ok (.iconst 0, 1) := by decide +kernel
theorem dX6_read_2 : decode cX6_read 2 = .ok (.putfield 22, 3) := by decide +kernel
theorem dX6_read_5 : decode cX6_read 5 = .ok (.aload_n 0, 1) := by decide +kernel
theorem dX6_read_6 : decode cX6_read 6 = .ok (.iconst 0, 1) := by decide +kernel
theorem dX6_read_7 : decode cX6_read 7 = .ok (.putfield 18, 3) := by decide +kernel
theorem dX6_read_10 : decode cX6_read 10 = .ok (.iconst 0, 1) := by decide +kernel
theorem dX6_read_11 : decode cX6_read 11 = .ok (.istore_n 2, 1) := by decide +kernel
theorem dX6_read_12 : decode cX6_read 12 = .ok (.iload_n 2, 1) := by decide +kernel
theorem dX6_read_13 : decode cX6_read 13 = .ok (.bipush 8, 2) := by decide +kernel
theorem dX6_read_15 : decode cX6_read 15 = .ok (.if_icmp .gt 36, 3) := by decide +kernel
theorem dX6_read_18 : decode cX6_read 18 = .ok (.aload_n 1, 1) := by decide +kernel
theorem dX6_read_19 : decode cX6_read 19 = .ok (.invokevirtual 25, 3) := by decide +kernel
theorem dX6_read_22 : decode cX6_read 22 = .ok (.ifCond .eq 29, 3) := by decide +kernel
theorem dX6_read_25 : decode cX6_read 25 = .ok (.aload_n 0, 1) := by decide +kernel
theorem dX6_read_26 : decode cX6_read 26 = .ok (.aload_n 1, 1) := by decide +kernel
theorem dX6_read_27 : decode cX6_read 27 = .ok (.iload_n 2, 1) := by decide +kernel
theorem dX6_read_28 : decode cX6_read 28 = .ok (.invokevirtual 31, 3) := by decide +kernel
theorem dX6_read_31 : decode cX6_read 31 = .ok (.aload_n 1, 1) := by decide +kernel
theorem dX6_read_32 : decode cX6_read 32 = .ok (.invokevirtual 35, 3) := by decide +kernel
theorem dX6_read_35 : decode cX6_read 35 = .ok (.ifCond .eq 4, 3) := by decide +kernel
theorem dX6_read_38 : decode cX6_read 38 = .ok (.return_, 1) := by decide +kernel
theorem dX6_read_39 : decode cX6_read 39 = .ok (.aload_n 1, 1) := by decide +kernel
theorem dX6_read_40 : decode cX6_read 40 = .ok (.bipush 59, 2) := by decide +kernel
theorem dX6_read_42 : decode cX6_read 42 = .ok (.invokevirtual 38, 3) := by decide +kernel
theorem dX6_read_45 : decode cX6_read 45 = .ok (.iinc 2 1, 3) := by decide +kernel
theorem dX6_read_48 : decode cX6_read 48 = .ok (.goto (-36), 3) := by decide +kernel
theorem dX6_read_51 : decode cX6_read 51 = .ok (.return_, 1) := by decide +kernel
theorem dX6_readPart_0 : decode cX6_readPart 0 = .ok (.aload_n 1, 1) := by decide +kernel
theorem dX6_readPart_1 : decode cX6_readPart 1 = .ok (.invokevirtual 42, 3) := by decide +kernel
theorem dX6_readPart_4 : decode cX6_readPart 4 = .ok (.istore_n 3, 1) := by decide +kernel
theorem dX6_readPart_5 : decode cX6_readPart 5 = .ok (.aload_n 1, 1) := by decide +kernel
theorem dX6_readPart_6 : decode cX6_readPart 6 = .ok (.invokevirtual 46, 3) := by decide +kernel
theorem dX6_readPart_9 : decode cX6_readPart 9 = .ok (.ifCond .eq 15, 3) := by decide +kernel
theorem dX6_readPart_12 : decode cX6_readPart 12 = .ok (.iload_n 2, 1) := by decide +kernel
theorem dX6_readPart_13 : decode cX6_readPart 13 = .ok (.bipush 8, 2) := by decide +kernel
theorem dX6_readPart_15 : decode cX6_readPart 15 = .ok (.if_icmp .lt 9, 3) := by decide +kernel
theorem dX6_readPart_18 : decode cX6_readPart 18 = .ok (.aload_n 1, 1) := by decide +kernel
theorem dX6_readPart_19 : decode cX6_readPart 19 = .ok (.iconst 4, 1) := by decide +kernel
theorem dX6_readPart_20 : decode cX6_readPart 20 = .ok (.iload_n 3, 1) := by decide +kernel
theorem dX6_readPart_21 : decode cX6_readPart 21 = .ok (.invokevirtual 49, 3) := by decide +kernel
theorem dX6_readPart_24 : decode cX6_readPart 24 = .ok (.aload_n 1, 1) := by decide +kernel
theorem dX6_readPart_25 : decode cX6_readPart 25 = .ok (.iconst 2, 1) := by decide +kernel
theorem dX6_readPart_26 : decode cX6_readPart 26 = .ok (.invokevirtual 53, 3) := by decide +kernel
theorem dX6_readPart_29 : decode cX6_readPart 29 = .ok (.istore 4, 2) := by decide +kernel
theorem dX6_readPart_31 : decode cX6_readPart 31 = .ok (.iconst 1, 1) := by decide +kernel
theorem dX6_readPart_32 : decode cX6_readPart 32 = .ok (.istore 5, 2) := by decide +kernel
theorem dX6_readPart_34 : decode cX6_readPart 34 = .ok (.aload_n 1, 1) := by decide +kernel
theorem dX6_readPart_35 : decode cX6_readPart 35 = .ok (.invokevirtual 57, 3) := by decide +kernel
theorem dX6_readPart_38 : decode cX6_readPart 38 = .ok (.bipush 42, 2) := by decide +kernel
theorem dX6_readPart_40 : decode cX6_readPart 40 = .ok (.if_icmp .ne 21, 3) := by decide +kernel
theorem dX6_readPart_43 : decode cX6_readPart 43 = .ok (.aload_n 1, 1) := by decide +kernel
theorem dX6_readPart_44 : decode cX6_readPart 44 = .ok (.bipush 42, 2) := by decide +kernel
theorem dX6_readPart_46 : decode cX6_readPart 46 = .ok (.invokevirtual 38, 3) := by decide +kernel
theorem dX6_readPart_49 : decode cX6_readPart 49 = .ok (.aload_n 1, 1) := by decide +kernel
theorem dX6_readPart_50 : decode cX6_readPart 50 = .ok (.invokevirtual 42, 3) := by decide +kernel
theorem dX6_readPart_53 : decode cX6_readPart 53 = .ok (.istore_n 3, 1) := by decide +kernel
theorem dX6_readPart_54 : decode cX6_readPart 54 = .ok (.aload_n 1, 1) := by decide +kernel
theorem dX6_readPart_55 : decode cX6_readPart 55 = .ok (.iconst 4, 1) := by decide +kernel
theorem dX6_readPart_56 : decode cX6_readPart 56 = .ok (.invokevirtual 53, 3) := by decide +kernel
theorem dX6_readPart_59 : decode cX6_readPart 59 = .ok (.istore 5, 2) := by decide +kernel
theorem dX6_readPart_61 : decode cX6_readPart 61 = .ok (.iload 5, 2) := by decide +kernel
theorem dX6_readPart_63 : decode cX6_readPart 63 = .ok (.ifCond .eq 16, 3) := by decide +kernel
theorem dX6_readPart_66 : decode cX6_readPart 66 = .ok (.aload_n 0, 1) := by decide +kernel
theorem dX6_readPart_67 : decode cX6_readPart 67 = .ok (.getfield 18, 3) := by decide +kernel
theorem dX6_readPart_70 : decode cX6_readPart 70 = .ok (.iload 5, 2) := by decide +kernel
theorem dX6_readPart_72 : decode cX6_readPart 72 = .ok (.iadd, 1) := by decide +kernel
theorem dX6_readPart_73 : decode cX6_readPart 73 = .ok (.sipush 2000, 3) := by decide +kernel
theorem dX6_readPart_76 : decode cX6_readPart 76 = .ok (.if_icmp .le 9, 3) := by decide +kernel
theorem dX6_readPart_79 : decode cX6_readPart 79 = .ok (.aload_n 1, 1) := by decide +kernel
theorem dX6_readPart_80 : decode cX6_readPart 80 = .ok (.iconst 3, 1) := by decide +kernel
theorem dX6_readPart_81 : decode cX6_readPart 81 = .ok (.iload_n 3, 1) := by decide +kernel
theorem dX6_readPart_82 : decode cX6_readPart 82 = .ok (.invokevirtual 49, 3) := by decide +kernel
theorem dX6_readPart_85 : decode cX6_readPart 85 = .ok (.aload_n 0, 1) := by decide +kernel
theorem dX6_readPart_86 : decode cX6_readPart 86 = .ok (.getfield 11, 3) := by decide +kernel
theorem dX6_readPart_89 : decode cX6_readPart 89 = .ok (.iload_n 2, 1) := by decide +kernel
theorem dX6_readPart_90 : decode cX6_readPart 90 = .ok (.iload 4, 2) := by decide +kernel
theorem dX6_readPart_92 : decode cX6_readPart 92 = .ok (.invokestatic 60, 3) := by decide +kernel
theorem dX6_readPart_95 : decode cX6_readPart 95 = .ok (.aload_n 0, 1) := by decide +kernel
theorem dX6_readPart_96 : decode cX6_readPart 96 = .ok (.getfield 15, 3) := by decide +kernel
theorem dX6_readPart_99 : decode cX6_readPart 99 = .ok (.iload_n 2, 1) := by decide +kernel
theorem dX6_readPart_100 : decode cX6_readPart 100 = .ok (.iload 5, 2) := by decide +kernel
theorem dX6_readPart_102 : decode cX6_readPart 102 = .ok (.invokestatic 60, 3) := by decide +kernel
theorem dX6_readPart_105 : decode cX6_readPart 105 = .ok (.aload_n 0, 1) := by decide +kernel
theorem dX6_readPart_106 : decode cX6_readPart 106 = .ok (.iload_n 2, 1) := by decide +kernel
theorem dX6_readPart_107 : decode cX6_readPart 107 = .ok (.iconst 1, 1) := by decide +kernel
theorem dX6_readPart_108 : decode cX6_readPart 108 = .ok (.iadd, 1) := by decide +kernel
theorem dX6_readPart_109 : decode cX6_readPart 109 = .ok (.putfield 22, 3) := by decide +kernel
theorem dX6_readPart_112 : decode cX6_readPart 112 = .ok (.aload_n 0, 1) := by decide +kernel
theorem dX6_readPart_113 : decode cX6_readPart 113 = .ok (.dup, 1) := by decide +kernel
theorem dX6_readPart_114 : decode cX6_readPart 114 = .ok (.getfield 18, 3) := by decide +kernel
theorem dX6_readPart_117 : decode cX6_readPart 117 = .ok (.iload 5, 2) := by decide +kernel
theorem dX6_readPart_119 : decode cX6_readPart 119 = .ok (.iadd, 1) := by decide +kernel
theorem dX6_readPart_120 : decode cX6_readPart 120 = .ok (.putfield 18, 3) := by decide +kernel
theorem dX6_readPart_123 : decode cX6_readPart 123 = .ok (.return_, 1) := by decide +kernel
theorem dX6_layOut_0 : decode cX6_layOut 0 = .ok (.iconst 0, 1) := by decide +kernel
theorem dX6_layOut_1 : decode cX6_layOut 1 = .ok (.istore 4, 2) := by decide +kernel
theorem dX6_layOut_3 : decode cX6_layOut 3 = .ok (.iconst 0, 1) := by decide +kernel
theorem dX6_layOut_4 : decode cX6_layOut 4 = .ok (.istore 5, 2) := by decide +kernel
theorem dX6_layOut_6 : decode cX6_layOut 6 = .ok (.iload 5, 2) := by decide +kernel
theorem dX6_layOut_8 : decode cX6_layOut 8 = .ok (.aload_n 0, 1) := by decide +kernel
theorem dX6_layOut_9 : decode cX6_layOut 9 = .ok (.getfield 22, 3) := by decide +kernel
theorem dX6_layOut_12 : decode cX6_layOut 12 = .ok (.if_icmp .ge 58, 3) := by decide +kernel
theorem dX6_layOut_15 : decode cX6_layOut 15 = .ok (.iload 5, 2) := by decide +kernel
theorem dX6_layOut_17 : decode cX6_layOut 17 = .ok (.bipush 8, 2) := by decide +kernel
theorem dX6_layOut_19 : decode cX6_layOut 19 = .ok (.if_icmp .ge 51, 3) := by decide +kernel
theorem dX6_layOut_22 : decode cX6_layOut 22 = .ok (.iconst 0, 1) := by decide +kernel
theorem dX6_layOut_23 : decode cX6_layOut 23 = .ok (.istore 6, 2) := by decide +kernel
theorem dX6_layOut_25 : decode cX6_layOut 25 = .ok (.iload 6, 2) := by decide +kernel
theorem dX6_layOut_27 : decode cX6_layOut 27 = .ok (.aload_n 0, 1) := by decide +kernel
theorem dX6_layOut_28 : decode cX6_layOut 28 = .ok (.getfield 15, 3) := by decide +kernel
theorem dX6_layOut_31 : decode cX6_layOut 31 = .ok (.iload 5, 2) := by decide +kernel
theorem dX6_layOut_33 : decode cX6_layOut 33 = .ok (.iaload, 1) := by decide +kernel
theorem dX6_layOut_34 : decode cX6_layOut 34 = .ok (.if_icmp .ge 30, 3) := by decide +kernel
theorem dX6_layOut_37 : decode cX6_layOut 37 = .ok (.iload 4, 2) := by decide +kernel
theorem dX6_layOut_39 : decode cX6_layOut 39 = .ok (.aload_n 1, 1) := by decide +kernel
theorem dX6_layOut_40 : decode cX6_layOut 40 = .ok (.arraylength, 1) := by decide +kernel
theorem dX6_layOut_41 : decode cX6_layOut 41 = .ok (.if_icmp .ge 23, 3) := by decide +kernel
theorem dX6_layOut_44 : decode cX6_layOut 44 = .ok (.aload_n 1, 1) := by decide +kernel
theorem dX6_layOut_45 : decode cX6_layOut 45 = .ok (.iload 4, 2) := by decide +kernel
theorem dX6_layOut_47 : decode cX6_layOut 47 = .ok (.aload_n 0, 1) := by decide +kernel
theorem dX6_layOut_48 : decode cX6_layOut 48 = .ok (.getfield 11, 3) := by decide +kernel
theorem dX6_layOut_51 : decode cX6_layOut 51 = .ok (.iload 5, 2) := by decide +kernel
theorem dX6_layOut_53 : decode cX6_layOut 53 = .ok (.iaload, 1) := by decide +kernel
theorem dX6_layOut_54 : decode cX6_layOut 54 = .ok (.iastore, 1) := by decide +kernel
theorem dX6_layOut_55 : decode cX6_layOut 55 = .ok (.iinc 4 1, 3) := by decide +kernel
theorem dX6_layOut_58 : decode cX6_layOut 58 = .ok (.iinc 6 1, 3) := by decide +kernel
theorem dX6_layOut_61 : decode cX6_layOut 61 = .ok (.goto (-36), 3) := by decide +kernel
theorem dX6_layOut_64 : decode cX6_layOut 64 = .ok (.iinc 5 1, 3) := by decide +kernel
theorem dX6_layOut_67 : decode cX6_layOut 67 = .ok (.goto (-61), 3) := by decide +kernel
theorem dX6_layOut_70 : decode cX6_layOut 70 = .ok (.iload 4, 2) := by decide +kernel
theorem dX6_layOut_72 : decode cX6_layOut 72 = .ok (.iload_n 3, 1) := by decide +kernel
theorem dX6_layOut_73 : decode cX6_layOut 73 = .ok (.if_icmp .ge 21, 3) := by decide +kernel
theorem dX6_layOut_76 : decode cX6_layOut 76 = .ok (.iload 4, 2) := by decide +kernel
theorem dX6_layOut_78 : decode cX6_layOut 78 = .ok (.aload_n 1, 1) := by decide +kernel
theorem dX6_layOut_79 : decode cX6_layOut 79 = .ok (.arraylength, 1) := by decide +kernel
theorem dX6_layOut_80 : decode cX6_layOut 80 = .ok (.if_icmp .ge 14, 3) := by decide +kernel
theorem dX6_layOut_83 : decode cX6_layOut 83 = .ok (.aload_n 1, 1) := by decide +kernel
theorem dX6_layOut_84 : decode cX6_layOut 84 = .ok (.iload 4, 2) := by decide +kernel
theorem dX6_layOut_86 : decode cX6_layOut 86 = .ok (.iload_n 2, 1) := by decide +kernel
theorem dX6_layOut_87 : decode cX6_layOut 87 = .ok (.iastore, 1) := by decide +kernel
theorem dX6_layOut_88 : decode cX6_layOut 88 = .ok (.iinc 4 1, 3) := by decide +kernel
theorem dX6_layOut_91 : decode cX6_layOut 91 = .ok (.goto (-21), 3) := by decide +kernel
theorem dX6_layOut_94 : decode cX6_layOut 94 = .ok (.return_, 1) := by decide +kernel
theorem dX7_init_0 : decode cX7_init 0 = .ok (.aload_n 0, 1) := by decide +kernel
theorem dX7_init_1 : decode cX7_init 1 = .ok (.invokespecial 3, 3) := by decide +kernel
theorem dX7_init_4 : decode cX7_init 4 = .ok (.aload_n 0, 1) := by decide +kernel
theorem dX7_init_5 : decode cX7_init 5 = .ok (.bipush 6, 2) := by decide +kernel
theorem dX7_init_7 : decode cX7_init 7 = .ok (.newarray .int, 2) := by decide +kernel
theorem dX7_init_9 : decode cX7_init 9 = .ok (.putfield 11, 3) := by decide +kernel
theorem dX7_init_12 : decode cX7_init 12 = .ok (.aload_n 0, 1) := by decide +kernel
theorem dX7_init_13 : decode cX7_init 13 = .ok (.bipush 60, 2) := by decide +kernel
theorem dX7_init_15 : decode cX7_init 15 = .ok (.newarray .int, 2) := by decide +kernel
theorem dX7_init_17 : decode cX7_init 17 = .ok (.putfield 15, 3) := by decide +kernel
theorem dX7_init_20 : decode cX7_init 20 = .ok (.aload_n 0, 1) := by decide +kernel
theorem dX7_init_21 : decode cX7_init 21 = .ok (.bipush 10, 2) := by decide +kernel
theorem dX7_init_23 : decode cX7_init 23 = .ok (.newarray .int, 2) := by decide +kernel
theorem dX7_init_25 : decode cX7_init 25 = .ok (.putfield 18, 3) := by decide +kernel
theorem dX7_init_28 : decode cX7_init 28 = .ok (.aload_n 0, 1) := by decide +kernel
theorem dX7_init_29 : decode cX7_init 29 = .ok (.sipush 240, 3) := by decide +kernel
theorem dX7_init_32 : decode cX7_init 32 = .ok (.newarray .int, 2) := by decide +kernel
theorem dX7_init_34 : decode cX7_init 34 = .ok (.putfield 21, 3) := by decide +kernel
theorem dX7_init_37 : decode cX7_init 37 = .ok (.aload_n 0, 1) := by decide +kernel
theorem dX7_init_38 : decode cX7_init 38 = .ok (.bipush 41, 2) := by decide +kernel
theorem dX7_init_40 : decode cX7_init 40 = .ok (.newarray .long, 2) := by decide +kernel
theorem dX7_init_42 : decode cX7_init 42 = .ok (.putfield 24, 3) := by decide +kernel
theorem dX7_init_45 : decode cX7_init 45 = .ok (.aload_n 0, 1) := by decide +kernel
theorem dX7_init_46 : decode cX7_init 46 = .ok (.sipush 205, 3) := by decide +kernel
theorem dX7_init_49 : decode cX7_init 49 = .ok (.newarray .long, 2) := by decide +kernel
theorem dX7_init_51 : decode cX7_init 51 = .ok (.putfield 28, 3) := by decide +kernel
theorem dX7_init_54 : decode cX7_init 54 = .ok (.aload_n 0, 1) := by decide +kernel
theorem dX7_init_55 : decode cX7_init 55 = .ok (.iconst 4, 1) := by decide +kernel
theorem dX7_init_56 : decode cX7_init 56 = .ok (.newarray .int, 2) := by decide +kernel
theorem dX7_init_58 : decode cX7_init 58 = .ok (.putfield 31, 3) := by decide +kernel
theorem dX7_init_61 : decode cX7_init 61 = .ok (.iconst 0, 1) := by decide +kernel
theorem dX7_init_62 : decode cX7_init 62 = .ok (.istore_n 1, 1) := by decide +kernel
theorem dX7_init_63 : decode cX7_init 63 = .ok (.iload_n 1, 1) := by decide +kernel
theorem dX7_init_64 : decode cX7_init 64 = .ok (.aload_n 0, 1) := by decide +kernel
theorem dX7_init_65 : decode cX7_init 65 = .ok (.getfield 15, 3) := by decide +kernel
theorem dX7_init_68 : decode cX7_init 68 = .ok (.arraylength, 1) := by decide +kernel
theorem dX7_init_69 : decode cX7_init 69 = .ok (.if_icmp .ge 16, 3) := by decide +kernel
theorem dX7_init_72 : decode cX7_init 72 = .ok (.aload_n 0, 1) := by decide +kernel
theorem dX7_init_73 : decode cX7_init 73 = .ok (.getfield 15, 3) := by decide +kernel
theorem dX7_init_76 : decode cX7_init 76 = .ok (.iload_n 1, 1) := by decide +kernel
theorem dX7_init_77 : decode cX7_init 77 = .ok (.iconst 5, 1) := by decide +kernel
theorem dX7_init_78 : decode cX7_init 78 = .ok (.iastore, 1) := by decide +kernel
theorem dX7_init_79 : decode cX7_init 79 = .ok (.iinc 1 1, 3) := by decide +kernel
theorem dX7_init_82 : decode cX7_init 82 = .ok (.goto (-19), 3) := by decide +kernel
theorem dX7_init_85 : decode cX7_init 85 = .ok (.iconst 0, 1) := by decide +kernel
theorem dX7_init_86 : decode cX7_init 86 = .ok (.istore_n 1, 1) := by decide +kernel
theorem dX7_init_87 : decode cX7_init 87 = .ok (.iload_n 1, 1) := by decide +kernel
theorem dX7_init_88 : decode cX7_init 88 = .ok (.aload_n 0, 1) := by decide +kernel
theorem dX7_init_89 : decode cX7_init 89 = .ok (.getfield 18, 3) := by decide +kernel
theorem dX7_init_92 : decode cX7_init 92 = .ok (.arraylength, 1) := by decide +kernel
theorem dX7_init_93 : decode cX7_init 93 = .ok (.if_icmp .ge 16, 3) := by decide +kernel
theorem dX7_init_96 : decode cX7_init 96 = .ok (.aload_n 0, 1) := by decide +kernel
theorem dX7_init_97 : decode cX7_init 97 = .ok (.getfield 18, 3) := by decide +kernel
theorem dX7_init_100 : decode cX7_init 100 = .ok (.iload_n 1, 1) := by decide +kernel
theorem dX7_init_101 : decode cX7_init 101 = .ok (.iconst (-1), 1) := by decide +kernel
theorem dX7_init_102 : decode cX7_init 102 = .ok (.iastore, 1) := by decide +kernel
theorem dX7_init_103 : decode cX7_init 103 = .ok (.iinc 1 1, 3) := by decide +kernel
theorem dX7_init_106 : decode cX7_init 106 = .ok (.goto (-19), 3) := by decide +kernel
theorem dX7_init_109 : decode cX7_init 109 = .ok (.return_, 1) := by decide +kernel
theorem dX7_size_0 : decode cX7_size 0 = .ok (.aload_n 0, 1) := by decide +kernel
theorem dX7_size_1 : decode cX7_size 1 = .ok (.getfield 34, 3) := by decide +kernel
theorem dX7_size_4 : decode cX7_size 4 = .ok (.ireturn, 1) := by decide +kernel
theorem dX7_finds_0 : decode cX7_finds 0 = .ok (.aload_n 0, 1) := by decide +kernel
theorem dX7_finds_1 : decode cX7_finds 1 = .ok (.getfield 38, 3) := by decide +kernel
theorem dX7_finds_4 : decode cX7_finds 4 = .ok (.ireturn, 1) := by decide +kernel
theorem dX7_has_0 : decode cX7_has 0 = .ok (.iload_n 1, 1) := by decide +kernel
theorem dX7_has_1 : decode cX7_has 1 = .ok (.ifCond .lt 15, 3) := by decide +kernel
theorem dX7_has_4 : decode cX7_has 4 = .ok (.iload_n 1, 1) := by decide +kernel
theorem dX7_has_5 : decode cX7_has 5 = .ok (.aload_n 0, 1) := by decide +kernel
theorem dX7_has_6 : decode cX7_has 6 = .ok (.getfield 34, 3) := by decide +kernel
theorem dX7_has_9 : decode cX7_has 9 = .ok (.if_icmp .ge 7, 3) := by decide +kernel
theorem dX7_has_12 : decode cX7_has 12 = .ok (.iconst 1, 1) := by decide +kernel
theorem dX7_has_13 : decode cX7_has 13 = .ok (.goto 4, 3) := by decide +kernel
theorem dX7_has_16 : decode cX7_has 16 = .ok (.iconst 0, 1) := by decide +kernel
theorem dX7_has_17 : decode cX7_has 17 = .ok (.ireturn, 1) := by decide +kernel
theorem dX7_hasFind_0 : decode cX7_hasFind 0 = .ok (.iload_n 1, 1) := by decide +kernel
theorem dX7_hasFind_1 : decode cX7_hasFind 1 = .ok (.ifCond .lt 15, 3) := by decide +kernel
theorem dX7_hasFind_4 : decode cX7_hasFind 4 = .ok (.iload_n 1, 1) := by decide +kernel
theorem dX7_hasFind_5 : decode cX7_hasFind 5 = .ok (.aload_n 0, 1) := by decide +kernel
theorem dX7_hasFind_6 : decode cX7_hasFind 6 = .ok (.getfield 38, 3) := by decide +kernel
theorem dX7_hasFind_9 : decode cX7_hasFind 9 = .ok (.if_icmp .ge 7, 3) := by decide +kernel
theorem dX7_hasFind_12 : decode cX7_hasFind 12 = .ok (.iconst 1, 1) := by decide +kernel
theorem dX7_hasFind_13 : decode cX7_hasFind 13 = .ok (.goto 4, 3) := by decide +kernel
theorem dX7_hasFind_16 : decode cX7_hasFind 16 = .ok (.iconst 0, 1) := by decide +kernel
theorem dX7_hasFind_17 : decode cX7_hasFind 17 = .ok (.ireturn, 1) := by decide +kernel
theorem dX7_add_0 : decode cX7_add 0 = .ok (.aload_n 0, 1) := by decide +kernel
theorem dX7_add_1 : decode cX7_add 1 = .ok (.getfield 11, 3) := by decide +kernel
theorem dX7_add_4 : decode cX7_add 4 = .ok (.aload_n 0, 1) := by decide +kernel
theorem dX7_add_5 : decode cX7_add 5 = .ok (.getfield 34, 3) := by decide +kernel
theorem dX7_add_8 : decode cX7_add 8 = .ok (.iload_n 1, 1) := by decide +kernel
theorem dX7_add_9 : decode cX7_add 9 = .ok (.invokestatic 41, 3) := by decide +kernel
theorem dX7_add_12 : decode cX7_add 12 = .ok (.aload_n 0, 1) := by decide +kernel
theorem dX7_add_13 : decode cX7_add 13 = .ok (.dup, 1) := by decide +kernel
theorem dX7_add_14 : decode cX7_add 14 = .ok (.getfield 34, 3) := by decide +kernel
theorem dX7_add_17 : decode cX7_add 17 = .ok (.iconst 1, 1) := by decide +kernel
theorem dX7_add_18 : decode cX7_add 18 = .ok (.iadd, 1) := by decide +kernel
theorem dX7_add_19 : decode cX7_add 19 = .ok (.putfield 34, 3) := by decide +kernel
theorem dX7_add_22 : decode cX7_add 22 = .ok (.aload_n 0, 1) := by decide +kernel
theorem dX7_add_23 : decode cX7_add 23 = .ok (.getfield 34, 3) := by decide +kernel
theorem dX7_add_26 : decode cX7_add 26 = .ok (.iconst 1, 1) := by decide +kernel
theorem dX7_add_27 : decode cX7_add 27 = .ok (.isub, 1) := by decide +kernel
theorem dX7_add_28 : decode cX7_add 28 = .ok (.ireturn, 1) := by decide +kernel
theorem dX7_addFind_0 : decode cX7_addFind 0 = .ok (.aload_n 0, 1) := by decide +kernel
theorem dX7_addFind_1 : decode cX7_addFind 1 = .ok (.dup, 1) := by decide +kernel
theorem dX7_addFind_2 : decode cX7_addFind 2 = .ok (.getfield 38, 3) := by decide +kernel
theorem dX7_addFind_5 : decode cX7_addFind 5 = .ok (.iconst 1, 1) := by decide +kernel
theorem dX7_addFind_6 : decode cX7_addFind 6 = .ok (.iadd, 1) := by decide +kernel
theorem dX7_addFind_7 : decode cX7_addFind 7 = .ok (.putfield 38, 3) := by decide +kernel
theorem dX7_addFind_10 : decode cX7_addFind 10 = .ok (.aload_n 0, 1) := by decide +kernel
theorem dX7_addFind_11 : decode cX7_addFind 11 = .ok (.getfield 38, 3) := by decide +kernel
theorem dX7_addFind_14 : decode cX7_addFind 14 = .ok (.iconst 1, 1) := by decide +kernel
theorem dX7_addFind_15 : decode cX7_addFind 15 = .ok (.isub, 1) := by decide +kernel
theorem dX7_addFind_16 : decode cX7_addFind 16 = .ok (.ireturn, 1) := by decide +kernel
theorem dX7_foretell_0 : decode cX7_foretell 0 = .ok (.aload_n 0, 1) := by decide +kernel
theorem dX7_foretell_1 : decode cX7_foretell 1 = .ok (.getfield 15, 3) := by decide +kernel
theorem dX7_foretell_4 : decode cX7_foretell 4 = .ok (.iload_n 1, 1) := by decide +kernel
theorem dX7_foretell_5 : decode cX7_foretell 5 = .ok (.bipush 6, 2) := by decide +kernel
theorem dX7_foretell_7 : decode cX7_foretell 7 = .ok (.imul, 1) := by decide +kernel
theorem dX7_foretell_8 : decode cX7_foretell 8 = .ok (.iload_n 2, 1) := by decide +kernel
theorem dX7_foretell_9 : decode cX7_foretell 9 = .ok (.iadd, 1) := by decide +kernel
theorem dX7_foretell_10 : decode cX7_foretell 10 = .ok (.iload_n 3, 1) := by decide +kernel
theorem dX7_foretell_11 : decode cX7_foretell 11 = .ok (.invokestatic 41, 3) := by decide +kernel
theorem dX7_foretell_14 : decode cX7_foretell 14 = .ok (.return_, 1) := by decide +kernel
theorem dX7_know_0 : decode cX7_know 0 = .ok (.aload_n 0, 1) := by decide +kernel
theorem dX7_know_1 : decode cX7_know 1 = .ok (.getfield 18, 3) := by decide +kernel
theorem dX7_know_4 : decode cX7_know 4 = .ok (.iload_n 1, 1) := by decide +kernel
theorem dX7_know_5 : decode cX7_know 5 = .ok (.iload_n 2, 1) := by decide +kernel
theorem dX7_know_6 : decode cX7_know 6 = .ok (.invokestatic 41, 3) := by decide +kernel
theorem dX7_know_9 : decode cX7_know 9 = .ok (.return_, 1) := by decide +kernel
theorem dX7_weigh_0 : decode cX7_weigh 0 = .ok (.aload_n 0, 1) := by decide +kernel
theorem dX7_weigh_1 : decode cX7_weigh 1 = .ok (.getfield 21, 3) := by decide +kernel
theorem dX7_weigh_4 : decode cX7_weigh 4 = .ok (.iload_n 1, 1) := by decide +kernel
theorem dX7_weigh_5 : decode cX7_weigh 5 = .ok (.bipush 40, 2) := by decide +kernel
theorem dX7_weigh_7 : decode cX7_weigh 7 = .ok (.imul, 1) := by decide +kernel
theorem dX7_weigh_8 : decode cX7_weigh 8 = .ok (.iload_n 2, 1) := by decide +kernel
theorem dX7_weigh_9 : decode cX7_weigh 9 = .ok (.iadd, 1) := by decide +kernel
theorem dX7_weigh_10 : decode cX7_weigh 10 = .ok (.iload_n 3, 1) := by decide +kernel
theorem dX7_weigh_11 : decode cX7_weigh 11 = .ok (.invokestatic 41, 3) := by decide +kernel
theorem dX7_weigh_14 : decode cX7_weigh 14 = .ok (.return_, 1) := by decide +kernel
theorem dX7_oddsOf_0 : decode cX7_oddsOf 0 = .ok (.aload_n 0, 1) := by decide +kernel
theorem dX7_oddsOf_1 : decode cX7_oddsOf 1 = .ok (.getfield 11, 3) := by decide +kernel
theorem dX7_oddsOf_4 : decode cX7_oddsOf 4 = .ok (.iload_n 1, 1) := by decide +kernel
