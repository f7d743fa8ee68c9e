theorem dX0_init_0 : decode cX0_init 0 = .ok (.aload_n 0, 1) := by decide +kernel
theorem dX0_init_1 : decode cX0_init 1 = .ok (.invokespecial 3, 3) := by decide +kernel
theorem dX0_init_4 : decode cX0_init 4 = .ok (.aload_n 0, 1) := by decide +kernel
theorem dX0_init_5 : decode cX0_init 5 = .ok (.aload_n 1, 1) := by decide +kernel
theorem dX0_init_6 : decode cX0_init 6 = .ok (.putfield 9, 3) := by decide +kernel
theorem dX0_init_9 : decode cX0_init 9 = .ok (.aload_n 0, 1) := by decide +kernel
theorem dX0_init_10 : decode cX0_init 10 = .ok (.bipush 14, 2) := by decide +kernel
theorem dX0_init_12 : decode cX0_init 12 = .ok (.newarray .int, 2) := by decide +kernel
theorem dX0_init_14 : decode cX0_init 14 = .ok (.putfield 15, 3) := by decide +kernel
theorem dX0_init_17 : decode cX0_init 17 = .ok (.aload_n 0, 1) := by decide +kernel
theorem dX0_init_18 : decode cX0_init 18 = .ok (.bipush 14, 2) := by decide +kernel
theorem dX0_init_20 : decode cX0_init 20 = .ok (.newarray .int, 2) := by decide +kernel
theorem dX0_init_22 : decode cX0_init 22 = .ok (.putfield 19, 3) := by decide +kernel
theorem dX0_init_25 : decode cX0_init 25 = .ok (.aload_n 0, 1) := by decide +kernel
theorem dX0_init_26 : decode cX0_init 26 = .ok (.bipush 14, 2) := by decide +kernel
theorem dX0_init_28 : decode cX0_init 28 = .ok (.newarray .int, 2) := by decide +kernel
theorem dX0_init_30 : decode cX0_init 30 = .ok (.putfield 22, 3) := by decide +kernel
theorem dX0_init_33 : decode cX0_init 33 = .ok (.aload_n 0, 1) := by decide +kernel
theorem dX0_init_34 : decode cX0_init 34 = .ok (.iconst 0, 1) := by decide +kernel
theorem dX0_init_35 : decode cX0_init 35 = .ok (.putfield 25, 3) := by decide +kernel
theorem dX0_init_38 : decode cX0_init 38 = .ok (.return_, 1) := by decide +kernel
theorem dX0_cutOut_0 : decode cX0_cutOut 0 = .ok (.aload_n 0, 1) := by decide +kernel
theorem dX0_cutOut_1 : decode cX0_cutOut 1 = .ok (.getfield 9, 3) := by decide +kernel
theorem dX0_cutOut_4 : decode cX0_cutOut 4 = .ok (.aload_n 1, 1) := by decide +kernel
theorem dX0_cutOut_5 : decode cX0_cutOut 5 = .ok (.iload_n 2, 1) := by decide +kernel
theorem dX0_cutOut_6 : decode cX0_cutOut 6 = .ok (.invokevirtual 29, 3) := by decide +kernel
theorem dX0_cutOut_9 : decode cX0_cutOut 9 = .ok (.aload_n 0, 1) := by decide +kernel
theorem dX0_cutOut_10 : decode cX0_cutOut 10 = .ok (.getfield 9, 3) := by decide +kernel
theorem dX0_cutOut_13 : decode cX0_cutOut 13 = .ok (.invokevirtual 33, 3) := by decide +kernel
theorem dX0_cutOut_16 : decode cX0_cutOut 16 = .ok (.aload_n 0, 1) := by decide +kernel
theorem dX0_cutOut_17 : decode cX0_cutOut 17 = .ok (.iconst 0, 1) := by decide +kernel
theorem dX0_cutOut_18 : decode cX0_cutOut 18 = .ok (.putfield 25, 3) := by decide +kernel
theorem dX0_cutOut_21 : decode cX0_cutOut 21 = .ok (.iconst 0, 1) := by decide +kernel
theorem dX0_cutOut_22 : decode cX0_cutOut 22 = .ok (.istore_n 3, 1) := by decide +kernel
theorem dX0_cutOut_23 : decode cX0_cutOut 23 = .ok (.iload_n 3, 1) := by decide +kernel
theorem dX0_cutOut_24 : decode cX0_cutOut 24 = .ok (.aload_n 0, 1) := by decide +kernel
theorem dX0_cutOut_25 : decode cX0_cutOut 25 = .ok (.getfield 9, 3) := by decide +kernel
theorem dX0_cutOut_28 : decode cX0_cutOut 28 = .ok (.getfield 36, 3) := by decide +kernel
theorem dX0_cutOut_31 : decode cX0_cutOut 31 = .ok (.if_icmp .ge 80, 3) := by decide +kernel
theorem dX0_cutOut_34 : decode cX0_cutOut 34 = .ok (.iload_n 3, 1) := by decide +kernel
theorem dX0_cutOut_35 : decode cX0_cutOut 35 = .ok (.iconst 1, 1) := by decide +kernel
theorem dX0_cutOut_36 : decode cX0_cutOut 36 = .ok (.iadd, 1) := by decide +kernel
theorem dX0_cutOut_37 : decode cX0_cutOut 37 = .ok (.istore 4, 2) := by decide +kernel
theorem dX0_cutOut_39 : decode cX0_cutOut 39 = .ok (.iload 4, 2) := by decide +kernel
theorem dX0_cutOut_41 : decode cX0_cutOut 41 = .ok (.aload_n 0, 1) := by decide +kernel
theorem dX0_cutOut_42 : decode cX0_cutOut 42 = .ok (.getfield 9, 3) := by decide +kernel
theorem dX0_cutOut_45 : decode cX0_cutOut 45 = .ok (.getfield 36, 3) := by decide +kernel
theorem dX0_cutOut_48 : decode cX0_cutOut 48 = .ok (.if_icmp .ge 57, 3) := by decide +kernel
theorem dX0_cutOut_51 : decode cX0_cutOut 51 = .ok (.aload_n 0, 1) := by decide +kernel
theorem dX0_cutOut_52 : decode cX0_cutOut 52 = .ok (.getfield 9, 3) := by decide +kernel
theorem dX0_cutOut_55 : decode cX0_cutOut 55 = .ok (.iload_n 3, 1) := by decide +kernel
theorem dX0_cutOut_56 : decode cX0_cutOut 56 = .ok (.iload 4, 2) := by decide +kernel
theorem dX0_cutOut_58 : decode cX0_cutOut 58 = .ok (.invokevirtual 37, 3) := by decide +kernel
theorem dX0_cutOut_61 : decode cX0_cutOut 61 = .ok (.ifCond .eq 38, 3) := by decide +kernel
theorem dX0_cutOut_64 : decode cX0_cutOut 64 = .ok (.aload_n 0, 1) := by decide +kernel
theorem dX0_cutOut_65 : decode cX0_cutOut 65 = .ok (.getfield 9, 3) := by decide +kernel
theorem dX0_cutOut_68 : decode cX0_cutOut 68 = .ok (.invokevirtual 41, 3) := by decide +kernel
theorem dX0_cutOut_71 : decode cX0_cutOut 71 = .ok (.ifCond .eq 28, 3) := by decide +kernel
theorem dX0_cutOut_74 : decode cX0_cutOut 74 = .ok (.aload_n 0, 1) := by decide +kernel
theorem dX0_cutOut_75 : decode cX0_cutOut 75 = .ok (.aload_n 0, 1) := by decide +kernel
theorem dX0_cutOut_76 : decode cX0_cutOut 76 = .ok (.getfield 9, 3) := by decide +kernel
theorem dX0_cutOut_79 : decode cX0_cutOut 79 = .ok (.getfield 45, 3) := by decide +kernel
theorem dX0_cutOut_82 : decode cX0_cutOut 82 = .ok (.aload_n 0, 1) := by decide +kernel
theorem dX0_cutOut_83 : decode cX0_cutOut 83 = .ok (.getfield 9, 3) := by decide +kernel
theorem dX0_cutOut_86 : decode cX0_cutOut 86 = .ok (.getfield 48, 3) := by decide +kernel
theorem dX0_cutOut_89 : decode cX0_cutOut 89 = .ok (.aload_n 0, 1) := by decide +kernel
theorem dX0_cutOut_90 : decode cX0_cutOut 90 = .ok (.getfield 9, 3) := by decide +kernel
theorem dX0_cutOut_93 : decode cX0_cutOut 93 = .ok (.getfield 51, 3) := by decide +kernel
theorem dX0_cutOut_96 : decode cX0_cutOut 96 = .ok (.invokevirtual 54, 3) := by decide +kernel
theorem dX0_cutOut_99 : decode cX0_cutOut 99 = .ok (.iinc 4 1, 3) := by decide +kernel
theorem dX0_cutOut_102 : decode cX0_cutOut 102 = .ok (.goto (-63), 3) := by decide +kernel
theorem dX0_cutOut_105 : decode cX0_cutOut 105 = .ok (.iinc 3 1, 3) := by decide +kernel
theorem dX0_cutOut_108 : decode cX0_cutOut 108 = .ok (.goto (-85), 3) := by decide +kernel
theorem dX0_cutOut_111 : decode cX0_cutOut 111 = .ok (.return_, 1) := by decide +kernel
theorem dX0_putOnce_0 : decode cX0_putOnce 0 = .ok (.iconst 0, 1) := by decide +kernel
theorem dX0_putOnce_1 : decode cX0_putOnce 1 = .ok (.istore 4, 2) := by decide +kernel
theorem dX0_putOnce_3 : decode cX0_putOnce 3 = .ok (.iload 4, 2) := by decide +kernel
theorem dX0_putOnce_5 : decode cX0_putOnce 5 = .ok (.aload_n 0, 1) := by decide +kernel
theorem dX0_putOnce_6 : decode cX0_putOnce 6 = .ok (.getfield 25, 3) := by decide +kernel
theorem dX0_putOnce_9 : decode cX0_putOnce 9 = .ok (.if_icmp .ge 52, 3) := by decide +kernel
theorem dX0_putOnce_12 : decode cX0_putOnce 12 = .ok (.iload_n 1, 1) := by decide +kernel
theorem dX0_putOnce_13 : decode cX0_putOnce 13 = .ok (.aload_n 0, 1) := by decide +kernel
theorem dX0_putOnce_14 : decode cX0_putOnce 14 = .ok (.getfield 22, 3) := by decide +kernel
theorem dX0_putOnce_17 : decode cX0_putOnce 17 = .ok (.iload 4, 2) := by decide +kernel
theorem dX0_putOnce_19 : decode cX0_putOnce 19 = .ok (.iaload, 1) := by decide +kernel
theorem dX0_putOnce_20 : decode cX0_putOnce 20 = .ok (.imul, 1) := by decide +kernel
theorem dX0_putOnce_21 : decode cX0_putOnce 21 = .ok (.aload_n 0, 1) := by decide +kernel
theorem dX0_putOnce_22 : decode cX0_putOnce 22 = .ok (.getfield 15, 3) := by decide +kernel
theorem dX0_putOnce_25 : decode cX0_putOnce 25 = .ok (.iload 4, 2) := by decide +kernel
theorem dX0_putOnce_27 : decode cX0_putOnce 27 = .ok (.iaload, 1) := by decide +kernel
theorem dX0_putOnce_28 : decode cX0_putOnce 28 = .ok (.iload_n 3, 1) := by decide +kernel
theorem dX0_putOnce_29 : decode cX0_putOnce 29 = .ok (.imul, 1) := by decide +kernel
theorem dX0_putOnce_30 : decode cX0_putOnce 30 = .ok (.if_icmp .ne 25, 3) := by decide +kernel
theorem dX0_putOnce_33 : decode cX0_putOnce 33 = .ok (.iload_n 2, 1) := by decide +kernel
theorem dX0_putOnce_34 : decode cX0_putOnce 34 = .ok (.aload_n 0, 1) := by decide +kernel
theorem dX0_putOnce_35 : decode cX0_putOnce 35 = .ok (.getfield 22, 3) := by decide +kernel
theorem dX0_putOnce_38 : decode cX0_putOnce 38 = .ok (.iload 4, 2) := by decide +kernel
theorem dX0_putOnce_40 : decode cX0_putOnce 40 = .ok (.iaload, 1) := by decide +kernel
theorem dX0_putOnce_41 : decode cX0_putOnce 41 = .ok (.imul, 1) := by decide +kernel
theorem dX0_putOnce_42 : decode cX0_putOnce 42 = .ok (.aload_n 0, 1) := by decide +kernel
theorem dX0_putOnce_43 : decode cX0_putOnce 43 = .ok (.getfield 19, 3) := by decide +kernel
theorem dX0_putOnce_46 : decode cX0_putOnce 46 = .ok (.iload 4, 2) := by decide +kernel
theorem dX0_putOnce_48 : decode cX0_putOnce 48 = .ok (.iaload, 1) := by decide +kernel
theorem dX0_putOnce_49 : decode cX0_putOnce 49 = .ok (.iload_n 3, 1) := by decide +kernel
theorem dX0_putOnce_50 : decode cX0_putOnce 50 = .ok (.imul, 1) := by decide +kernel
theorem dX0_putOnce_51 : decode cX0_putOnce 51 = .ok (.if_icmp .ne 4, 3) := by decide +kernel
theorem dX0_putOnce_54 : decode cX0_putOnce 54 = .ok (.return_, 1) := by decide +kernel
theorem dX0_putOnce_55 : decode cX0_putOnce 55 = .ok (.iinc 4 1, 3) := by decide +kernel
theorem dX0_putOnce_58 : decode cX0_putOnce 58 = .ok (.goto (-55), 3) := by decide +kernel
theorem dX0_putOnce_61 : decode cX0_putOnce 61 = .ok (.aload_n 0, 1) := by decide +kernel
theorem dX0_putOnce_62 : decode cX0_putOnce 62 = .ok (.getfield 25, 3) := by decide +kernel
theorem dX0_putOnce_65 : decode cX0_putOnce 65 = .ok (.bipush 14, 2) := by decide +kernel
theorem dX0_putOnce_67 : decode cX0_putOnce 67 = .ok (.if_icmp .lt 4, 3) := by decide +kernel
theorem dX0_putOnce_70 : decode cX0_putOnce 70 = .ok (.return_, 1) := by decide +kernel
theorem dX0_putOnce_71 : decode cX0_putOnce 71 = .ok (.aload_n 0, 1) := by decide +kernel
theorem dX0_putOnce_72 : decode cX0_putOnce 72 = .ok (.getfield 15, 3) := by decide +kernel
theorem dX0_putOnce_75 : decode cX0_putOnce 75 = .ok (.aload_n 0, 1) := by decide +kernel
theorem dX0_putOnce_76 : decode cX0_putOnce 76 = .ok (.getfield 25, 3) := by decide +kernel
theorem dX0_putOnce_79 : decode cX0_putOnce 79 = .ok (.iload_n 1, 1) := by decide +kernel
theorem dX0_putOnce_80 : decode cX0_putOnce 80 = .ok (.iastore, 1) := by decide +kernel
theorem dX0_putOnce_81 : decode cX0_putOnce 81 = .ok (.aload_n 0, 1) := by decide +kernel
theorem dX0_putOnce_82 : decode cX0_putOnce 82 = .ok (.getfield 19, 3) := by decide +kernel
theorem dX0_putOnce_85 : decode cX0_putOnce 85 = .ok (.aload_n 0, 1) := by decide +kernel
theorem dX0_putOnce_86 : decode cX0_putOnce 86 = .ok (.getfield 25, 3) := by decide +kernel
theorem dX0_putOnce_89 : decode cX0_putOnce 89 = .ok (.iload_n 2, 1) := by decide +kernel
theorem dX0_putOnce_90 : decode cX0_putOnce 90 = .ok (.iastore, 1) := by decide +kernel
theorem dX0_putOnce_91 : decode cX0_putOnce 91 = .ok (.aload_n 0, 1) := by decide +kernel
theorem dX0_putOnce_92 : decode cX0_putOnce 92 = .ok (.getfield 22, 3) := by decide +kernel
theorem dX0_putOnce_95 : decode cX0_putOnce 95 = .ok (.aload_n 0, 1) := by decide +kernel
theorem dX0_putOnce_96 : decode cX0_putOnce 96 = .ok (.getfield 25, 3) := by decide +kernel
theorem dX0_putOnce_99 : decode cX0_putOnce 99 = .ok (.iload_n 3, 1) := by decide +kernel
theorem dX0_putOnce_100 : decode cX0_putOnce 100 = .ok (.iastore, 1) := by decide +kernel
theorem dX0_putOnce_101 : decode cX0_putOnce 101 = .ok (.aload_n 0, 1) := by decide +kernel
theorem dX0_putOnce_102 : decode cX0_putOnce 102 = .ok (.dup, 1) := by decide +kernel
theorem dX0_putOnce_103 : decode cX0_putOnce 103 = .ok (.getfield 25, 3) := by decide +kernel
theorem dX0_putOnce_106 : decode cX0_putOnce 106 = .ok (.iconst 1, 1) := by decide +kernel
theorem dX0_putOnce_107 : decode cX0_putOnce 107 = .ok (.iadd, 1) := by decide +kernel
theorem dX0_putOnce_108 : decode cX0_putOnce 108 = .ok (.putfield 25, 3) := by decide +kernel
theorem dX0_putOnce_111 : decode cX0_putOnce 111 = .ok (.return_, 1) := by decide +kernel
theorem dX0_polygonCorners_0 : decode cX0_polygonCorners 0 = .ok (.aload_n 0, 1) := by decide +kernel
theorem dX0_polygonCorners_1 : decode cX0_polygonCorners 1 = .ok (.getfield 25, 3) := by decide +kernel
theorem dX0_polygonCorners_4 : decode cX0_polygonCorners 4 = .ok (.iconst 3, 1) := by decide +kernel
theorem dX0_polygonCorners_5 : decode cX0_polygonCorners 5 = .ok (.if_icmp .lt 10, 3) := by decide +kernel
theorem dX0_polygonCorners_8 : decode cX0_polygonCorners 8 = .ok (.aload_n 0, 1) := by decide +kernel
theorem dX0_polygonCorners_9 : decode cX0_polygonCorners 9 = .ok (.getfield 25, 3) := by decide +kernel
theorem dX0_polygonCorners_12 : decode cX0_polygonCorners 12 = .ok (.goto 4, 3) := by decide +kernel
theorem dX0_polygonCorners_15 : decode cX0_polygonCorners 15 = .ok (.iconst 0, 1) := by decide +kernel
theorem dX0_polygonCorners_16 : decode cX0_polygonCorners 16 = .ok (.ireturn, 1) := by decide +kernel
theorem dX0_hides_0 : decode cX0_hides 0 = .ok (.aload_n 0, 1) := by decide +kernel
theorem dX0_hides_1 : decode cX0_hides 1 = .ok (.aload_n 1, 1) := by decide +kernel
theorem dX0_hides_2 : decode cX0_hides 2 = .ok (.iload_n 2, 1) := by decide +kernel
theorem dX0_hides_3 : decode cX0_hides 3 = .ok (.invokevirtual 58, 3) := by decide +kernel
theorem dX0_hides_6 : decode cX0_hides 6 = .ok (.aload_n 0, 1) := by decide +kernel
theorem dX0_hides_7 : decode cX0_hides 7 = .ok (.invokevirtual 61, 3) := by decide +kernel
theorem dX0_hides_10 : decode cX0_hides 10 = .ok (.ifCond .ne 7, 3) := by decide +kernel
theorem dX0_hides_13 : decode cX0_hides 13 = .ok (.iconst 1, 1) := by decide +kernel
theorem dX0_hides_14 : decode cX0_hides 14 = .ok (.goto 4, 3) := by decide +kernel
theorem dX0_hides_17 : decode cX0_hides 17 = .ok (.iconst 0, 1) := by decide +kernel
theorem dX0_hides_18 : decode cX0_hides 18 = .ok (.ireturn, 1) := by decide +kernel
theorem dX0_cornersSharedWith_0 : decode cX0_cornersSharedWith 0 = .ok (.iconst 0, 1) := by decide +kernel
theorem dX0_cornersSharedWith_1 : decode cX0_cornersSharedWith 1 = .ok (.istore_n 2, 1) := by decide +kernel
theorem dX0_cornersSharedWith_2 : decode cX0_cornersSharedWith 2 = .ok (.iconst 0, 1) := by decide +kernel
theorem dX0_cornersSharedWith_3 : decode cX0_cornersSharedWith 3 = .ok (.istore_n 3, 1) := by decide +kernel
theorem dX0_cornersSharedWith_4 : decode cX0_cornersSharedWith 4 = .ok (.iload_n 3, 1) := by decide +kernel
theorem dX0_cornersSharedWith_5 : decode cX0_cornersSharedWith 5 = .ok (.aload_n 0, 1) := by decide +kernel
theorem dX0_cornersSharedWith_6 : decode cX0_cornersSharedWith 6 = .ok (.getfield 25, 3) := by decide +kernel
theorem dX0_cornersSharedWith_9 : decode cX0_cornersSharedWith 9 = .ok (.if_icmp .ge 41, 3) := by decide +kernel
theorem dX0_cornersSharedWith_12 : decode cX0_cornersSharedWith 12 = .ok (.aload_n 0, 1) := by decide +kernel
theorem dX0_cornersSharedWith_13 : decode cX0_cornersSharedWith 13 = .ok (.getfield 9, 3) := by decide +kernel
theorem dX0_cornersSharedWith_16 : decode cX0_cornersSharedWith 16 = .ok (.iload_n 1, 1) := by decide +kernel
theorem dX0_cornersSharedWith_17 : decode cX0_cornersSharedWith 17 = .ok (.aload_n 0, 1) := by decide +kernel
theorem dX0_cornersSharedWith_18 : decode cX0_cornersSharedWith 18 = .ok (.getfield 15, 3) := by decide +kernel
theorem dX0_cornersSharedWith_21 : decode cX0_cornersSharedWith 21 = .ok (.iload_n 3, 1) := by decide +kernel
theorem dX0_cornersSharedWith_22 : decode cX0_cornersSharedWith 22 = .ok (.iaload, 1) := by decide +kernel
theorem dX0_cornersSharedWith_23 : decode cX0_cornersSharedWith 23 = .ok (.aload_n 0, 1) := by decide +kernel
theorem dX0_cornersSharedWith_24 : decode cX0_cornersSharedWith 24 = .ok (.getfield 19, 3) := by decide +kernel
theorem dX0_cornersSharedWith_27 : decode cX0_cornersSharedWith 27 = .ok (.iload_n 3, 1) := by decide +kernel
theorem dX0_cornersSharedWith_28 : decode cX0_cornersSharedWith 28 = .ok (.iaload, 1) := by decide +kernel
theorem dX0_cornersSharedWith_29 : decode cX0_cornersSharedWith 29 = .ok (.aload_n 0, 1) := by decide +kernel
theorem dX0_cornersSharedWith_30 : decode cX0_cornersSharedWith 30 = .ok (.getfield 22, 3) := by decide +kernel
theorem dX0_cornersSharedWith_33 : decode cX0_cornersSharedWith 33 = .ok (.iload_n 3, 1) := by decide +kernel
theorem dX0_cornersSharedWith_34 : decode cX0_cornersSharedWith 34 = .ok (.iaload, 1) := by decide +kernel
theorem dX0_cornersSharedWith_35 : decode cX0_cornersSharedWith 35 = .ok (.invokevirtual 65, 3) := by decide +kernel
theorem dX0_cornersSharedWith_38 : decode cX0_cornersSharedWith 38 = .ok (.ifCond .eq 6, 3) := by decide +kernel
theorem dX0_cornersSharedWith_41 : decode cX0_cornersSharedWith 41 = .ok (.iinc 2 1, 3) := by decide +kernel
theorem dX0_cornersSharedWith_44 : decode cX0_cornersSharedWith 44 = .ok (.iinc 3 1, 3) := by decide +kernel
theorem dX0_cornersSharedWith_47 : decode cX0_cornersSharedWith 47 = .ok (.goto (-43), 3) := by decide +kernel
theorem dX0_cornersSharedWith_50 : decode cX0_cornersSharedWith 50 = .ok (.iload_n 2, 1) := by decide +kernel
theorem dX0_cornersSharedWith_51 : decode cX0_cornersSharedWith 51 = .ok (.ireturn, 1) := by decide +kernel
theorem dX0_putInOrder_0 : decode cX0_putInOrder 0 = .ok (.iconst 1, 1) := by decide +kernel
theorem dX0_putInOrder_1 : decode cX0_putInOrder 1 = .ok (.istore_n 1, 1) := by decide +kernel
theorem dX0_putInOrder_2 : decode cX0_putInOrder 2 = .ok (.iload_n 1, 1) := by decide +kernel
theorem dX0_putInOrder_3 : decode cX0_putInOrder 3 = .ok (.aload_n 0, 1) := by decide +kernel
theorem dX0_putInOrder_4 : decode cX0_putInOrder 4 = .ok (.getfield 25, 3) := by decide +kernel
theorem dX0_putInOrder_7 : decode cX0_putInOrder 7 = .ok (.if_icmp .ge 24, 3) := by decide +kernel
theorem dX0_putInOrder_10 : decode cX0_putInOrder 10 = .ok (.aload_n 0, 1) := by decide +kernel
theorem dX0_putInOrder_11 : decode cX0_putInOrder 11 = .ok (.iload_n 1, 1) := by decide +kernel
theorem dX0_putInOrder_12 : decode cX0_putInOrder 12 = .ok (.iconst 0, 1) := by decide +kernel
theorem dX0_putInOrder_13 : decode cX0_putInOrder 13 = .ok (.invokevirtual 69, 3) := by decide +kernel
theorem dX0_putInOrder_16 : decode cX0_putInOrder 16 = .ok (.ifCond .eq 9, 3) := by decide +kernel
theorem dX0_putInOrder_19 : decode cX0_putInOrder 19 = .ok (.aload_n 0, 1) := by decide +kernel
theorem dX0_putInOrder_20 : decode cX0_putInOrder 20 = .ok (.iload_n 1, 1) := by decide +kernel
theorem dX0_putInOrder_21 : decode cX0_putInOrder 21 = .ok (.iconst 0, 1) := by decide +kernel
theorem dX0_putInOrder_22 : decode cX0_putInOrder 22 = .ok (.invokevirtual 72, 3) := by decide +kernel
theorem dX0_putInOrder_25 : decode cX0_putInOrder 25 = .ok (.iinc 1 1, 3) := by decide +kernel
theorem dX0_putInOrder_28 : decode cX0_putInOrder 28 = .ok (.goto (-26), 3) := by decide +kernel
theorem dX0_putInOrder_31 : decode cX0_putInOrder 31 = .ok (.iconst 2, 1) := by decide +kernel
theorem dX0_putInOrder_32 : decode cX0_putInOrder 32 = .ok (.istore_n 1, 1) := by decide +kernel
theorem dX0_putInOrder_33 : decode cX0_putInOrder 33 = .ok (.iload_n 1, 1) := by decide +kernel
theorem dX0_putInOrder_34 : decode cX0_putInOrder 34 = .ok (.aload_n 0, 1) := by decide +kernel
theorem dX0_putInOrder_35 : decode cX0_putInOrder 35 = .ok (.getfield 25, 3) := by decide +kernel
theorem dX0_putInOrder_38 : decode cX0_putInOrder 38 = .ok (.if_icmp .ge 43, 3) := by decide +kernel
theorem dX0_putInOrder_41 : decode cX0_putInOrder 41 = .ok (.iload_n 1, 1) := by decide +kernel
theorem dX0_putInOrder_42 : decode cX0_putInOrder 42 = .ok (.istore_n 2, 1) := by decide +kernel
theorem dX0_putInOrder_43 : decode cX0_putInOrder 43 = .ok (.iload_n 2, 1) := by decide +kernel
theorem dX0_putInOrder_44 : decode cX0_putInOrder 44 = .ok (.iconst 1, 1) := by decide +kernel
theorem dX0_putInOrder_45 : decode cX0_putInOrder 45 = .ok (.if_icmp .le 30, 3) := by decide +kernel
theorem dX0_putInOrder_48 : decode cX0_putInOrder 48 = .ok (.aload_n 0, 1) := by decide +kernel
theorem dX0_putInOrder_49 : decode cX0_putInOrder 49 = .ok (.iload_n 2, 1) := by decide +kernel
theorem dX0_putInOrder_50 : decode cX0_putInOrder 50 = .ok (.iconst 1, 1) := by decide +kernel
theorem dX0_putInOrder_51 : decode cX0_putInOrder 51 = .ok (.isub, 1) := by decide +kernel
theorem dX0_putInOrder_52 : decode cX0_putInOrder 52 = .ok (.iload_n 2, 1) := by decide +kernel
theorem dX0_putInOrder_53 : decode cX0_putInOrder 53 = .ok (.invokevirtual 76, 3) := by decide +kernel
theorem dX0_putInOrder_56 : decode cX0_putInOrder 56 = .ok (.lconst 0, 1) := by decide +kernel
theorem dX0_putInOrder_57 : decode cX0_putInOrder 57 = .ok (.lcmp, 1) := by decide +kernel
theorem dX0_putInOrder_58 : decode cX0_putInOrder 58 = .ok (.ifCond .ge 17, 3) := by decide +kernel
theorem dX0_putInOrder_61 : decode cX0_putInOrder 61 = .ok (.aload_n 0, 1) := by decide +kernel
theorem dX0_putInOrder_62 : decode cX0_putInOrder 62 = .ok (.iload_n 2, 1) := by decide +kernel
theorem dX0_putInOrder_63 : decode cX0_putInOrder 63 = .ok (.iconst 1, 1) := by decide +kernel
theorem dX0_putInOrder_64 : decode cX0_putInOrder 64 = .ok (.isub, 1) := by decide +kernel
theorem dX0_putInOrder_65 : decode cX0_putInOrder 65 = .ok (.iload_n 2, 1) := by decide +kernel
theorem dX0_putInOrder_66 : decode cX0_putInOrder 66 = .ok (.invokevirtual 72, 3) := by decide +kernel
theorem dX0_putInOrder_69 : decode cX0_putInOrder 69 = .ok (.iinc 2 (-1), 3) := by decide +kernel
theorem dX0_putInOrder_72 : decode cX0_putInOrder 72 = .ok (.goto (-29), 3) := by decide +kernel
theorem dX0_putInOrder_75 : decode cX0_putInOrder 75 = .ok (.iinc 1 1, 3) := by decide +kernel
theorem dX0_putInOrder_78 : decode cX0_putInOrder 78 = .ok (.goto (-45), 3) := by decide +kernel
theorem dX0_putInOrder_81 : decode cX0_putInOrder 81 = .ok (.return_, 1) := by decide +kernel
theorem dX0_isBefore_0 : decode cX0_isBefore 0 = .ok (.aload_n 0, 1) := by decide +kernel
theorem dX0_isBefore_1 : decode cX0_isBefore 1 = .ok (.getfield 15, 3) := by decide +kernel
theorem dX0_isBefore_4 : decode cX0_isBefore 4 = .ok (.iload_n 1, 1) := by decide +kernel
theorem dX0_isBefore_5 : decode cX0_isBefore 5 = .ok (.iaload, 1) := by decide +kernel
theorem dX0_isBefore_6 : decode cX0_isBefore 6 = .ok (.aload_n 0, 1) := by decide +kernel
theorem dX0_isBefore_7 : decode cX0_isBefore 7 = .ok (.getfield 22, 3) := by decide +kernel
theorem dX0_isBefore_10 : decode cX0_isBefore 10 = .ok (.iload_n 2, 1) := by decide +kernel
theorem dX0_isBefore_11 : decode cX0_isBefore 11 = .ok (.iaload, 1) := by decide +kernel
theorem dX0_isBefore_12 : decode cX0_isBefore 12 = .ok (.imul, 1) := by decide +kernel
theorem dX0_isBefore_13 : decode cX0_isBefore 13 = .ok (.istore_n 3, 1) := by decide +kernel
theorem dX0_isBefore_14 : decode cX0_isBefore 14 = .ok (.aload_n 0, 1) := by decide +kernel
theorem dX0_isBefore_15 : decode cX0_isBefore 15 = .ok (.getfield 15, 3) := by decide +kernel
theorem dX0_isBefore_18 : decode cX0_isBefore 18 = .ok (.iload_n 2, 1) := by decide +kernel
theorem dX0_isBefore_19 : decode cX0_isBefore 19 = .ok (.iaload, 1) := by decide +kernel
theorem dX0_isBefore_20 : decode cX0_isBefore 20 = .ok (.aload_n 0, 1) := by decide +kernel
theorem dX0_isBefore_21 : decode cX0_isBefore 21 = .ok (.getfield 22, 3) := by decide +kernel
theorem dX0_isBefore_24 : decode cX0_isBefore 24 = .ok (.iload_n 1, 1) := by decide +kernel
theorem dX0_isBefore_25 : decode cX0_isBefore 25 = .ok (.iaload, 1) := by decide +kernel
theorem dX0_isBefore_26 : decode cX0_isBefore 26 = .ok (.imul, 1) := by decide +kernel
theorem dX0_isBefore_27 : decode cX0_isBefore 27 = .ok (.istore 4, 2) := by decide +kernel
theorem dX0_isBefore_29 : decode cX0_isBefore 29 = .ok (.iload_n 3, 1) := by decide +kernel
theorem dX0_isBefore_30 : decode cX0_isBefore 30 = .ok (.iload 4, 2) := by decide +kernel
theorem dX0_isBefore_32 : decode cX0_isBefore 32 = .ok (.if_icmp .eq 17, 3) := by decide +kernel
theorem dX0_isBefore_35 : decode cX0_isBefore 35 = .ok (.iload_n 3, 1) := by decide +kernel
theorem dX0_isBefore_36 : decode cX0_isBefore 36 = .ok (.iload 4, 2) := by decide +kernel
theorem dX0_isBefore_38 : decode cX0_isBefore 38 = .ok (.if_icmp .ge 7, 3) := by decide +kernel
theorem dX0_isBefore_41 : decode cX0_isBefore 41 = .ok (.iconst 1, 1) := by decide +kernel
theorem dX0_isBefore_42 : decode cX0_isBefore 42 = .ok (.goto 41, 3) := by decide +kernel
theorem dX0_isBefore_45 : decode cX0_isBefore 45 = .ok (.iconst 0, 1) := by decide +kernel
theorem dX0_isBefore_46 : decode cX0_isBefore 46 = .ok (.goto 37, 3) := by decide +kernel
theorem dX0_isBefore_49 : decode cX0_isBefore 49 = .ok (.aload_n 0, 1) := by decide +kernel
theorem dX0_isBefore_50 : decode cX0_isBefore 50 = .ok (.getfield 19, 3) := by decide +kernel
theorem dX0_isBefore_53 : decode cX0_isBefore 53 = .ok (.iload_n 1, 1) := by decide +kernel
theorem dX0_isBefore_54 : decode cX0_isBefore 54 = .ok (.iaload, 1) := by decide +kernel
theorem dX0_isBefore_55 : decode cX0_isBefore 55 = .ok (.aload_n 0, 1) := by decide +kernel
theorem dX0_isBefore_56 : decode cX0_isBefore 56 = .ok (.getfield 22, 3) := by decide +kernel
theorem dX0_isBefore_59 : decode cX0_isBefore 59 = .ok (.iload_n 2, 1) := by decide +kernel
theorem dX0_isBefore_60 : decode cX0_isBefore 60 = .ok (.iaload, 1) := by decide +kernel
theorem dX0_isBefore_61 : decode cX0_isBefore 61 = .ok (.imul, 1) := by decide +kernel
theorem dX0_isBefore_62 : decode cX0_isBefore 62 = .ok (.aload_n 0, 1) := by decide +kernel
theorem dX0_isBefore_63 : decode cX0_isBefore 63 = .ok (.getfield 19, 3) := by decide +kernel
theorem dX0_isBefore_66 : decode cX0_isBefore 66 = .ok (.iload_n 2, 1) := by decide +kernel
theorem dX0_isBefore_67 : decode cX0_isBefore 67 = .ok (.iaload, 1) := by decide +kernel
theorem dX0_isBefore_68 : decode cX0_isBefore 68 = .ok (.aload_n 0, 1) := by decide +kernel
theorem dX0_isBefore_69 : decode cX0_isBefore 69 = .ok (.getfield 22, 3) := by decide +kernel
theorem dX0_isBefore_72 : decode cX0_isBefore 72 = .ok (.iload_n 1, 1) := by decide +kernel
theorem dX0_isBefore_73 : decode cX0_isBefore 73 = .ok (.iaload, 1) := by decide +kernel
theorem dX0_isBefore_74 : decode cX0_isBefore 74 = .ok (.imul, 1) := by decide +kernel
theorem dX0_isBefore_75 : decode cX0_isBefore 75 = .ok (.if_icmp .ge 7, 3) := by decide +kernel
theorem dX0_isBefore_78 : decode cX0_isBefore 78 = .ok (.iconst 1, 1) := by decide +kernel
theorem dX0_isBefore_79 : decode cX0_isBefore 79 = .ok (.goto 4, 3) := by decide +kernel
theorem dX0_isBefore_82 : decode cX0_isBefore 82 = .ok (.iconst 0, 1) := by decide +kernel
theorem dX0_isBefore_83 : decode cX0_isBefore 83 = .ok (.ireturn, 1) := by decide +kernel
theorem dX0_turn_0 : decode cX0_turn 0 = .ok (.aload_n 0, 1) := by decide +kernel
theorem dX0_turn_1 : decode cX0_turn 1 = .ok (.getfield 15, 3) := by decide +kernel
theorem dX0_turn_4 : decode cX0_turn 4 = .ok (.iconst 0, 1) := by decide +kernel
theorem dX0_turn_5 : decode cX0_turn 5 = .ok (.iaload, 1) := by decide +kernel
theorem dX0_turn_6 : decode cX0_turn 6 = .ok (.i2l, 1) := by decide +kernel
theorem dX0_turn_7 : decode cX0_turn 7 = .ok (.aload_n 0, 1) := by decide +kernel
theorem dX0_turn_8 : decode cX0_turn 8 = .ok (.getfield 19, 3) := by decide +kernel
theorem dX0_turn_11 : decode cX0_turn 11 = .ok (.iload_n 1, 1) := by decide +kernel
theorem dX0_turn_12 : decode cX0_turn 12 = .ok (.iaload, 1) := by decide +kernel
theorem dX0_turn_13 : decode cX0_turn 13 = .ok (.i2l, 1) := by decide +kernel
theorem dX0_turn_14 : decode cX0_turn 14 = .ok (.aload_n 0, 1) := by decide +kernel
theorem dX0_turn_15 : decode cX0_turn 15 = .ok (.getfield 22, 3) := by decide +kernel
theorem dX0_turn_18 : decode cX0_turn 18 = .ok (.iload_n 2, 1) := by decide +kernel
theorem dX0_turn_19 : decode cX0_turn 19 = .ok (.iaload, 1) := by decide +kernel
theorem dX0_turn_20 : decode cX0_turn 20 = .ok (.i2l, 1) := by decide +kernel
theorem dX0_turn_21 : decode cX0_turn 21 = .ok (.lmul, 1) := by decide +kernel
theorem dX0_turn_22 : decode cX0_turn 22 = .ok (.aload_n 0, 1) := by decide +kernel
theorem dX0_turn_23 : decode cX0_turn 23 = .ok (.getfield 19, 3) := by decide +kernel
theorem dX0_turn_26 : decode cX0_turn 26 = .ok (.iload_n 2, 1) := by decide +kernel
theorem dX0_turn_27 : decode cX0_turn 27 = .ok (.iaload, 1) := by decide +kernel
theorem dX0_turn_28 : decode cX0_turn 28 = .ok (.i2l, 1) := by decide +kernel
theorem dX0_turn_29 : decode cX0_turn 29 = .ok (.aload_n 0, 1) := by decide +kernel
theorem dX0_turn_30 : decode cX0_turn 30 = .ok (.getfield 22, 3) := by decide +kernel
theorem dX0_turn_33 : decode cX0_turn 33 = .ok (.iload_n 1, 1) := by decide +kernel
theorem dX0_turn_34 : decode cX0_turn 34 = .ok (.iaload, 1) := by decide +kernel
theorem dX0_turn_35 : decode cX0_turn 35 = .ok (.i2l, 1) := by decide +kernel
theorem dX0_turn_36 : decode cX0_turn 36 = .ok (.lmul, 1) := by decide +kernel
theorem dX0_turn_37 : decode cX0_turn 37 = .ok (.lsub, 1) := by decide +kernel
theorem dX0_turn_38 : decode cX0_turn 38 = .ok (.lmul, 1) := by decide +kernel
theorem dX0_turn_39 : decode cX0_turn 39 = .ok (.aload_n 0, 1) := by decide +kernel
theorem dX0_turn_40 : decode cX0_turn 40 = .ok (.getfield 19, 3) := by decide +kernel
theorem dX0_turn_43 : decode cX0_turn 43 = .ok (.iconst 0, 1) := by decide +kernel
theorem dX0_turn_44 : decode cX0_turn 44 = .ok (.iaload, 1) := by decide +kernel
theorem dX0_turn_45 : decode cX0_turn 45 = .ok (.i2l, 1) := by decide +kernel
theorem dX0_turn_46 : decode cX0_turn 46 = .ok (.aload_n 0, 1) := by decide +kernel
theorem dX0_turn_47 : decode cX0_turn 47 = .ok (.getfield 15, 3) := by decide +kernel
theorem dX0_turn_50 : decode cX0_turn 50 = .ok (.iload_n 1, 1) := by decide +kernel
theorem dX0_turn_51 : decode cX0_turn 51 = .ok (.iaload, 1) := by decide +kernel
theorem dX0_turn_52 : decode cX0_turn 52 = .ok (.i2l, 1) := by decide +kernel
theorem dX0_turn_53 : decode cX0_turn 53 = .ok (.aload_n 0, 1) := by decide +kernel
theorem dX0_turn_54 : decode cX0_turn 54 = .ok (.getfield 22, 3) := by decide +kernel
theorem dX0_turn_57 : decode cX0_turn 57 = .ok (.iload_n 2, 1) := by decide +kernel
theorem dX0_turn_58 : decode cX0_turn 58 = .ok (.iaload, 1) := by decide +kernel
theorem dX0_turn_59 : decode cX0_turn 59 = .ok (.i2l, 1) := by decide +kernel
theorem dX0_turn_60 : decode cX0_turn 60 = .ok (.lmul, 1) := by decide +kernel
theorem dX0_turn_61 : decode cX0_turn 61 = .ok (.aload_n 0, 1) := by decide +kernel
theorem dX0_turn_62 : decode cX0_turn 62 = .ok (.getfield 15, 3) := by decide +kernel
theorem dX0_turn_65 : decode cX0_turn 65 = .ok (.iload_n 2, 1) := by decide +kernel
theorem dX0_turn_66 : decode cX0_turn 66 = .ok (.iaload, 1) := by decide +kernel
theorem dX0_turn_67 : decode cX0_turn 67 = .ok (.i2l, 1) := by decide +kernel
theorem dX0_turn_68 : decode cX0_turn 68 = .ok (.aload_n 0, 1) := by decide +kernel
theorem dX0_turn_69 : decode cX0_turn 69 = .ok (.getfield 22, 3) := by decide +kernel
theorem dX0_turn_72 : decode cX0_turn 72 = .ok (.iload_n 1, 1) := by decide +kernel
theorem dX0_turn_73 : decode cX0_turn 73 = .ok (.iaload, 1) := by decide +kernel
theorem dX0_turn_74 : decode cX0_turn 74 = .ok (.i2l, 1) := by decide +kernel
theorem dX0_turn_75 : decode cX0_turn 75 = .ok (.lmul, 1) := by decide +kernel
theorem dX0_turn_76 : decode cX0_turn 76 = .ok (.lsub, 1) := by decide +kernel
theorem dX0_turn_77 : decode cX0_turn 77 = .ok (.lmul, 1) := by decide +kernel
theorem dX0_turn_78 : decode cX0_turn 78 = .ok (.lsub, 1) := by decide +kernel
theorem dX0_turn_79 : decode cX0_turn 79 = .ok (.aload_n 0, 1) := by decide +kernel
theorem dX0_turn_80 : decode cX0_turn 80 = .ok (.getfield 22, 3) := by decide +kernel
theorem dX0_turn_83 : decode cX0_turn 83 = .ok (.iconst 0, 1) := by decide +kernel
theorem dX0_turn_84 : decode cX0_turn 84 = .ok (.iaload, 1) := by decide +kernel
theorem dX0_turn_85 : decode cX0_turn 85 = .ok (.i2l, 1) := by decide +kernel
theorem dX0_turn_86 : decode cX0_turn 86 = .ok (.aload_n 0, 1) := by decide +kernel
theorem dX0_turn_87 : decode cX0_turn 87 = .ok (.getfield 15, 3) := by decide +kernel
theorem dX0_turn_90 : decode cX0_turn 90 = .ok (.iload_n 1, 1) := by decide +kernel
theorem dX0_turn_91 : decode cX0_turn 91 = .ok (.iaload, 1) := by decide +kernel
theorem dX0_turn_92 : decode cX0_turn 92 = .ok (.i2l, 1) := by decide +kernel
theorem dX0_turn_93 : decode cX0_turn 93 = .ok (.aload_n 0, 1) := by decide +kernel
theorem dX0_turn_94 : decode cX0_turn 94 = .ok (.getfield 19, 3) := by decide +kernel
theorem dX0_turn_97 : decode cX0_turn 97 = .ok (.iload_n 2, 1) := by decide +kernel
theorem dX0_turn_98 : decode cX0_turn 98 = .ok (.iaload, 1) := by decide +kernel
theorem dX0_turn_99 : decode cX0_turn 99 = .ok (.i2l, 1) := by decide +kernel
theorem dX0_turn_100 : decode cX0_turn 100 = .ok (.lmul, 1) := by decide +kernel
theorem dX0_turn_101 : decode cX0_turn 101 = .ok (.aload_n 0, 1) := by decide +kernel
theorem dX0_turn_102 : decode cX0_turn 102 = .ok (.getfield 15, 3) := by decide +kernel
theorem dX0_turn_105 : decode cX0_turn 105 = .ok (.iload_n 2, 1) := by decide +kernel
theorem dX0_turn_106 : decode cX0_turn 106 = .ok (.iaload, 1) := by decide +kernel
theorem dX0_turn_107 : decode cX0_turn 107 = .ok (.i2l, 1) := by decide +kernel
theorem dX0_turn_108 : decode cX0_turn 108 = .ok (.aload_n 0, 1) := by decide +kernel
theorem dX0_turn_109 : decode cX0_turn 109 = .ok (.getfield 19, 3) := by decide +kernel
theorem dX0_turn_112 : decode cX0_turn 112 = .ok (.iload_n 1, 1) := by decide +kernel
theorem dX0_turn_113 : decode cX0_turn 113 = .ok (.iaload, 1) := by decide +kernel
theorem dX0_turn_114 : decode cX0_turn 114 = .ok (.i2l, 1) := by decide +kernel
theorem dX0_turn_115 : decode cX0_turn 115 = .ok (.lmul, 1) := by decide +kernel
theorem dX0_turn_116 : decode cX0_turn 116 = .ok (.lsub, 1) := by decide +kernel
theorem dX0_turn_117 : decode cX0_turn 117 = .ok (.lmul, 1) := by decide +kernel
theorem dX0_turn_118 : decode cX0_turn 118 = .ok (.ladd, 1) := by decide +kernel
theorem dX0_turn_119 : decode cX0_turn 119 = .ok (.lreturn, 1) := by decide +kernel
theorem dX0_swap_0 : decode cX0_swap 0 = .ok (.aload_n 0, 1) := by decide +kernel
theorem dX0_swap_1 : decode cX0_swap 1 = .ok (.getfield 15, 3) := by decide +kernel
theorem dX0_swap_4 : decode cX0_swap 4 = .ok (.iload_n 1, 1) := by decide +kernel
theorem dX0_swap_5 : decode cX0_swap 5 = .ok (.iload_n 2, 1) := by decide +kernel
theorem dX0_swap_6 : decode cX0_swap 6 = .ok (.invokestatic 80, 3) := by decide +kernel
theorem dX0_swap_9 : decode cX0_swap 9 = .ok (.aload_n 0, 1) := by decide +kernel
theorem dX0_swap_10 : decode cX0_swap 10 = .ok (.getfield 19, 3) := by decide +kernel
theorem dX0_swap_13 : decode cX0_swap 13 = .ok (.iload_n 1, 1) := by decide +kernel
theorem dX0_swap_14 : decode cX0_swap 14 = .ok (.iload_n 2, 1) := by decide +kernel
theorem dX0_swap_15 : decode cX0_swap 15 = .ok (.invokestatic 80, 3) := by decide +kernel
theorem dX0_swap_18 : decode cX0_swap 18 = .ok (.aload_n 0, 1) := by decide +kernel
theorem dX0_swap_19 : decode cX0_swap 19 = .ok (.getfield 22, 3) := by decide +kernel
theorem dX0_swap_22 : decode cX0_swap 22 = .ok (.iload_n 1, 1) := by decide +kernel
theorem dX0_swap_23 : decode cX0_swap 23 = .ok (.iload_n 2, 1) := by decide +kernel
theorem dX0_swap_24 : decode cX0_swap 24 = .ok (.invokestatic 80, 3) := by decide +kernel
theorem dX0_swap_27 : decode cX0_swap 27 = .ok (.return_, 1) := by decide +kernel
theorem dX0_swapIn_0 : decode cX0_swapIn 0 = .ok (.aload_n 0, 1) := by decide +kernel
theorem dX0_swapIn_1 : decode cX0_swapIn 1 = .ok (.iload_n 1, 1) := by decide +kernel
theorem dX0_swapIn_2 : decode cX0_swapIn 2 = .ok (.iaload, 1) := by decide +kernel
theorem dX0_swapIn_3 : decode cX0_swapIn 3 = .ok (.istore_n 3, 1) := by decide +kernel
theorem dX0_swapIn_4 : decode cX0_swapIn 4 = .ok (.aload_n 0, 1) := by decide +kernel
theorem dX0_swapIn_5 : decode cX0_swapIn 5 = .ok (.iload_n 1, 1) := by decide +kernel
theorem dX0_swapIn_6 : decode cX0_swapIn 6 = .ok (.aload_n 0, 1) := by decide +kernel
theorem dX0_swapIn_7 : decode cX0_swapIn 7 = .ok (.iload_n 2, 1) := by decide +kernel
theorem dX0_swapIn_8 : decode cX0_swapIn 8 = .ok (.iaload, 1) := by decide +kernel
theorem dX0_swapIn_9 : decode cX0_swapIn 9 = .ok (.iastore, 1) := by decide +kernel
theorem dX0_swapIn_10 : decode cX0_swapIn 10 = .ok (.aload_n 0, 1) := by decide +kernel
theorem dX0_swapIn_11 : decode cX0_swapIn 11 = .ok (.iload_n 2, 1) := by decide +kernel
theorem dX0_swapIn_12 : decode cX0_swapIn 12 = .ok (.iload_n 3, 1) := by decide +kernel
theorem dX0_swapIn_13 : decode cX0_swapIn 13 = .ok (.iastore, 1) := by decide +kernel
theorem dX0_swapIn_14 : decode cX0_swapIn 14 = .ok (.return_, 1) := by decide +kernel
theorem dX0_coordinate_0 : decode cX0_coordinate 0 = .ok (.iload_n 2, 1) := by decide +kernel
theorem dX0_coordinate_1 : decode cX0_coordinate 1 = .ok (.ifCond .ne 12, 3) := by decide +kernel
theorem dX0_coordinate_4 : decode cX0_coordinate 4 = .ok (.aload_n 0, 1) := by decide +kernel
theorem dX0_coordinate_5 : decode cX0_coordinate 5 = .ok (.getfield 15, 3) := by decide +kernel
theorem dX0_coordinate_8 : decode cX0_coordinate 8 = .ok (.iload_n 1, 1) := by decide +kernel
theorem dX0_coordinate_9 : decode cX0_coordinate 9 = .ok (.iaload, 1) := by decide +kernel
theorem dX0_coordinate_10 : decode cX0_coordinate 10 = .ok (.goto 9, 3) := by decide +kernel
theorem dX0_coordinate_13 : decode cX0_coordinate 13 = .ok (.aload_n 0, 1) := by decide +kernel
theorem dX0_coordinate_14 : decode cX0_coordinate 14 = .ok (.getfield 19, 3) := by decide +kernel
theorem dX0_coordinate_17 : decode cX0_coordinate 17 = .ok (.iload_n 1, 1) := by decide +kernel
theorem dX0_coordinate_18 : decode cX0_coordinate 18 = .ok (.iaload, 1) := by decide +kernel
theorem dX0_coordinate_19 : decode cX0_coordinate 19 = .ok (.ireturn, 1) := by decide +kernel
theorem dX0_commonDivisor_0 : decode cX0_commonDivisor 0 = .ok (.aload_n 0, 1) := by decide +kernel
theorem dX0_commonDivisor_1 : decode cX0_commonDivisor 1 = .ok (.getfield 22, 3) := by decide +kernel
theorem dX0_commonDivisor_4 : decode cX0_commonDivisor 4 = .ok (.iload_n 1, 1) := by decide +kernel
theorem dX0_commonDivisor_5 : decode cX0_commonDivisor 5 = .ok (.iaload, 1) := by decide +kernel
theorem dX0_commonDivisor_6 : decode cX0_commonDivisor 6 = .ok (.istore_n 3, 1) := by decide +kernel
theorem dX0_commonDivisor_7 : decode cX0_commonDivisor 7 = .ok (.aload_n 0, 1) := by decide +kernel
theorem dX0_commonDivisor_8 : decode cX0_commonDivisor 8 = .ok (.iload_n 1, 1) := by decide +kernel
theorem dX0_commonDivisor_9 : decode cX0_commonDivisor 9 = .ok (.iload_n 2, 1) := by decide +kernel
theorem dX0_commonDivisor_10 : decode cX0_commonDivisor 10 = .ok (.invokevirtual 84, 3) := by decide +kernel
theorem dX0_commonDivisor_13 : decode cX0_commonDivisor 13 = .ok (.istore 4, 2) := by decide +kernel
theorem dX0_commonDivisor_15 : decode cX0_commonDivisor 15 = .ok (.iconst 0, 1) := by decide +kernel
theorem dX0_commonDivisor_16 : decode cX0_commonDivisor 16 = .ok (.istore 5, 2) := by decide +kernel
theorem dX0_commonDivisor_18 : decode cX0_commonDivisor 18 = .ok (.iload 5, 2) := by decide +kernel
theorem dX0_commonDivisor_20 : decode cX0_commonDivisor 20 = .ok (.bipush 50, 2) := by decide +kernel
theorem dX0_commonDivisor_22 : decode cX0_commonDivisor 22 = .ok (.if_icmp .ge 27, 3) := by decide +kernel
theorem dX0_commonDivisor_25 : decode cX0_commonDivisor 25 = .ok (.iload 4, 2) := by decide +kernel
theorem dX0_commonDivisor_27 : decode cX0_commonDivisor 27 = .ok (.ifCond .eq 22, 3) := by decide +kernel
theorem dX0_commonDivisor_30 : decode cX0_commonDivisor 30 = .ok (.iload_n 3, 1) := by decide +kernel
theorem dX0_commonDivisor_31 : decode cX0_commonDivisor 31 = .ok (.iload 4, 2) := by decide +kernel
theorem dX0_commonDivisor_33 : decode cX0_commonDivisor 33 = .ok (.irem, 1) := by decide +kernel
theorem dX0_commonDivisor_34 : decode cX0_commonDivisor 34 = .ok (.istore 6, 2) := by decide +kernel
theorem dX0_commonDivisor_36 : decode cX0_commonDivisor 36 = .ok (.iload 4, 2) := by decide +kernel
theorem dX0_commonDivisor_38 : decode cX0_commonDivisor 38 = .ok (.istore_n 3, 1) := by decide +kernel
theorem dX0_commonDivisor_39 : decode cX0_commonDivisor 39 = .ok (.iload 6, 2) := by decide +kernel
theorem dX0_commonDivisor_41 : decode cX0_commonDivisor 41 = .ok (.istore 4, 2) := by decide +kernel
theorem dX0_commonDivisor_43 : decode cX0_commonDivisor 43 = .ok (.iinc 5 1, 3) := by decide +kernel
theorem dX0_commonDivisor_46 : decode cX0_commonDivisor 46 = .ok (.goto (-28), 3) := by decide +kernel
theorem dX0_commonDivisor_49 : decode cX0_commonDivisor 49 = .ok (.iload_n 3, 1) := by decide +kernel
theorem dX0_commonDivisor_50 : decode cX0_commonDivisor 50 = .ok (.iconst 1, 1) := by decide +kernel
theorem dX0_commonDivisor_51 : decode cX0_commonDivisor 51 = .ok (.invokestatic 88, 3) := by decide +kernel
theorem dX0_commonDivisor_54 : decode cX0_commonDivisor 54 = .ok (.ireturn, 1) := by decide +kernel
theorem dX1_init_0 : decode cX1_init 0 = .ok (.aload_n 0, 1) := by decide +kernel
theorem dX1_init_1 : decode cX1_init 1 = .ok (.invokespecial 3, 3) := by decide +kernel
theorem dX1_init_4 : decode cX1_init 4 = .ok (.aload_n 0, 1) := by decide +kernel
theorem dX1_init_5 : decode cX1_init 5 = .ok (.bipush 14, 2) := by decide +kernel
theorem dX1_init_7 : decode cX1_init 7 = .ok (.newarray .int, 2) := by decide +kernel
theorem dX1_init_9 : decode cX1_init 9 = .ok (.putfield 11, 3) := by decide +kernel
theorem dX1_init_12 : decode cX1_init 12 = .ok (.aload_n 0, 1) := by decide +kernel
theorem dX1_init_13 : decode cX1_init 13 = .ok (.bipush 14, 2) := by decide +kernel
theorem dX1_init_15 : decode cX1_init 15 = .ok (.newarray .int, 2) := by decide +kernel
theorem dX1_init_17 : decode cX1_init 17 = .ok (.putfield 15, 3) := by decide +kernel
theorem dX1_init_20 : decode cX1_init 20 = .ok (.aload_n 0, 1) := by decide +kernel
theorem dX1_init_21 : decode cX1_init 21 = .ok (.bipush 14, 2) := by decide +kernel
theorem dX1_init_23 : decode cX1_init 23 = .ok (.newarray .int, 2) := by decide +kernel
theorem dX1_init_25 : decode cX1_init 25 = .ok (.putfield 18, 3) := by decide +kernel
theorem dX1_init_28 : decode cX1_init 28 = .ok (.aload_n 0, 1) := by decide +kernel
theorem dX1_init_29 : decode cX1_init 29 = .ok (.iconst 0, 1) := by decide +kernel
theorem dX1_init_30 : decode cX1_init 30 = .ok (.putfield 21, 3) := by decide +kernel
theorem dX1_init_33 : decode cX1_init 33 = .ok (.aload_n 0, 1) := by decide +kernel
theorem dX1_init_34 : decode cX1_init 34 = .ok (.iconst 0, 1) := by decide +kernel
theorem dX1_init_35 : decode cX1_init 35 = .ok (.putfield 25, 3) := by decide +kernel
theorem dX1_init_38 : decode cX1_init 38 = .ok (.aload_n 0, 1) := by decide +kernel
theorem dX1_init_39 : decode cX1_init 39 = .ok (.iconst 0, 1) := by decide +kernel
theorem dX1_init_40 : decode cX1_init 40 = .ok (.putfield 28, 3) := by decide +kernel
theorem dX1_init_43 : decode cX1_init 43 = .ok (.aload_n 0, 1) := by decide +kernel
theorem dX1_init_44 : decode cX1_init 44 = .ok (.iconst 1, 1) := by decide +kernel
theorem dX1_init_45 : decode cX1_init 45 = .ok (.putfield 31, 3) := by decide +kernel
theorem dX1_init_48 : decode cX1_init 48 = .ok (.return_, 1) := by decide +kernel
theorem dX1_compare_0 : decode cX1_compare 0 = .ok (.aload_n 0, 1) := by decide +kernel
theorem dX1_compare_1 : decode cX1_compare 1 = .ok (.iconst 0, 1) := by decide +kernel
theorem dX1_compare_2 : decode cX1_compare 2 = .ok (.putfield 21, 3) := by decide +kernel
theorem dX1_compare_5 : decode cX1_compare 5 = .ok (.aload_n 1, 1) := by decide +kernel
theorem dX1_compare_6 : decode cX1_compare 6 = .ok (.iload_n 2, 1) := by decide +kernel
theorem dX1_compare_7 : decode cX1_compare 7 = .ok (.invokevirtual 34, 3) := by decide +kernel
theorem dX1_compare_10 : decode cX1_compare 10 = .ok (.ifCond .ne 4, 3) := by decide +kernel
theorem dX1_compare_13 : decode cX1_compare 13 = .ok (.return_, 1) := by decide +kernel
theorem dX1_compare_14 : decode cX1_compare 14 = .ok (.iconst 0, 1) := by decide +kernel
theorem dX1_compare_15 : decode cX1_compare 15 = .ok (.istore_n 3, 1) := by decide +kernel
theorem dX1_compare_16 : decode cX1_compare 16 = .ok (.iload_n 3, 1) := by decide +kernel
theorem dX1_compare_17 : decode cX1_compare 17 = .ok (.aload_n 1, 1) := by decide +kernel
theorem dX1_compare_18 : decode cX1_compare 18 = .ok (.getfield 40, 3) := by decide +kernel
theorem dX1_compare_21 : decode cX1_compare 21 = .ok (.if_icmp .ge 54, 3) := by decide +kernel
theorem dX1_compare_24 : decode cX1_compare 24 = .ok (.aload_n 0, 1) := by decide +kernel
theorem dX1_compare_25 : decode cX1_compare 25 = .ok (.iconst 2, 1) := by decide +kernel
theorem dX1_compare_26 : decode cX1_compare 26 = .ok (.aload_n 1, 1) := by decide +kernel
theorem dX1_compare_27 : decode cX1_compare 27 = .ok (.getfield 41, 3) := by decide +kernel
theorem dX1_compare_30 : decode cX1_compare 30 = .ok (.iload_n 3, 1) := by decide +kernel
theorem dX1_compare_31 : decode cX1_compare 31 = .ok (.iaload, 1) := by decide +kernel
theorem dX1_compare_32 : decode cX1_compare 32 = .ok (.aload_n 1, 1) := by decide +kernel
theorem dX1_compare_33 : decode cX1_compare 33 = .ok (.getfield 41, 3) := by decide +kernel
theorem dX1_compare_36 : decode cX1_compare 36 = .ok (.iload_n 2, 1) := by decide +kernel
theorem dX1_compare_37 : decode cX1_compare 37 = .ok (.iaload, 1) := by decide +kernel
theorem dX1_compare_38 : decode cX1_compare 38 = .ok (.isub, 1) := by decide +kernel
theorem dX1_compare_39 : decode cX1_compare 39 = .ok (.imul, 1) := by decide +kernel
theorem dX1_compare_40 : decode cX1_compare 40 = .ok (.iconst 2, 1) := by decide +kernel
theorem dX1_compare_41 : decode cX1_compare 41 = .ok (.aload_n 1, 1) := by decide +kernel
theorem dX1_compare_42 : decode cX1_compare 42 = .ok (.getfield 44, 3) := by decide +kernel
theorem dX1_compare_45 : decode cX1_compare 45 = .ok (.iload_n 3, 1) := by decide +kernel
theorem dX1_compare_46 : decode cX1_compare 46 = .ok (.iaload, 1) := by decide +kernel
theorem dX1_compare_47 : decode cX1_compare 47 = .ok (.aload_n 1, 1) := by decide +kernel
theorem dX1_compare_48 : decode cX1_compare 48 = .ok (.getfield 44, 3) := by decide +kernel
theorem dX1_compare_51 : decode cX1_compare 51 = .ok (.iload_n 2, 1) := by decide +kernel
theorem dX1_compare_52 : decode cX1_compare 52 = .ok (.iaload, 1) := by decide +kernel
theorem dX1_compare_53 : decode cX1_compare 53 = .ok (.isub, 1) := by decide +kernel
theorem dX1_compare_54 : decode cX1_compare 54 = .ok (.imul, 1) := by decide +kernel
theorem dX1_compare_55 : decode cX1_compare 55 = .ok (.aload_n 1, 1) := by decide +kernel
theorem dX1_compare_56 : decode cX1_compare 56 = .ok (.iload_n 3, 1) := by decide +kernel
theorem dX1_compare_57 : decode cX1_compare 57 = .ok (.invokevirtual 47, 3) := by decide +kernel
theorem dX1_compare_60 : decode cX1_compare 60 = .ok (.aload_n 1, 1) := by decide +kernel
theorem dX1_compare_61 : decode cX1_compare 61 = .ok (.iload_n 2, 1) := by decide +kernel
theorem dX1_compare_62 : decode cX1_compare 62 = .ok (.invokevirtual 47, 3) := by decide +kernel
theorem dX1_compare_65 : decode cX1_compare 65 = .ok (.isub, 1) := by decide +kernel
theorem dX1_compare_66 : decode cX1_compare 66 = .ok (.invokevirtual 51, 3) := by decide +kernel
theorem dX1_compare_69 : decode cX1_compare 69 = .ok (.iinc 3 1, 3) := by decide +kernel
theorem dX1_compare_72 : decode cX1_compare 72 = .ok (.goto (-56), 3) := by decide +kernel
theorem dX1_compare_75 : decode cX1_compare 75 = .ok (.return_, 1) := by decide +kernel
theorem dX1_addSquare_0 : decode cX1_addSquare 0 = .ok (.aload_n 0, 1) := by decide +kernel
theorem dX1_addSquare_1 : decode cX1_addSquare 1 = .ok (.iconst (-1), 1) := by decide +kernel
theorem dX1_addSquare_2 : decode cX1_addSquare 2 = .ok (.iconst 0, 1) := by decide +kernel
theorem dX1_addSquare_3 : decode cX1_addSquare 3 = .ok (.iconst 0, 1) := by decide +kernel
theorem dX1_addSquare_4 : decode cX1_addSquare 4 = .ok (.invokevirtual 51, 3) := by decide +kernel
theorem dX1_addSquare_7 : decode cX1_addSquare 7 = .ok (.aload_n 0, 1) := by decide +kernel
theorem dX1_addSquare_8 : decode cX1_addSquare 8 = .ok (.iconst 0, 1) := by decide +kernel
theorem dX1_addSquare_9 : decode cX1_addSquare 9 = .ok (.iconst (-1), 1) := by decide +kernel
theorem dX1_addSquare_10 : decode cX1_addSquare 10 = .ok (.iconst 0, 1) := by decide +kernel
theorem dX1_addSquare_11 : decode cX1_addSquare 11 = .ok (.invokevirtual 51, 3) := by decide +kernel
theorem dX1_addSquare_14 : decode cX1_addSquare 14 = .ok (.aload_n 0, 1) := by decide +kernel
theorem dX1_addSquare_15 : decode cX1_addSquare 15 = .ok (.iconst 1, 1) := by decide +kernel
theorem dX1_addSquare_16 : decode cX1_addSquare 16 = .ok (.iconst 0, 1) := by decide +kernel
theorem dX1_addSquare_17 : decode cX1_addSquare 17 = .ok (.bipush 20, 2) := by decide +kernel
theorem dX1_addSquare_19 : decode cX1_addSquare 19 = .ok (.invokevirtual 51, 3) := by decide +kernel
theorem dX1_addSquare_22 : decode cX1_addSquare 22 = .ok (.aload_n 0, 1) := by decide +kernel
theorem dX1_addSquare_23 : decode cX1_addSquare 23 = .ok (.iconst 0, 1) := by decide +kernel
theorem dX1_addSquare_24 : decode cX1_addSquare 24 = .ok (.iconst 1, 1) := by decide +kernel
theorem dX1_addSquare_25 : decode cX1_addSquare 25 = .ok (.bipush 20, 2) := by decide +kernel
theorem dX1_addSquare_27 : decode cX1_addSquare 27 = .ok (.invokevirtual 51, 3) := by decide +kernel
theorem dX1_addSquare_30 : decode cX1_addSquare 30 = .ok (.return_, 1) := by decide +kernel
theorem dX1_put_0 : decode cX1_put 0 = .ok (.aload_n 0, 1) := by decide +kernel
theorem dX1_put_1 : decode cX1_put 1 = .ok (.getfield 21, 3) := by decide +kernel
theorem dX1_put_4 : decode cX1_put 4 = .ok (.bipush 14, 2) := by decide +kernel
theorem dX1_put_6 : decode cX1_put 6 = .ok (.if_icmp .lt 4, 3) := by decide +kernel
theorem dX1_put_9 : decode cX1_put 9 = .ok (.return_, 1) := by decide +kernel
theorem dX1_put_10 : decode cX1_put 10 = .ok (.aload_n 0, 1) := by decide +kernel
theorem dX1_put_11 : decode cX1_put 11 = .ok (.getfield 11, 3) := by decide +kernel
theorem dX1_put_14 : decode cX1_put 14 = .ok (.aload_n 0, 1) := by decide +kernel
theorem dX1_put_15 : decode cX1_put 15 = .ok (.getfield 21, 3) := by decide +kernel
theorem dX1_put_18 : decode cX1_put 18 = .ok (.iload_n 1, 1) := by decide +kernel
theorem dX1_put_19 : decode cX1_put 19 = .ok (.iastore, 1) := by decide +kernel
theorem dX1_put_20 : decode cX1_put 20 = .ok (.aload_n 0, 1) := by decide +kernel
theorem dX1_put_21 : decode cX1_put 21 = .ok (.getfield 15, 3) := by decide +kernel
theorem dX1_put_24 : decode cX1_put 24 = .ok (.aload_n 0, 1) := by decide +kernel
theorem dX1_put_25 : decode cX1_put 25 = .ok (.getfield 21, 3) := by decide +kernel
theorem dX1_put_28 : decode cX1_put 28 = .ok (.iload_n 2, 1) := by decide +kernel
theorem dX1_put_29 : decode cX1_put 29 = .ok (.iastore, 1) := by decide +kernel
theorem dX1_put_30 : decode cX1_put 30 = .ok (.aload_n 0, 1) := by decide +kernel
theorem dX1_put_31 : decode cX1_put 31 = .ok (.getfield 18, 3) := by decide +kernel
theorem dX1_put_34 : decode cX1_put 34 = .ok (.aload_n 0, 1) := by decide +kernel
theorem dX1_put_35 : decode cX1_put 35 = .ok (.getfield 21, 3) := by decide +kernel
theorem dX1_put_38 : decode cX1_put 38 = .ok (.iload_n 3, 1) := by decide +kernel
theorem dX1_put_39 : decode cX1_put 39 = .ok (.iastore, 1) := by decide +kernel
theorem dX1_put_40 : decode cX1_put 40 = .ok (.aload_n 0, 1) := by decide +kernel
theorem dX1_put_41 : decode cX1_put 41 = .ok (.dup, 1) := by decide +kernel
theorem dX1_put_42 : decode cX1_put 42 = .ok (.getfield 21, 3) := by decide +kernel
theorem dX1_put_45 : decode cX1_put 45 = .ok (.iconst 1, 1) := by decide +kernel
theorem dX1_put_46 : decode cX1_put 46 = .ok (.iadd, 1) := by decide +kernel
theorem dX1_put_47 : decode cX1_put 47 = .ok (.putfield 21, 3) := by decide +kernel
theorem dX1_put_50 : decode cX1_put 50 = .ok (.return_, 1) := by decide +kernel
theorem dX1_has_0 : decode cX1_has 0 = .ok (.iload_n 1, 1) := by decide +kernel
theorem dX1_has_1 : decode cX1_has 1 = .ok (.ifCond .lt 15, 3) := by decide +kernel
theorem dX1_has_4 : decode cX1_has 4 = .ok (.iload_n 1, 1) := by decide +kernel
theorem dX1_has_5 : decode cX1_has 5 = .ok (.aload_n 0, 1) := by decide +kernel
theorem dX1_has_6 : decode cX1_has 6 = .ok (.getfield 21, 3) := by decide +kernel
theorem dX1_has_9 : decode cX1_has 9 = .ok (.if_icmp .ge 7, 3) := by decide +kernel
theorem dX1_has_12 : decode cX1_has 12 = .ok (.iconst 1, 1) := by decide +kernel
theorem dX1_has_13 : decode cX1_has 13 = .ok (.goto 4, 3) := by decide +kernel
theorem dX1_has_16 : decode cX1_has 16 = .ok (.iconst 0, 1) := by decide +kernel
theorem dX1_has_17 : decode cX1_has 17 = .ok (.ireturn, 1) := by decide +kernel
theorem dX1_meet_0 : decode cX1_meet 0 = .ok (.aload_n 0, 1) := by decide +kernel
theorem dX1_meet_1 : decode cX1_meet 1 = .ok (.iload_n 1, 1) := by decide +kernel
theorem dX1_meet_2 : decode cX1_meet 2 = .ok (.invokevirtual 55, 3) := by decide +kernel
theorem dX1_meet_5 : decode cX1_meet 5 = .ok (.ifCond .eq 11, 3) := by decide +kernel
theorem dX1_meet_8 : decode cX1_meet 8 = .ok (.aload_n 0, 1) := by decide +kernel
theorem dX1_meet_9 : decode cX1_meet 9 = .ok (.iload_n 2, 1) := by decide +kernel
theorem dX1_meet_10 : decode cX1_meet 10 = .ok (.invokevirtual 55, 3) := by decide +kernel
theorem dX1_meet_13 : decode cX1_meet 13 = .ok (.ifCond .ne 5, 3) := by decide +kernel
theorem dX1_meet_16 : decode cX1_meet 16 = .ok (.iconst 0, 1) := by decide +kernel
theorem dX1_meet_17 : decode cX1_meet 17 = .ok (.ireturn, 1) := by decide +kernel
theorem dX1_meet_18 : decode cX1_meet 18 = .ok (.aload_n 0, 1) := by decide +kernel
theorem dX1_meet_19 : decode cX1_meet 19 = .ok (.getfield 11, 3) := by decide +kernel
theorem dX1_meet_22 : decode cX1_meet 22 = .ok (.iload_n 1, 1) := by decide +kernel
theorem dX1_meet_23 : decode cX1_meet 23 = .ok (.iaload, 1) := by decide +kernel
theorem dX1_meet_24 : decode cX1_meet 24 = .ok (.aload_n 0, 1) := by decide +kernel
theorem dX1_meet_25 : decode cX1_meet 25 = .ok (.getfield 15, 3) := by decide +kernel
theorem dX1_meet_28 : decode cX1_meet 28 = .ok (.iload_n 2, 1) := by decide +kernel
theorem dX1_meet_29 : decode cX1_meet 29 = .ok (.iaload, 1) := by decide +kernel
theorem dX1_meet_30 : decode cX1_meet 30 = .ok (.imul, 1) := by decide +kernel
theorem dX1_meet_31 : decode cX1_meet 31 = .ok (.aload_n 0, 1) := by decide +kernel
theorem dX1_meet_32 : decode cX1_meet 32 = .ok (.getfield 11, 3) := by decide +kernel
theorem dX1_meet_35 : decode cX1_meet 35 = .ok (.iload_n 2, 1) := by decide +kernel
theorem dX1_meet_36 : decode cX1_meet 36 = .ok (.iaload, 1) := by decide +kernel
theorem dX1_meet_37 : decode cX1_meet 37 = .ok (.aload_n 0, 1) := by decide +kernel
theorem dX1_meet_38 : decode cX1_meet 38 = .ok (.getfield 15, 3) := by decide +kernel
theorem dX1_meet_41 : decode cX1_meet 41 = .ok (.iload_n 1, 1) := by decide +kernel
theorem dX1_meet_42 : decode cX1_meet 42 = .ok (.iaload, 1) := by decide +kernel
theorem dX1_meet_43 : decode cX1_meet 43 = .ok (.imul, 1) := by decide +kernel
theorem dX1_meet_44 : decode cX1_meet 44 = .ok (.isub, 1) := by decide +kernel
theorem dX1_meet_45 : decode cX1_meet 45 = .ok (.istore_n 3, 1) := by decide +kernel
theorem dX1_meet_46 : decode cX1_meet 46 = .ok (.iload_n 3, 1) := by decide +kernel
theorem dX1_meet_47 : decode cX1_meet 47 = .ok (.ifCond .ne 5, 3) := by decide +kernel
theorem dX1_meet_50 : decode cX1_meet 50 = .ok (.iconst 0, 1) := by decide +kernel
theorem dX1_meet_51 : decode cX1_meet 51 = .ok (.ireturn, 1) := by decide +kernel
theorem dX1_meet_52 : decode cX1_meet 52 = .ok (.iload_n 3, 1) := by decide +kernel
theorem dX1_meet_53 : decode cX1_meet 53 = .ok (.ifCond .le 7, 3) := by decide +kernel
theorem dX1_meet_56 : decode cX1_meet 56 = .ok (.iconst 1, 1) := by decide +kernel
theorem dX1_meet_57 : decode cX1_meet 57 = .ok (.goto 4, 3) := by decide +kernel
theorem dX1_meet_60 : decode cX1_meet 60 = .ok (.iconst (-1), 1) := by decide +kernel
theorem dX1_meet_61 : decode cX1_meet 61 = .ok (.istore 4, 2) := by decide +kernel
theorem dX1_meet_63 : decode cX1_meet 63 = .ok (.aload_n 0, 1) := by decide +kernel
theorem dX1_meet_64 : decode cX1_meet 64 = .ok (.iload 4, 2) := by decide +kernel
theorem dX1_meet_66 : decode cX1_meet 66 = .ok (.aload_n 0, 1) := by decide +kernel
theorem dX1_meet_67 : decode cX1_meet 67 = .ok (.getfield 18, 3) := by decide +kernel
theorem dX1_meet_70 : decode cX1_meet 70 = .ok (.iload_n 1, 1) := by decide +kernel
theorem dX1_meet_71 : decode cX1_meet 71 = .ok (.iaload, 1) := by decide +kernel
theorem dX1_meet_72 : decode cX1_meet 72 = .ok (.aload_n 0, 1) := by decide +kernel
theorem dX1_meet_73 : decode cX1_meet 73 = .ok (.getfield 15, 3) := by decide +kernel
theorem dX1_meet_76 : decode cX1_meet 76 = .ok (.iload_n 2, 1) := by decide +kernel
theorem dX1_meet_77 : decode cX1_meet 77 = .ok (.iaload, 1) := by decide +kernel
theorem dX1_meet_78 : decode cX1_meet 78 = .ok (.imul, 1) := by decide +kernel
theorem dX1_meet_79 : decode cX1_meet 79 = .ok (.aload_n 0, 1) := by decide +kernel
theorem dX1_meet_80 : decode cX1_meet 80 = .ok (.getfield 18, 3) := by decide +kernel
theorem dX1_meet_83 : decode cX1_meet 83 = .ok (.iload_n 2, 1) := by decide +kernel
theorem dX1_meet_84 : decode cX1_meet 84 = .ok (.iaload, 1) := by decide +kernel
theorem dX1_meet_85 : decode cX1_meet 85 = .ok (.aload_n 0, 1) := by decide +kernel
theorem dX1_meet_86 : decode cX1_meet 86 = .ok (.getfield 15, 3) := by decide +kernel
theorem dX1_meet_89 : decode cX1_meet 89 = .ok (.iload_n 1, 1) := by decide +kernel
theorem dX1_meet_90 : decode cX1_meet 90 = .ok (.iaload, 1) := by decide +kernel
theorem dX1_meet_91 : decode cX1_meet 91 = .ok (.imul, 1) := by decide +kernel
theorem dX1_meet_92 : decode cX1_meet 92 = .ok (.isub, 1) := by decide +kernel
theorem dX1_meet_93 : decode cX1_meet 93 = .ok (.imul, 1) := by decide +kernel
theorem dX1_meet_94 : decode cX1_meet 94 = .ok (.putfield 25, 3) := by decide +kernel
theorem dX1_meet_97 : decode cX1_meet 97 = .ok (.aload_n 0, 1) := by decide +kernel
theorem dX1_meet_98 : decode cX1_meet 98 = .ok (.iload 4, 2) := by decide +kernel
theorem dX1_meet_100 : decode cX1_meet 100 = .ok (.aload_n 0, 1) := by decide +kernel
theorem dX1_meet_101 : decode cX1_meet 101 = .ok (.getfield 11, 3) := by decide +kernel
theorem dX1_meet_104 : decode cX1_meet 104 = .ok (.iload_n 1, 1) := by decide +kernel
theorem dX1_meet_105 : decode cX1_meet 105 = .ok (.iaload, 1) := by decide +kernel
theorem dX1_meet_106 : decode cX1_meet 106 = .ok (.aload_n 0, 1) := by decide +kernel
theorem dX1_meet_107 : decode cX1_meet 107 = .ok (.getfield 18, 3) := by decide +kernel
theorem dX1_meet_110 : decode cX1_meet 110 = .ok (.iload_n 2, 1) := by decide +kernel
theorem dX1_meet_111 : decode cX1_meet 111 = .ok (.iaload, 1) := by decide +kernel
theorem dX1_meet_112 : decode cX1_meet 112 = .ok (.imul, 1) := by decide +kernel
theorem dX1_meet_113 : decode cX1_meet 113 = .ok (.aload_n 0, 1) := by decide +kernel
theorem dX1_meet_114 : decode cX1_meet 114 = .ok (.getfield 11, 3) := by decide +kernel
theorem dX1_meet_117 : decode cX1_meet 117 = .ok (.iload_n 2, 1) := by decide +kernel
theorem dX1_meet_118 : decode cX1_meet 118 = .ok (.iaload, 1) := by decide +kernel
theorem dX1_meet_119 : decode cX1_meet 119 = .ok (.aload_n 0, 1) := by decide +kernel
theorem dX1_meet_120 : decode cX1_meet 120 = .ok (.getfield 18, 3) := by decide +kernel
theorem dX1_meet_123 : decode cX1_meet 123 = .ok (.iload_n 1, 1) := by decide +kernel
theorem dX1_meet_124 : decode cX1_meet 124 = .ok (.iaload, 1) := by decide +kernel
theorem dX1_meet_125 : decode cX1_meet 125 = .ok (.imul, 1) := by decide +kernel
theorem dX1_meet_126 : decode cX1_meet 126 = .ok (.isub, 1) := by decide +kernel
theorem dX1_meet_127 : decode cX1_meet 127 = .ok (.imul, 1) := by decide +kernel
theorem dX1_meet_128 : decode cX1_meet 128 = .ok (.putfield 28, 3) := by decide +kernel
theorem dX1_meet_131 : decode cX1_meet 131 = .ok (.aload_n 0, 1) := by decide +kernel
theorem dX1_meet_132 : decode cX1_meet 132 = .ok (.iload 4, 2) := by decide +kernel
theorem dX1_meet_134 : decode cX1_meet 134 = .ok (.iload_n 3, 1) := by decide +kernel
theorem dX1_meet_135 : decode cX1_meet 135 = .ok (.imul, 1) := by decide +kernel
theorem dX1_meet_136 : decode cX1_meet 136 = .ok (.putfield 31, 3) := by decide +kernel
theorem dX1_meet_139 : decode cX1_meet 139 = .ok (.iconst 1, 1) := by decide +kernel
theorem dX1_meet_140 : decode cX1_meet 140 = .ok (.ireturn, 1) := by decide +kernel
theorem dX1_holdMeeting_0 : decode cX1_holdMeeting 0 = .ok (.iconst 0, 1) := by decide +kernel
theorem dX1_holdMeeting_1 : decode cX1_holdMeeting 1 = .ok (.istore_n 1, 1) := by decide +kernel
theorem dX1_holdMeeting_2 : decode cX1_holdMeeting 2 = .ok (.iload_n 1, 1) := by decide +kernel
theorem dX1_holdMeeting_3 : decode cX1_holdMeeting 3 = .ok (.aload_n 0, 1) := by decide +kernel
theorem dX1_holdMeeting_4 : decode cX1_holdMeeting 4 = .ok (.getfield 21, 3) := by decide +kernel
theorem dX1_holdMeeting_7 : decode cX1_holdMeeting 7 = .ok (.if_icmp .ge 36, 3) := by decide +kernel
theorem dX1_holdMeeting_10 : decode cX1_holdMeeting 10 = .ok (.aload_n 0, 1) := by decide +kernel
theorem dX1_holdMeeting_11 : decode cX1_holdMeeting 11 = .ok (.aload_n 0, 1) := by decide +kernel
theorem dX1_holdMeeting_12 : decode cX1_holdMeeting 12 = .ok (.getfield 11, 3) := by decide +kernel
theorem dX1_holdMeeting_15 : decode cX1_holdMeeting 15 = .ok (.iload_n 1, 1) := by decide +kernel
theorem dX1_holdMeeting_16 : decode cX1_holdMeeting 16 = .ok (.iaload, 1) := by decide +kernel
theorem dX1_holdMeeting_17 : decode cX1_holdMeeting 17 = .ok (.aload_n 0, 1) := by decide +kernel
theorem dX1_holdMeeting_18 : decode cX1_holdMeeting 18 = .ok (.getfield 15, 3) := by decide +kernel
theorem dX1_holdMeeting_21 : decode cX1_holdMeeting 21 = .ok (.iload_n 1, 1) := by decide +kernel
theorem dX1_holdMeeting_22 : decode cX1_holdMeeting 22 = .ok (.iaload, 1) := by decide +kernel
theorem dX1_holdMeeting_23 : decode cX1_holdMeeting 23 = .ok (.aload_n 0, 1) := by decide +kernel
theorem dX1_holdMeeting_24 : decode cX1_holdMeeting 24 = .ok (.getfield 18, 3) := by decide +kernel
theorem dX1_holdMeeting_27 : decode cX1_holdMeeting 27 = .ok (.iload_n 1, 1) := by decide +kernel
theorem dX1_holdMeeting_28 : decode cX1_holdMeeting 28 = .ok (.iaload, 1) := by decide +kernel
theorem dX1_holdMeeting_29 : decode cX1_holdMeeting 29 = .ok (.invokevirtual 56, 3) := by decide +kernel
theorem dX1_holdMeeting_32 : decode cX1_holdMeeting 32 = .ok (.ifCond .eq 5, 3) := by decide +kernel
theorem dX1_holdMeeting_35 : decode cX1_holdMeeting 35 = .ok (.iconst 0, 1) := by decide +kernel
theorem dX1_holdMeeting_36 : decode cX1_holdMeeting 36 = .ok (.ireturn, 1) := by decide +kernel
theorem dX1_holdMeeting_37 : decode cX1_holdMeeting 37 = .ok (.iinc 1 1, 3) := by decide +kernel
theorem dX1_holdMeeting_40 : decode cX1_holdMeeting 40 = .ok (.goto (-38), 3) := by decide +kernel
theorem dX1_holdMeeting_43 : decode cX1_holdMeeting 43 = .ok (.iconst 1, 1) := by decide +kernel
theorem dX1_holdMeeting_44 : decode cX1_holdMeeting 44 = .ok (.ireturn, 1) := by decide +kernel
theorem dX1_meetingIsBeyond_0 : decode cX1_meetingIsBeyond 0 = .ok (.iload_n 1, 1) := by decide +kernel
theorem dX1_meetingIsBeyond_1 : decode cX1_meetingIsBeyond 1 = .ok (.aload_n 0, 1) := by decide +kernel
theorem dX1_meetingIsBeyond_2 : decode cX1_meetingIsBeyond 2 = .ok (.getfield 25, 3) := by decide +kernel
theorem dX1_meetingIsBeyond_5 : decode cX1_meetingIsBeyond 5 = .ok (.imul, 1) := by decide +kernel
theorem dX1_meetingIsBeyond_6 : decode cX1_meetingIsBeyond 6 = .ok (.iload_n 2, 1) := by decide +kernel
theorem dX1_meetingIsBeyond_7 : decode cX1_meetingIsBeyond 7 = .ok (.aload_n 0, 1) := by decide +kernel
theorem dX1_meetingIsBeyond_8 : decode cX1_meetingIsBeyond 8 = .ok (.getfield 28, 3) := by decide +kernel
theorem dX1_meetingIsBeyond_11 : decode cX1_meetingIsBeyond 11 = .ok (.imul, 1) := by decide +kernel
theorem dX1_meetingIsBeyond_12 : decode cX1_meetingIsBeyond 12 = .ok (.iadd, 1) := by decide +kernel
theorem dX1_meetingIsBeyond_13 : decode cX1_meetingIsBeyond 13 = .ok (.iload_n 3, 1) := by decide +kernel
theorem dX1_meetingIsBeyond_14 : decode cX1_meetingIsBeyond 14 = .ok (.aload_n 0, 1) := by decide +kernel
theorem dX1_meetingIsBeyond_15 : decode cX1_meetingIsBeyond 15 = .ok (.getfield 31, 3) := by decide +kernel
theorem dX1_meetingIsBeyond_18 : decode cX1_meetingIsBeyond 18 = .ok (.imul, 1) := by decide +kernel
theorem dX1_meetingIsBeyond_19 : decode cX1_meetingIsBeyond 19 = .ok (.if_icmp .le 7, 3) := by decide +kernel
theorem dX1_meetingIsBeyond_22 : decode cX1_meetingIsBeyond 22 = .ok (.iconst 1, 1) := by decide +kernel
theorem dX1_meetingIsBeyond_23 : decode cX1_meetingIsBeyond 23 = .ok (.goto 4, 3) := by decide +kernel
theorem dX1_meetingIsBeyond_26 : decode cX1_meetingIsBeyond 26 = .ok (.iconst 0, 1) := by decide +kernel
theorem dX1_meetingIsBeyond_27 : decode cX1_meetingIsBeyond 27 = .ok (.ireturn, 1) := by decide +kernel
theorem dX1_borderHolds_0 : decode cX1_borderHolds 0 = .ok (.aload_n 0, 1) := by decide +kernel
theorem dX1_borderHolds_1 : decode cX1_borderHolds 1 = .ok (.iload_n 1, 1) := by decide +kernel
theorem dX1_borderHolds_2 : decode cX1_borderHolds 2 = .ok (.invokevirtual 55, 3) := by decide +kernel
theorem dX1_borderHolds_5 : decode cX1_borderHolds 5 = .ok (.ifCond .eq 36, 3) := by decide +kernel
theorem dX1_borderHolds_8 : decode cX1_borderHolds 8 = .ok (.aload_n 0, 1) := by decide +kernel
theorem dX1_borderHolds_9 : decode cX1_borderHolds 9 = .ok (.getfield 11, 3) := by decide +kernel
theorem dX1_borderHolds_12 : decode cX1_borderHolds 12 = .ok (.iload_n 1, 1) := by decide +kernel
theorem dX1_borderHolds_13 : decode cX1_borderHolds 13 = .ok (.iaload, 1) := by decide +kernel
theorem dX1_borderHolds_14 : decode cX1_borderHolds 14 = .ok (.iload_n 2, 1) := by decide +kernel
theorem dX1_borderHolds_15 : decode cX1_borderHolds 15 = .ok (.imul, 1) := by decide +kernel
theorem dX1_borderHolds_16 : decode cX1_borderHolds 16 = .ok (.aload_n 0, 1) := by decide +kernel
theorem dX1_borderHolds_17 : decode cX1_borderHolds 17 = .ok (.getfield 15, 3) := by decide +kernel
theorem dX1_borderHolds_20 : decode cX1_borderHolds 20 = .ok (.iload_n 1, 1) := by decide +kernel
theorem dX1_borderHolds_21 : decode cX1_borderHolds 21 = .ok (.iaload, 1) := by decide +kernel
theorem dX1_borderHolds_22 : decode cX1_borderHolds 22 = .ok (.iload_n 3, 1) := by decide +kernel
theorem dX1_borderHolds_23 : decode cX1_borderHolds 23 = .ok (.imul, 1) := by decide +kernel
theorem dX1_borderHolds_24 : decode cX1_borderHolds 24 = .ok (.iadd, 1) := by decide +kernel
theorem dX1_borderHolds_25 : decode cX1_borderHolds 25 = .ok (.aload_n 0, 1) := by decide +kernel
theorem dX1_borderHolds_26 : decode cX1_borderHolds 26 = .ok (.getfield 18, 3) := by decide +kernel
theorem dX1_borderHolds_29 : decode cX1_borderHolds 29 = .ok (.iload_n 1, 1) := by decide +kernel
theorem dX1_borderHolds_30 : decode cX1_borderHolds 30 = .ok (.iaload, 1) := by decide +kernel
theorem dX1_borderHolds_31 : decode cX1_borderHolds 31 = .ok (.iload 4, 2) := by decide +kernel
theorem dX1_borderHolds_33 : decode cX1_borderHolds 33 = .ok (.imul, 1) := by decide +kernel
theorem dX1_borderHolds_34 : decode cX1_borderHolds 34 = .ok (.if_icmp .ne 7, 3) := by decide +kernel
theorem dX1_borderHolds_37 : decode cX1_borderHolds 37 = .ok (.iconst 1, 1) := by decide +kernel
theorem dX1_borderHolds_38 : decode cX1_borderHolds 38 = .ok (.goto 4, 3) := by decide +kernel
theorem dX1_borderHolds_41 : decode cX1_borderHolds 41 = .ok (.iconst 0, 1) := by decide +kernel
theorem dX1_borderHolds_42 : decode cX1_borderHolds 42 = .ok (.ireturn, 1) := by decide +kernel
theorem dX1_holdSomeOf_0 : decode cX1_holdSomeOf 0 = .ok (.iconst 0, 1) := by decide +kernel
theorem dX1_holdSomeOf_1 : decode cX1_holdSomeOf 1 = .ok (.istore 5, 2) := by decide +kernel
theorem dX1_holdSomeOf_3 : decode cX1_holdSomeOf 3 = .ok (.iconst 1, 1) := by decide +kernel
theorem dX1_holdSomeOf_4 : decode cX1_holdSomeOf 4 = .ok (.istore 6, 2) := by decide +kernel
theorem dX1_holdSomeOf_6 : decode cX1_holdSomeOf 6 = .ok (.iconst 1, 1) := by decide +kernel
theorem dX1_holdSomeOf_7 : decode cX1_holdSomeOf 7 = .ok (.istore 7, 2) := by decide +kernel
theorem dX1_holdSomeOf_9 : decode cX1_holdSomeOf 9 = .ok (.iconst 1, 1) := by decide +kernel
theorem dX1_holdSomeOf_10 : decode cX1_holdSomeOf 10 = .ok (.istore 8, 2) := by decide +kernel
theorem dX1_holdSomeOf_12 : decode cX1_holdSomeOf 12 = .ok (.iconst 0, 1) := by decide +kernel
theorem dX1_holdSomeOf_13 : decode cX1_holdSomeOf 13 = .ok (.istore 9, 2) := by decide +kernel
theorem dX1_holdSomeOf_15 : decode cX1_holdSomeOf 15 = .ok (.iload 9, 2) := by decide +kernel
theorem dX1_holdSomeOf_17 : decode cX1_holdSomeOf 17 = .ok (.aload_n 0, 1) := by decide +kernel
theorem dX1_holdSomeOf_18 : decode cX1_holdSomeOf 18 = .ok (.getfield 21, 3) := by decide +kernel
theorem dX1_holdSomeOf_21 : decode cX1_holdSomeOf 21 = .ok (.if_icmp .ge 132, 3) := by decide +kernel
theorem dX1_holdSomeOf_24 : decode cX1_holdSomeOf 24 = .ok (.aload_n 0, 1) := by decide +kernel
theorem dX1_holdSomeOf_25 : decode cX1_holdSomeOf 25 = .ok (.getfield 11, 3) := by decide +kernel
theorem dX1_holdSomeOf_28 : decode cX1_holdSomeOf 28 = .ok (.iload 9, 2) := by decide +kernel
theorem dX1_holdSomeOf_30 : decode cX1_holdSomeOf 30 = .ok (.iaload, 1) := by decide +kernel
theorem dX1_holdSomeOf_31 : decode cX1_holdSomeOf 31 = .ok (.iload_n 3, 1) := by decide +kernel
theorem dX1_holdSomeOf_32 : decode cX1_holdSomeOf 32 = .ok (.iload_n 1, 1) := by decide +kernel
theorem dX1_holdSomeOf_33 : decode cX1_holdSomeOf 33 = .ok (.isub, 1) := by decide +kernel
theorem dX1_holdSomeOf_34 : decode cX1_holdSomeOf 34 = .ok (.imul, 1) := by decide +kernel
theorem dX1_holdSomeOf_35 : decode cX1_holdSomeOf 35 = .ok (.aload_n 0, 1) := by decide +kernel
theorem dX1_holdSomeOf_36 : decode cX1_holdSomeOf 36 = .ok (.getfield 15, 3) := by decide +kernel
theorem dX1_holdSomeOf_39 : decode cX1_holdSomeOf 39 = .ok (.iload 9, 2) := by decide +kernel
theorem dX1_holdSomeOf_41 : decode cX1_holdSomeOf 41 = .ok (.iaload, 1) := by decide +kernel
theorem dX1_holdSomeOf_42 : decode cX1_holdSomeOf 42 = .ok (.iload 4, 2) := by decide +kernel
theorem dX1_holdSomeOf_44 : decode cX1_holdSomeOf 44 = .ok (.iload_n 2, 1) := by decide +kernel
theorem dX1_holdSomeOf_45 : decode cX1_holdSomeOf 45 = .ok (.isub, 1) := by decide +kernel
theorem dX1_holdSomeOf_46 : decode cX1_holdSomeOf 46 = .ok (.imul, 1) := by decide +kernel
theorem dX1_holdSomeOf_47 : decode cX1_holdSomeOf 47 = .ok (.iadd, 1) := by decide +kernel
theorem dX1_holdSomeOf_48 : decode cX1_holdSomeOf 48 = .ok (.istore 10, 2) := by decide +kernel
theorem dX1_holdSomeOf_50 : decode cX1_holdSomeOf 50 = .ok (.aload_n 0, 1) := by decide +kernel
theorem dX1_holdSomeOf_51 : decode cX1_holdSomeOf 51 = .ok (.getfield 18, 3) := by decide +kernel
theorem dX1_holdSomeOf_54 : decode cX1_holdSomeOf 54 = .ok (.iload 9, 2) := by decide +kernel
theorem dX1_holdSomeOf_56 : decode cX1_holdSomeOf 56 = .ok (.iaload, 1) := by decide +kernel
theorem dX1_holdSomeOf_57 : decode cX1_holdSomeOf 57 = .ok (.aload_n 0, 1) := by decide +kernel
theorem dX1_holdSomeOf_58 : decode cX1_holdSomeOf 58 = .ok (.getfield 11, 3) := by decide +kernel
theorem dX1_holdSomeOf_61 : decode cX1_holdSomeOf 61 = .ok (.iload 9, 2) := by decide +kernel
theorem dX1_holdSomeOf_63 : decode cX1_holdSomeOf 63 = .ok (.iaload, 1) := by decide +kernel
theorem dX1_holdSomeOf_64 : decode cX1_holdSomeOf 64 = .ok (.iload_n 1, 1) := by decide +kernel
theorem dX1_holdSomeOf_65 : decode cX1_holdSomeOf 65 = .ok (.imul, 1) := by decide +kernel
theorem dX1_holdSomeOf_66 : decode cX1_holdSomeOf 66 = .ok (.isub, 1) := by decide +kernel
theorem dX1_holdSomeOf_67 : decode cX1_holdSomeOf 67 = .ok (.aload_n 0, 1) := by decide +kernel
theorem dX1_holdSomeOf_68 : decode cX1_holdSomeOf 68 = .ok (.getfield 15, 3) := by decide +kernel
theorem dX1_holdSomeOf_71 : decode cX1_holdSomeOf 71 = .ok (.iload 9, 2) := by decide +kernel
theorem dX1_holdSomeOf_73 : decode cX1_holdSomeOf 73 = .ok (.iaload, 1) := by decide +kernel
theorem dX1_holdSomeOf_74 : decode cX1_holdSomeOf 74 = .ok (.iload_n 2, 1) := by decide +kernel
theorem dX1_holdSomeOf_75 : decode cX1_holdSomeOf 75 = .ok (.imul, 1) := by decide +kernel
theorem dX1_holdSomeOf_76 : decode cX1_holdSomeOf 76 = .ok (.isub, 1) := by decide +kernel
theorem dX1_holdSomeOf_77 : decode cX1_holdSomeOf 77 = .ok (.istore 11, 2) := by decide +kernel
theorem dX1_holdSomeOf_79 : decode cX1_holdSomeOf 79 = .ok (.iload 10, 2) := by decide +kernel
theorem dX1_holdSomeOf_81 : decode cX1_holdSomeOf 81 = .ok (.ifCond .ne 10, 3) := by decide +kernel
theorem dX1_holdSomeOf_84 : decode cX1_holdSomeOf 84 = .ok (.iload 11, 2) := by decide +kernel
theorem dX1_holdSomeOf_86 : decode cX1_holdSomeOf 86 = .ok (.ifCond .ge 5, 3) := by decide +kernel
theorem dX1_holdSomeOf_89 : decode cX1_holdSomeOf 89 = .ok (.iconst 0, 1) := by decide +kernel
theorem dX1_holdSomeOf_90 : decode cX1_holdSomeOf 90 = .ok (.ireturn, 1) := by decide +kernel
theorem dX1_holdSomeOf_91 : decode cX1_holdSomeOf 91 = .ok (.iload 10, 2) := by decide +kernel
theorem dX1_holdSomeOf_93 : decode cX1_holdSomeOf 93 = .ok (.ifCond .le 24, 3) := by decide +kernel
theorem dX1_holdSomeOf_96 : decode cX1_holdSomeOf 96 = .ok (.iload 11, 2) := by decide +kernel
theorem dX1_holdSomeOf_98 : decode cX1_holdSomeOf 98 = .ok (.iload 8, 2) := by decide +kernel
theorem dX1_holdSomeOf_100 : decode cX1_holdSomeOf 100 = .ok (.imul, 1) := by decide +kernel
theorem dX1_holdSomeOf_101 : decode cX1_holdSomeOf 101 = .ok (.iload 7, 2) := by decide +kernel
theorem dX1_holdSomeOf_103 : decode cX1_holdSomeOf 103 = .ok (.iload 10, 2) := by decide +kernel
theorem dX1_holdSomeOf_105 : decode cX1_holdSomeOf 105 = .ok (.imul, 1) := by decide +kernel
theorem dX1_holdSomeOf_106 : decode cX1_holdSomeOf 106 = .ok (.if_icmp .ge 11, 3) := by decide +kernel
theorem dX1_holdSomeOf_109 : decode cX1_holdSomeOf 109 = .ok (.iload 11, 2) := by decide +kernel
theorem dX1_holdSomeOf_111 : decode cX1_holdSomeOf 111 = .ok (.istore 7, 2) := by decide +kernel
theorem dX1_holdSomeOf_113 : decode cX1_holdSomeOf 113 = .ok (.iload 10, 2) := by decide +kernel
theorem dX1_holdSomeOf_115 : decode cX1_holdSomeOf 115 = .ok (.istore 8, 2) := by decide +kernel
theorem dX1_holdSomeOf_117 : decode cX1_holdSomeOf 117 = .ok (.iload 10, 2) := by decide +kernel
theorem dX1_holdSomeOf_119 : decode cX1_holdSomeOf 119 = .ok (.ifCond .ge 28, 3) := by decide +kernel
theorem dX1_holdSomeOf_122 : decode cX1_holdSomeOf 122 = .ok (.iload 11, 2) := by decide +kernel
theorem dX1_holdSomeOf_124 : decode cX1_holdSomeOf 124 = .ok (.ineg, 1) := by decide +kernel
theorem dX1_holdSomeOf_125 : decode cX1_holdSomeOf 125 = .ok (.iload 6, 2) := by decide +kernel
theorem dX1_holdSomeOf_127 : decode cX1_holdSomeOf 127 = .ok (.imul, 1) := by decide +kernel
theorem dX1_holdSomeOf_128 : decode cX1_holdSomeOf 128 = .ok (.iload 5, 2) := by decide +kernel
theorem dX1_holdSomeOf_130 : decode cX1_holdSomeOf 130 = .ok (.iload 10, 2) := by decide +kernel
theorem dX1_holdSomeOf_132 : decode cX1_holdSomeOf 132 = .ok (.ineg, 1) := by decide +kernel
theorem dX1_holdSomeOf_133 : decode cX1_holdSomeOf 133 = .ok (.imul, 1) := by decide +kernel
theorem dX1_holdSomeOf_134 : decode cX1_holdSomeOf 134 = .ok (.if_icmp .le 13, 3) := by decide +kernel
theorem dX1_holdSomeOf_137 : decode cX1_holdSomeOf 137 = .ok (.iload 11, 2) := by decide +kernel
theorem dX1_holdSomeOf_139 : decode cX1_holdSomeOf 139 = .ok (.ineg, 1) := by decide +kernel
theorem dX1_holdSomeOf_140 : decode cX1_holdSomeOf 140 = .ok (.istore 5, 2) := by decide +kernel
theorem dX1_holdSomeOf_142 : decode cX1_holdSomeOf 142 = .ok (.iload 10, 2) := by decide +kernel
theorem dX1_holdSomeOf_144 : decode cX1_holdSomeOf 144 = .ok (.ineg, 1) := by decide +kernel
theorem dX1_holdSomeOf_145 : decode cX1_holdSomeOf 145 = .ok (.istore 6, 2) := by decide +kernel
theorem dX1_holdSomeOf_147 : decode cX1_holdSomeOf 147 = .ok (.iinc 9 1, 3) := by decide +kernel
theorem dX1_holdSomeOf_150 : decode cX1_holdSomeOf 150 = .ok (.goto (-135), 3) := by decide +kernel
theorem dX1_holdSomeOf_153 : decode cX1_holdSomeOf 153 = .ok (.iload 5, 2) := by decide +kernel
theorem dX1_holdSomeOf_155 : decode cX1_holdSomeOf 155 = .ok (.iload 8, 2) := by decide +kernel
theorem dX1_holdSomeOf_157 : decode cX1_holdSomeOf 157 = .ok (.imul, 1) := by decide +kernel
theorem dX1_holdSomeOf_158 : decode cX1_holdSomeOf 158 = .ok (.iload 7, 2) := by decide +kernel
theorem dX1_holdSomeOf_160 : decode cX1_holdSomeOf 160 = .ok (.iload 6, 2) := by decide +kernel
theorem dX1_holdSomeOf_162 : decode cX1_holdSomeOf 162 = .ok (.imul, 1) := by decide +kernel
theorem dX1_holdSomeOf_163 : decode cX1_holdSomeOf 163 = .ok (.if_icmp .gt 7, 3) := by decide +kernel
theorem dX1_holdSomeOf_166 : decode cX1_holdSomeOf 166 = .ok (.iconst 1, 1) := by decide +kernel
theorem dX1_holdSomeOf_167 : decode cX1_holdSomeOf 167 = .ok (.goto 4, 3) := by decide +kernel
theorem dX1_holdSomeOf_170 : decode cX1_holdSomeOf 170 = .ok (.iconst 0, 1) := by decide +kernel
theorem dX1_holdSomeOf_171 : decode cX1_holdSomeOf 171 = .ok (.ireturn, 1) := by decide +kernel
theorem dX2_init_0 : decode cX2_init 0 = .ok (.aload_n 0, 1) := by decide +kernel
theorem dX2_init_1 : decode cX2_init 1 = .ok (.invokespecial 3, 3) := by decide +kernel
theorem dX2_init_4 : decode cX2_init 4 = .ok (.aload_n 0, 1) := by decide +kernel
theorem dX2_init_5 : decode cX2_init 5 = .ok (.aload_n 1, 1) := by decide +kernel
theorem dX2_init_6 : decode cX2_init 6 = .ok (.putfield 9, 3) := by decide +kernel
theorem dX2_init_9 : decode cX2_init 9 = .ok (.aload_n 0, 1) := by decide +kernel
theorem dX2_init_10 : decode cX2_init 10 = .ok (.new 15, 3) := by decide +kernel
theorem dX2_init_13 : decode cX2_init 13 = .ok (.dup, 1) := by decide +kernel
theorem dX2_init_14 : decode cX2_init 14 = .ok (.invokespecial 17, 3) := by decide +kernel
theorem dX2_init_17 : decode cX2_init 17 = .ok (.putfield 18, 3) := by decide +kernel
theorem dX2_init_20 : decode cX2_init 20 = .ok (.aload_n 0, 1) := by decide +kernel
theorem dX2_init_21 : decode cX2_init 21 = .ok (.iconst (-1), 1) := by decide +kernel
theorem dX2_init_22 : decode cX2_init 22 = .ok (.putfield 22, 3) := by decide +kernel
theorem dX2_init_25 : decode cX2_init 25 = .ok (.return_, 1) := by decide +kernel
theorem dX2_begin_0 : decode cX2_begin 0 = .ok (.aload_n 1, 1) := by decide +kernel
theorem dX2_begin_1 : decode cX2_begin 1 = .ok (.aload_n 0, 1) := by decide +kernel
theorem dX2_begin_2 : decode cX2_begin 2 = .ok (.getfield 18, 3) := by decide +kernel
theorem dX2_begin_5 : decode cX2_begin 5 = .ok (.invokestatic 26, 3) := by decide +kernel
theorem dX2_begin_8 : decode cX2_begin 8 = .ok (.aload_n 0, 1) := by decide +kernel
theorem dX2_begin_9 : decode cX2_begin 9 = .ok (.iconst (-1), 1) := by decide +kernel
theorem dX2_begin_10 : decode cX2_begin 10 = .ok (.putfield 22, 3) := by decide +kernel
theorem dX2_begin_13 : decode cX2_begin 13 = .ok (.return_, 1) := by decide +kernel
theorem dX2_succeeds_0 : decode cX2_succeeds 0 = .ok (.iload_n 1, 1) := by decide +kernel
theorem dX2_succeeds_1 : decode cX2_succeeds 1 = .ok (.sipush 1000, 3) := by decide +kernel
theorem dX2_succeeds_4 : decode cX2_succeeds 4 = .ok (.idiv, 1) := by decide +kernel
theorem dX2_succeeds_5 : decode cX2_succeeds 5 = .ok (.bipush 10, 2) := by decide +kernel
theorem dX2_succeeds_7 : decode cX2_succeeds 7 = .ok (.irem, 1) := by decide +kernel
theorem dX2_succeeds_8 : decode cX2_succeeds 8 = .ok (.istore_n 2, 1) := by decide +kernel
theorem dX2_succeeds_9 : decode cX2_succeeds 9 = .ok (.iload_n 1, 1) := by decide +kernel
theorem dX2_succeeds_10 : decode cX2_succeeds 10 = .ok (.sipush 1000, 3) := by decide +kernel
theorem dX2_succeeds_13 : decode cX2_succeeds 13 = .ok (.irem, 1) := by decide +kernel
theorem dX2_succeeds_14 : decode cX2_succeeds 14 = .ok (.istore_n 3, 1) := by decide +kernel
theorem dX2_succeeds_15 : decode cX2_succeeds 15 = .ok (.iload_n 1, 1) := by decide +kernel
theorem dX2_succeeds_16 : decode cX2_succeeds 16 = .ok (.sipush 10000, 3) := by decide +kernel
theorem dX2_succeeds_19 : decode cX2_succeeds 19 = .ok (.idiv, 1) := by decide +kernel
theorem dX2_succeeds_20 : decode cX2_succeeds 20 = .ok (.tableswitch 164 1 6 #[40, 58, 65, 101, 117, 135], 40) := by decide +kernel
theorem dX2_succeeds_60 : decode cX2_succeeds 60 = .ok (.iload_n 3, 1) := by decide +kernel
theorem dX2_succeeds_61 : decode cX2_succeeds 61 = .ok (.ifCond .ne 15, 3) := by decide +kernel
theorem dX2_succeeds_64 : decode cX2_succeeds 64 = .ok (.aload_n 0, 1) := by decide +kernel
theorem dX2_succeeds_65 : decode cX2_succeeds 65 = .ok (.iload_n 2, 1) := by decide +kernel
theorem dX2_succeeds_66 : decode cX2_succeeds 66 = .ok (.invokevirtual 30, 3) := by decide +kernel
theorem dX2_succeeds_69 : decode cX2_succeeds 69 = .ok (.ifCond .eq 7, 3) := by decide +kernel
theorem dX2_succeeds_72 : decode cX2_succeeds 72 = .ok (.iconst 1, 1) := by decide +kernel
theorem dX2_succeeds_73 : decode cX2_succeeds 73 = .ok (.goto 4, 3) := by decide +kernel
theorem dX2_succeeds_76 : decode cX2_succeeds 76 = .ok (.iconst 0, 1) := by decide +kernel
theorem dX2_succeeds_77 : decode cX2_succeeds 77 = .ok (.ireturn, 1) := by decide +kernel
theorem dX2_succeeds_78 : decode cX2_succeeds 78 = .ok (.aload_n 0, 1) := by decide +kernel
theorem dX2_succeeds_79 : decode cX2_succeeds 79 = .ok (.iload_n 2, 1) := by decide +kernel
theorem dX2_succeeds_80 : decode cX2_succeeds 80 = .ok (.iload_n 3, 1) := by decide +kernel
theorem dX2_succeeds_81 : decode cX2_succeeds 81 = .ok (.invokevirtual 34, 3) := by decide +kernel
theorem dX2_succeeds_84 : decode cX2_succeeds 84 = .ok (.ireturn, 1) := by decide +kernel
theorem dX2_succeeds_85 : decode cX2_succeeds 85 = .ok (.iload_n 3, 1) := by decide +kernel
theorem dX2_succeeds_86 : decode cX2_succeeds 86 = .ok (.ifCond .ne 33, 3) := by decide +kernel
theorem dX2_succeeds_89 : decode cX2_succeeds 89 = .ok (.aload_n 0, 1) := by decide +kernel
theorem dX2_succeeds_90 : decode cX2_succeeds 90 = .ok (.getfield 18, 3) := by decide +kernel
theorem dX2_succeeds_93 : decode cX2_succeeds 93 = .ok (.iload_n 2, 1) := by decide +kernel
theorem dX2_succeeds_94 : decode cX2_succeeds 94 = .ok (.invokevirtual 38, 3) := by decide +kernel
theorem dX2_succeeds_97 : decode cX2_succeeds 97 = .ok (.ifCond .eq 22, 3) := by decide +kernel
theorem dX2_succeeds_100 : decode cX2_succeeds 100 = .ok (.aload_n 0, 1) := by decide +kernel
theorem dX2_succeeds_101 : decode cX2_succeeds 101 = .ok (.getfield 9, 3) := by decide +kernel
theorem dX2_succeeds_104 : decode cX2_succeeds 104 = .ok (.aload_n 0, 1) := by decide +kernel
theorem dX2_succeeds_105 : decode cX2_succeeds 105 = .ok (.getfield 18, 3) := by decide +kernel
theorem dX2_succeeds_108 : decode cX2_succeeds 108 = .ok (.iload_n 2, 1) := by decide +kernel
theorem dX2_succeeds_109 : decode cX2_succeeds 109 = .ok (.invokevirtual 41, 3) := by decide +kernel
theorem dX2_succeeds_112 : decode cX2_succeeds 112 = .ok (.ifCond .eq 7, 3) := by decide +kernel
theorem dX2_succeeds_115 : decode cX2_succeeds 115 = .ok (.iconst 1, 1) := by decide +kernel
theorem dX2_succeeds_116 : decode cX2_succeeds 116 = .ok (.goto 4, 3) := by decide +kernel
theorem dX2_succeeds_119 : decode cX2_succeeds 119 = .ok (.iconst 0, 1) := by decide +kernel
theorem dX2_succeeds_120 : decode cX2_succeeds 120 = .ok (.ireturn, 1) := by decide +kernel
theorem dX2_succeeds_121 : decode cX2_succeeds 121 = .ok (.aload_n 0, 1) := by decide +kernel
theorem dX2_succeeds_122 : decode cX2_succeeds 122 = .ok (.iload_n 1, 1) := by decide +kernel
theorem dX2_succeeds_123 : decode cX2_succeeds 123 = .ok (.bipush 100, 2) := by decide +kernel
theorem dX2_succeeds_125 : decode cX2_succeeds 125 = .ok (.idiv, 1) := by decide +kernel
theorem dX2_succeeds_126 : decode cX2_succeeds 126 = .ok (.bipush 100, 2) := by decide +kernel
theorem dX2_succeeds_128 : decode cX2_succeeds 128 = .ok (.irem, 1) := by decide +kernel
theorem dX2_succeeds_129 : decode cX2_succeeds 129 = .ok (.iload_n 1, 1) := by decide +kernel
theorem dX2_succeeds_130 : decode cX2_succeeds 130 = .ok (.bipush 100, 2) := by decide +kernel
theorem dX2_succeeds_132 : decode cX2_succeeds 132 = .ok (.irem, 1) := by decide +kernel
theorem dX2_succeeds_133 : decode cX2_succeeds 133 = .ok (.invokevirtual 47, 3) := by decide +kernel
theorem dX2_succeeds_136 : decode cX2_succeeds 136 = .ok (.ireturn, 1) := by decide +kernel
theorem dX2_succeeds_137 : decode cX2_succeeds 137 = .ok (.iload_n 3, 1) := by decide +kernel
theorem dX2_succeeds_138 : decode cX2_succeeds 138 = .ok (.ifCond .ne 15, 3) := by decide +kernel
theorem dX2_succeeds_141 : decode cX2_succeeds 141 = .ok (.aload_n 0, 1) := by decide +kernel
theorem dX2_succeeds_142 : decode cX2_succeeds 142 = .ok (.getfield 22, 3) := by decide +kernel
theorem dX2_succeeds_145 : decode cX2_succeeds 145 = .ok (.iload_n 2, 1) := by decide +kernel
theorem dX2_succeeds_146 : decode cX2_succeeds 146 = .ok (.if_icmp .ne 7, 3) := by decide +kernel
theorem dX2_succeeds_149 : decode cX2_succeeds 149 = .ok (.iconst 1, 1) := by decide +kernel
theorem dX2_succeeds_150 : decode cX2_succeeds 150 = .ok (.goto 4, 3) := by decide +kernel
theorem dX2_succeeds_153 : decode cX2_succeeds 153 = .ok (.iconst 0, 1) := by decide +kernel
theorem dX2_succeeds_154 : decode cX2_succeeds 154 = .ok (.ireturn, 1) := by decide +kernel
theorem dX2_succeeds_155 : decode cX2_succeeds 155 = .ok (.aload_n 0, 1) := by decide +kernel
theorem dX2_succeeds_156 : decode cX2_succeeds 156 = .ok (.getfield 18, 3) := by decide +kernel
theorem dX2_succeeds_159 : decode cX2_succeeds 159 = .ok (.iload_n 2, 1) := by decide +kernel
theorem dX2_succeeds_160 : decode cX2_succeeds 160 = .ok (.invokevirtual 38, 3) := by decide +kernel
theorem dX2_succeeds_163 : decode cX2_succeeds 163 = .ok (.ifCond .eq 19, 3) := by decide +kernel
theorem dX2_succeeds_166 : decode cX2_succeeds 166 = .ok (.aload_n 0, 1) := by decide +kernel
theorem dX2_succeeds_167 : decode cX2_succeeds 167 = .ok (.getfield 18, 3) := by decide +kernel
theorem dX2_succeeds_170 : decode cX2_succeeds 170 = .ok (.iload_n 2, 1) := by decide +kernel
theorem dX2_succeeds_171 : decode cX2_succeeds 171 = .ok (.invokevirtual 50, 3) := by decide +kernel
theorem dX2_succeeds_174 : decode cX2_succeeds 174 = .ok (.iload_n 3, 1) := by decide +kernel
theorem dX2_succeeds_175 : decode cX2_succeeds 175 = .ok (.if_icmp .lt 7, 3) := by decide +kernel
theorem dX2_succeeds_178 : decode cX2_succeeds 178 = .ok (.iconst 1, 1) := by decide +kernel
theorem dX2_succeeds_179 : decode cX2_succeeds 179 = .ok (.goto 4, 3) := by decide +kernel
theorem dX2_succeeds_182 : decode cX2_succeeds 182 = .ok (.iconst 0, 1) := by decide +kernel
theorem dX2_succeeds_183 : decode cX2_succeeds 183 = .ok (.ireturn, 1) := by decide +kernel
theorem dX2_succeeds_184 : decode cX2_succeeds 184 = .ok (.iconst 0, 1) := by decide +kernel
theorem dX2_succeeds_185 : decode cX2_succeeds 185 = .ok (.ireturn, 1) := by decide +kernel
theorem dX2_removes_0 : decode cX2_removes 0 = .ok (.aload_n 0, 1) := by decide +kernel
theorem dX2_removes_1 : decode cX2_removes 1 = .ok (.getfield 18, 3) := by decide +kernel
theorem dX2_removes_4 : decode cX2_removes 4 = .ok (.iload_n 1, 1) := by decide +kernel
theorem dX2_removes_5 : decode cX2_removes 5 = .ok (.invokevirtual 38, 3) := by decide +kernel
theorem dX2_removes_8 : decode cX2_removes 8 = .ok (.ifCond .ne 5, 3) := by decide +kernel
theorem dX2_removes_11 : decode cX2_removes 11 = .ok (.iconst 0, 1) := by decide +kernel
theorem dX2_removes_12 : decode cX2_removes 12 = .ok (.ireturn, 1) := by decide +kernel
theorem dX2_removes_13 : decode cX2_removes 13 = .ok (.aload_n 0, 1) := by decide +kernel
theorem dX2_removes_14 : decode cX2_removes 14 = .ok (.getfield 18, 3) := by decide +kernel
theorem dX2_removes_17 : decode cX2_removes 17 = .ok (.iload_n 1, 1) := by decide +kernel
theorem dX2_removes_18 : decode cX2_removes 18 = .ok (.invokevirtual 54, 3) := by decide +kernel
theorem dX2_removes_21 : decode cX2_removes 21 = .ok (.aload_n 0, 1) := by decide +kernel
theorem dX2_removes_22 : decode cX2_removes 22 = .ok (.iconst (-1), 1) := by decide +kernel
theorem dX2_removes_23 : decode cX2_removes 23 = .ok (.putfield 22, 3) := by decide +kernel
theorem dX2_removes_26 : decode cX2_removes 26 = .ok (.iconst 1, 1) := by decide +kernel
theorem dX2_removes_27 : decode cX2_removes 27 = .ok (.ireturn, 1) := by decide +kernel
theorem dX2_weighs_0 : decode cX2_weighs 0 = .ok (.aload_n 0, 1) := by decide +kernel
theorem dX2_weighs_1 : decode cX2_weighs 1 = .ok (.getfield 18, 3) := by decide +kernel
theorem dX2_weighs_4 : decode cX2_weighs 4 = .ok (.iload_n 1, 1) := by decide +kernel
theorem dX2_weighs_5 : decode cX2_weighs 5 = .ok (.invokevirtual 38, 3) := by decide +kernel
theorem dX2_weighs_8 : decode cX2_weighs 8 = .ok (.ifCond .eq 10, 3) := by decide +kernel
theorem dX2_weighs_11 : decode cX2_weighs 11 = .ok (.iload_n 2, 1) := by decide +kernel
theorem dX2_weighs_12 : decode cX2_weighs 12 = .ok (.invokestatic 58, 3) := by decide +kernel
theorem dX2_weighs_15 : decode cX2_weighs 15 = .ok (.ifCond .ne 5, 3) := by decide +kernel
theorem dX2_weighs_18 : decode cX2_weighs 18 = .ok (.iconst 0, 1) := by decide +kernel
theorem dX2_weighs_19 : decode cX2_weighs 19 = .ok (.ireturn, 1) := by decide +kernel
theorem dX2_weighs_20 : decode cX2_weighs 20 = .ok (.aload_n 0, 1) := by decide +kernel
theorem dX2_weighs_21 : decode cX2_weighs 21 = .ok (.getfield 18, 3) := by decide +kernel
theorem dX2_weighs_24 : decode cX2_weighs 24 = .ok (.getfield 61, 3) := by decide +kernel
theorem dX2_weighs_27 : decode cX2_weighs 27 = .ok (.iload_n 1, 1) := by decide +kernel
theorem dX2_weighs_28 : decode cX2_weighs 28 = .ok (.iload_n 2, 1) := by decide +kernel
theorem dX2_weighs_29 : decode cX2_weighs 29 = .ok (.iastore, 1) := by decide +kernel
theorem dX2_weighs_30 : decode cX2_weighs 30 = .ok (.iconst 1, 1) := by decide +kernel
theorem dX2_weighs_31 : decode cX2_weighs 31 = .ok (.ireturn, 1) := by decide +kernel
theorem dX2_finds_0 : decode cX2_finds 0 = .ok (.iload_n 1, 1) := by decide +kernel
theorem dX2_finds_1 : decode cX2_finds 1 = .ok (.iload_n 2, 1) := by decide +kernel
theorem dX2_finds_2 : decode cX2_finds 2 = .ok (.invokestatic 65, 3) := by decide +kernel
theorem dX2_finds_5 : decode cX2_finds 5 = .ok (.ifCond .eq 13, 3) := by decide +kernel
theorem dX2_finds_8 : decode cX2_finds 8 = .ok (.aload_n 0, 1) := by decide +kernel
theorem dX2_finds_9 : decode cX2_finds 9 = .ok (.getfield 18, 3) := by decide +kernel
theorem dX2_finds_12 : decode cX2_finds 12 = .ok (.getfield 68, 3) := by decide +kernel
theorem dX2_finds_15 : decode cX2_finds 15 = .ok (.ifCond .ne 5, 3) := by decide +kernel
theorem dX2_finds_18 : decode cX2_finds 18 = .ok (.iconst 0, 1) := by decide +kernel
theorem dX2_finds_19 : decode cX2_finds 19 = .ok (.ireturn, 1) := by decide +kernel
theorem dX2_finds_20 : decode cX2_finds 20 = .ok (.aload_n 0, 1) := by decide +kernel
theorem dX2_finds_21 : decode cX2_finds 21 = .ok (.aload_n 0, 1) := by decide +kernel
theorem dX2_finds_22 : decode cX2_finds 22 = .ok (.getfield 18, 3) := by decide +kernel
theorem dX2_finds_25 : decode cX2_finds 25 = .ok (.iload_n 1, 1) := by decide +kernel
theorem dX2_finds_26 : decode cX2_finds 26 = .ok (.iload_n 2, 1) := by decide +kernel
theorem dX2_finds_27 : decode cX2_finds 27 = .ok (.invokevirtual 71, 3) := by decide +kernel
theorem dX2_finds_30 : decode cX2_finds 30 = .ok (.putfield 22, 3) := by decide +kernel
theorem dX2_finds_33 : decode cX2_finds 33 = .ok (.iconst 1, 1) := by decide +kernel
theorem dX2_finds_34 : decode cX2_finds 34 = .ok (.ireturn, 1) := by decide +kernel
theorem dX3_init_0 : decode cX3_init 0 = .ok (.aload_n 0, 1) := by decide +kernel
theorem dX3_init_1 : decode cX3_init 1 = .ok (.invokespecial 3, 3) := by decide +kernel
theorem dX3_init_4 : decode cX3_init 4 = .ok (.aload_n 0, 1) := by decide +kernel
theorem dX3_init_5 : decode cX3_init 5 = .ok (.bipush 80, 2) := by decide +kernel
theorem dX3_init_7 : decode cX3_init 7 = .ok (.newarray .int, 2) := by decide +kernel
theorem dX3_init_9 : decode cX3_init 9 = .ok (.putfield 11, 3) := by decide +kernel
theorem dX3_init_12 : decode cX3_init 12 = .ok (.aload_n 0, 1) := by decide +kernel
theorem dX3_init_13 : decode cX3_init 13 = .ok (.iconst 0, 1) := by decide +kernel
theorem dX3_init_14 : decode cX3_init 14 = .ok (.putfield 15, 3) := by decide +kernel
theorem dX3_init_17 : decode cX3_init 17 = .ok (.return_, 1) := by decide +kernel
theorem dX3_put_0 : decode cX3_put 0 = .ok (.aload_n 0, 1) := by decide +kernel
theorem dX3_put_1 : decode cX3_put 1 = .ok (.getfield 15, 3) := by decide +kernel
theorem dX3_put_4 : decode cX3_put 4 = .ok (.bipush 80, 2) := by decide +kernel
theorem dX3_put_6 : decode cX3_put 6 = .ok (.if_icmp .lt 5, 3) := by decide +kernel
theorem dX3_put_9 : decode cX3_put 9 = .ok (.iconst 0, 1) := by decide +kernel
theorem dX3_put_10 : decode cX3_put 10 = .ok (.ireturn, 1) := by decide +kernel
theorem dX3_put_11 : decode cX3_put 11 = .ok (.aload_n 0, 1) := by decide +kernel
theorem dX3_put_12 : decode cX3_put 12 = .ok (.getfield 11, 3) := by decide +kernel
theorem dX3_put_15 : decode cX3_put 15 = .ok (.aload_n 0, 1) := by decide +kernel
theorem dX3_put_16 : decode cX3_put 16 = .ok (.getfield 15, 3) := by decide +kernel
theorem dX3_put_19 : decode cX3_put 19 = .ok (.iload_n 1, 1) := by decide +kernel
theorem dX3_put_20 : decode cX3_put 20 = .ok (.iastore, 1) := by decide +kernel
theorem dX3_put_21 : decode cX3_put 21 = .ok (.aload_n 0, 1) := by decide +kernel
theorem dX3_put_22 : decode cX3_put 22 = .ok (.dup, 1) := by decide +kernel
theorem dX3_put_23 : decode cX3_put 23 = .ok (.getfield 15, 3) := by decide +kernel
theorem dX3_put_26 : decode cX3_put 26 = .ok (.iconst 1, 1) := by decide +kernel
theorem dX3_put_27 : decode cX3_put 27 = .ok (.iadd, 1) := by decide +kernel
theorem dX3_put_28 : decode cX3_put 28 = .ok (.putfield 15, 3) := by decide +kernel
theorem dX3_put_31 : decode cX3_put 31 = .ok (.iconst 1, 1) := by decide +kernel
theorem dX3_put_32 : decode cX3_put 32 = .ok (.ireturn, 1) := by decide +kernel
theorem dX3_firstError_0 : decode cX3_firstError 0 = .ok (.iconst 0, 1) := by decide +kernel
theorem dX3_firstError_1 : decode cX3_firstError 1 = .ok (.istore_n 1, 1) := by decide +kernel
theorem dX3_firstError_2 : decode cX3_firstError 2 = .ok (.iload_n 1, 1) := by decide +kernel
theorem dX3_firstError_3 : decode cX3_firstError 3 = .ok (.aload_n 0, 1) := by decide +kernel
theorem dX3_firstError_4 : decode cX3_firstError 4 = .ok (.getfield 15, 3) := by decide +kernel
theorem dX3_firstError_7 : decode cX3_firstError 7 = .ok (.if_icmp .ge 19, 3) := by decide +kernel
theorem dX3_firstError_10 : decode cX3_firstError 10 = .ok (.aload_n 0, 1) := by decide +kernel
theorem dX3_firstError_11 : decode cX3_firstError 11 = .ok (.iload_n 1, 1) := by decide +kernel
theorem dX3_firstError_12 : decode cX3_firstError 12 = .ok (.invokevirtual 19, 3) := by decide +kernel
theorem dX3_firstError_15 : decode cX3_firstError 15 = .ok (.ifCond .ne 5, 3) := by decide +kernel
theorem dX3_firstError_18 : decode cX3_firstError 18 = .ok (.iload_n 1, 1) := by decide +kernel
theorem dX3_firstError_19 : decode cX3_firstError 19 = .ok (.ireturn, 1) := by decide +kernel
theorem dX3_firstError_20 : decode cX3_firstError 20 = .ok (.iinc 1 1, 3) := by decide +kernel
theorem dX3_firstError_23 : decode cX3_firstError 23 = .ok (.goto (-21), 3) := by decide +kernel
theorem dX3_firstError_26 : decode cX3_firstError 26 = .ok (.aload_n 0, 1) := by decide +kernel
theorem dX3_firstError_27 : decode cX3_firstError 27 = .ok (.getfield 15, 3) := by decide +kernel
theorem dX3_firstError_30 : decode cX3_firstError 30 = .ok (.bipush 7, 2) := by decide +kernel
theorem dX3_firstError_32 : decode cX3_firstError 32 = .ok (.irem, 1) := by decide +kernel
theorem dX3_firstError_33 : decode cX3_firstError 33 = .ok (.iconst 1, 1) := by decide +kernel
theorem dX3_firstError_34 : decode cX3_firstError 34 = .ok (.if_icmp .ne 8, 3) := by decide +kernel
theorem dX3_firstError_37 : decode cX3_firstError 37 = .ok (.bipush (-9), 2) := by decide +kernel
theorem dX3_firstError_39 : decode cX3_firstError 39 = .ok (.goto 7, 3) := by decide +kernel
theorem dX3_firstError_42 : decode cX3_firstError 42 = .ok (.aload_n 0, 1) := by decide +kernel
theorem dX3_firstError_43 : decode cX3_firstError 43 = .ok (.getfield 15, 3) := by decide +kernel
theorem dX3_firstError_46 : decode cX3_firstError 46 = .ok (.ireturn, 1) := by decide +kernel
theorem dX3_mayStandAt_0 : decode cX3_mayStandAt 0 = .ok (.aload_n 0, 1) := by decide +kernel
theorem dX3_mayStandAt_1 : decode cX3_mayStandAt 1 = .ok (.getfield 11, 3) := by decide +kernel
theorem dX3_mayStandAt_4 : decode cX3_mayStandAt 4 = .ok (.iload_n 1, 1) := by decide +kernel
theorem dX3_mayStandAt_5 : decode cX3_mayStandAt 5 = .ok (.iaload, 1) := by decide +kernel
theorem dX3_mayStandAt_6 : decode cX3_mayStandAt 6 = .ok (.istore_n 2, 1) := by decide +kernel
theorem dX3_mayStandAt_7 : decode cX3_mayStandAt 7 = .ok (.iload_n 1, 1) := by decide +kernel
theorem dX3_mayStandAt_8 : decode cX3_mayStandAt 8 = .ok (.ifCond .ne 15, 3) := by decide +kernel
theorem dX3_mayStandAt_11 : decode cX3_mayStandAt 11 = .ok (.iload_n 2, 1) := by decide +kernel
theorem dX3_mayStandAt_12 : decode cX3_mayStandAt 12 = .ok (.bipush 80, 2) := by decide +kernel
theorem dX3_mayStandAt_14 : decode cX3_mayStandAt 14 = .ok (.if_icmp .ne 7, 3) := by decide +kernel
theorem dX3_mayStandAt_17 : decode cX3_mayStandAt 17 = .ok (.iconst 1, 1) := by decide +kernel
theorem dX3_mayStandAt_18 : decode cX3_mayStandAt 18 = .ok (.goto 4, 3) := by decide +kernel
theorem dX3_mayStandAt_21 : decode cX3_mayStandAt 21 = .ok (.iconst 0, 1) := by decide +kernel
theorem dX3_mayStandAt_22 : decode cX3_mayStandAt 22 = .ok (.ireturn, 1) := by decide +kernel
theorem dX3_mayStandAt_23 : decode cX3_mayStandAt 23 = .ok (.iload_n 1, 1) := by decide +kernel
theorem dX3_mayStandAt_24 : decode cX3_mayStandAt 24 = .ok (.bipush 70, 2) := by decide +kernel
theorem dX3_mayStandAt_26 : decode cX3_mayStandAt 26 = .ok (.if_icmp .le 5, 3) := by decide +kernel
theorem dX3_mayStandAt_29 : decode cX3_mayStandAt 29 = .ok (.iconst 0, 1) := by decide +kernel
theorem dX3_mayStandAt_30 : decode cX3_mayStandAt 30 = .ok (.ireturn, 1) := by decide +kernel
theorem dX3_mayStandAt_31 : decode cX3_mayStandAt 31 = .ok (.iload_n 2, 1) := by decide +kernel
theorem dX3_mayStandAt_32 : decode cX3_mayStandAt 32 = .ok (.bipush 48, 2) := by decide +kernel
theorem dX3_mayStandAt_34 : decode cX3_mayStandAt 34 = .ok (.if_icmp .lt 16, 3) := by decide +kernel
theorem dX3_mayStandAt_37 : decode cX3_mayStandAt 37 = .ok (.iload_n 2, 1) := by decide +kernel
theorem dX3_mayStandAt_38 : decode cX3_mayStandAt 38 = .ok (.aload_n 0, 1) := by decide +kernel
theorem dX3_mayStandAt_39 : decode cX3_mayStandAt 39 = .ok (.iload_n 1, 1) := by decide +kernel
theorem dX3_mayStandAt_40 : decode cX3_mayStandAt 40 = .ok (.invokevirtual 23, 3) := by decide +kernel
theorem dX3_mayStandAt_43 : decode cX3_mayStandAt 43 = .ok (.if_icmp .gt 7, 3) := by decide +kernel
theorem dX3_mayStandAt_46 : decode cX3_mayStandAt 46 = .ok (.iconst 1, 1) := by decide +kernel
theorem dX3_mayStandAt_47 : decode cX3_mayStandAt 47 = .ok (.goto 4, 3) := by decide +kernel
theorem dX3_mayStandAt_50 : decode cX3_mayStandAt 50 = .ok (.iconst 0, 1) := by decide +kernel
theorem dX3_mayStandAt_51 : decode cX3_mayStandAt 51 = .ok (.ireturn, 1) := by decide +kernel
theorem dX3_greatestDigitAt_0 : decode cX3_greatestDigitAt 0 = .ok (.iload_n 1, 1) := by decide +kernel
theorem dX3_greatestDigitAt_1 : decode cX3_greatestDigitAt 1 = .ok (.iconst 1, 1) := by decide +kernel
theorem dX3_greatestDigitAt_2 : decode cX3_greatestDigitAt 2 = .ok (.isub, 1) := by decide +kernel
theorem dX3_greatestDigitAt_3 : decode cX3_greatestDigitAt 3 = .ok (.bipush 7, 2) := by decide +kernel
theorem dX3_greatestDigitAt_5 : decode cX3_greatestDigitAt 5 = .ok (.irem, 1) := by decide +kernel
theorem dX3_greatestDigitAt_6 : decode cX3_greatestDigitAt 6 = .ok (.tableswitch 84 0 5 #[38, 41, 38, 41, 61, 64], 38) := by decide +kernel
theorem dX3_greatestDigitAt_44 : decode cX3_greatestDigitAt 44 = .ok (.bipush 50, 2) := by decide +kernel
theorem dX3_greatestDigitAt_46 : decode cX3_greatestDigitAt 46 = .ok (.ireturn, 1) := by decide +kernel
theorem dX3_greatestDigitAt_47 : decode cX3_greatestDigitAt 47 = .ok (.aload_n 0, 1) := by decide +kernel
theorem dX3_greatestDigitAt_48 : decode cX3_greatestDigitAt 48 = .ok (.iload_n 1, 1) := by decide +kernel
theorem dX3_greatestDigitAt_49 : decode cX3_greatestDigitAt 49 = .ok (.iconst 1, 1) := by decide +kernel
theorem dX3_greatestDigitAt_50 : decode cX3_greatestDigitAt 50 = .ok (.isub, 1) := by decide +kernel
theorem dX3_greatestDigitAt_51 : decode cX3_greatestDigitAt 51 = .ok (.invokevirtual 27, 3) := by decide +kernel
theorem dX3_greatestDigitAt_54 : decode cX3_greatestDigitAt 54 = .ok (.bipush 50, 2) := by decide +kernel
theorem dX3_greatestDigitAt_56 : decode cX3_greatestDigitAt 56 = .ok (.if_icmp .ne 8, 3) := by decide +kernel
theorem dX3_greatestDigitAt_59 : decode cX3_greatestDigitAt 59 = .ok (.bipush 48, 2) := by decide +kernel
theorem dX3_greatestDigitAt_61 : decode cX3_greatestDigitAt 61 = .ok (.goto 5, 3) := by decide +kernel
theorem dX3_greatestDigitAt_64 : decode cX3_greatestDigitAt 64 = .ok (.bipush 57, 2) := by decide +kernel
theorem dX3_greatestDigitAt_66 : decode cX3_greatestDigitAt 66 = .ok (.ireturn, 1) := by decide +kernel
theorem dX3_greatestDigitAt_67 : decode cX3_greatestDigitAt 67 = .ok (.bipush 52, 2) := by decide +kernel
theorem dX3_greatestDigitAt_69 : decode cX3_greatestDigitAt 69 = .ok (.ireturn, 1) := by decide +kernel
theorem dX3_greatestDigitAt_70 : decode cX3_greatestDigitAt 70 = .ok (.aload_n 0, 1) := by decide +kernel
theorem dX3_greatestDigitAt_71 : decode cX3_greatestDigitAt 71 = .ok (.iload_n 1, 1) := by decide +kernel
theorem dX3_greatestDigitAt_72 : decode cX3_greatestDigitAt 72 = .ok (.iconst 1, 1) := by decide +kernel
theorem dX3_greatestDigitAt_73 : decode cX3_greatestDigitAt 73 = .ok (.isub, 1) := by decide +kernel
theorem dX3_greatestDigitAt_74 : decode cX3_greatestDigitAt 74 = .ok (.invokevirtual 27, 3) := by decide +kernel
theorem dX3_greatestDigitAt_77 : decode cX3_greatestDigitAt 77 = .ok (.bipush 52, 2) := by decide +kernel
theorem dX3_greatestDigitAt_79 : decode cX3_greatestDigitAt 79 = .ok (.if_icmp .ne 8, 3) := by decide +kernel
theorem dX3_greatestDigitAt_82 : decode cX3_greatestDigitAt 82 = .ok (.bipush 48, 2) := by decide +kernel
theorem dX3_greatestDigitAt_84 : decode cX3_greatestDigitAt 84 = .ok (.goto 5, 3) := by decide +kernel
theorem dX3_greatestDigitAt_87 : decode cX3_greatestDigitAt 87 = .ok (.bipush 57, 2) := by decide +kernel
theorem dX3_greatestDigitAt_89 : decode cX3_greatestDigitAt 89 = .ok (.ireturn, 1) := by decide +kernel
theorem dX3_greatestDigitAt_90 : decode cX3_greatestDigitAt 90 = .ok (.aload_n 0, 1) := by decide +kernel
theorem dX3_greatestDigitAt_91 : decode cX3_greatestDigitAt 91 = .ok (.iload_n 1, 1) := by decide +kernel
theorem dX3_greatestDigitAt_92 : decode cX3_greatestDigitAt 92 = .ok (.iconst 2, 1) := by decide +kernel
theorem dX3_greatestDigitAt_93 : decode cX3_greatestDigitAt 93 = .ok (.isub, 1) := by decide +kernel
theorem dX3_greatestDigitAt_94 : decode cX3_greatestDigitAt 94 = .ok (.invokevirtual 27, 3) := by decide +kernel
theorem dX3_greatestDigitAt_97 : decode cX3_greatestDigitAt 97 = .ok (.bipush 52, 2) := by decide +kernel
theorem dX3_greatestDigitAt_99 : decode cX3_greatestDigitAt 99 = .ok (.if_icmp .ne 8, 3) := by decide +kernel
theorem dX3_greatestDigitAt_102 : decode cX3_greatestDigitAt 102 = .ok (.bipush 48, 2) := by decide +kernel
theorem dX3_greatestDigitAt_104 : decode cX3_greatestDigitAt 104 = .ok (.goto 5, 3) := by decide +kernel
theorem dX3_greatestDigitAt_107 : decode cX3_greatestDigitAt 107 = .ok (.bipush 57, 2) := by decide +kernel
theorem dX3_greatestDigitAt_109 : decode cX3_greatestDigitAt 109 = .ok (.ireturn, 1) := by decide +kernel
theorem dX3_characterAt_0 : decode cX3_characterAt 0 = .ok (.iload_n 1, 1) := by decide +kernel
theorem dX3_characterAt_1 : decode cX3_characterAt 1 = .ok (.ifCond .lt 20, 3) := by decide +kernel
theorem dX3_characterAt_4 : decode cX3_characterAt 4 = .ok (.iload_n 1, 1) := by decide +kernel
theorem dX3_characterAt_5 : decode cX3_characterAt 5 = .ok (.aload_n 0, 1) := by decide +kernel
theorem dX3_characterAt_6 : decode cX3_characterAt 6 = .ok (.getfield 15, 3) := by decide +kernel
theorem dX3_characterAt_9 : decode cX3_characterAt 9 = .ok (.if_icmp .ge 12, 3) := by decide +kernel
theorem dX3_characterAt_12 : decode cX3_characterAt 12 = .ok (.aload_n 0, 1) := by decide +kernel
theorem dX3_characterAt_13 : decode cX3_characterAt 13 = .ok (.getfield 11, 3) := by decide +kernel
theorem dX3_characterAt_16 : decode cX3_characterAt 16 = .ok (.iload_n 1, 1) := by decide +kernel
theorem dX3_characterAt_17 : decode cX3_characterAt 17 = .ok (.iaload, 1) := by decide +kernel
theorem dX3_characterAt_18 : decode cX3_characterAt 18 = .ok (.goto 4, 3) := by decide +kernel
theorem dX3_characterAt_21 : decode cX3_characterAt 21 = .ok (.iconst 0, 1) := by decide +kernel
theorem dX3_characterAt_22 : decode cX3_characterAt 22 = .ok (.ireturn, 1) := by decide +kernel
theorem dX3_readInto_0 : decode cX3_readInto 0 = .ok (.aload_n 1, 1) := by decide +kernel
theorem dX3_readInto_1 : decode cX3_readInto 1 = .ok (.iconst 0, 1) := by decide +kernel
theorem dX3_readInto_2 : decode cX3_readInto 2 = .ok (.putfield 30, 3) := by decide +kernel
theorem dX3_readInto_5 : decode cX3_readInto 5 = .ok (.iconst 1, 1) := by decide +kernel
theorem dX3_readInto_6 : decode cX3_readInto 6 = .ok (.istore_n 2, 1) := by decide +kernel
theorem dX3_readInto_7 : decode cX3_readInto 7 = .ok (.iload_n 2, 1) := by decide +kernel
theorem dX3_readInto_8 : decode cX3_readInto 8 = .ok (.bipush 7, 2) := by decide +kernel
theorem dX3_readInto_10 : decode cX3_readInto 10 = .ok (.iadd, 1) := by decide +kernel
theorem dX3_readInto_11 : decode cX3_readInto 11 = .ok (.aload_n 0, 1) := by decide +kernel
theorem dX3_readInto_12 : decode cX3_readInto 12 = .ok (.getfield 15, 3) := by decide +kernel
theorem dX3_readInto_15 : decode cX3_readInto 15 = .ok (.if_icmp .gt 35, 3) := by decide +kernel
theorem dX3_readInto_18 : decode cX3_readInto 18 = .ok (.aload_n 1, 1) := by decide +kernel
theorem dX3_readInto_19 : decode cX3_readInto 19 = .ok (.aload_n 0, 1) := by decide +kernel
theorem dX3_readInto_20 : decode cX3_readInto 20 = .ok (.iload_n 2, 1) := by decide +kernel
theorem dX3_readInto_21 : decode cX3_readInto 21 = .ok (.iconst 2, 1) := by decide +kernel
theorem dX3_readInto_22 : decode cX3_readInto 22 = .ok (.invokevirtual 35, 3) := by decide +kernel
theorem dX3_readInto_25 : decode cX3_readInto 25 = .ok (.aload_n 0, 1) := by decide +kernel
theorem dX3_readInto_26 : decode cX3_readInto 26 = .ok (.iload_n 2, 1) := by decide +kernel
theorem dX3_readInto_27 : decode cX3_readInto 27 = .ok (.iconst 2, 1) := by decide +kernel
theorem dX3_readInto_28 : decode cX3_readInto 28 = .ok (.iadd, 1) := by decide +kernel
theorem dX3_readInto_29 : decode cX3_readInto 29 = .ok (.iconst 2, 1) := by decide +kernel
theorem dX3_readInto_30 : decode cX3_readInto 30 = .ok (.invokevirtual 35, 3) := by decide +kernel
theorem dX3_readInto_33 : decode cX3_readInto 33 = .ok (.aload_n 0, 1) := by decide +kernel
theorem dX3_readInto_34 : decode cX3_readInto 34 = .ok (.iload_n 2, 1) := by decide +kernel
theorem dX3_readInto_35 : decode cX3_readInto 35 = .ok (.iconst 4, 1) := by decide +kernel
theorem dX3_readInto_36 : decode cX3_readInto 36 = .ok (.iadd, 1) := by decide +kernel
theorem dX3_readInto_37 : decode cX3_readInto 37 = .ok (.iconst 3, 1) := by decide +kernel
theorem dX3_readInto_38 : decode cX3_readInto 38 = .ok (.invokevirtual 35, 3) := by decide +kernel
theorem dX3_readInto_41 : decode cX3_readInto 41 = .ok (.invokevirtual 39, 3) := by decide +kernel
theorem dX3_readInto_44 : decode cX3_readInto 44 = .ok (.iinc 2 7, 3) := by decide +kernel
theorem dX3_readInto_47 : decode cX3_readInto 47 = .ok (.goto (-40), 3) := by decide +kernel
theorem dX3_readInto_50 : decode cX3_readInto 50 = .ok (.return_, 1) := by decide +kernel
theorem dX3_number_0 : decode cX3_number 0 = .ok (.iconst 0, 1) := by decide +kernel
theorem dX3_number_1 : decode cX3_number 1 = .ok (.istore_n 3, 1) := by decide +kernel
theorem dX3_number_2 : decode cX3_number 2 = .ok (.iload_n 1, 1) := by decide +kernel
theorem dX3_number_3 : decode cX3_number 3 = .ok (.istore 4, 2) := by decide +kernel
theorem dX3_number_5 : decode cX3_number 5 = .ok (.iload 4, 2) := by decide +kernel
theorem dX3_number_7 : decode cX3_number 7 = .ok (.iload_n 1, 1) := by decide +kernel
theorem dX3_number_8 : decode cX3_number 8 = .ok (.iload_n 2, 1) := by decide +kernel
theorem dX3_number_9 : decode cX3_number 9 = .ok (.iadd, 1) := by decide +kernel
theorem dX3_number_10 : decode cX3_number 10 = .ok (.if_icmp .ge 24, 3) := by decide +kernel
theorem dX3_number_13 : decode cX3_number 13 = .ok (.bipush 10, 2) := by decide +kernel
theorem dX3_number_15 : decode cX3_number 15 = .ok (.iload_n 3, 1) := by decide +kernel
theorem dX3_number_16 : decode cX3_number 16 = .ok (.imul, 1) := by decide +kernel
theorem dX3_number_17 : decode cX3_number 17 = .ok (.aload_n 0, 1) := by decide +kernel
theorem dX3_number_18 : decode cX3_number 18 = .ok (.iload 4, 2) := by decide +kernel
theorem dX3_number_20 : decode cX3_number 20 = .ok (.invokevirtual 27, 3) := by decide +kernel
theorem dX3_number_23 : decode cX3_number 23 = .ok (.iadd, 1) := by decide +kernel
theorem dX3_number_24 : decode cX3_number 24 = .ok (.bipush 48, 2) := by decide +kernel
theorem dX3_number_26 : decode cX3_number 26 = .ok (.isub, 1) := by decide +kernel
theorem dX3_number_27 : decode cX3_number 27 = .ok (.istore_n 3, 1) := by decide +kernel
theorem dX3_number_28 : decode cX3_number 28 = .ok (.iinc 4 1, 3) := by decide +kernel
theorem dX3_number_31 : decode cX3_number 31 = .ok (.goto (-26), 3) := by decide +kernel
theorem dX3_number_34 : decode cX3_number 34 = .ok (.iload_n 3, 1) := by decide +kernel
theorem dX3_number_35 : decode cX3_number 35 = .ok (.ireturn, 1) := by decide +kernel
theorem dX4_init_0 : decode cX4_init 0 = .ok (.aload_n 0, 1) := by decide +kernel
theorem dX4_init_1 : decode cX4_init 1 = .ok (.invokespecial 3, 3) := by decide +kernel
theorem dX4_init_4 : decode cX4_init 4 = .ok (.aload_n 0, 1) := by decide +kernel
theorem dX4_init_5 : decode cX4_init 5 = .ok (.bipush 10, 2) := by decide +kernel
theorem dX4_init_7 : decode cX4_init 7 = .ok (.newarray .int, 2) := by decide +kernel
theorem dX4_init_9 : decode cX4_init 9 = .ok (.putfield 9, 3) := by decide +kernel
theorem dX4_init_12 : decode cX4_init 12 = .ok (.aload_n 0, 1) := by decide +kernel
theorem dX4_init_13 : decode cX4_init 13 = .ok (.bipush 10, 2) := by decide +kernel
theorem dX4_init_15 : decode cX4_init 15 = .ok (.newarray .int, 2) := by decide +kernel
theorem dX4_init_17 : decode cX4_init 17 = .ok (.putfield 15, 3) := by decide +kernel
theorem dX4_init_20 : decode cX4_init 20 = .ok (.aload_n 0, 1) := by decide +kernel
theorem dX4_init_21 : decode cX4_init 21 = .ok (.bipush 10, 2) := by decide +kernel
theorem dX4_init_23 : decode cX4_init 23 = .ok (.newarray .int, 2) := by decide +kernel
theorem dX4_init_25 : decode cX4_init 25 = .ok (.putfield 18, 3) := by decide +kernel
theorem dX4_init_28 : decode cX4_init 28 = .ok (.aload_n 0, 1) := by decide +kernel
theorem dX4_init_29 : decode cX4_init 29 = .ok (.iconst 0, 1) := by decide +kernel
theorem dX4_init_30 : decode cX4_init 30 = .ok (.putfield 21, 3) := by decide +kernel
theorem dX4_init_33 : decode cX4_init 33 = .ok (.return_, 1) := by decide +kernel
theorem dX4_copy_0 : decode cX4_copy 0 = .ok (.aload_n 0, 1) := by decide +kernel
theorem dX4_copy_1 : decode cX4_copy 1 = .ok (.ifnull 7, 3) := by decide +kernel
theorem dX4_copy_4 : decode cX4_copy 4 = .ok (.aload_n 1, 1) := by decide +kernel
theorem dX4_copy_5 : decode cX4_copy 5 = .ok (.ifnonnull 4, 3) := by decide +kernel
theorem dX4_copy_8 : decode cX4_copy 8 = .ok (.return_, 1) := by decide +kernel
theorem dX4_copy_9 : decode cX4_copy 9 = .ok (.iconst 0, 1) := by decide +kernel
theorem dX4_copy_10 : decode cX4_copy 10 = .ok (.istore_n 2, 1) := by decide +kernel
theorem dX4_copy_11 : decode cX4_copy 11 = .ok (.iload_n 2, 1) := by decide +kernel
theorem dX4_copy_12 : decode cX4_copy 12 = .ok (.bipush 10, 2) := by decide +kernel
theorem dX4_copy_14 : decode cX4_copy 14 = .ok (.if_icmp .ge 45, 3) := by decide +kernel
theorem dX4_copy_17 : decode cX4_copy 17 = .ok (.aload_n 1, 1) := by decide +kernel
theorem dX4_copy_18 : decode cX4_copy 18 = .ok (.getfield 9, 3) := by decide +kernel
theorem dX4_copy_21 : decode cX4_copy 21 = .ok (.iload_n 2, 1) := by decide +kernel
theorem dX4_copy_22 : decode cX4_copy 22 = .ok (.aload_n 0, 1) := by decide +kernel
theorem dX4_copy_23 : decode cX4_copy 23 = .ok (.getfield 9, 3) := by decide +kernel
theorem dX4_copy_26 : decode cX4_copy 26 = .ok (.iload_n 2, 1) := by decide +kernel
theorem dX4_copy_27 : decode cX4_copy 27 = .ok (.iaload, 1) := by decide +kernel
theorem dX4_copy_28 : decode cX4_copy 28 = .ok (.iastore, 1) := by decide +kernel
theorem dX4_copy_29 : decode cX4_copy 29 = .ok (.aload_n 1, 1) := by decide +kernel
theorem dX4_copy_30 : decode cX4_copy 30 = .ok (.getfield 15, 3) := by decide +kernel
theorem dX4_copy_33 : decode cX4_copy 33 = .ok (.iload_n 2, 1) := by decide +kernel
theorem dX4_copy_34 : decode cX4_copy 34 = .ok (.aload_n 0, 1) := by decide +kernel
theorem dX4_copy_35 : decode cX4_copy 35 = .ok (.getfield 15, 3) := by decide +kernel
theorem dX4_copy_38 : decode cX4_copy 38 = .ok (.iload_n 2, 1) := by decide +kernel
theorem dX4_copy_39 : decode cX4_copy 39 = .ok (.iaload, 1) := by decide +kernel
theorem dX4_copy_40 : decode cX4_copy 40 = .ok (.iastore, 1) := by decide +kernel
theorem dX4_copy_41 : decode cX4_copy 41 = .ok (.aload_n 1, 1) := by decide +kernel
theorem dX4_copy_42 : decode cX4_copy 42 = .ok (.getfield 18, 3) := by decide +kernel
theorem dX4_copy_45 : decode cX4_copy 45 = .ok (.iload_n 2, 1) := by decide +kernel
theorem dX4_copy_46 : decode cX4_copy 46 = .ok (.aload_n 0, 1) := by decide +kernel
theorem dX4_copy_47 : decode cX4_copy 47 = .ok (.getfield 18, 3) := by decide +kernel
theorem dX4_copy_50 : decode cX4_copy 50 = .ok (.iload_n 2, 1) := by decide +kernel
theorem dX4_copy_51 : decode cX4_copy 51 = .ok (.iaload, 1) := by decide +kernel
theorem dX4_copy_52 : decode cX4_copy 52 = .ok (.iastore, 1) := by decide +kernel
theorem dX4_copy_53 : decode cX4_copy 53 = .ok (.iinc 2 1, 3) := by decide +kernel
theorem dX4_copy_56 : decode cX4_copy 56 = .ok (.goto (-45), 3) := by decide +kernel
theorem dX4_copy_59 : decode cX4_copy 59 = .ok (.aload_n 1, 1) := by decide +kernel
theorem dX4_copy_60 : decode cX4_copy 60 = .ok (.aload_n 0, 1) := by decide +kernel
theorem dX4_copy_61 : decode cX4_copy 61 = .ok (.getfield 21, 3) := by decide +kernel
theorem dX4_copy_64 : decode cX4_copy 64 = .ok (.putfield 21, 3) := by decide +kernel
theorem dX4_copy_67 : decode cX4_copy 67 = .ok (.return_, 1) := by decide +kernel
theorem dX4_has_0 : decode cX4_has 0 = .ok (.iload_n 1, 1) := by decide +kernel
theorem dX4_has_1 : decode cX4_has 1 = .ok (.ifCond .lt 15, 3) := by decide +kernel
theorem dX4_has_4 : decode cX4_has 4 = .ok (.iload_n 1, 1) := by decide +kernel
theorem dX4_has_5 : decode cX4_has 5 = .ok (.aload_n 0, 1) := by decide +kernel
theorem dX4_has_6 : decode cX4_has 6 = .ok (.getfield 21, 3) := by decide +kernel
theorem dX4_has_9 : decode cX4_has 9 = .ok (.if_icmp .ge 7, 3) := by decide +kernel
theorem dX4_has_12 : decode cX4_has 12 = .ok (.iconst 1, 1) := by decide +kernel
theorem dX4_has_13 : decode cX4_has 13 = .ok (.goto 4, 3) := by decide +kernel
theorem dX4_has_16 : decode cX4_has 16 = .ok (.iconst 0, 1) := by decide +kernel
theorem dX4_has_17 : decode cX4_has 17 = .ok (.ireturn, 1) := by decide +kernel
theorem dX4_put_0 : decode cX4_put 0 = .ok (.aload_n 0, 1) := by decide +kernel
theorem dX4_put_1 : decode cX4_put 1 = .ok (.getfield 21, 3) := by decide +kernel
theorem dX4_put_4 : decode cX4_put 4 = .ok (.bipush 10, 2) := by decide +kernel
theorem dX4_put_6 : decode cX4_put 6 = .ok (.if_icmp .lt 4, 3) := by decide +kernel
theorem dX4_put_9 : decode cX4_put 9 = .ok (.return_, 1) := by decide +kernel
theorem dX4_put_10 : decode cX4_put 10 = .ok (.aload_n 0, 1) := by decide +kernel
theorem dX4_put_11 : decode cX4_put 11 = .ok (.getfield 9, 3) := by decide +kernel
theorem dX4_put_14 : decode cX4_put 14 = .ok (.aload_n 0, 1) := by decide +kernel
theorem dX4_put_15 : decode cX4_put 15 = .ok (.getfield 21, 3) := by decide +kernel
theorem dX4_put_18 : decode cX4_put 18 = .ok (.iload_n 1, 1) := by decide +kernel
theorem dX4_put_19 : decode cX4_put 19 = .ok (.iastore, 1) := by decide +kernel
theorem dX4_put_20 : decode cX4_put 20 = .ok (.aload_n 0, 1) := by decide +kernel
theorem dX4_put_21 : decode cX4_put 21 = .ok (.getfield 15, 3) := by decide +kernel
theorem dX4_put_24 : decode cX4_put 24 = .ok (.aload_n 0, 1) := by decide +kernel
theorem dX4_put_25 : decode cX4_put 25 = .ok (.getfield 21, 3) := by decide +kernel
theorem dX4_put_28 : decode cX4_put 28 = .ok (.iload_n 2, 1) := by decide +kernel
theorem dX4_put_29 : decode cX4_put 29 = .ok (.iastore, 1) := by decide +kernel
theorem dX4_put_30 : decode cX4_put 30 = .ok (.aload_n 0, 1) := by decide +kernel
theorem dX4_put_31 : decode cX4_put 31 = .ok (.getfield 18, 3) := by decide +kernel
theorem dX4_put_34 : decode cX4_put 34 = .ok (.aload_n 0, 1) := by decide +kernel
theorem dX4_put_35 : decode cX4_put 35 = .ok (.getfield 21, 3) := by decide +kernel
theorem dX4_put_38 : decode cX4_put 38 = .ok (.iload_n 3, 1) := by decide +kernel
theorem dX4_put_39 : decode cX4_put 39 = .ok (.iastore, 1) := by decide +kernel
theorem dX4_put_40 : decode cX4_put 40 = .ok (.aload_n 0, 1) := by decide +kernel
theorem dX4_put_41 : decode cX4_put 41 = .ok (.dup, 1) := by decide +kernel
theorem dX4_put_42 : decode cX4_put 42 = .ok (.getfield 21, 3) := by decide +kernel
theorem dX4_put_45 : decode cX4_put 45 = .ok (.iconst 1, 1) := by decide +kernel
theorem dX4_put_46 : decode cX4_put 46 = .ok (.iadd, 1) := by decide +kernel
theorem dX4_put_47 : decode cX4_put 47 = .ok (.putfield 21, 3) := by decide +kernel
theorem dX4_put_50 : decode cX4_put 50 = .ok (.return_, 1) := by decide +kernel
theorem dX4_drop_0 : decode cX4_drop 0 = .ok (.aload_n 0, 1) := by decide +kernel
theorem dX4_drop_1 : decode cX4_drop 1 = .ok (.iload_n 1, 1) := by decide +kernel
theorem dX4_drop_2 : decode cX4_drop 2 = .ok (.invokevirtual 25, 3) := by decide +kernel
theorem dX4_drop_5 : decode cX4_drop 5 = .ok (.ifCond .ne 4, 3) := by decide +kernel
theorem dX4_drop_8 : decode cX4_drop 8 = .ok (.return_, 1) := by decide +kernel
theorem dX4_drop_9 : decode cX4_drop 9 = .ok (.iload_n 1, 1) := by decide +kernel
theorem dX4_drop_10 : decode cX4_drop 10 = .ok (.iconst 1, 1) := by decide +kernel
theorem dX4_drop_11 : decode cX4_drop 11 = .ok (.iadd, 1) := by decide +kernel
theorem dX4_drop_12 : decode cX4_drop 12 = .ok (.istore_n 2, 1) := by decide +kernel
theorem dX4_drop_13 : decode cX4_drop 13 = .ok (.iload_n 2, 1) := by decide +kernel
theorem dX4_drop_14 : decode cX4_drop 14 = .ok (.aload_n 0, 1) := by decide +kernel
theorem dX4_drop_15 : decode cX4_drop 15 = .ok (.getfield 21, 3) := by decide +kernel
theorem dX4_drop_18 : decode cX4_drop 18 = .ok (.if_icmp .ge 51, 3) := by decide +kernel
theorem dX4_drop_21 : decode cX4_drop 21 = .ok (.aload_n 0, 1) := by decide +kernel
theorem dX4_drop_22 : decode cX4_drop 22 = .ok (.getfield 9, 3) := by decide +kernel
theorem dX4_drop_25 : decode cX4_drop 25 = .ok (.iload_n 2, 1) := by decide +kernel
theorem dX4_drop_26 : decode cX4_drop 26 = .ok (.iconst 1, 1) := by decide +kernel
theorem dX4_drop_27 : decode cX4_drop 27 = .ok (.isub, 1) := by decide +kernel
theorem dX4_drop_28 : decode cX4_drop 28 = .ok (.aload_n 0, 1) := by decide +kernel
theorem dX4_drop_29 : decode cX4_drop 29 = .ok (.getfield 9, 3) := by decide +kernel
theorem dX4_drop_32 : decode cX4_drop 32 = .ok (.iload_n 2, 1) := by decide +kernel
theorem dX4_drop_33 : decode cX4_drop 33 = .ok (.iaload, 1) := by decide +kernel
theorem dX4_drop_34 : decode cX4_drop 34 = .ok (.iastore, 1) := by decide +kernel
theorem dX4_drop_35 : decode cX4_drop 35 = .ok (.aload_n 0, 1) := by decide +kernel
theorem dX4_drop_36 : decode cX4_drop 36 = .ok (.getfield 15, 3) := by decide +kernel
theorem dX4_drop_39 : decode cX4_drop 39 = .ok (.iload_n 2, 1) := by decide +kernel
theorem dX4_drop_40 : decode cX4_drop 40 = .ok (.iconst 1, 1) := by decide +kernel
theorem dX4_drop_41 : decode cX4_drop 41 = .ok (.isub, 1) := by decide +kernel
theorem dX4_drop_42 : decode cX4_drop 42 = .ok (.aload_n 0, 1) := by decide +kernel
theorem dX4_drop_43 : decode cX4_drop 43 = .ok (.getfield 15, 3) := by decide +kernel
theorem dX4_drop_46 : decode cX4_drop 46 = .ok (.iload_n 2, 1) := by decide +kernel
theorem dX4_drop_47 : decode cX4_drop 47 = .ok (.iaload, 1) := by decide +kernel
theorem dX4_drop_48 : decode cX4_drop 48 = .ok (.iastore, 1) := by decide +kernel
theorem dX4_drop_49 : decode cX4_drop 49 = .ok (.aload_n 0, 1) := by decide +kernel
theorem dX4_drop_50 : decode cX4_drop 50 = .ok (.getfield 18, 3) := by decide +kernel
theorem dX4_drop_53 : decode cX4_drop 53 = .ok (.iload_n 2, 1) := by decide +kernel
theorem dX4_drop_54 : decode cX4_drop 54 = .ok (.iconst 1, 1) := by decide +kernel
theorem dX4_drop_55 : decode cX4_drop 55 = .ok (.isub, 1) := by decide +kernel
theorem dX4_drop_56 : decode cX4_drop 56 = .ok (.aload_n 0, 1) := by decide +kernel
theorem dX4_drop_57 : decode cX4_drop 57 = .ok (.getfield 18, 3) := by decide +kernel
theorem dX4_drop_60 : decode cX4_drop 60 = .ok (.iload_n 2, 1) := by decide +kernel
theorem dX4_drop_61 : decode cX4_drop 61 = .ok (.iaload, 1) := by decide +kernel
theorem dX4_drop_62 : decode cX4_drop 62 = .ok (.iastore, 1) := by decide +kernel
theorem dX4_drop_63 : decode cX4_drop 63 = .ok (.iinc 2 1, 3) := by decide +kernel
theorem dX4_drop_66 : decode cX4_drop 66 = .ok (.goto (-53), 3) := by decide +kernel
theorem dX4_drop_69 : decode cX4_drop 69 = .ok (.aload_n 0, 1) := by decide +kernel
theorem dX4_drop_70 : decode cX4_drop 70 = .ok (.dup, 1) := by decide +kernel
theorem dX4_drop_71 : decode cX4_drop 71 = .ok (.getfield 21, 3) := by decide +kernel
theorem dX4_drop_74 : decode cX4_drop 74 = .ok (.iconst 1, 1) := by decide +kernel
theorem dX4_drop_75 : decode cX4_drop 75 = .ok (.isub, 1) := by decide +kernel
theorem dX4_drop_76 : decode cX4_drop 76 = .ok (.putfield 21, 3) := by decide +kernel
theorem dX4_drop_79 : decode cX4_drop 79 = .ok (.return_, 1) := by decide +kernel
theorem dX4_squareTo_0 : decode cX4_squareTo 0 = .ok (.iload_n 2, 1) := by decide +kernel
theorem dX4_squareTo_1 : decode cX4_squareTo 1 = .ok (.aload_n 0, 1) := by decide +kernel
theorem dX4_squareTo_2 : decode cX4_squareTo 2 = .ok (.getfield 9, 3) := by decide +kernel
theorem dX4_squareTo_5 : decode cX4_squareTo 5 = .ok (.iload_n 1, 1) := by decide +kernel
theorem dX4_squareTo_6 : decode cX4_squareTo 6 = .ok (.iaload, 1) := by decide +kernel
theorem dX4_squareTo_7 : decode cX4_squareTo 7 = .ok (.isub, 1) := by decide +kernel
theorem dX4_squareTo_8 : decode cX4_squareTo 8 = .ok (.istore 4, 2) := by decide +kernel
theorem dX4_squareTo_10 : decode cX4_squareTo 10 = .ok (.iload_n 3, 1) := by decide +kernel
theorem dX4_squareTo_11 : decode cX4_squareTo 11 = .ok (.aload_n 0, 1) := by decide +kernel
theorem dX4_squareTo_12 : decode cX4_squareTo 12 = .ok (.getfield 15, 3) := by decide +kernel
theorem dX4_squareTo_15 : decode cX4_squareTo 15 = .ok (.iload_n 1, 1) := by decide +kernel
theorem dX4_squareTo_16 : decode cX4_squareTo 16 = .ok (.iaload, 1) := by decide +kernel
theorem dX4_squareTo_17 : decode cX4_squareTo 17 = .ok (.isub, 1) := by decide +kernel
theorem dX4_squareTo_18 : decode cX4_squareTo 18 = .ok (.istore 5, 2) := by decide +kernel
theorem dX4_squareTo_20 : decode cX4_squareTo 20 = .ok (.iload 4, 2) := by decide +kernel
theorem dX4_squareTo_22 : decode cX4_squareTo 22 = .ok (.iload 4, 2) := by decide +kernel
theorem dX4_squareTo_24 : decode cX4_squareTo 24 = .ok (.imul, 1) := by decide +kernel
theorem dX4_squareTo_25 : decode cX4_squareTo 25 = .ok (.iload 5, 2) := by decide +kernel
theorem dX4_squareTo_27 : decode cX4_squareTo 27 = .ok (.iload 5, 2) := by decide +kernel
theorem dX4_squareTo_29 : decode cX4_squareTo 29 = .ok (.imul, 1) := by decide +kernel
theorem dX4_squareTo_30 : decode cX4_squareTo 30 = .ok (.iadd, 1) := by decide +kernel
theorem dX4_squareTo_31 : decode cX4_squareTo 31 = .ok (.ireturn, 1) := by decide +kernel
theorem dX4_power_0 : decode cX4_power 0 = .ok (.aload_n 0, 1) := by decide +kernel
theorem dX4_power_1 : decode cX4_power 1 = .ok (.iload_n 1, 1) := by decide +kernel
theorem dX4_power_2 : decode cX4_power 2 = .ok (.iload_n 2, 1) := by decide +kernel
theorem dX4_power_3 : decode cX4_power 3 = .ok (.iload_n 3, 1) := by decide +kernel
theorem dX4_power_4 : decode cX4_power 4 = .ok (.invokevirtual 29, 3) := by decide +kernel
theorem dX4_power_7 : decode cX4_power 7 = .ok (.aload_n 0, 1) := by decide +kernel
theorem dX4_power_8 : decode cX4_power 8 = .ok (.getfield 18, 3) := by decide +kernel
theorem dX4_power_11 : decode cX4_power 11 = .ok (.iload_n 1, 1) := by decide +kernel
theorem dX4_power_12 : decode cX4_power 12 = .ok (.iaload, 1) := by decide +kernel
theorem dX4_power_13 : decode cX4_power 13 = .ok (.isub, 1) := by decide +kernel
theorem dX4_power_14 : decode cX4_power 14 = .ok (.ireturn, 1) := by decide +kernel
theorem dX4_ownerAt_0 : decode cX4_ownerAt 0 = .ok (.aload_n 0, 1) := by decide +kernel
theorem dX4_ownerAt_1 : decode cX4_ownerAt 1 = .ok (.iconst (-1), 1) := by decide +kernel
theorem dX4_ownerAt_2 : decode cX4_ownerAt 2 = .ok (.iload_n 1, 1) := by decide +kernel
theorem dX4_ownerAt_3 : decode cX4_ownerAt 3 = .ok (.iload_n 2, 1) := by decide +kernel
theorem dX4_ownerAt_4 : decode cX4_ownerAt 4 = .ok (.invokevirtual 33, 3) := by decide +kernel
theorem dX4_ownerAt_7 : decode cX4_ownerAt 7 = .ok (.ireturn, 1) := by decide +kernel
theorem dX4_ownerWithout_0 : decode cX4_ownerWithout 0 = .ok (.iconst (-1), 1) := by decide +kernel
theorem dX4_ownerWithout_1 : decode cX4_ownerWithout 1 = .ok (.istore 4, 2) := by decide +kernel
theorem dX4_ownerWithout_3 : decode cX4_ownerWithout 3 = .ok (.iconst 0, 1) := by decide +kernel
theorem dX4_ownerWithout_4 : decode cX4_ownerWithout 4 = .ok (.istore 5, 2) := by decide +kernel
theorem dX4_ownerWithout_6 : decode cX4_ownerWithout 6 = .ok (.iconst 0, 1) := by decide +kernel
theorem dX4_ownerWithout_7 : decode cX4_ownerWithout 7 = .ok (.istore 6, 2) := by decide +kernel
theorem dX4_ownerWithout_9 : decode cX4_ownerWithout 9 = .ok (.iload 6, 2) := by decide +kernel
theorem dX4_ownerWithout_11 : decode cX4_ownerWithout 11 = .ok (.aload_n 0, 1) := by decide +kernel
theorem dX4_ownerWithout_12 : decode cX4_ownerWithout 12 = .ok (.getfield 21, 3) := by decide +kernel
theorem dX4_ownerWithout_15 : decode cX4_ownerWithout 15 = .ok (.if_icmp .ge 49, 3) := by decide +kernel
theorem dX4_ownerWithout_18 : decode cX4_ownerWithout 18 = .ok (.iload 6, 2) := by decide +kernel
theorem dX4_ownerWithout_20 : decode cX4_ownerWithout 20 = .ok (.iload_n 1, 1) := by decide +kernel
theorem dX4_ownerWithout_21 : decode cX4_ownerWithout 21 = .ok (.if_icmp .ne 6, 3) := by decide +kernel
theorem dX4_ownerWithout_24 : decode cX4_ownerWithout 24 = .ok (.goto 34, 3) := by decide +kernel
theorem dX4_ownerWithout_27 : decode cX4_ownerWithout 27 = .ok (.aload_n 0, 1) := by decide +kernel
theorem dX4_ownerWithout_28 : decode cX4_ownerWithout 28 = .ok (.iload 6, 2) := by decide +kernel
theorem dX4_ownerWithout_30 : decode cX4_ownerWithout 30 = .ok (.iload_n 2, 1) := by decide +kernel
theorem dX4_ownerWithout_31 : decode cX4_ownerWithout 31 = .ok (.iload_n 3, 1) := by decide +kernel
theorem dX4_ownerWithout_32 : decode cX4_ownerWithout 32 = .ok (.invokevirtual 36, 3) := by decide +kernel
theorem dX4_ownerWithout_35 : decode cX4_ownerWithout 35 = .ok (.istore 7, 2) := by decide +kernel
theorem dX4_ownerWithout_37 : decode cX4_ownerWithout 37 = .ok (.iload 4, 2) := by decide +kernel
theorem dX4_ownerWithout_39 : decode cX4_ownerWithout 39 = .ok (.iconst (-1), 1) := by decide +kernel
theorem dX4_ownerWithout_40 : decode cX4_ownerWithout 40 = .ok (.if_icmp .eq 10, 3) := by decide +kernel
theorem dX4_ownerWithout_43 : decode cX4_ownerWithout 43 = .ok (.iload 7, 2) := by decide +kernel
theorem dX4_ownerWithout_45 : decode cX4_ownerWithout 45 = .ok (.iload 5, 2) := by decide +kernel
theorem dX4_ownerWithout_47 : decode cX4_ownerWithout 47 = .ok (.if_icmp .ge 11, 3) := by decide +kernel
theorem dX4_ownerWithout_50 : decode cX4_ownerWithout 50 = .ok (.iload 6, 2) := by decide +kernel
theorem dX4_ownerWithout_52 : decode cX4_ownerWithout 52 = .ok (.istore 4, 2) := by decide +kernel
theorem dX4_ownerWithout_54 : decode cX4_ownerWithout 54 = .ok (.iload 7, 2) := by decide +kernel
theorem dX4_ownerWithout_56 : decode cX4_ownerWithout 56 = .ok (.istore 5, 2) := by decide +kernel
theorem dX4_ownerWithout_58 : decode cX4_ownerWithout 58 = .ok (.iinc 6 1, 3) := by decide +kernel
theorem dX4_ownerWithout_61 : decode cX4_ownerWithout 61 = .ok (.goto (-52), 3) := by decide +kernel
theorem dX4_ownerWithout_64 : decode cX4_ownerWithout 64 = .ok (.iload 4, 2) := by decide +kernel
theorem dX4_ownerWithout_66 : decode cX4_ownerWithout 66 = .ok (.ireturn, 1) := by decide +kernel
theorem dX4_pointsOwnedBy_0 : decode cX4_pointsOwnedBy 0 = .ok (.iconst 0, 1) := by decide +kernel
theorem dX4_pointsOwnedBy_1 : decode cX4_pointsOwnedBy 1 = .ok (.istore_n 2, 1) := by decide +kernel
theorem dX4_pointsOwnedBy_2 : decode cX4_pointsOwnedBy 2 = .ok (.iconst 0, 1) := by decide +kernel
theorem dX4_pointsOwnedBy_3 : decode cX4_pointsOwnedBy 3 = .ok (.istore_n 3, 1) := by decide +kernel
theorem dX4_pointsOwnedBy_4 : decode cX4_pointsOwnedBy 4 = .ok (.iload_n 3, 1) := by decide +kernel
theorem dX4_pointsOwnedBy_5 : decode cX4_pointsOwnedBy 5 = .ok (.bipush 20, 2) := by decide +kernel
theorem dX4_pointsOwnedBy_7 : decode cX4_pointsOwnedBy 7 = .ok (.if_icmp .gt 39, 3) := by decide +kernel
theorem dX4_pointsOwnedBy_10 : decode cX4_pointsOwnedBy 10 = .ok (.iconst 0, 1) := by decide +kernel
theorem dX4_pointsOwnedBy_11 : decode cX4_pointsOwnedBy 11 = .ok (.istore 4, 2) := by decide +kernel
theorem dX4_pointsOwnedBy_13 : decode cX4_pointsOwnedBy 13 = .ok (.iload 4, 2) := by decide +kernel
theorem dX4_pointsOwnedBy_15 : decode cX4_pointsOwnedBy 15 = .ok (.bipush 20, 2) := by decide +kernel
theorem dX4_pointsOwnedBy_17 : decode cX4_pointsOwnedBy 17 = .ok (.if_icmp .gt 23, 3) := by decide +kernel
theorem dX4_pointsOwnedBy_20 : decode cX4_pointsOwnedBy 20 = .ok (.aload_n 0, 1) := by decide +kernel
theorem dX4_pointsOwnedBy_21 : decode cX4_pointsOwnedBy 21 = .ok (.iload_n 3, 1) := by decide +kernel
theorem dX4_pointsOwnedBy_22 : decode cX4_pointsOwnedBy 22 = .ok (.iload 4, 2) := by decide +kernel
theorem dX4_pointsOwnedBy_24 : decode cX4_pointsOwnedBy 24 = .ok (.invokevirtual 39, 3) := by decide +kernel
theorem dX4_pointsOwnedBy_27 : decode cX4_pointsOwnedBy 27 = .ok (.iload_n 1, 1) := by decide +kernel
theorem dX4_pointsOwnedBy_28 : decode cX4_pointsOwnedBy 28 = .ok (.if_icmp .ne 6, 3) := by decide +kernel
theorem dX4_pointsOwnedBy_31 : decode cX4_pointsOwnedBy 31 = .ok (.iinc 2 1, 3) := by decide +kernel
theorem dX4_pointsOwnedBy_34 : decode cX4_pointsOwnedBy 34 = .ok (.iinc 4 1, 3) := by decide +kernel
theorem dX4_pointsOwnedBy_37 : decode cX4_pointsOwnedBy 37 = .ok (.goto (-24), 3) := by decide +kernel
theorem dX4_pointsOwnedBy_40 : decode cX4_pointsOwnedBy 40 = .ok (.iinc 3 1, 3) := by decide +kernel
theorem dX4_pointsOwnedBy_43 : decode cX4_pointsOwnedBy 43 = .ok (.goto (-39), 3) := by decide +kernel
theorem dX4_pointsOwnedBy_46 : decode cX4_pointsOwnedBy 46 = .ok (.iload_n 2, 1) := by decide +kernel
theorem dX4_pointsOwnedBy_47 : decode cX4_pointsOwnedBy 47 = .ok (.ireturn, 1) := by decide +kernel
theorem dX4_weightToOwn_0 : decode cX4_weightToOwn 0 = .ok (.iconst 0, 1) := by decide +kernel
theorem dX4_weightToOwn_1 : decode cX4_weightToOwn 1 = .ok (.istore 4, 2) := by decide +kernel
theorem dX4_weightToOwn_3 : decode cX4_weightToOwn 3 = .ok (.aload_n 0, 1) := by decide +kernel
theorem dX4_weightToOwn_4 : decode cX4_weightToOwn 4 = .ok (.iload_n 1, 1) := by decide +kernel
theorem dX4_weightToOwn_5 : decode cX4_weightToOwn 5 = .ok (.iload_n 2, 1) := by decide +kernel
theorem dX4_weightToOwn_6 : decode cX4_weightToOwn 6 = .ok (.iload_n 3, 1) := by decide +kernel
theorem dX4_weightToOwn_7 : decode cX4_weightToOwn 7 = .ok (.invokevirtual 29, 3) := by decide +kernel
theorem dX4_weightToOwn_10 : decode cX4_weightToOwn 10 = .ok (.istore 5, 2) := by decide +kernel
theorem dX4_weightToOwn_12 : decode cX4_weightToOwn 12 = .ok (.iconst 0, 1) := by decide +kernel
theorem dX4_weightToOwn_13 : decode cX4_weightToOwn 13 = .ok (.istore 6, 2) := by decide +kernel
theorem dX4_weightToOwn_15 : decode cX4_weightToOwn 15 = .ok (.iload 6, 2) := by decide +kernel
theorem dX4_weightToOwn_17 : decode cX4_weightToOwn 17 = .ok (.aload_n 0, 1) := by decide +kernel
theorem dX4_weightToOwn_18 : decode cX4_weightToOwn 18 = .ok (.getfield 21, 3) := by decide +kernel
theorem dX4_weightToOwn_21 : decode cX4_weightToOwn 21 = .ok (.if_icmp .ge 49, 3) := by decide +kernel
theorem dX4_weightToOwn_24 : decode cX4_weightToOwn 24 = .ok (.iload 6, 2) := by decide +kernel
theorem dX4_weightToOwn_26 : decode cX4_weightToOwn 26 = .ok (.iload_n 1, 1) := by decide +kernel
theorem dX4_weightToOwn_27 : decode cX4_weightToOwn 27 = .ok (.if_icmp .eq 37, 3) := by decide +kernel
theorem dX4_weightToOwn_30 : decode cX4_weightToOwn 30 = .ok (.iload 6, 2) := by decide +kernel
theorem dX4_weightToOwn_32 : decode cX4_weightToOwn 32 = .ok (.iload_n 1, 1) := by decide +kernel
theorem dX4_weightToOwn_33 : decode cX4_weightToOwn 33 = .ok (.if_icmp .ge 7, 3) := by decide +kernel
theorem dX4_weightToOwn_36 : decode cX4_weightToOwn 36 = .ok (.iconst 1, 1) := by decide +kernel
theorem dX4_weightToOwn_37 : decode cX4_weightToOwn 37 = .ok (.goto 4, 3) := by decide +kernel
theorem dX4_weightToOwn_40 : decode cX4_weightToOwn 40 = .ok (.iconst 0, 1) := by decide +kernel
theorem dX4_weightToOwn_41 : decode cX4_weightToOwn 41 = .ok (.istore 7, 2) := by decide +kernel
theorem dX4_weightToOwn_43 : decode cX4_weightToOwn 43 = .ok (.iload 4, 2) := by decide +kernel
theorem dX4_weightToOwn_45 : decode cX4_weightToOwn 45 = .ok (.iload 5, 2) := by decide +kernel
theorem dX4_weightToOwn_47 : decode cX4_weightToOwn 47 = .ok (.aload_n 0, 1) := by decide +kernel
theorem dX4_weightToOwn_48 : decode cX4_weightToOwn 48 = .ok (.iload 6, 2) := by decide +kernel
theorem dX4_weightToOwn_50 : decode cX4_weightToOwn 50 = .ok (.iload_n 2, 1) := by decide +kernel
theorem dX4_weightToOwn_51 : decode cX4_weightToOwn 51 = .ok (.iload_n 3, 1) := by decide +kernel
theorem dX4_weightToOwn_52 : decode cX4_weightToOwn 52 = .ok (.invokevirtual 36, 3) := by decide +kernel
theorem dX4_weightToOwn_55 : decode cX4_weightToOwn 55 = .ok (.isub, 1) := by decide +kernel
theorem dX4_weightToOwn_56 : decode cX4_weightToOwn 56 = .ok (.iload 7, 2) := by decide +kernel
theorem dX4_weightToOwn_58 : decode cX4_weightToOwn 58 = .ok (.iadd, 1) := by decide +kernel
theorem dX4_weightToOwn_59 : decode cX4_weightToOwn 59 = .ok (.invokestatic 43, 3) := by decide +kernel
theorem dX4_weightToOwn_62 : decode cX4_weightToOwn 62 = .ok (.istore 4, 2) := by decide +kernel
theorem dX4_weightToOwn_64 : decode cX4_weightToOwn 64 = .ok (.iinc 6 1, 3) := by decide +kernel
theorem dX4_weightToOwn_67 : decode cX4_weightToOwn 67 = .ok (.goto (-52), 3) := by decide +kernel
theorem dX4_weightToOwn_70 : decode cX4_weightToOwn 70 = .ok (.iload 4, 2) := by decide +kernel
theorem dX4_weightToOwn_72 : decode cX4_weightToOwn 72 = .ok (.ireturn, 1) := by decide +kernel
theorem dX4_level_0 : decode cX4_level 0 = .ok (.iload_n 0, 1) := by decide +kernel
theorem dX4_level_1 : decode cX4_level 1 = .ok (.iload_n 0, 1) := by decide +kernel
theorem dX4_level_2 : decode cX4_level 2 = .ok (.imul, 1) := by decide +kernel
theorem dX4_level_3 : decode cX4_level 3 = .ok (.iload_n 1, 1) := by decide +kernel
theorem dX4_level_4 : decode cX4_level 4 = .ok (.iload_n 1, 1) := by decide +kernel
theorem dX4_level_5 : decode cX4_level 5 = .ok (.imul, 1) := by decide +kernel
theorem dX4_level_6 : decode cX4_level 6 = .ok (.iadd, 1) := by decide +kernel
theorem dX4_level_7 : decode cX4_level 7 = .ok (.iload_n 2, 1) := by decide +kernel
theorem dX4_level_8 : decode cX4_level 8 = .ok (.isub, 1) := by decide +kernel
theorem dX4_level_9 : decode cX4_level 9 = .ok (.ireturn, 1) := by decide +kernel
theorem dX4_levelOf_0 : decode cX4_levelOf 0 = .ok (.aload_n 0, 1) := by decide +kernel
theorem dX4_levelOf_1 : decode cX4_levelOf 1 = .ok (.getfield 9, 3) := by decide +kernel
theorem dX4_levelOf_4 : decode cX4_levelOf 4 = .ok (.iload_n 1, 1) := by decide +kernel
theorem dX4_levelOf_5 : decode cX4_levelOf 5 = .ok (.iaload, 1) := by decide +kernel
theorem dX4_levelOf_6 : decode cX4_levelOf 6 = .ok (.aload_n 0, 1) := by decide +kernel
theorem dX4_levelOf_7 : decode cX4_levelOf 7 = .ok (.getfield 15, 3) := by decide +kernel
theorem dX4_levelOf_10 : decode cX4_levelOf 10 = .ok (.iload_n 1, 1) := by decide +kernel
theorem dX4_levelOf_11 : decode cX4_levelOf 11 = .ok (.iaload, 1) := by decide +kernel
theorem dX4_levelOf_12 : decode cX4_levelOf 12 = .ok (.aload_n 0, 1) := by decide +kernel
theorem dX4_levelOf_13 : decode cX4_levelOf 13 = .ok (.getfield 18, 3) := by decide +kernel
theorem dX4_levelOf_16 : decode cX4_levelOf 16 = .ok (.iload_n 1, 1) := by decide +kernel
theorem dX4_levelOf_17 : decode cX4_levelOf 17 = .ok (.iaload, 1) := by decide +kernel
theorem dX4_levelOf_18 : decode cX4_levelOf 18 = .ok (.invokestatic 48, 3) := by decide +kernel
theorem dX4_levelOf_21 : decode cX4_levelOf 21 = .ok (.ireturn, 1) := by decide +kernel
theorem dX5_init_0 : decode cX5_init 0 = .ok (.aload_n 0, 1) := by decide +kernel
theorem dX5_init_1 : decode cX5_init 1 = .ok (.invokespecial 1, 3) := by decide +kernel
theorem dX5_init_4 : decode cX5_init 4 = .ok (.aload_n 0, 1) := by decide +kernel
theorem dX5_init_5 : decode cX5_init 5 = .ok (.new 7, 3) := by decide +kernel
theorem dX5_init_8 : decode cX5_init 8 = .ok (.dup, 1) := by decide +kernel
theorem dX5_init_9 : decode cX5_init 9 = .ok (.invokespecial 9, 3) := by decide +kernel
theorem dX5_init_12 : decode cX5_init 12 = .ok (.putfield 10, 3) := by decide +kernel
theorem dX5_init_15 : decode cX5_init 15 = .ok (.aload_n 0, 1) := by decide +kernel
theorem dX5_init_16 : decode cX5_init 16 = .ok (.new 16, 3) := by decide +kernel
theorem dX5_init_19 : decode cX5_init 19 = .ok (.dup, 1) := by decide +kernel
theorem dX5_init_20 : decode cX5_init 20 = .ok (.invokespecial 18, 3) := by decide +kernel
theorem dX5_init_23 : decode cX5_init 23 = .ok (.putfield 19, 3) := by decide +kernel
theorem dX5_init_26 : decode cX5_init 26 = .ok (.aload_n 0, 1) := by decide +kernel
theorem dX5_init_27 : decode cX5_init 27 = .ok (.new 23, 3) := by decide +kernel
theorem dX5_init_30 : decode cX5_init 30 = .ok (.dup, 1) := by decide +kernel
theorem dX5_init_31 : decode cX5_init 31 = .ok (.invokespecial 25, 3) := by decide +kernel
theorem dX5_init_34 : decode cX5_init 34 = .ok (.putfield 26, 3) := by decide +kernel
theorem dX5_init_37 : decode cX5_init 37 = .ok (.aload_n 0, 1) := by decide +kernel
theorem dX5_init_38 : decode cX5_init 38 = .ok (.new 30, 3) := by decide +kernel
theorem dX5_init_41 : decode cX5_init 41 = .ok (.dup, 1) := by decide +kernel
theorem dX5_init_42 : decode cX5_init 42 = .ok (.aload_n 0, 1) := by decide +kernel
theorem dX5_init_43 : decode cX5_init 43 = .ok (.getfield 26, 3) := by decide +kernel
theorem dX5_init_46 : decode cX5_init 46 = .ok (.invokespecial 32, 3) := by decide +kernel
theorem dX5_init_49 : decode cX5_init 49 = .ok (.putfield 35, 3) := by decide +kernel
theorem dX5_init_52 : decode cX5_init 52 = .ok (.aload_n 0, 1) := by decide +kernel
theorem dX5_init_53 : decode cX5_init 53 = .ok (.new 39, 3) := by decide +kernel
theorem dX5_init_56 : decode cX5_init 56 = .ok (.dup, 1) := by decide +kernel
theorem dX5_init_57 : decode cX5_init 57 = .ok (.aload_n 0, 1) := by decide +kernel
theorem dX5_init_58 : decode cX5_init 58 = .ok (.getfield 35, 3) := by decide +kernel
theorem dX5_init_61 : decode cX5_init 61 = .ok (.invokespecial 41, 3) := by decide +kernel
theorem dX5_init_64 : decode cX5_init 64 = .ok (.putfield 44, 3) := by decide +kernel
theorem dX5_init_67 : decode cX5_init 67 = .ok (.aload_n 0, 1) := by decide +kernel
theorem dX5_init_68 : decode cX5_init 68 = .ok (.bipush 14, 2) := by decide +kernel
theorem dX5_init_70 : decode cX5_init 70 = .ok (.invokestatic 48, 3) := by decide +kernel
theorem dX5_init_73 : decode cX5_init 73 = .ok (.putfield 52, 3) := by decide +kernel
theorem dX5_init_76 : decode cX5_init 76 = .ok (.aload_n 0, 1) := by decide +kernel
theorem dX5_init_77 : decode cX5_init 77 = .ok (.iconst 0, 1) := by decide +kernel
theorem dX5_init_78 : decode cX5_init 78 = .ok (.putfield 56, 3) := by decide +kernel
theorem dX5_init_81 : decode cX5_init 81 = .ok (.aload_n 0, 1) := by decide +kernel
theorem dX5_init_82 : decode cX5_init 82 = .ok (.iconst 0, 1) := by decide +kernel
theorem dX5_init_83 : decode cX5_init 83 = .ok (.putfield 60, 3) := by decide +kernel
theorem dX5_init_86 : decode cX5_init 86 = .ok (.aload_n 0, 1) := by decide +kernel
theorem dX5_init_87 : decode cX5_init 87 = .ok (.iconst 2, 1) := by decide +kernel
theorem dX5_init_88 : decode cX5_init 88 = .ok (.invokestatic 48, 3) := by decide +kernel
theorem dX5_init_91 : decode cX5_init 91 = .ok (.putfield 63, 3) := by decide +kernel
theorem dX5_init_94 : decode cX5_init 94 = .ok (.aload_n 0, 1) := by decide +kernel
theorem dX5_init_95 : decode cX5_init 95 = .ok (.iconst 2, 1) := by decide +kernel
theorem dX5_init_96 : decode cX5_init 96 = .ok (.newarray .boolean, 2) := by decide +kernel
theorem dX5_init_98 : decode cX5_init 98 = .ok (.putfield 66, 3) := by decide +kernel
theorem dX5_init_101 : decode cX5_init 101 = .ok (.aload_n 0, 1) := by decide +kernel
theorem dX5_init_102 : decode cX5_init 102 = .ok (.bipush 6, 2) := by decide +kernel
theorem dX5_init_104 : decode cX5_init 104 = .ok (.newarray .int, 2) := by decide +kernel
theorem dX5_init_106 : decode cX5_init 106 = .ok (.putfield 70, 3) := by decide +kernel
theorem dX5_init_109 : decode cX5_init 109 = .ok (.aload_n 0, 1) := by decide +kernel
theorem dX5_init_110 : decode cX5_init 110 = .ok (.bipush 6, 2) := by decide +kernel
theorem dX5_init_112 : decode cX5_init 112 = .ok (.newarray .int, 2) := by decide +kernel
theorem dX5_init_114 : decode cX5_init 114 = .ok (.putfield 74, 3) := by decide +kernel
theorem dX5_init_117 : decode cX5_init 117 = .ok (.aload_n 0, 1) := by decide +kernel
theorem dX5_init_118 : decode cX5_init 118 = .ok (.bipush 6, 2) := by decide +kernel
theorem dX5_init_120 : decode cX5_init 120 = .ok (.newarray .int, 2) := by decide +kernel
theorem dX5_init_122 : decode cX5_init 122 = .ok (.putfield 77, 3) := by decide +kernel
theorem dX5_init_125 : decode cX5_init 125 = .ok (.aload_n 0, 1) := by decide +kernel
theorem dX5_init_126 : decode cX5_init 126 = .ok (.iconst 0, 1) := by decide +kernel
theorem dX5_init_127 : decode cX5_init 127 = .ok (.putfield 80, 3) := by decide +kernel
theorem dX5_init_130 : decode cX5_init 130 = .ok (.aload_n 0, 1) := by decide +kernel
theorem dX5_init_131 : decode cX5_init 131 = .ok (.sipush 401, 3) := by decide +kernel
theorem dX5_init_134 : decode cX5_init 134 = .ok (.newarray .int, 2) := by decide +kernel
theorem dX5_init_136 : decode cX5_init 136 = .ok (.putfield 83, 3) := by decide +kernel
theorem dX5_init_139 : decode cX5_init 139 = .ok (.return_, 1) := by decide +kernel
theorem dX5_newRow_0 : decode cX5_newRow 0 = .ok (.iload_n 0, 1) := by decide +kernel
theorem dX5_newRow_1 : decode cX5_newRow 1 = .ok (.anewarray 16, 3) := by decide +kernel
theorem dX5_newRow_4 : decode cX5_newRow 4 = .ok (.astore_n 1, 1) := by decide +kernel
theorem dX5_newRow_5 : decode cX5_newRow 5 = .ok (.iconst 0, 1) := by decide +kernel
theorem dX5_newRow_6 : decode cX5_newRow 6 = .ok (.istore_n 2, 1) := by decide +kernel
theorem dX5_newRow_7 : decode cX5_newRow 7 = .ok (.iload_n 2, 1) := by decide +kernel
theorem dX5_newRow_8 : decode cX5_newRow 8 = .ok (.aload_n 1, 1) := by decide +kernel
theorem dX5_newRow_9 : decode cX5_newRow 9 = .ok (.arraylength, 1) := by decide +kernel
theorem dX5_newRow_10 : decode cX5_newRow 10 = .ok (.if_icmp .ge 19, 3) := by decide +kernel
theorem dX5_newRow_13 : decode cX5_newRow 13 = .ok (.aload_n 1, 1) := by decide +kernel
theorem dX5_newRow_14 : decode cX5_newRow 14 = .ok (.iload_n 2, 1) := by decide +kernel
theorem dX5_newRow_15 : decode cX5_newRow 15 = .ok (.new 16, 3) := by decide +kernel
theorem dX5_newRow_18 : decode cX5_newRow 18 = .ok (.dup, 1) := by decide +kernel
theorem dX5_newRow_19 : decode cX5_newRow 19 = .ok (.invokespecial 18, 3) := by decide +kernel
theorem dX5_newRow_22 : decode cX5_newRow 22 = .ok (.aastore, 1) := by decide +kernel
theorem dX5_newRow_23 : decode cX5_newRow 23 = .ok (.iinc 2 1, 3) := by decide +kernel
theorem dX5_newRow_26 : decode cX5_newRow 26 = .ok (.goto (-19), 3) := by decide +kernel
theorem dX5_newRow_29 : decode cX5_newRow 29 = .ok (.aload_n 1, 1) := by decide +kernel
theorem dX5_newRow_30 : decode cX5_newRow 30 = .ok (.areturn, 1) := by decide +kernel
theorem dX5_append_0 : decode cX5_append 0 = .ok (.iload_n 1, 1) := by decide +kernel
theorem dX5_append_1 : decode cX5_append 1 = .ok (.ifCond .lt 10, 3) := by decide +kernel
theorem dX5_append_4 : decode cX5_append 4 = .ok (.iload_n 1, 1) := by decide +kernel
theorem dX5_append_5 : decode cX5_append 5 = .ok (.sipush 255, 3) := by decide +kernel
theorem dX5_append_8 : decode cX5_append 8 = .ok (.if_icmp .le 6, 3) := by decide +kernel
theorem dX5_append_11 : decode cX5_append 11 = .ok (.bipush (-2), 2) := by decide +kernel
theorem dX5_append_13 : decode cX5_append 13 = .ok (.ireturn, 1) := by decide +kernel
theorem dX5_append_14 : decode cX5_append 14 = .ok (.aload_n 0, 1) := by decide +kernel
theorem dX5_append_15 : decode cX5_append 15 = .ok (.getfield 10, 3) := by decide +kernel
theorem dX5_append_18 : decode cX5_append 18 = .ok (.iload_n 1, 1) := by decide +kernel
theorem dX5_append_19 : decode cX5_append 19 = .ok (.invokevirtual 86, 3) := by decide +kernel
theorem dX5_append_22 : decode cX5_append 22 = .ok (.ifCond .ne 6, 3) := by decide +kernel
theorem dX5_append_25 : decode cX5_append 25 = .ok (.bipush (-4), 2) := by decide +kernel
theorem dX5_append_27 : decode cX5_append 27 = .ok (.ireturn, 1) := by decide +kernel
theorem dX5_append_28 : decode cX5_append 28 = .ok (.aload_n 0, 1) := by decide +kernel
theorem dX5_append_29 : decode cX5_append 29 = .ok (.getfield 10, 3) := by decide +kernel
theorem dX5_append_32 : decode cX5_append 32 = .ok (.getfield 90, 3) := by decide +kernel
theorem dX5_append_35 : decode cX5_append 35 = .ok (.ireturn, 1) := by decide +kernel
theorem dX5_clearText_0 : decode cX5_clearText 0 = .ok (.aload_n 0, 1) := by decide +kernel
theorem dX5_clearText_1 : decode cX5_clearText 1 = .ok (.getfield 10, 3) := by decide +kernel
theorem dX5_clearText_4 : decode cX5_clearText 4 = .ok (.getfield 90, 3) := by decide +kernel
theorem dX5_clearText_7 : decode cX5_clearText 7 = .ok (.istore_n 1, 1) := by decide +kernel
theorem dX5_clearText_8 : decode cX5_clearText 8 = .ok (.aload_n 0, 1) := by decide +kernel
theorem dX5_clearText_9 : decode cX5_clearText 9 = .ok (.getfield 10, 3) := by decide +kernel
theorem dX5_clearText_12 : decode cX5_clearText 12 = .ok (.iconst 0, 1) := by decide +kernel
theorem dX5_clearText_13 : decode cX5_clearText 13 = .ok (.putfield 90, 3) := by decide +kernel
theorem dX5_clearText_16 : decode cX5_clearText 16 = .ok (.iload_n 1, 1) := by decide +kernel
theorem dX5_clearText_17 : decode cX5_clearText 17 = .ok (.ireturn, 1) := by decide +kernel
theorem dX5_errorPosition_0 : decode cX5_errorPosition 0 = .ok (.aload_n 0, 1) := by decide +kernel
theorem dX5_errorPosition_1 : decode cX5_errorPosition 1 = .ok (.getfield 10, 3) := by decide +kernel
theorem dX5_errorPosition_4 : decode cX5_errorPosition 4 = .ok (.invokevirtual 93, 3) := by decide +kernel
theorem dX5_errorPosition_7 : decode cX5_errorPosition 7 = .ok (.ireturn, 1) := by decide +kernel
theorem dX5_load_0 : decode cX5_load 0 = .ok (.aload_n 0, 1) := by decide +kernel
theorem dX5_load_1 : decode cX5_load 1 = .ok (.getfield 10, 3) := by decide +kernel
theorem dX5_load_4 : decode cX5_load 4 = .ok (.invokevirtual 93, 3) := by decide +kernel
theorem dX5_load_7 : decode cX5_load 7 = .ok (.bipush (-9), 2) := by decide +kernel
theorem dX5_load_9 : decode cX5_load 9 = .ok (.if_icmp .eq 6, 3) := by decide +kernel
theorem dX5_load_12 : decode cX5_load 12 = .ok (.bipush (-3), 2) := by decide +kernel
theorem dX5_load_14 : decode cX5_load 14 = .ok (.ireturn, 1) := by decide +kernel
theorem dX5_load_15 : decode cX5_load 15 = .ok (.aload_n 0, 1) := by decide +kernel
theorem dX5_load_16 : decode cX5_load 16 = .ok (.getfield 10, 3) := by decide +kernel
theorem dX5_load_19 : decode cX5_load 19 = .ok (.aload_n 0, 1) := by decide +kernel
theorem dX5_load_20 : decode cX5_load 20 = .ok (.getfield 19, 3) := by decide +kernel
theorem dX5_load_23 : decode cX5_load 23 = .ok (.invokevirtual 97, 3) := by decide +kernel
theorem dX5_load_26 : decode cX5_load 26 = .ok (.aload_n 0, 1) := by decide +kernel
theorem dX5_load_27 : decode cX5_load 27 = .ok (.iconst 0, 1) := by decide +kernel
theorem dX5_load_28 : decode cX5_load 28 = .ok (.putfield 60, 3) := by decide +kernel
theorem dX5_load_31 : decode cX5_load 31 = .ok (.iconst 0, 1) := by decide +kernel
theorem dX5_load_32 : decode cX5_load 32 = .ok (.istore_n 1, 1) := by decide +kernel
theorem dX5_load_33 : decode cX5_load 33 = .ok (.iload_n 1, 1) := by decide +kernel
theorem dX5_load_34 : decode cX5_load 34 = .ok (.aload_n 0, 1) := by decide +kernel
theorem dX5_load_35 : decode cX5_load 35 = .ok (.getfield 66, 3) := by decide +kernel
theorem dX5_load_38 : decode cX5_load 38 = .ok (.arraylength, 1) := by decide +kernel
theorem dX5_load_39 : decode cX5_load 39 = .ok (.if_icmp .ge 16, 3) := by decide +kernel
theorem dX5_load_42 : decode cX5_load 42 = .ok (.aload_n 0, 1) := by decide +kernel
theorem dX5_load_43 : decode cX5_load 43 = .ok (.getfield 66, 3) := by decide +kernel
theorem dX5_load_46 : decode cX5_load 46 = .ok (.iload_n 1, 1) := by decide +kernel
theorem dX5_load_47 : decode cX5_load 47 = .ok (.iconst 0, 1) := by decide +kernel
theorem dX5_load_48 : decode cX5_load 48 = .ok (.bastore, 1) := by decide +kernel
theorem dX5_load_49 : decode cX5_load 49 = .ok (.iinc 1 1, 3) := by decide +kernel
theorem dX5_load_52 : decode cX5_load 52 = .ok (.goto (-19), 3) := by decide +kernel
theorem dX5_load_55 : decode cX5_load 55 = .ok (.aload_n 0, 1) := by decide +kernel
theorem dX5_load_56 : decode cX5_load 56 = .ok (.getfield 19, 3) := by decide +kernel
theorem dX5_load_59 : decode cX5_load 59 = .ok (.getfield 101, 3) := by decide +kernel
theorem dX5_load_62 : decode cX5_load 62 = .ok (.ireturn, 1) := by decide +kernel
theorem dX5_siteCount_0 : decode cX5_siteCount 0 = .ok (.aload_n 0, 1) := by decide +kernel
theorem dX5_siteCount_1 : decode cX5_siteCount 1 = .ok (.getfield 19, 3) := by decide +kernel
theorem dX5_siteCount_4 : decode cX5_siteCount 4 = .ok (.getfield 101, 3) := by decide +kernel
theorem dX5_siteCount_7 : decode cX5_siteCount 7 = .ok (.ireturn, 1) := by decide +kernel
theorem dX5_site_0 : decode cX5_site 0 = .ok (.aload_n 0, 1) := by decide +kernel
theorem dX5_site_1 : decode cX5_site 1 = .ok (.getfield 19, 3) := by decide +kernel
theorem dX5_site_4 : decode cX5_site 4 = .ok (.iload_n 1, 1) := by decide +kernel
theorem dX5_site_5 : decode cX5_site 5 = .ok (.invokevirtual 104, 3) := by decide +kernel
theorem dX5_site_8 : decode cX5_site 8 = .ok (.ifCond .ne 5, 3) := by decide +kernel
theorem dX5_site_11 : decode cX5_site 11 = .ok (.iconst (-1), 1) := by decide +kernel
theorem dX5_site_12 : decode cX5_site 12 = .ok (.ireturn, 1) := by decide +kernel
theorem dX5_site_13 : decode cX5_site 13 = .ok (.iload_n 2, 1) := by decide +kernel
theorem dX5_site_14 : decode cX5_site 14 = .ok (.tableswitch 56 0 2 #[26, 36, 46], 26) := by decide +kernel
theorem dX5_site_40 : decode cX5_site 40 = .ok (.aload_n 0, 1) := by decide +kernel
theorem dX5_site_41 : decode cX5_site 41 = .ok (.getfield 19, 3) := by decide +kernel
theorem dX5_site_44 : decode cX5_site 44 = .ok (.getfield 107, 3) := by decide +kernel
theorem dX5_site_47 : decode cX5_site 47 = .ok (.iload_n 1, 1) := by decide +kernel
theorem dX5_site_48 : decode cX5_site 48 = .ok (.iaload, 1) := by decide +kernel
theorem dX5_site_49 : decode cX5_site 49 = .ok (.ireturn, 1) := by decide +kernel
theorem dX5_site_50 : decode cX5_site 50 = .ok (.aload_n 0, 1) := by decide +kernel
theorem dX5_site_51 : decode cX5_site 51 = .ok (.getfield 19, 3) := by decide +kernel
theorem dX5_site_54 : decode cX5_site 54 = .ok (.getfield 110, 3) := by decide +kernel
theorem dX5_site_57 : decode cX5_site 57 = .ok (.iload_n 1, 1) := by decide +kernel
theorem dX5_site_58 : decode cX5_site 58 = .ok (.iaload, 1) := by decide +kernel
theorem dX5_site_59 : decode cX5_site 59 = .ok (.ireturn, 1) := by decide +kernel
theorem dX5_site_60 : decode cX5_site 60 = .ok (.aload_n 0, 1) := by decide +kernel
theorem dX5_site_61 : decode cX5_site 61 = .ok (.getfield 19, 3) := by decide +kernel
theorem dX5_site_64 : decode cX5_site 64 = .ok (.getfield 113, 3) := by decide +kernel
theorem dX5_site_67 : decode cX5_site 67 = .ok (.iload_n 1, 1) := by decide +kernel
theorem dX5_site_68 : decode cX5_site 68 = .ok (.iaload, 1) := by decide +kernel
theorem dX5_site_69 : decode cX5_site 69 = .ok (.ireturn, 1) := by decide +kernel
theorem dX5_site_70 : decode cX5_site 70 = .ok (.bipush (-2), 2) := by decide +kernel
theorem dX5_site_72 : decode cX5_site 72 = .ok (.ireturn, 1) := by decide +kernel
theorem dX5_powerDistance_0 : decode cX5_powerDistance 0 = .ok (.aload_n 0, 1) := by decide +kernel
theorem dX5_powerDistance_1 : decode cX5_powerDistance 1 = .ok (.getfield 19, 3) := by decide +kernel
theorem dX5_powerDistance_4 : decode cX5_powerDistance 4 = .ok (.iload_n 1, 1) := by decide +kernel
theorem dX5_powerDistance_5 : decode cX5_powerDistance 5 = .ok (.invokevirtual 104, 3) := by decide +kernel
theorem dX5_powerDistance_8 : decode cX5_powerDistance 8 = .ok (.ifCond .ne 5, 3) := by decide +kernel
theorem dX5_powerDistance_11 : decode cX5_powerDistance 11 = .ok (.iconst (-1), 1) := by decide +kernel
theorem dX5_powerDistance_12 : decode cX5_powerDistance 12 = .ok (.ireturn, 1) := by decide +kernel
theorem dX5_powerDistance_13 : decode cX5_powerDistance 13 = .ok (.iload_n 2, 1) := by decide +kernel
theorem dX5_powerDistance_14 : decode cX5_powerDistance 14 = .ok (.iload_n 3, 1) := by decide +kernel
theorem dX5_powerDistance_15 : decode cX5_powerDistance 15 = .ok (.invokestatic 116, 3) := by decide +kernel
theorem dX5_powerDistance_18 : decode cX5_powerDistance 18 = .ok (.ifCond .ne 6, 3) := by decide +kernel
theorem dX5_powerDistance_21 : decode cX5_powerDistance 21 = .ok (.bipush (-2), 2) := by decide +kernel
theorem dX5_powerDistance_23 : decode cX5_powerDistance 23 = .ok (.ireturn, 1) := by decide +kernel
theorem dX5_powerDistance_24 : decode cX5_powerDistance 24 = .ok (.aload_n 0, 1) := by decide +kernel
theorem dX5_powerDistance_25 : decode cX5_powerDistance 25 = .ok (.getfield 19, 3) := by decide +kernel
theorem dX5_powerDistance_28 : decode cX5_powerDistance 28 = .ok (.iload_n 1, 1) := by decide +kernel
theorem dX5_powerDistance_29 : decode cX5_powerDistance 29 = .ok (.iload_n 2, 1) := by decide +kernel
theorem dX5_powerDistance_30 : decode cX5_powerDistance 30 = .ok (.iload_n 3, 1) := by decide +kernel
theorem dX5_powerDistance_31 : decode cX5_powerDistance 31 = .ok (.invokevirtual 120, 3) := by decide +kernel
theorem dX5_powerDistance_34 : decode cX5_powerDistance 34 = .ok (.sipush 1000, 3) := by decide +kernel
theorem dX5_powerDistance_37 : decode cX5_powerDistance 37 = .ok (.iadd, 1) := by decide +kernel
theorem dX5_powerDistance_38 : decode cX5_powerDistance 38 = .ok (.ireturn, 1) := by decide +kernel
theorem dX5_owner_0 : decode cX5_owner 0 = .ok (.iload_n 1, 1) := by decide +kernel
theorem dX5_owner_1 : decode cX5_owner 1 = .ok (.iload_n 2, 1) := by decide +kernel
theorem dX5_owner_2 : decode cX5_owner 2 = .ok (.invokestatic 116, 3) := by decide +kernel
theorem dX5_owner_5 : decode cX5_owner 5 = .ok (.ifCond .ne 6, 3) := by decide +kernel
theorem dX5_owner_8 : decode cX5_owner 8 = .ok (.bipush (-2), 2) := by decide +kernel
theorem dX5_owner_10 : decode cX5_owner 10 = .ok (.ireturn, 1) := by decide +kernel
theorem dX5_owner_11 : decode cX5_owner 11 = .ok (.aload_n 0, 1) := by decide +kernel
theorem dX5_owner_12 : decode cX5_owner 12 = .ok (.getfield 19, 3) := by decide +kernel
theorem dX5_owner_15 : decode cX5_owner 15 = .ok (.iload_n 1, 1) := by decide +kernel
theorem dX5_owner_16 : decode cX5_owner 16 = .ok (.iload_n 2, 1) := by decide +kernel
theorem dX5_owner_17 : decode cX5_owner 17 = .ok (.invokevirtual 124, 3) := by decide +kernel
theorem dX5_owner_20 : decode cX5_owner 20 = .ok (.istore_n 3, 1) := by decide +kernel
theorem dX5_owner_21 : decode cX5_owner 21 = .ok (.iload_n 3, 1) := by decide +kernel
theorem dX5_owner_22 : decode cX5_owner 22 = .ok (.iconst (-1), 1) := by decide +kernel
theorem dX5_owner_23 : decode cX5_owner 23 = .ok (.if_icmp .ne 8, 3) := by decide +kernel
theorem dX5_owner_26 : decode cX5_owner 26 = .ok (.bipush (-9), 2) := by decide +kernel
theorem dX5_owner_28 : decode cX5_owner 28 = .ok (.goto 4, 3) := by decide +kernel
theorem dX5_owner_31 : decode cX5_owner 31 = .ok (.iload_n 3, 1) := by decide +kernel
theorem dX5_owner_32 : decode cX5_owner 32 = .ok (.ireturn, 1) := by decide +kernel
theorem dX5_size_0 : decode cX5_size 0 = .ok (.aload_n 0, 1) := by decide +kernel
theorem dX5_size_1 : decode cX5_size 1 = .ok (.getfield 19, 3) := by decide +kernel
theorem dX5_size_4 : decode cX5_size 4 = .ok (.iload_n 1, 1) := by decide +kernel
theorem dX5_size_5 : decode cX5_size 5 = .ok (.invokevirtual 104, 3) := by decide +kernel
theorem dX5_size_8 : decode cX5_size 8 = .ok (.ifCond .ne 5, 3) := by decide +kernel
theorem dX5_size_11 : decode cX5_size 11 = .ok (.iconst (-1), 1) := by decide +kernel
theorem dX5_size_12 : decode cX5_size 12 = .ok (.ireturn, 1) := by decide +kernel
theorem dX5_size_13 : decode cX5_size 13 = .ok (.aload_n 0, 1) := by decide +kernel
theorem dX5_size_14 : decode cX5_size 14 = .ok (.getfield 19, 3) := by decide +kernel
theorem dX5_size_17 : decode cX5_size 17 = .ok (.iload_n 1, 1) := by decide +kernel
theorem dX5_size_18 : decode cX5_size 18 = .ok (.invokevirtual 128, 3) := by decide +kernel
theorem dX5_size_21 : decode cX5_size 21 = .ok (.ireturn, 1) := by decide +kernel
theorem dX5_add_0 : decode cX5_add 0 = .ok (.iload_n 1, 1) := by decide +kernel
theorem dX5_add_1 : decode cX5_add 1 = .ok (.iload_n 2, 1) := by decide +kernel
theorem dX5_add_2 : decode cX5_add 2 = .ok (.invokestatic 116, 3) := by decide +kernel
theorem dX5_add_5 : decode cX5_add 5 = .ok (.ifCond .eq 10, 3) := by decide +kernel
theorem dX5_add_8 : decode cX5_add 8 = .ok (.iload_n 3, 1) := by decide +kernel
theorem dX5_add_9 : decode cX5_add 9 = .ok (.invokestatic 132, 3) := by decide +kernel
theorem dX5_add_12 : decode cX5_add 12 = .ok (.ifCond .ne 6, 3) := by decide +kernel
theorem dX5_add_15 : decode cX5_add 15 = .ok (.bipush (-2), 2) := by decide +kernel
theorem dX5_add_17 : decode cX5_add 17 = .ok (.ireturn, 1) := by decide +kernel
theorem dX5_add_18 : decode cX5_add 18 = .ok (.aload_n 0, 1) := by decide +kernel
theorem dX5_add_19 : decode cX5_add 19 = .ok (.getfield 19, 3) := by decide +kernel
theorem dX5_add_22 : decode cX5_add 22 = .ok (.getfield 101, 3) := by decide +kernel
theorem dX5_add_25 : decode cX5_add 25 = .ok (.bipush 10, 2) := by decide +kernel
theorem dX5_add_27 : decode cX5_add 27 = .ok (.if_icmp .lt 6, 3) := by decide +kernel
theorem dX5_add_30 : decode cX5_add 30 = .ok (.bipush (-4), 2) := by decide +kernel
theorem dX5_add_32 : decode cX5_add 32 = .ok (.ireturn, 1) := by decide +kernel
theorem dX5_add_33 : decode cX5_add 33 = .ok (.aload_n 0, 1) := by decide +kernel
theorem dX5_add_34 : decode cX5_add 34 = .ok (.invokevirtual 135, 3) := by decide +kernel
theorem dX5_add_37 : decode cX5_add 37 = .ok (.aload_n 0, 1) := by decide +kernel
theorem dX5_add_38 : decode cX5_add 38 = .ok (.getfield 19, 3) := by decide +kernel
theorem dX5_add_41 : decode cX5_add 41 = .ok (.iload_n 1, 1) := by decide +kernel
theorem dX5_add_42 : decode cX5_add 42 = .ok (.iload_n 2, 1) := by decide +kernel
theorem dX5_add_43 : decode cX5_add 43 = .ok (.iload_n 3, 1) := by decide +kernel
theorem dX5_add_44 : decode cX5_add 44 = .ok (.invokevirtual 138, 3) := by decide +kernel
theorem dX5_add_47 : decode cX5_add 47 = .ok (.aload_n 0, 1) := by decide +kernel
theorem dX5_add_48 : decode cX5_add 48 = .ok (.getfield 19, 3) := by decide +kernel
theorem dX5_add_51 : decode cX5_add 51 = .ok (.getfield 101, 3) := by decide +kernel
theorem dX5_add_54 : decode cX5_add 54 = .ok (.iconst 1, 1) := by decide +kernel
theorem dX5_add_55 : decode cX5_add 55 = .ok (.isub, 1) := by decide +kernel
theorem dX5_add_56 : decode cX5_add 56 = .ok (.ireturn, 1) := by decide +kernel
theorem dX5_remove_0 : decode cX5_remove 0 = .ok (.aload_n 0, 1) := by decide +kernel
theorem dX5_remove_1 : decode cX5_remove 1 = .ok (.getfield 19, 3) := by decide +kernel
theorem dX5_remove_4 : decode cX5_remove 4 = .ok (.iload_n 1, 1) := by decide +kernel
theorem dX5_remove_5 : decode cX5_remove 5 = .ok (.invokevirtual 104, 3) := by decide +kernel
theorem dX5_remove_8 : decode cX5_remove 8 = .ok (.ifCond .ne 5, 3) := by decide +kernel
theorem dX5_remove_11 : decode cX5_remove 11 = .ok (.iconst (-1), 1) := by decide +kernel
theorem dX5_remove_12 : decode cX5_remove 12 = .ok (.ireturn, 1) := by decide +kernel
theorem dX5_remove_13 : decode cX5_remove 13 = .ok (.aload_n 0, 1) := by decide +kernel
theorem dX5_remove_14 : decode cX5_remove 14 = .ok (.invokevirtual 135, 3) := by decide +kernel
theorem dX5_remove_17 : decode cX5_remove 17 = .ok (.aload_n 0, 1) := by decide +kernel
theorem dX5_remove_18 : decode cX5_remove 18 = .ok (.getfield 19, 3) := by decide +kernel
theorem dX5_remove_21 : decode cX5_remove 21 = .ok (.iload_n 1, 1) := by decide +kernel
theorem dX5_remove_22 : decode cX5_remove 22 = .ok (.invokevirtual 141, 3) := by decide +kernel
theorem dX5_remove_25 : decode cX5_remove 25 = .ok (.aload_n 0, 1) := by decide +kernel
theorem dX5_remove_26 : decode cX5_remove 26 = .ok (.getfield 19, 3) := by decide +kernel
theorem dX5_remove_29 : decode cX5_remove 29 = .ok (.getfield 101, 3) := by decide +kernel
theorem dX5_remove_32 : decode cX5_remove 32 = .ok (.ireturn, 1) := by decide +kernel
theorem dX5_move_0 : decode cX5_move 0 = .ok (.aload_n 0, 1) := by decide +kernel
theorem dX5_move_1 : decode cX5_move 1 = .ok (.getfield 19, 3) := by decide +kernel
theorem dX5_move_4 : decode cX5_move 4 = .ok (.iload_n 1, 1) := by decide +kernel
theorem dX5_move_5 : decode cX5_move 5 = .ok (.invokevirtual 104, 3) := by decide +kernel
theorem dX5_move_8 : decode cX5_move 8 = .ok (.ifCond .ne 5, 3) := by decide +kernel
theorem dX5_move_11 : decode cX5_move 11 = .ok (.iconst (-1), 1) := by decide +kernel
theorem dX5_move_12 : decode cX5_move 12 = .ok (.ireturn, 1) := by decide +kernel
theorem dX5_move_13 : decode cX5_move 13 = .ok (.iload_n 2, 1) := by decide +kernel
theorem dX5_move_14 : decode cX5_move 14 = .ok (.iload_n 3, 1) := by decide +kernel
theorem dX5_move_15 : decode cX5_move 15 = .ok (.invokestatic 116, 3) := by decide +kernel
theorem dX5_move_18 : decode cX5_move 18 = .ok (.ifCond .ne 6, 3) := by decide +kernel
theorem dX5_move_21 : decode cX5_move 21 = .ok (.bipush (-2), 2) := by decide +kernel
theorem dX5_move_23 : decode cX5_move 23 = .ok (.ireturn, 1) := by decide +kernel
theorem dX5_move_24 : decode cX5_move 24 = .ok (.aload_n 0, 1) := by decide +kernel
theorem dX5_move_25 : decode cX5_move 25 = .ok (.invokevirtual 135, 3) := by decide +kernel
theorem dX5_move_28 : decode cX5_move 28 = .ok (.bipush 100, 2) := by decide +kernel
theorem dX5_move_30 : decode cX5_move 30 = .ok (.aload_n 0, 1) := by decide +kernel
theorem dX5_move_31 : decode cX5_move 31 = .ok (.getfield 19, 3) := by decide +kernel
theorem dX5_move_34 : decode cX5_move 34 = .ok (.getfield 107, 3) := by decide +kernel
theorem dX5_move_37 : decode cX5_move 37 = .ok (.iload_n 1, 1) := by decide +kernel
theorem dX5_move_38 : decode cX5_move 38 = .ok (.iaload, 1) := by decide +kernel
theorem dX5_move_39 : decode cX5_move 39 = .ok (.imul, 1) := by decide +kernel
theorem dX5_move_40 : decode cX5_move 40 = .ok (.aload_n 0, 1) := by decide +kernel
theorem dX5_move_41 : decode cX5_move 41 = .ok (.getfield 19, 3) := by decide +kernel
theorem dX5_move_44 : decode cX5_move 44 = .ok (.getfield 110, 3) := by decide +kernel
theorem dX5_move_47 : decode cX5_move 47 = .ok (.iload_n 1, 1) := by decide +kernel
theorem dX5_move_48 : decode cX5_move 48 = .ok (.iaload, 1) := by decide +kernel
theorem dX5_move_49 : decode cX5_move 49 = .ok (.iadd, 1) := by decide +kernel
theorem dX5_move_50 : decode cX5_move 50 = .ok (.istore 4, 2) := by decide +kernel
theorem dX5_move_52 : decode cX5_move 52 = .ok (.aload_n 0, 1) := by decide +kernel
theorem dX5_move_53 : decode cX5_move 53 = .ok (.getfield 19, 3) := by decide +kernel
theorem dX5_move_56 : decode cX5_move 56 = .ok (.getfield 107, 3) := by decide +kernel
theorem dX5_move_59 : decode cX5_move 59 = .ok (.iload_n 1, 1) := by decide +kernel
theorem dX5_move_60 : decode cX5_move 60 = .ok (.iload_n 2, 1) := by decide +kernel
theorem dX5_move_61 : decode cX5_move 61 = .ok (.iastore, 1) := by decide +kernel
theorem dX5_move_62 : decode cX5_move 62 = .ok (.aload_n 0, 1) := by decide +kernel
theorem dX5_move_63 : decode cX5_move 63 = .ok (.getfield 19, 3) := by decide +kernel
theorem dX5_move_66 : decode cX5_move 66 = .ok (.getfield 110, 3) := by decide +kernel
theorem dX5_move_69 : decode cX5_move 69 = .ok (.iload_n 1, 1) := by decide +kernel
theorem dX5_move_70 : decode cX5_move 70 = .ok (.iload_n 3, 1) := by decide +kernel
theorem dX5_move_71 : decode cX5_move 71 = .ok (.iastore, 1) := by decide +kernel
theorem dX5_move_72 : decode cX5_move 72 = .ok (.iload 4, 2) := by decide +kernel
theorem dX5_move_74 : decode cX5_move 74 = .ok (.ireturn, 1) := by decide +kernel
theorem dX5_setWeight_0 : decode cX5_setWeight 0 = .ok (.aload_n 0, 1) := by decide +kernel
theorem dX5_setWeight_1 : decode cX5_setWeight 1 = .ok (.getfield 19, 3) := by decide +kernel
theorem dX5_setWeight_4 : decode cX5_setWeight 4 = .ok (.iload_n 1, 1) := by decide +kernel
theorem dX5_setWeight_5 : decode cX5_setWeight 5 = .ok (.invokevirtual 104, 3) := by decide +kernel
theorem dX5_setWeight_8 : decode cX5_setWeight 8 = .ok (.ifCond .ne 5, 3) := by decide +kernel
theorem dX5_setWeight_11 : decode cX5_setWeight 11 = .ok (.iconst (-1), 1) := by decide +kernel
theorem dX5_setWeight_12 : decode cX5_setWeight 12 = .ok (.ireturn, 1) := by decide +kernel
theorem dX5_setWeight_13 : decode cX5_setWeight 13 = .ok (.iload_n 2, 1) := by decide +kernel
theorem dX5_setWeight_14 : decode cX5_setWeight 14 = .ok (.invokestatic 132, 3) := by decide +kernel
theorem dX5_setWeight_17 : decode cX5_setWeight 17 = .ok (.ifCond .ne 6, 3) := by decide +kernel
theorem dX5_setWeight_20 : decode cX5_setWeight 20 = .ok (.bipush (-2), 2) := by decide +kernel
theorem dX5_setWeight_22 : decode cX5_setWeight 22 = .ok (.ireturn, 1) := by decide +kernel
theorem dX5_setWeight_23 : decode cX5_setWeight 23 = .ok (.aload_n 0, 1) := by decide +kernel
theorem dX5_setWeight_24 : decode cX5_setWeight 24 = .ok (.invokevirtual 135, 3) := by decide +kernel
theorem dX5_setWeight_27 : decode cX5_setWeight 27 = .ok (.aload_n 0, 1) := by decide +kernel
theorem dX5_setWeight_28 : decode cX5_setWeight 28 = .ok (.getfield 19, 3) := by decide +kernel
theorem dX5_setWeight_31 : decode cX5_setWeight 31 = .ok (.getfield 113, 3) := by decide +kernel
theorem dX5_setWeight_34 : decode cX5_setWeight 34 = .ok (.iload_n 1, 1) := by decide +kernel
theorem dX5_setWeight_35 : decode cX5_setWeight 35 = .ok (.iaload, 1) := by decide +kernel
theorem dX5_setWeight_36 : decode cX5_setWeight 36 = .ok (.istore_n 3, 1) := by decide +kernel
theorem dX5_setWeight_37 : decode cX5_setWeight 37 = .ok (.aload_n 0, 1) := by decide +kernel
theorem dX5_setWeight_38 : decode cX5_setWeight 38 = .ok (.getfield 19, 3) := by decide +kernel
theorem dX5_setWeight_41 : decode cX5_setWeight 41 = .ok (.getfield 113, 3) := by decide +kernel
theorem dX5_setWeight_44 : decode cX5_setWeight 44 = .ok (.iload_n 1, 1) := by decide +kernel
theorem dX5_setWeight_45 : decode cX5_setWeight 45 = .ok (.iload_n 2, 1) := by decide +kernel
theorem dX5_setWeight_46 : decode cX5_setWeight 46 = .ok (.iastore, 1) := by decide +kernel
theorem dX5_setWeight_47 : decode cX5_setWeight 47 = .ok (.iload_n 3, 1) := by decide +kernel
theorem dX5_setWeight_48 : decode cX5_setWeight 48 = .ok (.ireturn, 1) := by decide +kernel
theorem dX5_undo_0 : decode cX5_undo 0 = .ok (.aload_n 0, 1) := by decide +kernel
theorem dX5_undo_1 : decode cX5_undo 1 = .ok (.getfield 60, 3) := by decide +kernel
theorem dX5_undo_4 : decode cX5_undo 4 = .ok (.ifCond .ne 6, 3) := by decide +kernel
theorem dX5_undo_7 : decode cX5_undo 7 = .ok (.bipush (-3), 2) := by decide +kernel
theorem dX5_undo_9 : decode cX5_undo 9 = .ok (.ireturn, 1) := by decide +kernel
theorem dX5_undo_10 : decode cX5_undo 10 = .ok (.aload_n 0, 1) := by decide +kernel
theorem dX5_undo_11 : decode cX5_undo 11 = .ok (.getfield 52, 3) := by decide +kernel
theorem dX5_undo_14 : decode cX5_undo 14 = .ok (.aload_n 0, 1) := by decide +kernel
theorem dX5_undo_15 : decode cX5_undo 15 = .ok (.getfield 56, 3) := by decide +kernel
theorem dX5_undo_18 : decode cX5_undo 18 = .ok (.aaload, 1) := by decide +kernel
theorem dX5_undo_19 : decode cX5_undo 19 = .ok (.aload_n 0, 1) := by decide +kernel
theorem dX5_undo_20 : decode cX5_undo 20 = .ok (.getfield 19, 3) := by decide +kernel
theorem dX5_undo_23 : decode cX5_undo 23 = .ok (.invokestatic 145, 3) := by decide +kernel
theorem dX5_undo_26 : decode cX5_undo 26 = .ok (.aload_n 0, 1) := by decide +kernel
theorem dX5_undo_27 : decode cX5_undo 27 = .ok (.aload_n 0, 1) := by decide +kernel
theorem dX5_undo_28 : decode cX5_undo 28 = .ok (.getfield 56, 3) := by decide +kernel
theorem dX5_undo_31 : decode cX5_undo 31 = .ok (.ifCond .ne 8, 3) := by decide +kernel
theorem dX5_undo_34 : decode cX5_undo 34 = .ok (.bipush 13, 2) := by decide +kernel
theorem dX5_undo_36 : decode cX5_undo 36 = .ok (.goto 9, 3) := by decide +kernel
theorem dX5_undo_39 : decode cX5_undo 39 = .ok (.aload_n 0, 1) := by decide +kernel
theorem dX5_undo_40 : decode cX5_undo 40 = .ok (.getfield 56, 3) := by decide +kernel
theorem dX5_undo_43 : decode cX5_undo 43 = .ok (.iconst 1, 1) := by decide +kernel
theorem dX5_undo_44 : decode cX5_undo 44 = .ok (.isub, 1) := by decide +kernel
theorem dX5_undo_45 : decode cX5_undo 45 = .ok (.putfield 56, 3) := by decide +kernel
theorem dX5_undo_48 : decode cX5_undo 48 = .ok (.aload_n 0, 1) := by decide +kernel
theorem dX5_undo_49 : decode cX5_undo 49 = .ok (.dup, 1) := by decide +kernel
theorem dX5_undo_50 : decode cX5_undo 50 = .ok (.getfield 60, 3) := by decide +kernel
theorem dX5_undo_53 : decode cX5_undo 53 = .ok (.iconst 1, 1) := by decide +kernel
theorem dX5_undo_54 : decode cX5_undo 54 = .ok (.isub, 1) := by decide +kernel
theorem dX5_undo_55 : decode cX5_undo 55 = .ok (.putfield 60, 3) := by decide +kernel
theorem dX5_undo_58 : decode cX5_undo 58 = .ok (.aload_n 0, 1) := by decide +kernel
theorem dX5_undo_59 : decode cX5_undo 59 = .ok (.getfield 60, 3) := by decide +kernel
theorem dX5_undo_62 : decode cX5_undo 62 = .ok (.ireturn, 1) := by decide +kernel
theorem dX5_remember_0 : decode cX5_remember 0 = .ok (.aload_n 0, 1) := by decide +kernel
theorem dX5_remember_1 : decode cX5_remember 1 = .ok (.aload_n 0, 1) := by decide +kernel
theorem dX5_remember_2 : decode cX5_remember 2 = .ok (.getfield 56, 3) := by decide +kernel
theorem dX5_remember_5 : decode cX5_remember 5 = .ok (.bipush 13, 2) := by decide +kernel
theorem dX5_remember_7 : decode cX5_remember 7 = .ok (.if_icmp .ne 7, 3) := by decide +kernel
theorem dX5_remember_10 : decode cX5_remember 10 = .ok (.iconst 0, 1) := by decide +kernel
theorem dX5_remember_11 : decode cX5_remember 11 = .ok (.goto 9, 3) := by decide +kernel
theorem dX5_remember_14 : decode cX5_remember 14 = .ok (.aload_n 0, 1) := by decide +kernel
theorem dX5_remember_15 : decode cX5_remember 15 = .ok (.getfield 56, 3) := by decide +kernel
theorem dX5_remember_18 : decode cX5_remember 18 = .ok (.iconst 1, 1) := by decide +kernel
theorem dX5_remember_19 : decode cX5_remember 19 = .ok (.iadd, 1) := by decide +kernel
theorem dX5_remember_20 : decode cX5_remember 20 = .ok (.putfield 56, 3) := by decide +kernel
theorem dX5_remember_23 : decode cX5_remember 23 = .ok (.aload_n 0, 1) := by decide +kernel
theorem dX5_remember_24 : decode cX5_remember 24 = .ok (.getfield 19, 3) := by decide +kernel
theorem dX5_remember_27 : decode cX5_remember 27 = .ok (.aload_n 0, 1) := by decide +kernel
theorem dX5_remember_28 : decode cX5_remember 28 = .ok (.getfield 52, 3) := by decide +kernel
theorem dX5_remember_31 : decode cX5_remember 31 = .ok (.aload_n 0, 1) := by decide +kernel
theorem dX5_remember_32 : decode cX5_remember 32 = .ok (.getfield 56, 3) := by decide +kernel
theorem dX5_remember_35 : decode cX5_remember 35 = .ok (.aaload, 1) := by decide +kernel
theorem dX5_remember_36 : decode cX5_remember 36 = .ok (.invokestatic 145, 3) := by decide +kernel
theorem dX5_remember_39 : decode cX5_remember 39 = .ok (.aload_n 0, 1) := by decide +kernel
theorem dX5_remember_40 : decode cX5_remember 40 = .ok (.aload_n 0, 1) := by decide +kernel
theorem dX5_remember_41 : decode cX5_remember 41 = .ok (.getfield 60, 3) := by decide +kernel
theorem dX5_remember_44 : decode cX5_remember 44 = .ok (.iconst 1, 1) := by decide +kernel
theorem dX5_remember_45 : decode cX5_remember 45 = .ok (.iadd, 1) := by decide +kernel
theorem dX5_remember_46 : decode cX5_remember 46 = .ok (.bipush 14, 2) := by decide +kernel
theorem dX5_remember_48 : decode cX5_remember 48 = .ok (.invokestatic 149, 3) := by decide +kernel
theorem dX5_remember_51 : decode cX5_remember 51 = .ok (.putfield 60, 3) := by decide +kernel
theorem dX5_remember_54 : decode cX5_remember 54 = .ok (.return_, 1) := by decide +kernel
theorem dX5_cornerCount_0 : decode cX5_cornerCount 0 = .ok (.aload_n 0, 1) := by decide +kernel
theorem dX5_cornerCount_1 : decode cX5_cornerCount 1 = .ok (.getfield 19, 3) := by decide +kernel
theorem dX5_cornerCount_4 : decode cX5_cornerCount 4 = .ok (.iload_n 1, 1) := by decide +kernel
theorem dX5_cornerCount_5 : decode cX5_cornerCount 5 = .ok (.invokevirtual 104, 3) := by decide +kernel
theorem dX5_cornerCount_8 : decode cX5_cornerCount 8 = .ok (.ifCond .ne 5, 3) := by decide +kernel
theorem dX5_cornerCount_11 : decode cX5_cornerCount 11 = .ok (.iconst (-1), 1) := by decide +kernel
theorem dX5_cornerCount_12 : decode cX5_cornerCount 12 = .ok (.ireturn, 1) := by decide +kernel
theorem dX5_cornerCount_13 : decode cX5_cornerCount 13 = .ok (.aload_n 0, 1) := by decide +kernel
theorem dX5_cornerCount_14 : decode cX5_cornerCount 14 = .ok (.getfield 35, 3) := by decide +kernel
theorem dX5_cornerCount_17 : decode cX5_cornerCount 17 = .ok (.aload_n 0, 1) := by decide +kernel
theorem dX5_cornerCount_18 : decode cX5_cornerCount 18 = .ok (.getfield 19, 3) := by decide +kernel
theorem dX5_cornerCount_21 : decode cX5_cornerCount 21 = .ok (.iload_n 1, 1) := by decide +kernel
theorem dX5_cornerCount_22 : decode cX5_cornerCount 22 = .ok (.invokevirtual 154, 3) := by decide +kernel
theorem dX5_cornerCount_25 : decode cX5_cornerCount 25 = .ok (.aload_n 0, 1) := by decide +kernel
theorem dX5_cornerCount_26 : decode cX5_cornerCount 26 = .ok (.getfield 35, 3) := by decide +kernel
theorem dX5_cornerCount_29 : decode cX5_cornerCount 29 = .ok (.invokevirtual 158, 3) := by decide +kernel
theorem dX5_cornerCount_32 : decode cX5_cornerCount 32 = .ok (.ireturn, 1) := by decide +kernel
theorem dX5_cornerNumerator_0 : decode cX5_cornerNumerator 0 = .ok (.aload_n 0, 1) := by decide +kernel
theorem dX5_cornerNumerator_1 : decode cX5_cornerNumerator 1 = .ok (.iload_n 1, 1) := by decide +kernel
theorem dX5_cornerNumerator_2 : decode cX5_cornerNumerator 2 = .ok (.iload_n 2, 1) := by decide +kernel
theorem dX5_cornerNumerator_3 : decode cX5_cornerNumerator 3 = .ok (.iload_n 3, 1) := by decide +kernel
theorem dX5_cornerNumerator_4 : decode cX5_cornerNumerator 4 = .ok (.invokevirtual 161, 3) := by decide +kernel
theorem dX5_cornerNumerator_7 : decode cX5_cornerNumerator 7 = .ok (.istore 4, 2) := by decide +kernel
theorem dX5_cornerNumerator_9 : decode cX5_cornerNumerator 9 = .ok (.iload 4, 2) := by decide +kernel
theorem dX5_cornerNumerator_11 : decode cX5_cornerNumerator 11 = .ok (.ifCond .eq 6, 3) := by decide +kernel
theorem dX5_cornerNumerator_14 : decode cX5_cornerNumerator 14 = .ok (.iload 4, 2) := by decide +kernel
theorem dX5_cornerNumerator_16 : decode cX5_cornerNumerator 16 = .ok (.ireturn, 1) := by decide +kernel
theorem dX5_cornerNumerator_17 : decode cX5_cornerNumerator 17 = .ok (.aload_n 0, 1) := by decide +kernel
theorem dX5_cornerNumerator_18 : decode cX5_cornerNumerator 18 = .ok (.getfield 35, 3) := by decide +kernel
theorem dX5_cornerNumerator_21 : decode cX5_cornerNumerator 21 = .ok (.iload_n 2, 1) := by decide +kernel
theorem dX5_cornerNumerator_22 : decode cX5_cornerNumerator 22 = .ok (.iload_n 3, 1) := by decide +kernel
theorem dX5_cornerNumerator_23 : decode cX5_cornerNumerator 23 = .ok (.invokevirtual 164, 3) := by decide +kernel
theorem dX5_cornerNumerator_26 : decode cX5_cornerNumerator 26 = .ok (.aload_n 0, 1) := by decide +kernel
theorem dX5_cornerNumerator_27 : decode cX5_cornerNumerator 27 = .ok (.getfield 35, 3) := by decide +kernel
theorem dX5_cornerNumerator_30 : decode cX5_cornerNumerator 30 = .ok (.iload_n 2, 1) := by decide +kernel
theorem dX5_cornerNumerator_31 : decode cX5_cornerNumerator 31 = .ok (.iload_n 3, 1) := by decide +kernel
theorem dX5_cornerNumerator_32 : decode cX5_cornerNumerator 32 = .ok (.invokevirtual 167, 3) := by decide +kernel
theorem dX5_cornerNumerator_35 : decode cX5_cornerNumerator 35 = .ok (.idiv, 1) := by decide +kernel
theorem dX5_cornerNumerator_36 : decode cX5_cornerNumerator 36 = .ok (.ireturn, 1) := by decide +kernel
theorem dX5_cornerDenominator_0 : decode cX5_cornerDenominator 0 = .ok (.aload_n 0, 1) := by decide +kernel
theorem dX5_cornerDenominator_1 : decode cX5_cornerDenominator 1 = .ok (.iload_n 1, 1) := by decide +kernel
theorem dX5_cornerDenominator_2 : decode cX5_cornerDenominator 2 = .ok (.iload_n 2, 1) := by decide +kernel
theorem dX5_cornerDenominator_3 : decode cX5_cornerDenominator 3 = .ok (.iload_n 3, 1) := by decide +kernel
theorem dX5_cornerDenominator_4 : decode cX5_cornerDenominator 4 = .ok (.invokevirtual 161, 3) := by decide +kernel
theorem dX5_cornerDenominator_7 : decode cX5_cornerDenominator 7 = .ok (.istore 4, 2) := by decide +kernel
theorem dX5_cornerDenominator_9 : decode cX5_cornerDenominator 9 = .ok (.iload 4, 2) := by decide +kernel
theorem dX5_cornerDenominator_11 : decode cX5_cornerDenominator 11 = .ok (.ifCond .eq 6, 3) := by decide +kernel
theorem dX5_cornerDenominator_14 : decode cX5_cornerDenominator 14 = .ok (.iload 4, 2) := by decide +kernel
theorem dX5_cornerDenominator_16 : decode cX5_cornerDenominator 16 = .ok (.ireturn, 1) := by decide +kernel
theorem dX5_cornerDenominator_17 : decode cX5_cornerDenominator 17 = .ok (.aload_n 0, 1) := by decide +kernel
theorem dX5_cornerDenominator_18 : decode cX5_cornerDenominator 18 = .ok (.getfield 35, 3) := by decide +kernel
theorem dX5_cornerDenominator_21 : decode cX5_cornerDenominator 21 = .ok (.getfield 170, 3) := by decide +kernel
theorem dX5_cornerDenominator_24 : decode cX5_cornerDenominator 24 = .ok (.iload_n 2, 1) := by decide +kernel
theorem dX5_cornerDenominator_25 : decode cX5_cornerDenominator 25 = .ok (.iaload, 1) := by decide +kernel
theorem dX5_cornerDenominator_26 : decode cX5_cornerDenominator 26 = .ok (.aload_n 0, 1) := by decide +kernel
theorem dX5_cornerDenominator_27 : decode cX5_cornerDenominator 27 = .ok (.getfield 35, 3) := by decide +kernel
theorem dX5_cornerDenominator_30 : decode cX5_cornerDenominator 30 = .ok (.iload_n 2, 1) := by decide +kernel
theorem dX5_cornerDenominator_31 : decode cX5_cornerDenominator 31 = .ok (.iload_n 3, 1) := by decide +kernel
theorem dX5_cornerDenominator_32 : decode cX5_cornerDenominator 32 = .ok (.invokevirtual 167, 3) := by decide +kernel
theorem dX5_cornerDenominator_35 : decode cX5_cornerDenominator 35 = .ok (.idiv, 1) := by decide +kernel
theorem dX5_cornerDenominator_36 : decode cX5_cornerDenominator 36 = .ok (.ireturn, 1) := by decide +kernel
theorem dX5_problemWithCorner_0 : decode cX5_problemWithCorner 0 = .ok (.aload_n 0, 1) := by decide +kernel
theorem dX5_problemWithCorner_1 : decode cX5_problemWithCorner 1 = .ok (.getfield 19, 3) := by decide +kernel
theorem dX5_problemWithCorner_4 : decode cX5_problemWithCorner 4 = .ok (.iload_n 1, 1) := by decide +kernel
theorem dX5_problemWithCorner_5 : decode cX5_problemWithCorner 5 = .ok (.invokevirtual 104, 3) := by decide +kernel
theorem dX5_problemWithCorner_8 : decode cX5_problemWithCorner 8 = .ok (.ifCond .ne 5, 3) := by decide +kernel
theorem dX5_problemWithCorner_11 : decode cX5_problemWithCorner 11 = .ok (.iconst (-1), 1) := by decide +kernel
theorem dX5_problemWithCorner_12 : decode cX5_problemWithCorner 12 = .ok (.ireturn, 1) := by decide +kernel
theorem dX5_problemWithCorner_13 : decode cX5_problemWithCorner 13 = .ok (.aload_n 0, 1) := by decide +kernel
theorem dX5_problemWithCorner_14 : decode cX5_problemWithCorner 14 = .ok (.getfield 35, 3) := by decide +kernel
theorem dX5_problemWithCorner_17 : decode cX5_problemWithCorner 17 = .ok (.aload_n 0, 1) := by decide +kernel
theorem dX5_problemWithCorner_18 : decode cX5_problemWithCorner 18 = .ok (.getfield 19, 3) := by decide +kernel
theorem dX5_problemWithCorner_21 : decode cX5_problemWithCorner 21 = .ok (.iload_n 1, 1) := by decide +kernel
theorem dX5_problemWithCorner_22 : decode cX5_problemWithCorner 22 = .ok (.invokevirtual 154, 3) := by decide +kernel
theorem dX5_problemWithCorner_25 : decode cX5_problemWithCorner 25 = .ok (.iload_n 2, 1) := by decide +kernel
theorem dX5_problemWithCorner_26 : decode cX5_problemWithCorner 26 = .ok (.ifCond .lt 14, 3) := by decide +kernel
theorem dX5_problemWithCorner_29 : decode cX5_problemWithCorner 29 = .ok (.iload_n 2, 1) := by decide +kernel
theorem dX5_problemWithCorner_30 : decode cX5_problemWithCorner 30 = .ok (.aload_n 0, 1) := by decide +kernel
theorem dX5_problemWithCorner_31 : decode cX5_problemWithCorner 31 = .ok (.getfield 35, 3) := by decide +kernel
theorem dX5_problemWithCorner_34 : decode cX5_problemWithCorner 34 = .ok (.invokevirtual 158, 3) := by decide +kernel
theorem dX5_problemWithCorner_37 : decode cX5_problemWithCorner 37 = .ok (.if_icmp .lt 5, 3) := by decide +kernel
theorem dX5_problemWithCorner_40 : decode cX5_problemWithCorner 40 = .ok (.iconst (-1), 1) := by decide +kernel
theorem dX5_problemWithCorner_41 : decode cX5_problemWithCorner 41 = .ok (.ireturn, 1) := by decide +kernel
theorem dX5_problemWithCorner_42 : decode cX5_problemWithCorner 42 = .ok (.iload_n 3, 1) := by decide +kernel
theorem dX5_problemWithCorner_43 : decode cX5_problemWithCorner 43 = .ok (.ifCond .eq 11, 3) := by decide +kernel
theorem dX5_problemWithCorner_46 : decode cX5_problemWithCorner 46 = .ok (.iload_n 3, 1) := by decide +kernel
theorem dX5_problemWithCorner_47 : decode cX5_problemWithCorner 47 = .ok (.iconst 1, 1) := by decide +kernel
theorem dX5_problemWithCorner_48 : decode cX5_problemWithCorner 48 = .ok (.if_icmp .eq 6, 3) := by decide +kernel
theorem dX5_problemWithCorner_51 : decode cX5_problemWithCorner 51 = .ok (.bipush (-2), 2) := by decide +kernel
theorem dX5_problemWithCorner_53 : decode cX5_problemWithCorner 53 = .ok (.ireturn, 1) := by decide +kernel
theorem dX5_problemWithCorner_54 : decode cX5_problemWithCorner 54 = .ok (.aload_n 0, 1) := by decide +kernel
theorem dX5_problemWithCorner_55 : decode cX5_problemWithCorner 55 = .ok (.getfield 35, 3) := by decide +kernel
theorem dX5_problemWithCorner_58 : decode cX5_problemWithCorner 58 = .ok (.invokevirtual 173, 3) := by decide +kernel
theorem dX5_problemWithCorner_61 : decode cX5_problemWithCorner 61 = .ok (.iconst 0, 1) := by decide +kernel
theorem dX5_problemWithCorner_62 : decode cX5_problemWithCorner 62 = .ok (.ireturn, 1) := by decide +kernel
theorem dX5_hiddenSites_0 : decode cX5_hiddenSites 0 = .ok (.iconst 0, 1) := by decide +kernel
theorem dX5_hiddenSites_1 : decode cX5_hiddenSites 1 = .ok (.istore_n 1, 1) := by decide +kernel
theorem dX5_hiddenSites_2 : decode cX5_hiddenSites 2 = .ok (.iconst 0, 1) := by decide +kernel
theorem dX5_hiddenSites_3 : decode cX5_hiddenSites 3 = .ok (.istore_n 2, 1) := by decide +kernel
theorem dX5_hiddenSites_4 : decode cX5_hiddenSites 4 = .ok (.iload_n 2, 1) := by decide +kernel
theorem dX5_hiddenSites_5 : decode cX5_hiddenSites 5 = .ok (.aload_n 0, 1) := by decide +kernel
theorem dX5_hiddenSites_6 : decode cX5_hiddenSites 6 = .ok (.getfield 19, 3) := by decide +kernel
theorem dX5_hiddenSites_9 : decode cX5_hiddenSites 9 = .ok (.getfield 101, 3) := by decide +kernel
theorem dX5_hiddenSites_12 : decode cX5_hiddenSites 12 = .ok (.if_icmp .ge 30, 3) := by decide +kernel
theorem dX5_hiddenSites_15 : decode cX5_hiddenSites 15 = .ok (.aload_n 0, 1) := by decide +kernel
theorem dX5_hiddenSites_16 : decode cX5_hiddenSites 16 = .ok (.getfield 35, 3) := by decide +kernel
theorem dX5_hiddenSites_19 : decode cX5_hiddenSites 19 = .ok (.aload_n 0, 1) := by decide +kernel
theorem dX5_hiddenSites_20 : decode cX5_hiddenSites 20 = .ok (.getfield 19, 3) := by decide +kernel
theorem dX5_hiddenSites_23 : decode cX5_hiddenSites 23 = .ok (.iload_n 2, 1) := by decide +kernel
theorem dX5_hiddenSites_24 : decode cX5_hiddenSites 24 = .ok (.invokevirtual 176, 3) := by decide +kernel
theorem dX5_hiddenSites_27 : decode cX5_hiddenSites 27 = .ok (.ifCond .eq 9, 3) := by decide +kernel
theorem dX5_hiddenSites_30 : decode cX5_hiddenSites 30 = .ok (.iload_n 1, 1) := by decide +kernel
theorem dX5_hiddenSites_31 : decode cX5_hiddenSites 31 = .ok (.iconst 1, 1) := by decide +kernel
theorem dX5_hiddenSites_32 : decode cX5_hiddenSites 32 = .ok (.iload_n 2, 1) := by decide +kernel
theorem dX5_hiddenSites_33 : decode cX5_hiddenSites 33 = .ok (.ishl, 1) := by decide +kernel
theorem dX5_hiddenSites_34 : decode cX5_hiddenSites 34 = .ok (.ior, 1) := by decide +kernel
theorem dX5_hiddenSites_35 : decode cX5_hiddenSites 35 = .ok (.istore_n 1, 1) := by decide +kernel
theorem dX5_hiddenSites_36 : decode cX5_hiddenSites 36 = .ok (.iinc 2 1, 3) := by decide +kernel
theorem dX5_hiddenSites_39 : decode cX5_hiddenSites 39 = .ok (.goto (-35), 3) := by decide +kernel
theorem dX5_hiddenSites_42 : decode cX5_hiddenSites 42 = .ok (.iload_n 1, 1) := by decide +kernel
theorem dX5_hiddenSites_43 : decode cX5_hiddenSites 43 = .ok (.ireturn, 1) := by decide +kernel
theorem dX5_neighbours_0 : decode cX5_neighbours 0 = .ok (.aload_n 0, 1) := by decide +kernel
theorem dX5_neighbours_1 : decode cX5_neighbours 1 = .ok (.getfield 19, 3) := by decide +kernel
theorem dX5_neighbours_4 : decode cX5_neighbours 4 = .ok (.iload_n 1, 1) := by decide +kernel
theorem dX5_neighbours_5 : decode cX5_neighbours 5 = .ok (.invokevirtual 104, 3) := by decide +kernel
theorem dX5_neighbours_8 : decode cX5_neighbours 8 = .ok (.ifCond .ne 5, 3) := by decide +kernel
theorem dX5_neighbours_11 : decode cX5_neighbours 11 = .ok (.iconst (-1), 1) := by decide +kernel
theorem dX5_neighbours_12 : decode cX5_neighbours 12 = .ok (.ireturn, 1) := by decide +kernel
theorem dX5_neighbours_13 : decode cX5_neighbours 13 = .ok (.aload_n 0, 1) := by decide +kernel
theorem dX5_neighbours_14 : decode cX5_neighbours 14 = .ok (.invokevirtual 180, 3) := by decide +kernel
theorem dX5_neighbours_17 : decode cX5_neighbours 17 = .ok (.istore_n 2, 1) := by decide +kernel
theorem dX5_neighbours_18 : decode cX5_neighbours 18 = .ok (.iload_n 2, 1) := by decide +kernel
theorem dX5_neighbours_19 : decode cX5_neighbours 19 = .ok (.iload_n 1, 1) := by decide +kernel
theorem dX5_neighbours_20 : decode cX5_neighbours 20 = .ok (.ishr, 1) := by decide +kernel
theorem dX5_neighbours_21 : decode cX5_neighbours 21 = .ok (.iconst 1, 1) := by decide +kernel
theorem dX5_neighbours_22 : decode cX5_neighbours 22 = .ok (.iand, 1) := by decide +kernel
theorem dX5_neighbours_23 : decode cX5_neighbours 23 = .ok (.iconst 1, 1) := by decide +kernel
theorem dX5_neighbours_24 : decode cX5_neighbours 24 = .ok (.if_icmp .ne 5, 3) := by decide +kernel
theorem dX5_neighbours_27 : decode cX5_neighbours 27 = .ok (.iconst 0, 1) := by decide +kernel
theorem dX5_neighbours_28 : decode cX5_neighbours 28 = .ok (.ireturn, 1) := by decide +kernel
theorem dX5_neighbours_29 : decode cX5_neighbours 29 = .ok (.aload_n 0, 1) := by decide +kernel
theorem dX5_neighbours_30 : decode cX5_neighbours 30 = .ok (.getfield 35, 3) := by decide +kernel
theorem dX5_neighbours_33 : decode cX5_neighbours 33 = .ok (.aload_n 0, 1) := by decide +kernel
theorem dX5_neighbours_34 : decode cX5_neighbours 34 = .ok (.getfield 19, 3) := by decide +kernel
theorem dX5_neighbours_37 : decode cX5_neighbours 37 = .ok (.iload_n 1, 1) := by decide +kernel
theorem dX5_neighbours_38 : decode cX5_neighbours 38 = .ok (.invokevirtual 154, 3) := by decide +kernel
theorem dX5_neighbours_41 : decode cX5_neighbours 41 = .ok (.iconst 0, 1) := by decide +kernel
theorem dX5_neighbours_42 : decode cX5_neighbours 42 = .ok (.istore_n 3, 1) := by decide +kernel
theorem dX5_neighbours_43 : decode cX5_neighbours 43 = .ok (.iconst 0, 1) := by decide +kernel
theorem dX5_neighbours_44 : decode cX5_neighbours 44 = .ok (.istore 4, 2) := by decide +kernel
theorem dX5_neighbours_46 : decode cX5_neighbours 46 = .ok (.iload 4, 2) := by decide +kernel
theorem dX5_neighbours_48 : decode cX5_neighbours 48 = .ok (.aload_n 0, 1) := by decide +kernel
theorem dX5_neighbours_49 : decode cX5_neighbours 49 = .ok (.getfield 19, 3) := by decide +kernel
theorem dX5_neighbours_52 : decode cX5_neighbours 52 = .ok (.getfield 101, 3) := by decide +kernel
theorem dX5_neighbours_55 : decode cX5_neighbours 55 = .ok (.if_icmp .ge 44, 3) := by decide +kernel
theorem dX5_neighbours_58 : decode cX5_neighbours 58 = .ok (.iload 4, 2) := by decide +kernel
theorem dX5_neighbours_60 : decode cX5_neighbours 60 = .ok (.iload_n 1, 1) := by decide +kernel
theorem dX5_neighbours_61 : decode cX5_neighbours 61 = .ok (.if_icmp .eq 32, 3) := by decide +kernel
theorem dX5_neighbours_64 : decode cX5_neighbours 64 = .ok (.iload_n 2, 1) := by decide +kernel
theorem dX5_neighbours_65 : decode cX5_neighbours 65 = .ok (.iload 4, 2) := by decide +kernel
theorem dX5_neighbours_67 : decode cX5_neighbours 67 = .ok (.ishr, 1) := by decide +kernel
theorem dX5_neighbours_68 : decode cX5_neighbours 68 = .ok (.iconst 1, 1) := by decide +kernel
theorem dX5_neighbours_69 : decode cX5_neighbours 69 = .ok (.iand, 1) := by decide +kernel
theorem dX5_neighbours_70 : decode cX5_neighbours 70 = .ok (.ifCond .ne 23, 3) := by decide +kernel
theorem dX5_neighbours_73 : decode cX5_neighbours 73 = .ok (.aload_n 0, 1) := by decide +kernel
theorem dX5_neighbours_74 : decode cX5_neighbours 74 = .ok (.getfield 35, 3) := by decide +kernel
theorem dX5_neighbours_77 : decode cX5_neighbours 77 = .ok (.iload 4, 2) := by decide +kernel
theorem dX5_neighbours_79 : decode cX5_neighbours 79 = .ok (.invokevirtual 183, 3) := by decide +kernel
theorem dX5_neighbours_82 : decode cX5_neighbours 82 = .ok (.iconst 2, 1) := by decide +kernel
theorem dX5_neighbours_83 : decode cX5_neighbours 83 = .ok (.if_icmp .lt 10, 3) := by decide +kernel
theorem dX5_neighbours_86 : decode cX5_neighbours 86 = .ok (.iload_n 3, 1) := by decide +kernel
theorem dX5_neighbours_87 : decode cX5_neighbours 87 = .ok (.iconst 1, 1) := by decide +kernel
theorem dX5_neighbours_88 : decode cX5_neighbours 88 = .ok (.iload 4, 2) := by decide +kernel
theorem dX5_neighbours_90 : decode cX5_neighbours 90 = .ok (.ishl, 1) := by decide +kernel
theorem dX5_neighbours_91 : decode cX5_neighbours 91 = .ok (.ior, 1) := by decide +kernel
theorem dX5_neighbours_92 : decode cX5_neighbours 92 = .ok (.istore_n 3, 1) := by decide +kernel
theorem dX5_neighbours_93 : decode cX5_neighbours 93 = .ok (.iinc 4 1, 3) := by decide +kernel
theorem dX5_neighbours_96 : decode cX5_neighbours 96 = .ok (.goto (-50), 3) := by decide +kernel
theorem dX5_neighbours_99 : decode cX5_neighbours 99 = .ok (.iload_n 3, 1) := by decide +kernel
theorem dX5_neighbours_100 : decode cX5_neighbours 100 = .ok (.ireturn, 1) := by decide +kernel
theorem dX5_isTriangle_0 : decode cX5_isTriangle 0 = .ok (.aload_n 0, 1) := by decide +kernel
theorem dX5_isTriangle_1 : decode cX5_isTriangle 1 = .ok (.getfield 19, 3) := by decide +kernel
theorem dX5_isTriangle_4 : decode cX5_isTriangle 4 = .ok (.iload_n 1, 1) := by decide +kernel
theorem dX5_isTriangle_5 : decode cX5_isTriangle 5 = .ok (.invokevirtual 104, 3) := by decide +kernel
theorem dX5_isTriangle_8 : decode cX5_isTriangle 8 = .ok (.ifCond .eq 25, 3) := by decide +kernel
theorem dX5_isTriangle_11 : decode cX5_isTriangle 11 = .ok (.aload_n 0, 1) := by decide +kernel
theorem dX5_isTriangle_12 : decode cX5_isTriangle 12 = .ok (.getfield 19, 3) := by decide +kernel
theorem dX5_isTriangle_15 : decode cX5_isTriangle 15 = .ok (.iload_n 2, 1) := by decide +kernel
theorem dX5_isTriangle_16 : decode cX5_isTriangle 16 = .ok (.invokevirtual 104, 3) := by decide +kernel
theorem dX5_isTriangle_19 : decode cX5_isTriangle 19 = .ok (.ifCond .eq 14, 3) := by decide +kernel
theorem dX5_isTriangle_22 : decode cX5_isTriangle 22 = .ok (.aload_n 0, 1) := by decide +kernel
theorem dX5_isTriangle_23 : decode cX5_isTriangle 23 = .ok (.getfield 19, 3) := by decide +kernel
theorem dX5_isTriangle_26 : decode cX5_isTriangle 26 = .ok (.iload_n 3, 1) := by decide +kernel
theorem dX5_isTriangle_27 : decode cX5_isTriangle 27 = .ok (.invokevirtual 104, 3) := by decide +kernel
theorem dX5_isTriangle_30 : decode cX5_isTriangle 30 = .ok (.ifCond .ne 5, 3) := by decide +kernel
theorem dX5_isTriangle_33 : decode cX5_isTriangle 33 = .ok (.iconst (-1), 1) := by decide +kernel
theorem dX5_isTriangle_34 : decode cX5_isTriangle 34 = .ok (.ireturn, 1) := by decide +kernel
theorem dX5_isTriangle_35 : decode cX5_isTriangle 35 = .ok (.aload_n 0, 1) := by decide +kernel
theorem dX5_isTriangle_36 : decode cX5_isTriangle 36 = .ok (.getfield 26, 3) := by decide +kernel
theorem dX5_isTriangle_39 : decode cX5_isTriangle 39 = .ok (.aload_n 0, 1) := by decide +kernel
theorem dX5_isTriangle_40 : decode cX5_isTriangle 40 = .ok (.getfield 19, 3) := by decide +kernel
theorem dX5_isTriangle_43 : decode cX5_isTriangle 43 = .ok (.iload_n 1, 1) := by decide +kernel
theorem dX5_isTriangle_44 : decode cX5_isTriangle 44 = .ok (.invokevirtual 186, 3) := by decide +kernel
theorem dX5_isTriangle_47 : decode cX5_isTriangle 47 = .ok (.aload_n 0, 1) := by decide +kernel
theorem dX5_isTriangle_48 : decode cX5_isTriangle 48 = .ok (.iload_n 2, 1) := by decide +kernel
theorem dX5_isTriangle_49 : decode cX5_isTriangle 49 = .ok (.iload_n 3, 1) := by decide +kernel
theorem dX5_isTriangle_50 : decode cX5_isTriangle 50 = .ok (.invokevirtual 189, 3) := by decide +kernel
theorem dX5_isTriangle_53 : decode cX5_isTriangle 53 = .ok (.ifCond .eq 7, 3) := by decide +kernel
theorem dX5_isTriangle_56 : decode cX5_isTriangle 56 = .ok (.iconst 1, 1) := by decide +kernel
theorem dX5_isTriangle_57 : decode cX5_isTriangle 57 = .ok (.goto 4, 3) := by decide +kernel
theorem dX5_isTriangle_60 : decode cX5_isTriangle 60 = .ok (.iconst 0, 1) := by decide +kernel
theorem dX5_isTriangle_61 : decode cX5_isTriangle 61 = .ok (.ireturn, 1) := by decide +kernel
theorem dX5_triangleCount_0 : decode cX5_triangleCount 0 = .ok (.iconst 0, 1) := by decide +kernel
theorem dX5_triangleCount_1 : decode cX5_triangleCount 1 = .ok (.istore_n 1, 1) := by decide +kernel
theorem dX5_triangleCount_2 : decode cX5_triangleCount 2 = .ok (.iconst 0, 1) := by decide +kernel
theorem dX5_triangleCount_3 : decode cX5_triangleCount 3 = .ok (.istore_n 2, 1) := by decide +kernel
theorem dX5_triangleCount_4 : decode cX5_triangleCount 4 = .ok (.iload_n 2, 1) := by decide +kernel
theorem dX5_triangleCount_5 : decode cX5_triangleCount 5 = .ok (.aload_n 0, 1) := by decide +kernel
theorem dX5_triangleCount_6 : decode cX5_triangleCount 6 = .ok (.getfield 19, 3) := by decide +kernel
theorem dX5_triangleCount_9 : decode cX5_triangleCount 9 = .ok (.getfield 101, 3) := by decide +kernel
theorem dX5_triangleCount_12 : decode cX5_triangleCount 12 = .ok (.if_icmp .ge 78, 3) := by decide +kernel
theorem dX5_triangleCount_15 : decode cX5_triangleCount 15 = .ok (.aload_n 0, 1) := by decide +kernel
theorem dX5_triangleCount_16 : decode cX5_triangleCount 16 = .ok (.getfield 26, 3) := by decide +kernel
theorem dX5_triangleCount_19 : decode cX5_triangleCount 19 = .ok (.aload_n 0, 1) := by decide +kernel
theorem dX5_triangleCount_20 : decode cX5_triangleCount 20 = .ok (.getfield 19, 3) := by decide +kernel
theorem dX5_triangleCount_23 : decode cX5_triangleCount 23 = .ok (.iload_n 2, 1) := by decide +kernel
theorem dX5_triangleCount_24 : decode cX5_triangleCount 24 = .ok (.invokevirtual 186, 3) := by decide +kernel
theorem dX5_triangleCount_27 : decode cX5_triangleCount 27 = .ok (.iload_n 2, 1) := by decide +kernel
theorem dX5_triangleCount_28 : decode cX5_triangleCount 28 = .ok (.iconst 1, 1) := by decide +kernel
theorem dX5_triangleCount_29 : decode cX5_triangleCount 29 = .ok (.iadd, 1) := by decide +kernel
theorem dX5_triangleCount_30 : decode cX5_triangleCount 30 = .ok (.istore_n 3, 1) := by decide +kernel
theorem dX5_triangleCount_31 : decode cX5_triangleCount 31 = .ok (.iload_n 3, 1) := by decide +kernel
theorem dX5_triangleCount_32 : decode cX5_triangleCount 32 = .ok (.aload_n 0, 1) := by decide +kernel
theorem dX5_triangleCount_33 : decode cX5_triangleCount 33 = .ok (.getfield 19, 3) := by decide +kernel
theorem dX5_triangleCount_36 : decode cX5_triangleCount 36 = .ok (.getfield 101, 3) := by decide +kernel
theorem dX5_triangleCount_39 : decode cX5_triangleCount 39 = .ok (.if_icmp .ge 45, 3) := by decide +kernel
theorem dX5_triangleCount_42 : decode cX5_triangleCount 42 = .ok (.iload_n 3, 1) := by decide +kernel
theorem dX5_triangleCount_43 : decode cX5_triangleCount 43 = .ok (.iconst 1, 1) := by decide +kernel
theorem dX5_triangleCount_44 : decode cX5_triangleCount 44 = .ok (.iadd, 1) := by decide +kernel
theorem dX5_triangleCount_45 : decode cX5_triangleCount 45 = .ok (.istore 4, 2) := by decide +kernel
theorem dX5_triangleCount_47 : decode cX5_triangleCount 47 = .ok (.iload 4, 2) := by decide +kernel
theorem dX5_triangleCount_49 : decode cX5_triangleCount 49 = .ok (.aload_n 0, 1) := by decide +kernel
theorem dX5_triangleCount_50 : decode cX5_triangleCount 50 = .ok (.getfield 19, 3) := by decide +kernel
theorem dX5_triangleCount_53 : decode cX5_triangleCount 53 = .ok (.getfield 101, 3) := by decide +kernel
theorem dX5_triangleCount_56 : decode cX5_triangleCount 56 = .ok (.if_icmp .ge 22, 3) := by decide +kernel
theorem dX5_triangleCount_59 : decode cX5_triangleCount 59 = .ok (.aload_n 0, 1) := by decide +kernel
theorem dX5_triangleCount_60 : decode cX5_triangleCount 60 = .ok (.iload_n 3, 1) := by decide +kernel
theorem dX5_triangleCount_61 : decode cX5_triangleCount 61 = .ok (.iload 4, 2) := by decide +kernel
theorem dX5_triangleCount_63 : decode cX5_triangleCount 63 = .ok (.invokevirtual 189, 3) := by decide +kernel
theorem dX5_triangleCount_66 : decode cX5_triangleCount 66 = .ok (.ifCond .eq 6, 3) := by decide +kernel
theorem dX5_triangleCount_69 : decode cX5_triangleCount 69 = .ok (.iinc 1 1, 3) := by decide +kernel
theorem dX5_triangleCount_72 : decode cX5_triangleCount 72 = .ok (.iinc 4 1, 3) := by decide +kernel
theorem dX5_triangleCount_75 : decode cX5_triangleCount 75 = .ok (.goto (-28), 3) := by decide +kernel
theorem dX5_triangleCount_78 : decode cX5_triangleCount 78 = .ok (.iinc 3 1, 3) := by decide +kernel
theorem dX5_triangleCount_81 : decode cX5_triangleCount 81 = .ok (.goto (-50), 3) := by decide +kernel
theorem dX5_triangleCount_84 : decode cX5_triangleCount 84 = .ok (.iinc 2 1, 3) := by decide +kernel
theorem dX5_triangleCount_87 : decode cX5_triangleCount 87 = .ok (.goto (-83), 3) := by decide +kernel
theorem dX5_triangleCount_90 : decode cX5_triangleCount 90 = .ok (.iload_n 1, 1) := by decide +kernel
theorem dX5_triangleCount_91 : decode cX5_triangleCount 91 = .ok (.ireturn, 1) := by decide +kernel
theorem dX5_conflicts_0 : decode cX5_conflicts 0 = .ok (.iload_n 1, 1) := by decide +kernel
theorem dX5_conflicts_1 : decode cX5_conflicts 1 = .ok (.iload_n 2, 1) := by decide +kernel
theorem dX5_conflicts_2 : decode cX5_conflicts 2 = .ok (.invokestatic 116, 3) := by decide +kernel
theorem dX5_conflicts_5 : decode cX5_conflicts 5 = .ok (.ifCond .eq 10, 3) := by decide +kernel
theorem dX5_conflicts_8 : decode cX5_conflicts 8 = .ok (.iload_n 3, 1) := by decide +kernel
theorem dX5_conflicts_9 : decode cX5_conflicts 9 = .ok (.invokestatic 132, 3) := by decide +kernel
theorem dX5_conflicts_12 : decode cX5_conflicts 12 = .ok (.ifCond .ne 6, 3) := by decide +kernel
theorem dX5_conflicts_15 : decode cX5_conflicts 15 = .ok (.bipush (-2), 2) := by decide +kernel
theorem dX5_conflicts_17 : decode cX5_conflicts 17 = .ok (.ireturn, 1) := by decide +kernel
theorem dX5_conflicts_18 : decode cX5_conflicts 18 = .ok (.iconst 0, 1) := by decide +kernel
theorem dX5_conflicts_19 : decode cX5_conflicts 19 = .ok (.istore 4, 2) := by decide +kernel
theorem dX5_conflicts_21 : decode cX5_conflicts 21 = .ok (.iconst 0, 1) := by decide +kernel
theorem dX5_conflicts_22 : decode cX5_conflicts 22 = .ok (.istore 5, 2) := by decide +kernel
theorem dX5_conflicts_24 : decode cX5_conflicts 24 = .ok (.iload 5, 2) := by decide +kernel
theorem dX5_conflicts_26 : decode cX5_conflicts 26 = .ok (.aload_n 0, 1) := by decide +kernel
theorem dX5_conflicts_27 : decode cX5_conflicts 27 = .ok (.getfield 19, 3) := by decide +kernel
theorem dX5_conflicts_30 : decode cX5_conflicts 30 = .ok (.getfield 101, 3) := by decide +kernel
theorem dX5_conflicts_33 : decode cX5_conflicts 33 = .ok (.if_icmp .ge 96, 3) := by decide +kernel
theorem dX5_conflicts_36 : decode cX5_conflicts 36 = .ok (.aload_n 0, 1) := by decide +kernel
theorem dX5_conflicts_37 : decode cX5_conflicts 37 = .ok (.getfield 26, 3) := by decide +kernel
theorem dX5_conflicts_40 : decode cX5_conflicts 40 = .ok (.aload_n 0, 1) := by decide +kernel
theorem dX5_conflicts_41 : decode cX5_conflicts 41 = .ok (.getfield 19, 3) := by decide +kernel
theorem dX5_conflicts_44 : decode cX5_conflicts 44 = .ok (.iload 5, 2) := by decide +kernel
theorem dX5_conflicts_46 : decode cX5_conflicts 46 = .ok (.invokevirtual 186, 3) := by decide +kernel
theorem dX5_conflicts_49 : decode cX5_conflicts 49 = .ok (.iload 5, 2) := by decide +kernel
theorem dX5_conflicts_51 : decode cX5_conflicts 51 = .ok (.iconst 1, 1) := by decide +kernel
theorem dX5_conflicts_52 : decode cX5_conflicts 52 = .ok (.iadd, 1) := by decide +kernel
theorem dX5_conflicts_53 : decode cX5_conflicts 53 = .ok (.istore 6, 2) := by decide +kernel
theorem dX5_conflicts_55 : decode cX5_conflicts 55 = .ok (.iload 6, 2) := by decide +kernel
theorem dX5_conflicts_57 : decode cX5_conflicts 57 = .ok (.aload_n 0, 1) := by decide +kernel
theorem dX5_conflicts_58 : decode cX5_conflicts 58 = .ok (.getfield 19, 3) := by decide +kernel
theorem dX5_conflicts_61 : decode cX5_conflicts 61 = .ok (.getfield 101, 3) := by decide +kernel
theorem dX5_conflicts_64 : decode cX5_conflicts 64 = .ok (.if_icmp .ge 59, 3) := by decide +kernel
theorem dX5_conflicts_67 : decode cX5_conflicts 67 = .ok (.iload 6, 2) := by decide +kernel
theorem dX5_conflicts_69 : decode cX5_conflicts 69 = .ok (.iconst 1, 1) := by decide +kernel
theorem dX5_conflicts_70 : decode cX5_conflicts 70 = .ok (.iadd, 1) := by decide +kernel
theorem dX5_conflicts_71 : decode cX5_conflicts 71 = .ok (.istore 7, 2) := by decide +kernel
theorem dX5_conflicts_73 : decode cX5_conflicts 73 = .ok (.iload 7, 2) := by decide +kernel
theorem dX5_conflicts_75 : decode cX5_conflicts 75 = .ok (.aload_n 0, 1) := by decide +kernel
theorem dX5_conflicts_76 : decode cX5_conflicts 76 = .ok (.getfield 19, 3) := by decide +kernel
theorem dX5_conflicts_79 : decode cX5_conflicts 79 = .ok (.getfield 101, 3) := by decide +kernel
theorem dX5_conflicts_82 : decode cX5_conflicts 82 = .ok (.if_icmp .ge 35, 3) := by decide +kernel
theorem dX5_conflicts_85 : decode cX5_conflicts 85 = .ok (.aload_n 0, 1) := by decide +kernel
theorem dX5_conflicts_86 : decode cX5_conflicts 86 = .ok (.iload 6, 2) := by decide +kernel
theorem dX5_conflicts_88 : decode cX5_conflicts 88 = .ok (.iload 7, 2) := by decide +kernel
theorem dX5_conflicts_90 : decode cX5_conflicts 90 = .ok (.invokevirtual 189, 3) := by decide +kernel
theorem dX5_conflicts_93 : decode cX5_conflicts 93 = .ok (.ifCond .eq 18, 3) := by decide +kernel
theorem dX5_conflicts_96 : decode cX5_conflicts 96 = .ok (.aload_n 0, 1) := by decide +kernel
theorem dX5_conflicts_97 : decode cX5_conflicts 97 = .ok (.iload 5, 2) := by decide +kernel
theorem dX5_conflicts_99 : decode cX5_conflicts 99 = .ok (.iload_n 1, 1) := by decide +kernel
theorem dX5_conflicts_100 : decode cX5_conflicts 100 = .ok (.iload_n 2, 1) := by decide +kernel
theorem dX5_conflicts_101 : decode cX5_conflicts 101 = .ok (.iload_n 3, 1) := by decide +kernel
theorem dX5_conflicts_102 : decode cX5_conflicts 102 = .ok (.invokevirtual 192, 3) := by decide +kernel
theorem dX5_conflicts_105 : decode cX5_conflicts 105 = .ok (.ifCond .eq 6, 3) := by decide +kernel
theorem dX5_conflicts_108 : decode cX5_conflicts 108 = .ok (.iinc 4 1, 3) := by decide +kernel
theorem dX5_conflicts_111 : decode cX5_conflicts 111 = .ok (.iinc 7 1, 3) := by decide +kernel
theorem dX5_conflicts_114 : decode cX5_conflicts 114 = .ok (.goto (-41), 3) := by decide +kernel
theorem dX5_conflicts_117 : decode cX5_conflicts 117 = .ok (.iinc 6 1, 3) := by decide +kernel
theorem dX5_conflicts_120 : decode cX5_conflicts 120 = .ok (.goto (-65), 3) := by decide +kernel
theorem dX5_conflicts_123 : decode cX5_conflicts 123 = .ok (.iinc 5 1, 3) := by decide +kernel
theorem dX5_conflicts_126 : decode cX5_conflicts 126 = .ok (.goto (-102), 3) := by decide +kernel
theorem dX5_conflicts_129 : decode cX5_conflicts 129 = .ok (.iload 4, 2) := by decide +kernel
theorem dX5_conflicts_131 : decode cX5_conflicts 131 = .ok (.ireturn, 1) := by decide +kernel
theorem dX5_formTriangle_0 : decode cX5_formTriangle 0 = .ok (.aload_n 0, 1) := by decide +kernel
theorem dX5_formTriangle_1 : decode cX5_formTriangle 1 = .ok (.getfield 26, 3) := by decide +kernel
theorem dX5_formTriangle_4 : decode cX5_formTriangle 4 = .ok (.iload_n 1, 1) := by decide +kernel
theorem dX5_formTriangle_5 : decode cX5_formTriangle 5 = .ok (.iload_n 2, 1) := by decide +kernel
theorem dX5_formTriangle_6 : decode cX5_formTriangle 6 = .ok (.invokevirtual 196, 3) := by decide +kernel
theorem dX5_formTriangle_9 : decode cX5_formTriangle 9 = .ok (.ifCond .eq 17, 3) := by decide +kernel
theorem dX5_formTriangle_12 : decode cX5_formTriangle 12 = .ok (.aload_n 0, 1) := by decide +kernel
theorem dX5_formTriangle_13 : decode cX5_formTriangle 13 = .ok (.getfield 26, 3) := by decide +kernel
theorem dX5_formTriangle_16 : decode cX5_formTriangle 16 = .ok (.invokevirtual 199, 3) := by decide +kernel
theorem dX5_formTriangle_19 : decode cX5_formTriangle 19 = .ok (.ifCond .eq 7, 3) := by decide +kernel
theorem dX5_formTriangle_22 : decode cX5_formTriangle 22 = .ok (.iconst 1, 1) := by decide +kernel
theorem dX5_formTriangle_23 : decode cX5_formTriangle 23 = .ok (.goto 4, 3) := by decide +kernel
theorem dX5_formTriangle_26 : decode cX5_formTriangle 26 = .ok (.iconst 0, 1) := by decide +kernel
theorem dX5_formTriangle_27 : decode cX5_formTriangle 27 = .ok (.ireturn, 1) := by decide +kernel
theorem dX5_newcomerIsNearer_0 : decode cX5_newcomerIsNearer 0 = .ok (.iconst 2, 1) := by decide +kernel
theorem dX5_newcomerIsNearer_1 : decode cX5_newcomerIsNearer 1 = .ok (.iload_n 2, 1) := by decide +kernel
theorem dX5_newcomerIsNearer_2 : decode cX5_newcomerIsNearer 2 = .ok (.aload_n 0, 1) := by decide +kernel
theorem dX5_newcomerIsNearer_3 : decode cX5_newcomerIsNearer 3 = .ok (.getfield 19, 3) := by decide +kernel
theorem dX5_newcomerIsNearer_6 : decode cX5_newcomerIsNearer 6 = .ok (.getfield 107, 3) := by decide +kernel
theorem dX5_newcomerIsNearer_9 : decode cX5_newcomerIsNearer 9 = .ok (.iload_n 1, 1) := by decide +kernel
theorem dX5_newcomerIsNearer_10 : decode cX5_newcomerIsNearer 10 = .ok (.iaload, 1) := by decide +kernel
theorem dX5_newcomerIsNearer_11 : decode cX5_newcomerIsNearer 11 = .ok (.isub, 1) := by decide +kernel
theorem dX5_newcomerIsNearer_12 : decode cX5_newcomerIsNearer 12 = .ok (.imul, 1) := by decide +kernel
theorem dX5_newcomerIsNearer_13 : decode cX5_newcomerIsNearer 13 = .ok (.istore 5, 2) := by decide +kernel
theorem dX5_newcomerIsNearer_15 : decode cX5_newcomerIsNearer 15 = .ok (.iconst 2, 1) := by decide +kernel
theorem dX5_newcomerIsNearer_16 : decode cX5_newcomerIsNearer 16 = .ok (.iload_n 3, 1) := by decide +kernel
theorem dX5_newcomerIsNearer_17 : decode cX5_newcomerIsNearer 17 = .ok (.aload_n 0, 1) := by decide +kernel
theorem dX5_newcomerIsNearer_18 : decode cX5_newcomerIsNearer 18 = .ok (.getfield 19, 3) := by decide +kernel
theorem dX5_newcomerIsNearer_21 : decode cX5_newcomerIsNearer 21 = .ok (.getfield 110, 3) := by decide +kernel
theorem dX5_newcomerIsNearer_24 : decode cX5_newcomerIsNearer 24 = .ok (.iload_n 1, 1) := by decide +kernel
theorem dX5_newcomerIsNearer_25 : decode cX5_newcomerIsNearer 25 = .ok (.iaload, 1) := by decide +kernel
theorem dX5_newcomerIsNearer_26 : decode cX5_newcomerIsNearer 26 = .ok (.isub, 1) := by decide +kernel
theorem dX5_newcomerIsNearer_27 : decode cX5_newcomerIsNearer 27 = .ok (.imul, 1) := by decide +kernel
theorem dX5_newcomerIsNearer_28 : decode cX5_newcomerIsNearer 28 = .ok (.istore 6, 2) := by decide +kernel
theorem dX5_newcomerIsNearer_30 : decode cX5_newcomerIsNearer 30 = .ok (.iload_n 2, 1) := by decide +kernel
theorem dX5_newcomerIsNearer_31 : decode cX5_newcomerIsNearer 31 = .ok (.iload_n 3, 1) := by decide +kernel
theorem dX5_newcomerIsNearer_32 : decode cX5_newcomerIsNearer 32 = .ok (.iload 4, 2) := by decide +kernel
theorem dX5_newcomerIsNearer_34 : decode cX5_newcomerIsNearer 34 = .ok (.invokestatic 203, 3) := by decide +kernel
theorem dX5_newcomerIsNearer_37 : decode cX5_newcomerIsNearer 37 = .ok (.aload_n 0, 1) := by decide +kernel
theorem dX5_newcomerIsNearer_38 : decode cX5_newcomerIsNearer 38 = .ok (.getfield 19, 3) := by decide +kernel
theorem dX5_newcomerIsNearer_41 : decode cX5_newcomerIsNearer 41 = .ok (.iload_n 1, 1) := by decide +kernel
theorem dX5_newcomerIsNearer_42 : decode cX5_newcomerIsNearer 42 = .ok (.invokevirtual 206, 3) := by decide +kernel
theorem dX5_newcomerIsNearer_45 : decode cX5_newcomerIsNearer 45 = .ok (.isub, 1) := by decide +kernel
theorem dX5_newcomerIsNearer_46 : decode cX5_newcomerIsNearer 46 = .ok (.istore 7, 2) := by decide +kernel
theorem dX5_newcomerIsNearer_48 : decode cX5_newcomerIsNearer 48 = .ok (.aload_n 0, 1) := by decide +kernel
theorem dX5_newcomerIsNearer_49 : decode cX5_newcomerIsNearer 49 = .ok (.getfield 26, 3) := by decide +kernel
theorem dX5_newcomerIsNearer_52 : decode cX5_newcomerIsNearer 52 = .ok (.iload 5, 2) := by decide +kernel
theorem dX5_newcomerIsNearer_54 : decode cX5_newcomerIsNearer 54 = .ok (.iload 6, 2) := by decide +kernel
theorem dX5_newcomerIsNearer_56 : decode cX5_newcomerIsNearer 56 = .ok (.iload 7, 2) := by decide +kernel
theorem dX5_newcomerIsNearer_58 : decode cX5_newcomerIsNearer 58 = .ok (.invokevirtual 209, 3) := by decide +kernel
theorem dX5_newcomerIsNearer_61 : decode cX5_newcomerIsNearer 61 = .ok (.ireturn, 1) := by decide +kernel
theorem dX5_alongSegment_0 : decode cX5_alongSegment 0 = .ok (.iload_n 1, 1) := by decide +kernel
theorem dX5_alongSegment_1 : decode cX5_alongSegment 1 = .ok (.iload_n 2, 1) := by decide +kernel
theorem dX5_alongSegment_2 : decode cX5_alongSegment 2 = .ok (.invokestatic 116, 3) := by decide +kernel
theorem dX5_alongSegment_5 : decode cX5_alongSegment 5 = .ok (.ifCond .eq 12, 3) := by decide +kernel
theorem dX5_alongSegment_8 : decode cX5_alongSegment 8 = .ok (.iload_n 3, 1) := by decide +kernel
theorem dX5_alongSegment_9 : decode cX5_alongSegment 9 = .ok (.iload 4, 2) := by decide +kernel
theorem dX5_alongSegment_11 : decode cX5_alongSegment 11 = .ok (.invokestatic 116, 3) := by decide +kernel
theorem dX5_alongSegment_14 : decode cX5_alongSegment 14 = .ok (.ifCond .ne 6, 3) := by decide +kernel
theorem dX5_alongSegment_17 : decode cX5_alongSegment 17 = .ok (.bipush (-2), 2) := by decide +kernel
theorem dX5_alongSegment_19 : decode cX5_alongSegment 19 = .ok (.ireturn, 1) := by decide +kernel
theorem dX5_alongSegment_20 : decode cX5_alongSegment 20 = .ok (.iconst 0, 1) := by decide +kernel
theorem dX5_alongSegment_21 : decode cX5_alongSegment 21 = .ok (.istore 5, 2) := by decide +kernel
theorem dX5_alongSegment_23 : decode cX5_alongSegment 23 = .ok (.iconst 0, 1) := by decide +kernel
theorem dX5_alongSegment_24 : decode cX5_alongSegment 24 = .ok (.istore 6, 2) := by decide +kernel
theorem dX5_alongSegment_26 : decode cX5_alongSegment 26 = .ok (.iload 6, 2) := by decide +kernel
theorem dX5_alongSegment_28 : decode cX5_alongSegment 28 = .ok (.aload_n 0, 1) := by decide +kernel
theorem dX5_alongSegment_29 : decode cX5_alongSegment 29 = .ok (.getfield 19, 3) := by decide +kernel
theorem dX5_alongSegment_32 : decode cX5_alongSegment 32 = .ok (.getfield 101, 3) := by decide +kernel
theorem dX5_alongSegment_35 : decode cX5_alongSegment 35 = .ok (.if_icmp .ge 46, 3) := by decide +kernel
theorem dX5_alongSegment_38 : decode cX5_alongSegment 38 = .ok (.aload_n 0, 1) := by decide +kernel
theorem dX5_alongSegment_39 : decode cX5_alongSegment 39 = .ok (.getfield 26, 3) := by decide +kernel
theorem dX5_alongSegment_42 : decode cX5_alongSegment 42 = .ok (.aload_n 0, 1) := by decide +kernel
theorem dX5_alongSegment_43 : decode cX5_alongSegment 43 = .ok (.getfield 19, 3) := by decide +kernel
theorem dX5_alongSegment_46 : decode cX5_alongSegment 46 = .ok (.iload 6, 2) := by decide +kernel
theorem dX5_alongSegment_48 : decode cX5_alongSegment 48 = .ok (.invokevirtual 186, 3) := by decide +kernel
theorem dX5_alongSegment_51 : decode cX5_alongSegment 51 = .ok (.aload_n 0, 1) := by decide +kernel
theorem dX5_alongSegment_52 : decode cX5_alongSegment 52 = .ok (.getfield 26, 3) := by decide +kernel
theorem dX5_alongSegment_55 : decode cX5_alongSegment 55 = .ok (.iload_n 1, 1) := by decide +kernel
theorem dX5_alongSegment_56 : decode cX5_alongSegment 56 = .ok (.iload_n 2, 1) := by decide +kernel
theorem dX5_alongSegment_57 : decode cX5_alongSegment 57 = .ok (.iload_n 3, 1) := by decide +kernel
theorem dX5_alongSegment_58 : decode cX5_alongSegment 58 = .ok (.iload 4, 2) := by decide +kernel
theorem dX5_alongSegment_60 : decode cX5_alongSegment 60 = .ok (.invokevirtual 213, 3) := by decide +kernel
theorem dX5_alongSegment_63 : decode cX5_alongSegment 63 = .ok (.ifCond .eq 12, 3) := by decide +kernel
theorem dX5_alongSegment_66 : decode cX5_alongSegment 66 = .ok (.iload 5, 2) := by decide +kernel
theorem dX5_alongSegment_68 : decode cX5_alongSegment 68 = .ok (.iconst 1, 1) := by decide +kernel
theorem dX5_alongSegment_69 : decode cX5_alongSegment 69 = .ok (.iload 6, 2) := by decide +kernel
theorem dX5_alongSegment_71 : decode cX5_alongSegment 71 = .ok (.ishl, 1) := by decide +kernel
theorem dX5_alongSegment_72 : decode cX5_alongSegment 72 = .ok (.ior, 1) := by decide +kernel
theorem dX5_alongSegment_73 : decode cX5_alongSegment 73 = .ok (.istore 5, 2) := by decide +kernel
theorem dX5_alongSegment_75 : decode cX5_alongSegment 75 = .ok (.iinc 6 1, 3) := by decide +kernel
theorem dX5_alongSegment_78 : decode cX5_alongSegment 78 = .ok (.goto (-52), 3) := by decide +kernel
theorem dX5_alongSegment_81 : decode cX5_alongSegment 81 = .ok (.iload 5, 2) := by decide +kernel
theorem dX5_alongSegment_83 : decode cX5_alongSegment 83 = .ok (.ireturn, 1) := by decide +kernel
theorem dX5_weightForSize_0 : decode cX5_weightForSize 0 = .ok (.aload_n 0, 1) := by decide +kernel
theorem dX5_weightForSize_1 : decode cX5_weightForSize 1 = .ok (.getfield 19, 3) := by decide +kernel
theorem dX5_weightForSize_4 : decode cX5_weightForSize 4 = .ok (.iload_n 1, 1) := by decide +kernel
theorem dX5_weightForSize_5 : decode cX5_weightForSize 5 = .ok (.invokevirtual 104, 3) := by decide +kernel
theorem dX5_weightForSize_8 : decode cX5_weightForSize 8 = .ok (.ifCond .ne 5, 3) := by decide +kernel
theorem dX5_weightForSize_11 : decode cX5_weightForSize 11 = .ok (.iconst (-1), 1) := by decide +kernel
theorem dX5_weightForSize_12 : decode cX5_weightForSize 12 = .ok (.ireturn, 1) := by decide +kernel
theorem dX5_weightForSize_13 : decode cX5_weightForSize 13 = .ok (.iload_n 2, 1) := by decide +kernel
theorem dX5_weightForSize_14 : decode cX5_weightForSize 14 = .ok (.ifCond .lt 10, 3) := by decide +kernel
theorem dX5_weightForSize_17 : decode cX5_weightForSize 17 = .ok (.iload_n 2, 1) := by decide +kernel
theorem dX5_weightForSize_18 : decode cX5_weightForSize 18 = .ok (.sipush 441, 3) := by decide +kernel
theorem dX5_weightForSize_21 : decode cX5_weightForSize 21 = .ok (.if_icmp .le 6, 3) := by decide +kernel
theorem dX5_weightForSize_24 : decode cX5_weightForSize 24 = .ok (.bipush (-2), 2) := by decide +kernel
theorem dX5_weightForSize_26 : decode cX5_weightForSize 26 = .ok (.ireturn, 1) := by decide +kernel
theorem dX5_weightForSize_27 : decode cX5_weightForSize 27 = .ok (.aload_n 0, 1) := by decide +kernel
theorem dX5_weightForSize_28 : decode cX5_weightForSize 28 = .ok (.iload_n 1, 1) := by decide +kernel
theorem dX5_weightForSize_29 : decode cX5_weightForSize 29 = .ok (.invokevirtual 216, 3) := by decide +kernel
theorem dX5_weightForSize_32 : decode cX5_weightForSize 32 = .ok (.iconst 0, 1) := by decide +kernel
theorem dX5_weightForSize_33 : decode cX5_weightForSize 33 = .ok (.istore_n 3, 1) := by decide +kernel
theorem dX5_weightForSize_34 : decode cX5_weightForSize 34 = .ok (.iconst 0, 1) := by decide +kernel
theorem dX5_weightForSize_35 : decode cX5_weightForSize 35 = .ok (.istore 4, 2) := by decide +kernel
theorem dX5_weightForSize_37 : decode cX5_weightForSize 37 = .ok (.iload 4, 2) := by decide +kernel
theorem dX5_weightForSize_39 : decode cX5_weightForSize 39 = .ok (.aload_n 0, 1) := by decide +kernel
theorem dX5_weightForSize_40 : decode cX5_weightForSize 40 = .ok (.getfield 83, 3) := by decide +kernel
theorem dX5_weightForSize_43 : decode cX5_weightForSize 43 = .ok (.arraylength, 1) := by decide +kernel
theorem dX5_weightForSize_44 : decode cX5_weightForSize 44 = .ok (.if_icmp .ge 27, 3) := by decide +kernel
theorem dX5_weightForSize_47 : decode cX5_weightForSize 47 = .ok (.iload_n 3, 1) := by decide +kernel
theorem dX5_weightForSize_48 : decode cX5_weightForSize 48 = .ok (.aload_n 0, 1) := by decide +kernel
theorem dX5_weightForSize_49 : decode cX5_weightForSize 49 = .ok (.getfield 83, 3) := by decide +kernel
theorem dX5_weightForSize_52 : decode cX5_weightForSize 52 = .ok (.iload 4, 2) := by decide +kernel
theorem dX5_weightForSize_54 : decode cX5_weightForSize 54 = .ok (.iaload, 1) := by decide +kernel
theorem dX5_weightForSize_55 : decode cX5_weightForSize 55 = .ok (.iadd, 1) := by decide +kernel
theorem dX5_weightForSize_56 : decode cX5_weightForSize 56 = .ok (.istore_n 3, 1) := by decide +kernel
theorem dX5_weightForSize_57 : decode cX5_weightForSize 57 = .ok (.iload_n 3, 1) := by decide +kernel
theorem dX5_weightForSize_58 : decode cX5_weightForSize 58 = .ok (.iload_n 2, 1) := by decide +kernel
theorem dX5_weightForSize_59 : decode cX5_weightForSize 59 = .ok (.if_icmp .lt 6, 3) := by decide +kernel
theorem dX5_weightForSize_62 : decode cX5_weightForSize 62 = .ok (.iload 4, 2) := by decide +kernel
theorem dX5_weightForSize_64 : decode cX5_weightForSize 64 = .ok (.ireturn, 1) := by decide +kernel
theorem dX5_weightForSize_65 : decode cX5_weightForSize 65 = .ok (.iinc 4 1, 3) := by decide +kernel
theorem dX5_weightForSize_68 : decode cX5_weightForSize 68 = .ok (.goto (-31), 3) := by decide +kernel
theorem dX5_weightForSize_71 : decode cX5_weightForSize 71 = .ok (.bipush (-9), 2) := by decide +kernel
theorem dX5_weightForSize_73 : decode cX5_weightForSize 73 = .ok (.ireturn, 1) := by decide +kernel
theorem dX5_countPointsByWeight_0 : decode cX5_countPointsByWeight 0 = .ok (.iconst 0, 1) := by decide +kernel
theorem dX5_countPointsByWeight_1 : decode cX5_countPointsByWeight 1 = .ok (.istore_n 2, 1) := by decide +kernel
theorem dX5_countPointsByWeight_2 : decode cX5_countPointsByWeight 2 = .ok (.iload_n 2, 1) := by decide +kernel
theorem dX5_countPointsByWeight_3 : decode cX5_countPointsByWeight 3 = .ok (.aload_n 0, 1) := by decide +kernel
theorem dX5_countPointsByWeight_4 : decode cX5_countPointsByWeight 4 = .ok (.getfield 83, 3) := by decide +kernel
theorem dX5_countPointsByWeight_7 : decode cX5_countPointsByWeight 7 = .ok (.arraylength, 1) := by decide +kernel
theorem dX5_countPointsByWeight_8 : decode cX5_countPointsByWeight 8 = .ok (.if_icmp .ge 16, 3) := by decide +kernel
theorem dX5_countPointsByWeight_11 : decode cX5_countPointsByWeight 11 = .ok (.aload_n 0, 1) := by decide +kernel
theorem dX5_countPointsByWeight_12 : decode cX5_countPointsByWeight 12 = .ok (.getfield 83, 3) := by decide +kernel
theorem dX5_countPointsByWeight_15 : decode cX5_countPointsByWeight 15 = .ok (.iload_n 2, 1) := by decide +kernel
theorem dX5_countPointsByWeight_16 : decode cX5_countPointsByWeight 16 = .ok (.iconst 0, 1) := by decide +kernel
theorem dX5_countPointsByWeight_17 : decode cX5_countPointsByWeight 17 = .ok (.iastore, 1) := by decide +kernel
theorem dX5_countPointsByWeight_18 : decode cX5_countPointsByWeight 18 = .ok (.iinc 2 1, 3) := by decide +kernel
theorem dX5_countPointsByWeight_21 : decode cX5_countPointsByWeight 21 = .ok (.goto (-19), 3) := by decide +kernel
theorem dX5_countPointsByWeight_24 : decode cX5_countPointsByWeight 24 = .ok (.iconst 0, 1) := by decide +kernel
theorem dX5_countPointsByWeight_25 : decode cX5_countPointsByWeight 25 = .ok (.istore_n 2, 1) := by decide +kernel
theorem dX5_countPointsByWeight_26 : decode cX5_countPointsByWeight 26 = .ok (.iload_n 2, 1) := by decide +kernel
theorem dX5_countPointsByWeight_27 : decode cX5_countPointsByWeight 27 = .ok (.bipush 20, 2) := by decide +kernel
theorem dX5_countPointsByWeight_29 : decode cX5_countPointsByWeight 29 = .ok (.if_icmp .gt 61, 3) := by decide +kernel
theorem dX5_countPointsByWeight_32 : decode cX5_countPointsByWeight 32 = .ok (.iconst 0, 1) := by decide +kernel
theorem dX5_countPointsByWeight_33 : decode cX5_countPointsByWeight 33 = .ok (.istore_n 3, 1) := by decide +kernel
theorem dX5_countPointsByWeight_34 : decode cX5_countPointsByWeight 34 = .ok (.iload_n 3, 1) := by decide +kernel
theorem dX5_countPointsByWeight_35 : decode cX5_countPointsByWeight 35 = .ok (.bipush 20, 2) := by decide +kernel
theorem dX5_countPointsByWeight_37 : decode cX5_countPointsByWeight 37 = .ok (.if_icmp .gt 47, 3) := by decide +kernel
theorem dX5_countPointsByWeight_40 : decode cX5_countPointsByWeight 40 = .ok (.aload_n 0, 1) := by decide +kernel
theorem dX5_countPointsByWeight_41 : decode cX5_countPointsByWeight 41 = .ok (.getfield 19, 3) := by decide +kernel
theorem dX5_countPointsByWeight_44 : decode cX5_countPointsByWeight 44 = .ok (.iload_n 1, 1) := by decide +kernel
theorem dX5_countPointsByWeight_45 : decode cX5_countPointsByWeight 45 = .ok (.iload_n 2, 1) := by decide +kernel
theorem dX5_countPointsByWeight_46 : decode cX5_countPointsByWeight 46 = .ok (.iload_n 3, 1) := by decide +kernel
theorem dX5_countPointsByWeight_47 : decode cX5_countPointsByWeight 47 = .ok (.invokevirtual 219, 3) := by decide +kernel
theorem dX5_countPointsByWeight_50 : decode cX5_countPointsByWeight 50 = .ok (.istore 4, 2) := by decide +kernel
theorem dX5_countPointsByWeight_52 : decode cX5_countPointsByWeight 52 = .ok (.iload 4, 2) := by decide +kernel
theorem dX5_countPointsByWeight_54 : decode cX5_countPointsByWeight 54 = .ok (.ifCond .lt 24, 3) := by decide +kernel
theorem dX5_countPointsByWeight_57 : decode cX5_countPointsByWeight 57 = .ok (.iload 4, 2) := by decide +kernel
theorem dX5_countPointsByWeight_59 : decode cX5_countPointsByWeight 59 = .ok (.aload_n 0, 1) := by decide +kernel
theorem dX5_countPointsByWeight_60 : decode cX5_countPointsByWeight 60 = .ok (.getfield 83, 3) := by decide +kernel
theorem dX5_countPointsByWeight_63 : decode cX5_countPointsByWeight 63 = .ok (.arraylength, 1) := by decide +kernel
theorem dX5_countPointsByWeight_64 : decode cX5_countPointsByWeight 64 = .ok (.if_icmp .ge 14, 3) := by decide +kernel
theorem dX5_countPointsByWeight_67 : decode cX5_countPointsByWeight 67 = .ok (.aload_n 0, 1) := by decide +kernel
theorem dX5_countPointsByWeight_68 : decode cX5_countPointsByWeight 68 = .ok (.getfield 83, 3) := by decide +kernel
theorem dX5_countPointsByWeight_71 : decode cX5_countPointsByWeight 71 = .ok (.iload 4, 2) := by decide +kernel
theorem dX5_countPointsByWeight_73 : decode cX5_countPointsByWeight 73 = .ok (.dup2, 1) := by decide +kernel
theorem dX5_countPointsByWeight_74 : decode cX5_countPointsByWeight 74 = .ok (.iaload, 1) := by decide +kernel
theorem dX5_countPointsByWeight_75 : decode cX5_countPointsByWeight 75 = .ok (.iconst 1, 1) := by decide +kernel
theorem dX5_countPointsByWeight_76 : decode cX5_countPointsByWeight 76 = .ok (.iadd, 1) := by decide +kernel
theorem dX5_countPointsByWeight_77 : decode cX5_countPointsByWeight 77 = .ok (.iastore, 1) := by decide +kernel
theorem dX5_countPointsByWeight_78 : decode cX5_countPointsByWeight 78 = .ok (.iinc 3 1, 3) := by decide +kernel
theorem dX5_countPointsByWeight_81 : decode cX5_countPointsByWeight 81 = .ok (.goto (-47), 3) := by decide +kernel
theorem dX5_countPointsByWeight_84 : decode cX5_countPointsByWeight 84 = .ok (.iinc 2 1, 3) := by decide +kernel
theorem dX5_countPointsByWeight_87 : decode cX5_countPointsByWeight 87 = .ok (.goto (-61), 3) := by decide +kernel
theorem dX5_countPointsByWeight_90 : decode cX5_countPointsByWeight 90 = .ok (.return_, 1) := by decide +kernel
theorem dX5_observe_0 : decode cX5_observe 0 = .ok (.iload_n 1, 1) := by decide +kernel
theorem dX5_observe_1 : decode cX5_observe 1 = .ok (.iload_n 2, 1) := by decide +kernel
theorem dX5_observe_2 : decode cX5_observe 2 = .ok (.invokestatic 116, 3) := by decide +kernel
theorem dX5_observe_5 : decode cX5_observe 5 = .ok (.ifCond .eq 13, 3) := by decide +kernel
theorem dX5_observe_8 : decode cX5_observe 8 = .ok (.iload_n 3, 1) := by decide +kernel
theorem dX5_observe_9 : decode cX5_observe 9 = .ok (.ifCond .lt 9, 3) := by decide +kernel
theorem dX5_observe_12 : decode cX5_observe 12 = .ok (.iload_n 3, 1) := by decide +kernel
theorem dX5_observe_13 : decode cX5_observe 13 = .ok (.bipush 10, 2) := by decide +kernel
theorem dX5_observe_15 : decode cX5_observe 15 = .ok (.if_icmp .lt 6, 3) := by decide +kernel
theorem dX5_observe_18 : decode cX5_observe 18 = .ok (.bipush (-2), 2) := by decide +kernel
theorem dX5_observe_20 : decode cX5_observe 20 = .ok (.ireturn, 1) := by decide +kernel
theorem dX5_observe_21 : decode cX5_observe 21 = .ok (.aload_n 0, 1) := by decide +kernel
theorem dX5_observe_22 : decode cX5_observe 22 = .ok (.getfield 80, 3) := by decide +kernel
theorem dX5_observe_25 : decode cX5_observe 25 = .ok (.bipush 6, 2) := by decide +kernel
theorem dX5_observe_27 : decode cX5_observe 27 = .ok (.if_icmp .lt 6, 3) := by decide +kernel
theorem dX5_observe_30 : decode cX5_observe 30 = .ok (.bipush (-4), 2) := by decide +kernel
theorem dX5_observe_32 : decode cX5_observe 32 = .ok (.ireturn, 1) := by decide +kernel
theorem dX5_observe_33 : decode cX5_observe 33 = .ok (.aload_n 0, 1) := by decide +kernel
theorem dX5_observe_34 : decode cX5_observe 34 = .ok (.getfield 70, 3) := by decide +kernel
theorem dX5_observe_37 : decode cX5_observe 37 = .ok (.aload_n 0, 1) := by decide +kernel
theorem dX5_observe_38 : decode cX5_observe 38 = .ok (.getfield 80, 3) := by decide +kernel
theorem dX5_observe_41 : decode cX5_observe 41 = .ok (.iload_n 1, 1) := by decide +kernel
theorem dX5_observe_42 : decode cX5_observe 42 = .ok (.iastore, 1) := by decide +kernel
theorem dX5_observe_43 : decode cX5_observe 43 = .ok (.aload_n 0, 1) := by decide +kernel
theorem dX5_observe_44 : decode cX5_observe 44 = .ok (.getfield 74, 3) := by decide +kernel
theorem dX5_observe_47 : decode cX5_observe 47 = .ok (.aload_n 0, 1) := by decide +kernel
theorem dX5_observe_48 : decode cX5_observe 48 = .ok (.getfield 80, 3) := by decide +kernel
theorem dX5_observe_51 : decode cX5_observe 51 = .ok (.iload_n 2, 1) := by decide +kernel
theorem dX5_observe_52 : decode cX5_observe 52 = .ok (.iastore, 1) := by decide +kernel
theorem dX5_observe_53 : decode cX5_observe 53 = .ok (.aload_n 0, 1) := by decide +kernel
theorem dX5_observe_54 : decode cX5_observe 54 = .ok (.getfield 77, 3) := by decide +kernel
theorem dX5_observe_57 : decode cX5_observe 57 = .ok (.aload_n 0, 1) := by decide +kernel
theorem dX5_observe_58 : decode cX5_observe 58 = .ok (.getfield 80, 3) := by decide +kernel
theorem dX5_observe_61 : decode cX5_observe 61 = .ok (.iload_n 3, 1) := by decide +kernel
theorem dX5_observe_62 : decode cX5_observe 62 = .ok (.iastore, 1) := by decide +kernel
theorem dX5_observe_63 : decode cX5_observe 63 = .ok (.aload_n 0, 1) := by decide +kernel
theorem dX5_observe_64 : decode cX5_observe 64 = .ok (.dup, 1) := by decide +kernel
theorem dX5_observe_65 : decode cX5_observe 65 = .ok (.getfield 80, 3) := by decide +kernel
theorem dX5_observe_68 : decode cX5_observe 68 = .ok (.iconst 1, 1) := by decide +kernel
theorem dX5_observe_69 : decode cX5_observe 69 = .ok (.iadd, 1) := by decide +kernel
theorem dX5_observe_70 : decode cX5_observe 70 = .ok (.putfield 80, 3) := by decide +kernel
theorem dX5_observe_73 : decode cX5_observe 73 = .ok (.aload_n 0, 1) := by decide +kernel
theorem dX5_observe_74 : decode cX5_observe 74 = .ok (.getfield 80, 3) := by decide +kernel
theorem dX5_observe_77 : decode cX5_observe 77 = .ok (.ireturn, 1) := by decide +kernel
theorem dX5_clearObservations_0 : decode cX5_clearObservations 0 = .ok (.aload_n 0, 1) := by decide +kernel
theorem dX5_clearObservations_1 : decode cX5_clearObservations 1 = .ok (.getfield 80, 3) := by decide +kernel
theorem dX5_clearObservations_4 : decode cX5_clearObservations 4 = .ok (.istore_n 1, 1) := by decide +kernel
theorem dX5_clearObservations_5 : decode cX5_clearObservations 5 = .ok (.aload_n 0, 1) := by decide +kernel
theorem dX5_clearObservations_6 : decode cX5_clearObservations 6 = .ok (.iconst 0, 1) := by decide +kernel
theorem dX5_clearObservations_7 : decode cX5_clearObservations 7 = .ok (.putfield 80, 3) := by decide +kernel
theorem dX5_clearObservations_10 : decode cX5_clearObservations 10 = .ok (.iload_n 1, 1) := by decide +kernel
theorem dX5_clearObservations_11 : decode cX5_clearObservations 11 = .ok (.ireturn, 1) := by decide +kernel
theorem dX5_possibleWeights_0 : decode cX5_possibleWeights 0 = .ok (.aload_n 0, 1) := by decide +kernel
theorem dX5_possibleWeights_1 : decode cX5_possibleWeights 1 = .ok (.getfield 19, 3) := by decide +kernel
theorem dX5_possibleWeights_4 : decode cX5_possibleWeights 4 = .ok (.iload_n 1, 1) := by decide +kernel
theorem dX5_possibleWeights_5 : decode cX5_possibleWeights 5 = .ok (.invokevirtual 104, 3) := by decide +kernel
theorem dX5_possibleWeights_8 : decode cX5_possibleWeights 8 = .ok (.ifCond .ne 5, 3) := by decide +kernel
theorem dX5_possibleWeights_11 : decode cX5_possibleWeights 11 = .ok (.iconst (-1), 1) := by decide +kernel
theorem dX5_possibleWeights_12 : decode cX5_possibleWeights 12 = .ok (.ireturn, 1) := by decide +kernel
theorem dX5_possibleWeights_13 : decode cX5_possibleWeights 13 = .ok (.iload_n 2, 1) := by decide +kernel
theorem dX5_possibleWeights_14 : decode cX5_possibleWeights 14 = .ok (.ifCond .lt 8, 3) := by decide +kernel
theorem dX5_possibleWeights_17 : decode cX5_possibleWeights 17 = .ok (.iload_n 2, 1) := by decide +kernel
theorem dX5_possibleWeights_18 : decode cX5_possibleWeights 18 = .ok (.iconst 2, 1) := by decide +kernel
theorem dX5_possibleWeights_19 : decode cX5_possibleWeights 19 = .ok (.if_icmp .le 6, 3) := by decide +kernel
theorem dX5_possibleWeights_22 : decode cX5_possibleWeights 22 = .ok (.bipush (-2), 2) := by decide +kernel
theorem dX5_possibleWeights_24 : decode cX5_possibleWeights 24 = .ok (.ireturn, 1) := by decide +kernel
theorem dX5_possibleWeights_25 : decode cX5_possibleWeights 25 = .ok (.aload_n 0, 1) := by decide +kernel
theorem dX5_possibleWeights_26 : decode cX5_possibleWeights 26 = .ok (.iload_n 1, 1) := by decide +kernel
theorem dX5_possibleWeights_27 : decode cX5_possibleWeights 27 = .ok (.invokevirtual 222, 3) := by decide +kernel
theorem dX5_possibleWeights_30 : decode cX5_possibleWeights 30 = .ok (.istore_n 3, 1) := by decide +kernel
theorem dX5_possibleWeights_31 : decode cX5_possibleWeights 31 = .ok (.aload_n 0, 1) := by decide +kernel
theorem dX5_possibleWeights_32 : decode cX5_possibleWeights 32 = .ok (.iload_n 1, 1) := by decide +kernel
theorem dX5_possibleWeights_33 : decode cX5_possibleWeights 33 = .ok (.invokevirtual 225, 3) := by decide +kernel
theorem dX5_possibleWeights_36 : decode cX5_possibleWeights 36 = .ok (.istore 4, 2) := by decide +kernel
theorem dX5_possibleWeights_38 : decode cX5_possibleWeights 38 = .ok (.iload_n 2, 1) := by decide +kernel
theorem dX5_possibleWeights_39 : decode cX5_possibleWeights 39 = .ok (.ifCond .ne 14, 3) := by decide +kernel
theorem dX5_possibleWeights_42 : decode cX5_possibleWeights 42 = .ok (.iload 4, 2) := by decide +kernel
theorem dX5_possibleWeights_44 : decode cX5_possibleWeights 44 = .ok (.iload_n 3, 1) := by decide +kernel
theorem dX5_possibleWeights_45 : decode cX5_possibleWeights 45 = .ok (.isub, 1) := by decide +kernel
theorem dX5_possibleWeights_46 : decode cX5_possibleWeights 46 = .ok (.iconst 1, 1) := by decide +kernel
theorem dX5_possibleWeights_47 : decode cX5_possibleWeights 47 = .ok (.iadd, 1) := by decide +kernel
theorem dX5_possibleWeights_48 : decode cX5_possibleWeights 48 = .ok (.iconst 0, 1) := by decide +kernel
theorem dX5_possibleWeights_49 : decode cX5_possibleWeights 49 = .ok (.invokestatic 228, 3) := by decide +kernel
theorem dX5_possibleWeights_52 : decode cX5_possibleWeights 52 = .ok (.ireturn, 1) := by decide +kernel
theorem dX5_possibleWeights_53 : decode cX5_possibleWeights 53 = .ok (.iload_n 3, 1) := by decide +kernel
theorem dX5_possibleWeights_54 : decode cX5_possibleWeights 54 = .ok (.iload 4, 2) := by decide +kernel
theorem dX5_possibleWeights_56 : decode cX5_possibleWeights 56 = .ok (.if_icmp .le 6, 3) := by decide +kernel
theorem dX5_possibleWeights_59 : decode cX5_possibleWeights 59 = .ok (.bipush (-9), 2) := by decide +kernel
theorem dX5_possibleWeights_61 : decode cX5_possibleWeights 61 = .ok (.ireturn, 1) := by decide +kernel
theorem dX5_possibleWeights_62 : decode cX5_possibleWeights 62 = .ok (.iload_n 2, 1) := by decide +kernel
theorem dX5_possibleWeights_63 : decode cX5_possibleWeights 63 = .ok (.iconst 1, 1) := by decide +kernel
theorem dX5_possibleWeights_64 : decode cX5_possibleWeights 64 = .ok (.if_icmp .ne 7, 3) := by decide +kernel
theorem dX5_possibleWeights_67 : decode cX5_possibleWeights 67 = .ok (.iload_n 3, 1) := by decide +kernel
theorem dX5_possibleWeights_68 : decode cX5_possibleWeights 68 = .ok (.goto 5, 3) := by decide +kernel
theorem dX5_possibleWeights_71 : decode cX5_possibleWeights 71 = .ok (.iload 4, 2) := by decide +kernel
theorem dX5_possibleWeights_73 : decode cX5_possibleWeights 73 = .ok (.ireturn, 1) := by decide +kernel
theorem dX5_smallestPossibleWeight_0 : decode cX5_smallestPossibleWeight 0 = .ok (.iconst 0, 1) := by decide +kernel
theorem dX5_smallestPossibleWeight_1 : decode cX5_smallestPossibleWeight 1 = .ok (.istore_n 2, 1) := by decide +kernel
theorem dX5_smallestPossibleWeight_2 : decode cX5_smallestPossibleWeight 2 = .ok (.iconst 0, 1) := by decide +kernel
theorem dX5_smallestPossibleWeight_3 : decode cX5_smallestPossibleWeight 3 = .ok (.istore_n 3, 1) := by decide +kernel
theorem dX5_smallestPossibleWeight_4 : decode cX5_smallestPossibleWeight 4 = .ok (.iload_n 3, 1) := by decide +kernel
theorem dX5_smallestPossibleWeight_5 : decode cX5_smallestPossibleWeight 5 = .ok (.aload_n 0, 1) := by decide +kernel
theorem dX5_smallestPossibleWeight_6 : decode cX5_smallestPossibleWeight 6 = .ok (.getfield 80, 3) := by decide +kernel
theorem dX5_smallestPossibleWeight_9 : decode cX5_smallestPossibleWeight 9 = .ok (.if_icmp .ge 44, 3) := by decide +kernel
theorem dX5_smallestPossibleWeight_12 : decode cX5_smallestPossibleWeight 12 = .ok (.aload_n 0, 1) := by decide +kernel
theorem dX5_smallestPossibleWeight_13 : decode cX5_smallestPossibleWeight 13 = .ok (.getfield 77, 3) := by decide +kernel
theorem dX5_smallestPossibleWeight_16 : decode cX5_smallestPossibleWeight 16 = .ok (.iload_n 3, 1) := by decide +kernel
theorem dX5_smallestPossibleWeight_17 : decode cX5_smallestPossibleWeight 17 = .ok (.iaload, 1) := by decide +kernel
theorem dX5_smallestPossibleWeight_18 : decode cX5_smallestPossibleWeight 18 = .ok (.iload_n 1, 1) := by decide +kernel
theorem dX5_smallestPossibleWeight_19 : decode cX5_smallestPossibleWeight 19 = .ok (.if_icmp .ne 28, 3) := by decide +kernel
theorem dX5_smallestPossibleWeight_22 : decode cX5_smallestPossibleWeight 22 = .ok (.iload_n 2, 1) := by decide +kernel
theorem dX5_smallestPossibleWeight_23 : decode cX5_smallestPossibleWeight 23 = .ok (.aload_n 0, 1) := by decide +kernel
theorem dX5_smallestPossibleWeight_24 : decode cX5_smallestPossibleWeight 24 = .ok (.getfield 19, 3) := by decide +kernel
theorem dX5_smallestPossibleWeight_27 : decode cX5_smallestPossibleWeight 27 = .ok (.iload_n 1, 1) := by decide +kernel
theorem dX5_smallestPossibleWeight_28 : decode cX5_smallestPossibleWeight 28 = .ok (.aload_n 0, 1) := by decide +kernel
theorem dX5_smallestPossibleWeight_29 : decode cX5_smallestPossibleWeight 29 = .ok (.getfield 70, 3) := by decide +kernel
theorem dX5_smallestPossibleWeight_32 : decode cX5_smallestPossibleWeight 32 = .ok (.iload_n 3, 1) := by decide +kernel
theorem dX5_smallestPossibleWeight_33 : decode cX5_smallestPossibleWeight 33 = .ok (.iaload, 1) := by decide +kernel
theorem dX5_smallestPossibleWeight_34 : decode cX5_smallestPossibleWeight 34 = .ok (.aload_n 0, 1) := by decide +kernel
theorem dX5_smallestPossibleWeight_35 : decode cX5_smallestPossibleWeight 35 = .ok (.getfield 74, 3) := by decide +kernel
theorem dX5_smallestPossibleWeight_38 : decode cX5_smallestPossibleWeight 38 = .ok (.iload_n 3, 1) := by decide +kernel
theorem dX5_smallestPossibleWeight_39 : decode cX5_smallestPossibleWeight 39 = .ok (.iaload, 1) := by decide +kernel
theorem dX5_smallestPossibleWeight_40 : decode cX5_smallestPossibleWeight 40 = .ok (.invokevirtual 219, 3) := by decide +kernel
theorem dX5_smallestPossibleWeight_43 : decode cX5_smallestPossibleWeight 43 = .ok (.invokestatic 228, 3) := by decide +kernel
theorem dX5_smallestPossibleWeight_46 : decode cX5_smallestPossibleWeight 46 = .ok (.istore_n 2, 1) := by decide +kernel
theorem dX5_smallestPossibleWeight_47 : decode cX5_smallestPossibleWeight 47 = .ok (.iinc 3 1, 3) := by decide +kernel
theorem dX5_smallestPossibleWeight_50 : decode cX5_smallestPossibleWeight 50 = .ok (.goto (-46), 3) := by decide +kernel
theorem dX5_smallestPossibleWeight_53 : decode cX5_smallestPossibleWeight 53 = .ok (.iload_n 2, 1) := by decide +kernel
theorem dX5_smallestPossibleWeight_54 : decode cX5_smallestPossibleWeight 54 = .ok (.ireturn, 1) := by decide +kernel
theorem dX5_greatestPossibleWeight_0 : decode cX5_greatestPossibleWeight 0 = .ok (.sipush 400, 3) := by decide +kernel
theorem dX5_greatestPossibleWeight_3 : decode cX5_greatestPossibleWeight 3 = .ok (.istore_n 2, 1) := by decide +kernel
theorem dX5_greatestPossibleWeight_4 : decode cX5_greatestPossibleWeight 4 = .ok (.iconst 0, 1) := by decide +kernel
theorem dX5_greatestPossibleWeight_5 : decode cX5_greatestPossibleWeight 5 = .ok (.istore_n 3, 1) := by decide +kernel
theorem dX5_greatestPossibleWeight_6 : decode cX5_greatestPossibleWeight 6 = .ok (.iload_n 3, 1) := by decide +kernel
theorem dX5_greatestPossibleWeight_7 : decode cX5_greatestPossibleWeight 7 = .ok (.aload_n 0, 1) := by decide +kernel
theorem dX5_greatestPossibleWeight_8 : decode cX5_greatestPossibleWeight 8 = .ok (.getfield 80, 3) := by decide +kernel
theorem dX5_greatestPossibleWeight_11 : decode cX5_greatestPossibleWeight 11 = .ok (.if_icmp .ge 77, 3) := by decide +kernel
theorem dX5_greatestPossibleWeight_14 : decode cX5_greatestPossibleWeight 14 = .ok (.aload_n 0, 1) := by decide +kernel
theorem dX5_greatestPossibleWeight_15 : decode cX5_greatestPossibleWeight 15 = .ok (.getfield 77, 3) := by decide +kernel
theorem dX5_greatestPossibleWeight_18 : decode cX5_greatestPossibleWeight 18 = .ok (.iload_n 3, 1) := by decide +kernel
theorem dX5_greatestPossibleWeight_19 : decode cX5_greatestPossibleWeight 19 = .ok (.iaload, 1) := by decide +kernel
theorem dX5_greatestPossibleWeight_20 : decode cX5_greatestPossibleWeight 20 = .ok (.iload_n 1, 1) := by decide +kernel
theorem dX5_greatestPossibleWeight_21 : decode cX5_greatestPossibleWeight 21 = .ok (.if_icmp .eq 61, 3) := by decide +kernel
theorem dX5_greatestPossibleWeight_24 : decode cX5_greatestPossibleWeight 24 = .ok (.aload_n 0, 1) := by decide +kernel
theorem dX5_greatestPossibleWeight_25 : decode cX5_greatestPossibleWeight 25 = .ok (.getfield 19, 3) := by decide +kernel
theorem dX5_greatestPossibleWeight_28 : decode cX5_greatestPossibleWeight 28 = .ok (.iload_n 1, 1) := by decide +kernel
theorem dX5_greatestPossibleWeight_29 : decode cX5_greatestPossibleWeight 29 = .ok (.aload_n 0, 1) := by decide +kernel
theorem dX5_greatestPossibleWeight_30 : decode cX5_greatestPossibleWeight 30 = .ok (.getfield 70, 3) := by decide +kernel
theorem dX5_greatestPossibleWeight_33 : decode cX5_greatestPossibleWeight 33 = .ok (.iload_n 3, 1) := by decide +kernel
theorem dX5_greatestPossibleWeight_34 : decode cX5_greatestPossibleWeight 34 = .ok (.iaload, 1) := by decide +kernel
theorem dX5_greatestPossibleWeight_35 : decode cX5_greatestPossibleWeight 35 = .ok (.aload_n 0, 1) := by decide +kernel
theorem dX5_greatestPossibleWeight_36 : decode cX5_greatestPossibleWeight 36 = .ok (.getfield 74, 3) := by decide +kernel
theorem dX5_greatestPossibleWeight_39 : decode cX5_greatestPossibleWeight 39 = .ok (.iload_n 3, 1) := by decide +kernel
theorem dX5_greatestPossibleWeight_40 : decode cX5_greatestPossibleWeight 40 = .ok (.iaload, 1) := by decide +kernel
theorem dX5_greatestPossibleWeight_41 : decode cX5_greatestPossibleWeight 41 = .ok (.invokevirtual 231, 3) := by decide +kernel
theorem dX5_greatestPossibleWeight_44 : decode cX5_greatestPossibleWeight 44 = .ok (.aload_n 0, 1) := by decide +kernel
theorem dX5_greatestPossibleWeight_45 : decode cX5_greatestPossibleWeight 45 = .ok (.getfield 77, 3) := by decide +kernel
theorem dX5_greatestPossibleWeight_48 : decode cX5_greatestPossibleWeight 48 = .ok (.iload_n 3, 1) := by decide +kernel
theorem dX5_greatestPossibleWeight_49 : decode cX5_greatestPossibleWeight 49 = .ok (.iaload, 1) := by decide +kernel
theorem dX5_greatestPossibleWeight_50 : decode cX5_greatestPossibleWeight 50 = .ok (.if_icmp .eq 5, 3) := by decide +kernel
theorem dX5_greatestPossibleWeight_53 : decode cX5_greatestPossibleWeight 53 = .ok (.iconst (-1), 1) := by decide +kernel
theorem dX5_greatestPossibleWeight_54 : decode cX5_greatestPossibleWeight 54 = .ok (.ireturn, 1) := by decide +kernel
theorem dX5_greatestPossibleWeight_55 : decode cX5_greatestPossibleWeight 55 = .ok (.iload_n 2, 1) := by decide +kernel
theorem dX5_greatestPossibleWeight_56 : decode cX5_greatestPossibleWeight 56 = .ok (.aload_n 0, 1) := by decide +kernel
theorem dX5_greatestPossibleWeight_57 : decode cX5_greatestPossibleWeight 57 = .ok (.getfield 19, 3) := by decide +kernel
theorem dX5_greatestPossibleWeight_60 : decode cX5_greatestPossibleWeight 60 = .ok (.iload_n 1, 1) := by decide +kernel
theorem dX5_greatestPossibleWeight_61 : decode cX5_greatestPossibleWeight 61 = .ok (.aload_n 0, 1) := by decide +kernel
theorem dX5_greatestPossibleWeight_62 : decode cX5_greatestPossibleWeight 62 = .ok (.getfield 70, 3) := by decide +kernel
theorem dX5_greatestPossibleWeight_65 : decode cX5_greatestPossibleWeight 65 = .ok (.iload_n 3, 1) := by decide +kernel
theorem dX5_greatestPossibleWeight_66 : decode cX5_greatestPossibleWeight 66 = .ok (.iaload, 1) := by decide +kernel
theorem dX5_greatestPossibleWeight_67 : decode cX5_greatestPossibleWeight 67 = .ok (.aload_n 0, 1) := by decide +kernel
theorem dX5_greatestPossibleWeight_68 : decode cX5_greatestPossibleWeight 68 = .ok (.getfield 74, 3) := by decide +kernel
theorem dX5_greatestPossibleWeight_71 : decode cX5_greatestPossibleWeight 71 = .ok (.iload_n 3, 1) := by decide +kernel
theorem dX5_greatestPossibleWeight_72 : decode cX5_greatestPossibleWeight 72 = .ok (.iaload, 1) := by decide +kernel
theorem dX5_greatestPossibleWeight_73 : decode cX5_greatestPossibleWeight 73 = .ok (.invokevirtual 219, 3) := by decide +kernel
theorem dX5_greatestPossibleWeight_76 : decode cX5_greatestPossibleWeight 76 = .ok (.iconst 1, 1) := by decide +kernel
theorem dX5_greatestPossibleWeight_77 : decode cX5_greatestPossibleWeight 77 = .ok (.isub, 1) := by decide +kernel
theorem dX5_greatestPossibleWeight_78 : decode cX5_greatestPossibleWeight 78 = .ok (.invokestatic 149, 3) := by decide +kernel
theorem dX5_greatestPossibleWeight_81 : decode cX5_greatestPossibleWeight 81 = .ok (.istore_n 2, 1) := by decide +kernel
theorem dX5_greatestPossibleWeight_82 : decode cX5_greatestPossibleWeight 82 = .ok (.iinc 3 1, 3) := by decide +kernel
theorem dX5_greatestPossibleWeight_85 : decode cX5_greatestPossibleWeight 85 = .ok (.goto (-79), 3) := by decide +kernel
theorem dX5_greatestPossibleWeight_88 : decode cX5_greatestPossibleWeight 88 = .ok (.iload_n 2, 1) := by decide +kernel
theorem dX5_greatestPossibleWeight_89 : decode cX5_greatestPossibleWeight 89 = .ok (.ireturn, 1) := by decide +kernel
theorem dX5_runScript_0 : decode cX5_runScript 0 = .ok (.iload_n 1, 1) := by decide +kernel
theorem dX5_runScript_1 : decode cX5_runScript 1 = .ok (.iconst 1, 1) := by decide +kernel
theorem dX5_runScript_2 : decode cX5_runScript 2 = .ok (.if_icmp .lt 14, 3) := by decide +kernel
theorem dX5_runScript_5 : decode cX5_runScript 5 = .ok (.iload_n 1, 1) := by decide +kernel
theorem dX5_runScript_6 : decode cX5_runScript 6 = .ok (.iconst 3, 1) := by decide +kernel
theorem dX5_runScript_7 : decode cX5_runScript 7 = .ok (.if_icmp .gt 9, 3) := by decide +kernel
theorem dX5_runScript_10 : decode cX5_runScript 10 = .ok (.lload_n 2, 1) := by decide +kernel
theorem dX5_runScript_11 : decode cX5_runScript 11 = .ok (.lconst 0, 1) := by decide +kernel
theorem dX5_runScript_12 : decode cX5_runScript 12 = .ok (.lcmp, 1) := by decide +kernel
theorem dX5_runScript_13 : decode cX5_runScript 13 = .ok (.ifCond .ge 6, 3) := by decide +kernel
theorem dX5_runScript_16 : decode cX5_runScript 16 = .ok (.bipush (-2), 2) := by decide +kernel
theorem dX5_runScript_18 : decode cX5_runScript 18 = .ok (.ireturn, 1) := by decide +kernel
theorem dX5_runScript_19 : decode cX5_runScript 19 = .ok (.lload_n 2, 1) := by decide +kernel
theorem dX5_runScript_20 : decode cX5_runScript 20 = .ok (.iload_n 1, 1) := by decide +kernel
theorem dX5_runScript_21 : decode cX5_runScript 21 = .ok (.invokestatic 234, 3) := by decide +kernel
theorem dX5_runScript_24 : decode cX5_runScript 24 = .ok (.lconst 0, 1) := by decide +kernel
theorem dX5_runScript_25 : decode cX5_runScript 25 = .ok (.lcmp, 1) := by decide +kernel
theorem dX5_runScript_26 : decode cX5_runScript 26 = .ok (.ifCond .eq 6, 3) := by decide +kernel
theorem dX5_runScript_29 : decode cX5_runScript 29 = .ok (.bipush (-2), 2) := by decide +kernel
theorem dX5_runScript_31 : decode cX5_runScript 31 = .ok (.ireturn, 1) := by decide +kernel
theorem dX5_runScript_32 : decode cX5_runScript 32 = .ok (.aload_n 0, 1) := by decide +kernel
theorem dX5_runScript_33 : decode cX5_runScript 33 = .ok (.getfield 44, 3) := by decide +kernel
theorem dX5_runScript_36 : decode cX5_runScript 36 = .ok (.aload_n 0, 1) := by decide +kernel
theorem dX5_runScript_37 : decode cX5_runScript 37 = .ok (.getfield 19, 3) := by decide +kernel
theorem dX5_runScript_40 : decode cX5_runScript 40 = .ok (.invokevirtual 238, 3) := by decide +kernel
theorem dX5_runScript_43 : decode cX5_runScript 43 = .ok (.iconst 0, 1) := by decide +kernel
theorem dX5_runScript_44 : decode cX5_runScript 44 = .ok (.istore 4, 2) := by decide +kernel
theorem dX5_runScript_46 : decode cX5_runScript 46 = .ok (.iload 4, 2) := by decide +kernel
theorem dX5_runScript_48 : decode cX5_runScript 48 = .ok (.iload_n 1, 1) := by decide +kernel
theorem dX5_runScript_49 : decode cX5_runScript 49 = .ok (.if_icmp .ge 41, 3) := by decide +kernel
theorem dX5_runScript_52 : decode cX5_runScript 52 = .ok (.lload_n 2, 1) := by decide +kernel
theorem dX5_runScript_53 : decode cX5_runScript 53 = .ok (.iload_n 1, 1) := by decide +kernel
theorem dX5_runScript_54 : decode cX5_runScript 54 = .ok (.iconst 1, 1) := by decide +kernel
theorem dX5_runScript_55 : decode cX5_runScript 55 = .ok (.isub, 1) := by decide +kernel
theorem dX5_runScript_56 : decode cX5_runScript 56 = .ok (.iload 4, 2) := by decide +kernel
theorem dX5_runScript_58 : decode cX5_runScript 58 = .ok (.isub, 1) := by decide +kernel
theorem dX5_runScript_59 : decode cX5_runScript 59 = .ok (.invokestatic 234, 3) := by decide +kernel
theorem dX5_runScript_62 : decode cX5_runScript 62 = .ok (.ldc2_w 241, 3) := by decide +kernel
theorem dX5_runScript_65 : decode cX5_runScript 65 = .ok (.lrem, 1) := by decide +kernel
theorem dX5_runScript_66 : decode cX5_runScript 66 = .ok (.l2i, 1) := by decide +kernel
theorem dX5_runScript_67 : decode cX5_runScript 67 = .ok (.istore 5, 2) := by decide +kernel
theorem dX5_runScript_69 : decode cX5_runScript 69 = .ok (.aload_n 0, 1) := by decide +kernel
theorem dX5_runScript_70 : decode cX5_runScript 70 = .ok (.getfield 44, 3) := by decide +kernel
theorem dX5_runScript_73 : decode cX5_runScript 73 = .ok (.iload 5, 2) := by decide +kernel
theorem dX5_runScript_75 : decode cX5_runScript 75 = .ok (.invokevirtual 243, 3) := by decide +kernel
theorem dX5_runScript_78 : decode cX5_runScript 78 = .ok (.ifCond .ne 6, 3) := by decide +kernel
theorem dX5_runScript_81 : decode cX5_runScript 81 = .ok (.iload 4, 2) := by decide +kernel
theorem dX5_runScript_83 : decode cX5_runScript 83 = .ok (.ireturn, 1) := by decide +kernel
theorem dX5_runScript_84 : decode cX5_runScript 84 = .ok (.iinc 4 1, 3) := by decide +kernel
theorem dX5_runScript_87 : decode cX5_runScript 87 = .ok (.goto (-41), 3) := by decide +kernel
theorem dX5_runScript_90 : decode cX5_runScript 90 = .ok (.bipush (-9), 2) := by decide +kernel
theorem dX5_runScript_92 : decode cX5_runScript 92 = .ok (.ireturn, 1) := by decide +kernel
theorem dX5_groupsAbove_0 : decode cX5_groupsAbove 0 = .ok (.lload_n 0, 1) := by decide +kernel
theorem dX5_groupsAbove_1 : decode cX5_groupsAbove 1 = .ok (.lstore_n 3, 1) := by decide +kernel
theorem dX5_groupsAbove_2 : decode cX5_groupsAbove 2 = .ok (.iconst 0, 1) := by decide +kernel
theorem dX5_groupsAbove_3 : decode cX5_groupsAbove 3 = .ok (.istore 5, 2) := by decide +kernel
theorem dX5_groupsAbove_5 : decode cX5_groupsAbove 5 = .ok (.iload 5, 2) := by decide +kernel
theorem dX5_groupsAbove_7 : decode cX5_groupsAbove 7 = .ok (.iload_n 2, 1) := by decide +kernel
theorem dX5_groupsAbove_8 : decode cX5_groupsAbove 8 = .ok (.if_icmp .ge 15, 3) := by decide +kernel
theorem dX5_groupsAbove_11 : decode cX5_groupsAbove 11 = .ok (.lload_n 3, 1) := by decide +kernel
theorem dX5_groupsAbove_12 : decode cX5_groupsAbove 12 = .ok (.ldc2_w 241, 3) := by decide +kernel
theorem dX5_groupsAbove_15 : decode cX5_groupsAbove 15 = .ok (.ldiv, 1) := by decide +kernel
theorem dX5_groupsAbove_16 : decode cX5_groupsAbove 16 = .ok (.lstore_n 3, 1) := by decide +kernel
theorem dX5_groupsAbove_17 : decode cX5_groupsAbove 17 = .ok (.iinc 5 1, 3) := by decide +kernel
theorem dX5_groupsAbove_20 : decode cX5_groupsAbove 20 = .ok (.goto (-15), 3) := by decide +kernel
theorem dX5_groupsAbove_23 : decode cX5_groupsAbove 23 = .ok (.lload_n 3, 1) := by decide +kernel
theorem dX5_groupsAbove_24 : decode cX5_groupsAbove 24 = .ok (.lreturn, 1) := by decide +kernel
theorem dX5_sample_0 : decode cX5_sample 0 = .ok (.aload_n 0, 1) := by decide +kernel
theorem dX5_sample_1 : decode cX5_sample 1 = .ok (.getfield 19, 3) := by decide +kernel
theorem dX5_sample_4 : decode cX5_sample 4 = .ok (.iload_n 3, 1) := by decide +kernel
theorem dX5_sample_5 : decode cX5_sample 5 = .ok (.invokevirtual 104, 3) := by decide +kernel
theorem dX5_sample_8 : decode cX5_sample 8 = .ok (.ifCond .ne 5, 3) := by decide +kernel
theorem dX5_sample_11 : decode cX5_sample 11 = .ok (.iconst (-1), 1) := by decide +kernel
theorem dX5_sample_12 : decode cX5_sample 12 = .ok (.ireturn, 1) := by decide +kernel
theorem dX5_sample_13 : decode cX5_sample 13 = .ok (.iload 4, 2) := by decide +kernel
theorem dX5_sample_15 : decode cX5_sample 15 = .ok (.iconst 1, 1) := by decide +kernel
theorem dX5_sample_16 : decode cX5_sample 16 = .ok (.if_icmp .lt 11, 3) := by decide +kernel
theorem dX5_sample_19 : decode cX5_sample 19 = .ok (.iload 4, 2) := by decide +kernel
theorem dX5_sample_21 : decode cX5_sample 21 = .ok (.sipush 200, 3) := by decide +kernel
theorem dX5_sample_24 : decode cX5_sample 24 = .ok (.if_icmp .le 6, 3) := by decide +kernel
theorem dX5_sample_27 : decode cX5_sample 27 = .ok (.bipush (-2), 2) := by decide +kernel
theorem dX5_sample_29 : decode cX5_sample 29 = .ok (.ireturn, 1) := by decide +kernel
theorem dX5_sample_30 : decode cX5_sample 30 = .ok (.lload_n 1, 1) := by decide +kernel
theorem dX5_sample_31 : decode cX5_sample 31 = .ok (.lstore 5, 2) := by decide +kernel
theorem dX5_sample_33 : decode cX5_sample 33 = .ok (.iconst 0, 1) := by decide +kernel
theorem dX5_sample_34 : decode cX5_sample 34 = .ok (.istore 7, 2) := by decide +kernel
theorem dX5_sample_36 : decode cX5_sample 36 = .ok (.iconst 0, 1) := by decide +kernel
theorem dX5_sample_37 : decode cX5_sample 37 = .ok (.istore 8, 2) := by decide +kernel
theorem dX5_sample_39 : decode cX5_sample 39 = .ok (.iload 8, 2) := by decide +kernel
theorem dX5_sample_41 : decode cX5_sample 41 = .ok (.iload 4, 2) := by decide +kernel
theorem dX5_sample_43 : decode cX5_sample 43 = .ok (.if_icmp .ge 57, 3) := by decide +kernel
theorem dX5_sample_46 : decode cX5_sample 46 = .ok (.lload 5, 2) := by decide +kernel
theorem dX5_sample_48 : decode cX5_sample 48 = .ok (.ldc2_w 246, 3) := by decide +kernel
theorem dX5_sample_51 : decode cX5_sample 51 = .ok (.lmul, 1) := by decide +kernel
theorem dX5_sample_52 : decode cX5_sample 52 = .ok (.ldc2_w 248, 3) := by decide +kernel
theorem dX5_sample_55 : decode cX5_sample 55 = .ok (.ladd, 1) := by decide +kernel
theorem dX5_sample_56 : decode cX5_sample 56 = .ok (.lstore 5, 2) := by decide +kernel
theorem dX5_sample_58 : decode cX5_sample 58 = .ok (.lload 5, 2) := by decide +kernel
theorem dX5_sample_60 : decode cX5_sample 60 = .ok (.bipush 33, 2) := by decide +kernel
theorem dX5_sample_62 : decode cX5_sample 62 = .ok (.lushr, 1) := by decide +kernel
theorem dX5_sample_63 : decode cX5_sample 63 = .ok (.l2i, 1) := by decide +kernel
theorem dX5_sample_64 : decode cX5_sample 64 = .ok (.sipush 441, 3) := by decide +kernel
theorem dX5_sample_67 : decode cX5_sample 67 = .ok (.irem, 1) := by decide +kernel
theorem dX5_sample_68 : decode cX5_sample 68 = .ok (.istore 9, 2) := by decide +kernel
theorem dX5_sample_70 : decode cX5_sample 70 = .ok (.aload_n 0, 1) := by decide +kernel
theorem dX5_sample_71 : decode cX5_sample 71 = .ok (.getfield 19, 3) := by decide +kernel
theorem dX5_sample_74 : decode cX5_sample 74 = .ok (.iload 9, 2) := by decide +kernel
theorem dX5_sample_76 : decode cX5_sample 76 = .ok (.bipush 21, 2) := by decide +kernel
theorem dX5_sample_78 : decode cX5_sample 78 = .ok (.idiv, 1) := by decide +kernel
theorem dX5_sample_79 : decode cX5_sample 79 = .ok (.iload 9, 2) := by decide +kernel
theorem dX5_sample_81 : decode cX5_sample 81 = .ok (.bipush 21, 2) := by decide +kernel
theorem dX5_sample_83 : decode cX5_sample 83 = .ok (.irem, 1) := by decide +kernel
theorem dX5_sample_84 : decode cX5_sample 84 = .ok (.invokevirtual 124, 3) := by decide +kernel
theorem dX5_sample_87 : decode cX5_sample 87 = .ok (.iload_n 3, 1) := by decide +kernel
theorem dX5_sample_88 : decode cX5_sample 88 = .ok (.if_icmp .ne 6, 3) := by decide +kernel
theorem dX5_sample_91 : decode cX5_sample 91 = .ok (.iinc 7 1, 3) := by decide +kernel
theorem dX5_sample_94 : decode cX5_sample 94 = .ok (.iinc 8 1, 3) := by decide +kernel
theorem dX5_sample_97 : decode cX5_sample 97 = .ok (.goto (-58), 3) := by decide +kernel
theorem dX5_sample_100 : decode cX5_sample 100 = .ok (.iload 7, 2) := by decide +kernel
theorem dX5_sample_102 : decode cX5_sample 102 = .ok (.ireturn, 1) := by decide +kernel
theorem dX5_save_0 : decode cX5_save 0 = .ok (.iload_n 1, 1) := by decide +kernel
theorem dX5_save_1 : decode cX5_save 1 = .ok (.invokestatic 250, 3) := by decide +kernel
theorem dX5_save_4 : decode cX5_save 4 = .ok (.ifCond .ne 5, 3) := by decide +kernel
theorem dX5_save_7 : decode cX5_save 7 = .ok (.iconst (-1), 1) := by decide +kernel
theorem dX5_save_8 : decode cX5_save 8 = .ok (.ireturn, 1) := by decide +kernel
theorem dX5_save_9 : decode cX5_save 9 = .ok (.aload_n 0, 1) := by decide +kernel
theorem dX5_save_10 : decode cX5_save 10 = .ok (.getfield 19, 3) := by decide +kernel
theorem dX5_save_13 : decode cX5_save 13 = .ok (.aload_n 0, 1) := by decide +kernel
theorem dX5_save_14 : decode cX5_save 14 = .ok (.getfield 63, 3) := by decide +kernel
theorem dX5_save_17 : decode cX5_save 17 = .ok (.iload_n 1, 1) := by decide +kernel
theorem dX5_save_18 : decode cX5_save 18 = .ok (.aaload, 1) := by decide +kernel
theorem dX5_save_19 : decode cX5_save 19 = .ok (.invokestatic 145, 3) := by decide +kernel
theorem dX5_save_22 : decode cX5_save 22 = .ok (.aload_n 0, 1) := by decide +kernel
theorem dX5_save_23 : decode cX5_save 23 = .ok (.getfield 66, 3) := by decide +kernel
theorem dX5_save_26 : decode cX5_save 26 = .ok (.iload_n 1, 1) := by decide +kernel
theorem dX5_save_27 : decode cX5_save 27 = .ok (.iconst 1, 1) := by decide +kernel
theorem dX5_save_28 : decode cX5_save 28 = .ok (.bastore, 1) := by decide +kernel
theorem dX5_save_29 : decode cX5_save 29 = .ok (.aload_n 0, 1) := by decide +kernel
theorem dX5_save_30 : decode cX5_save 30 = .ok (.getfield 19, 3) := by decide +kernel
theorem dX5_save_33 : decode cX5_save 33 = .ok (.getfield 101, 3) := by decide +kernel
theorem dX5_save_36 : decode cX5_save 36 = .ok (.ireturn, 1) := by decide +kernel
theorem dX5_restore_0 : decode cX5_restore 0 = .ok (.iload_n 1, 1) := by decide +kernel
theorem dX5_restore_1 : decode cX5_restore 1 = .ok (.invokestatic 250, 3) := by decide +kernel
theorem dX5_restore_4 : decode cX5_restore 4 = .ok (.ifCond .ne 5, 3) := by decide +kernel
theorem dX5_restore_7 : decode cX5_restore 7 = .ok (.iconst (-1), 1) := by decide +kernel
theorem dX5_restore_8 : decode cX5_restore 8 = .ok (.ireturn, 1) := by decide +kernel
theorem dX5_restore_9 : decode cX5_restore 9 = .ok (.aload_n 0, 1) := by decide +kernel
theorem dX5_restore_10 : decode cX5_restore 10 = .ok (.getfield 66, 3) := by decide +kernel
theorem dX5_restore_13 : decode cX5_restore 13 = .ok (.iload_n 1, 1) := by decide +kernel
theorem dX5_restore_14 : decode cX5_restore 14 = .ok (.baload, 1) := by decide +kernel
theorem dX5_restore_15 : decode cX5_restore 15 = .ok (.ifCond .ne 6, 3) := by decide +kernel
theorem dX5_restore_18 : decode cX5_restore 18 = .ok (.bipush (-3), 2) := by decide +kernel
theorem dX5_restore_20 : decode cX5_restore 20 = .ok (.ireturn, 1) := by decide +kernel
theorem dX5_restore_21 : decode cX5_restore 21 = .ok (.aload_n 0, 1) := by decide +kernel
theorem dX5_restore_22 : decode cX5_restore 22 = .ok (.getfield 63, 3) := by decide +kernel
theorem dX5_restore_25 : decode cX5_restore 25 = .ok (.iload_n 1, 1) := by decide +kernel
theorem dX5_restore_26 : decode cX5_restore 26 = .ok (.aaload, 1) := by decide +kernel
theorem dX5_restore_27 : decode cX5_restore 27 = .ok (.aload_n 0, 1) := by decide +kernel
theorem dX5_restore_28 : decode cX5_restore 28 = .ok (.getfield 19, 3) := by decide +kernel
theorem dX5_restore_31 : decode cX5_restore 31 = .ok (.invokestatic 145, 3) := by decide +kernel
theorem dX5_restore_34 : decode cX5_restore 34 = .ok (.aload_n 0, 1) := by decide +kernel
theorem dX5_restore_35 : decode cX5_restore 35 = .ok (.iconst 0, 1) := by decide +kernel
theorem dX5_restore_36 : decode cX5_restore 36 = .ok (.putfield 60, 3) := by decide +kernel
theorem dX5_restore_39 : decode cX5_restore 39 = .ok (.aload_n 0, 1) := by decide +kernel
theorem dX5_restore_40 : decode cX5_restore 40 = .ok (.getfield 19, 3) := by decide +kernel
theorem dX5_restore_43 : decode cX5_restore 43 = .ok (.getfield 101, 3) := by decide +kernel
theorem dX5_restore_46 : decode cX5_restore 46 = .ok (.ireturn, 1) := by decide +kernel
theorem dX5_isSlot_0 : decode cX5_isSlot 0 = .ok (.iload_n 0, 1) := by decide +kernel
theorem dX5_isSlot_1 : decode cX5_isSlot 1 = .ok (.ifCond .lt 12, 3) := by decide +kernel
theorem dX5_isSlot_4 : decode cX5_isSlot 4 = .ok (.iload_n 0, 1) := by decide +kernel
theorem dX5_isSlot_5 : decode cX5_isSlot 5 = .ok (.iconst 2, 1) := by decide +kernel
theorem dX5_isSlot_6 : decode cX5_isSlot 6 = .ok (.if_icmp .ge 7, 3) := by decide +kernel
theorem dX5_isSlot_9 : decode cX5_isSlot 9 = .ok (.iconst 1, 1) := by decide +kernel
theorem dX5_isSlot_10 : decode cX5_isSlot 10 = .ok (.goto 4, 3) := by decide +kernel
theorem dX5_isSlot_13 : decode cX5_isSlot 13 = .ok (.iconst 0, 1) := by decide +kernel
theorem dX5_isSlot_14 : decode cX5_isSlot 14 = .ok (.ireturn, 1) := by decide +kernel
theorem dX5_inSquare_0 : decode cX5_inSquare 0 = .ok (.iload_n 0, 1) := by decide +kernel
theorem dX5_inSquare_1 : decode cX5_inSquare 1 = .ok (.ifCond .lt 23, 3) := by decide +kernel
theorem dX5_inSquare_4 : decode cX5_inSquare 4 = .ok (.iload_n 0, 1) := by decide +kernel
theorem dX5_inSquare_5 : decode cX5_inSquare 5 = .ok (.bipush 20, 2) := by decide +kernel
theorem dX5_inSquare_7 : decode cX5_inSquare 7 = .ok (.if_icmp .gt 17, 3) := by decide +kernel
theorem dX5_inSquare_10 : decode cX5_inSquare 10 = .ok (.iload_n 1, 1) := by decide +kernel
theorem dX5_inSquare_11 : decode cX5_inSquare 11 = .ok (.ifCond .lt 13, 3) := by decide +kernel
theorem dX5_inSquare_14 : decode cX5_inSquare 14 = .ok (.iload_n 1, 1) := by decide +kernel
theorem dX5_inSquare_15 : decode cX5_inSquare 15 = .ok (.bipush 20, 2) := by decide +kernel
theorem dX5_inSquare_17 : decode cX5_inSquare 17 = .ok (.if_icmp .gt 7, 3) := by decide +kernel
theorem dX5_inSquare_20 : decode cX5_inSquare 20 = .ok (.iconst 1, 1) := by decide +kernel
theorem dX5_inSquare_21 : decode cX5_inSquare 21 = .ok (.goto 4, 3) := by decide +kernel
theorem dX5_inSquare_24 : decode cX5_inSquare 24 = .ok (.iconst 0, 1) := by decide +kernel
theorem dX5_inSquare_25 : decode cX5_inSquare 25 = .ok (.ireturn, 1) := by decide +kernel
theorem dX5_isWeight_0 : decode cX5_isWeight 0 = .ok (.iload_n 0, 1) := by decide +kernel
theorem dX5_isWeight_1 : decode cX5_isWeight 1 = .ok (.ifCond .lt 14, 3) := by decide +kernel
theorem dX5_isWeight_4 : decode cX5_isWeight 4 = .ok (.iload_n 0, 1) := by decide +kernel
theorem dX5_isWeight_5 : decode cX5_isWeight 5 = .ok (.sipush 400, 3) := by decide +kernel
theorem dX5_isWeight_8 : decode cX5_isWeight 8 = .ok (.if_icmp .gt 7, 3) := by decide +kernel
theorem dX5_isWeight_11 : decode cX5_isWeight 11 = .ok (.iconst 1, 1) := by decide +kernel
theorem dX5_isWeight_12 : decode cX5_isWeight 12 = .ok (.goto 4, 3) := by decide +kernel
theorem dX5_isWeight_15 : decode cX5_isWeight 15 = .ok (.iconst 0, 1) := by decide +kernel
theorem dX5_isWeight_16 : decode cX5_isWeight 16 = .ok (.ireturn, 1) := by decide +kernel
