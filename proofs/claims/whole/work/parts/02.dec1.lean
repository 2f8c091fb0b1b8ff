theorem dX0_init_0 : decode cX0_init 0 = .ok (.aload_n 0, 1) := by decide +kernel
theorem dX0_init_1 : decode cX0_init 1 = .ok (.invokespecial 3, 3) := by decide +kernel
theorem dX0_init_4 : decode cX0_init 4 = .ok (.aload_n 0, 1) := by decide +kernel
theorem dX0_init_5 : decode cX0_init 5 = .ok (.sipush 192, 3) := by decide +kernel
theorem dX0_init_8 : decode cX0_init 8 = .ok (.newarray .int, 2) := by decide +kernel
theorem dX0_init_10 : decode cX0_init 10 = .ok (.putfield 9, 3) := by decide +kernel
theorem dX0_init_13 : decode cX0_init 13 = .ok (.aload_n 0, 1) := by decide +kernel
theorem dX0_init_14 : decode cX0_init 14 = .ok (.sipush 192, 3) := by decide +kernel
theorem dX0_init_17 : decode cX0_init 17 = .ok (.newarray .int, 2) := by decide +kernel
theorem dX0_init_19 : decode cX0_init 19 = .ok (.putfield 15, 3) := by decide +kernel
theorem dX0_init_22 : decode cX0_init 22 = .ok (.aload_n 0, 1) := by decide +kernel
theorem dX0_init_23 : decode cX0_init 23 = .ok (.sipush 192, 3) := by decide +kernel
theorem dX0_init_26 : decode cX0_init 26 = .ok (.newarray .int, 2) := by decide +kernel
theorem dX0_init_28 : decode cX0_init 28 = .ok (.putfield 18, 3) := by decide +kernel
theorem dX0_init_31 : decode cX0_init 31 = .ok (.aload_n 0, 1) := by decide +kernel
theorem dX0_init_32 : decode cX0_init 32 = .ok (.bipush 9, 2) := by decide +kernel
theorem dX0_init_34 : decode cX0_init 34 = .ok (.newarray .int, 2) := by decide +kernel
theorem dX0_init_36 : decode cX0_init 36 = .ok (.putfield 21, 3) := by decide +kernel
theorem dX0_init_39 : decode cX0_init 39 = .ok (.aload_n 0, 1) := by decide +kernel
theorem dX0_init_40 : decode cX0_init 40 = .ok (.aload_n 1, 1) := by decide +kernel
theorem dX0_init_41 : decode cX0_init 41 = .ok (.putfield 24, 3) := by decide +kernel
theorem dX0_init_44 : decode cX0_init 44 = .ok (.aload_n 0, 1) := by decide +kernel
theorem dX0_init_45 : decode cX0_init 45 = .ok (.aload_n 2, 1) := by decide +kernel
theorem dX0_init_46 : decode cX0_init 46 = .ok (.putfield 28, 3) := by decide +kernel
theorem dX0_init_49 : decode cX0_init 49 = .ok (.aload_n 0, 1) := by decide +kernel
theorem dX0_init_50 : decode cX0_init 50 = .ok (.aload_n 3, 1) := by decide +kernel
theorem dX0_init_51 : decode cX0_init 51 = .ok (.putfield 32, 3) := by decide +kernel
theorem dX0_init_54 : decode cX0_init 54 = .ok (.aload_n 0, 1) := by decide +kernel
theorem dX0_init_55 : decode cX0_init 55 = .ok (.aload 4, 2) := by decide +kernel
theorem dX0_init_57 : decode cX0_init 57 = .ok (.putfield 36, 3) := by decide +kernel
theorem dX0_init_60 : decode cX0_init 60 = .ok (.return_, 1) := by decide +kernel
theorem dX0_settle_0 : decode cX0_settle 0 = .ok (.iconst 0, 1) := by decide +kernel
theorem dX0_settle_1 : decode cX0_settle 1 = .ok (.istore_n 1, 1) := by decide +kernel
theorem dX0_settle_2 : decode cX0_settle 2 = .ok (.iload_n 1, 1) := by decide +kernel
theorem dX0_settle_3 : decode cX0_settle 3 = .ok (.aload_n 0, 1) := by decide +kernel
theorem dX0_settle_4 : decode cX0_settle 4 = .ok (.getfield 28, 3) := by decide +kernel
theorem dX0_settle_7 : decode cX0_settle 7 = .ok (.getfield 40, 3) := by decide +kernel
theorem dX0_settle_10 : decode cX0_settle 10 = .ok (.if_icmp .ge 14, 3) := by decide +kernel
theorem dX0_settle_13 : decode cX0_settle 13 = .ok (.aload_n 0, 1) := by decide +kernel
theorem dX0_settle_14 : decode cX0_settle 14 = .ok (.iload_n 1, 1) := by decide +kernel
theorem dX0_settle_15 : decode cX0_settle 15 = .ok (.invokevirtual 46, 3) := by decide +kernel
theorem dX0_settle_18 : decode cX0_settle 18 = .ok (.iinc 1 1, 3) := by decide +kernel
theorem dX0_settle_21 : decode cX0_settle 21 = .ok (.goto (-19), 3) := by decide +kernel
theorem dX0_settle_24 : decode cX0_settle 24 = .ok (.return_, 1) := by decide +kernel
theorem dX0_weigh_0 : decode cX0_weigh 0 = .ok (.iconst 0, 1) := by decide +kernel
theorem dX0_weigh_1 : decode cX0_weigh 1 = .ok (.istore_n 2, 1) := by decide +kernel
theorem dX0_weigh_2 : decode cX0_weigh 2 = .ok (.iconst 0, 1) := by decide +kernel
theorem dX0_weigh_3 : decode cX0_weigh 3 = .ok (.istore_n 3, 1) := by decide +kernel
theorem dX0_weigh_4 : decode cX0_weigh 4 = .ok (.iconst 0, 1) := by decide +kernel
theorem dX0_weigh_5 : decode cX0_weigh 5 = .ok (.istore 4, 2) := by decide +kernel
theorem dX0_weigh_7 : decode cX0_weigh 7 = .ok (.iconst 0, 1) := by decide +kernel
theorem dX0_weigh_8 : decode cX0_weigh 8 = .ok (.istore 5, 2) := by decide +kernel
theorem dX0_weigh_10 : decode cX0_weigh 10 = .ok (.iload 5, 2) := by decide +kernel
theorem dX0_weigh_12 : decode cX0_weigh 12 = .ok (.aload_n 0, 1) := by decide +kernel
theorem dX0_weigh_13 : decode cX0_weigh 13 = .ok (.getfield 28, 3) := by decide +kernel
theorem dX0_weigh_16 : decode cX0_weigh 16 = .ok (.iload_n 1, 1) := by decide +kernel
theorem dX0_weigh_17 : decode cX0_weigh 17 = .ok (.invokevirtual 50, 3) := by decide +kernel
theorem dX0_weigh_20 : decode cX0_weigh 20 = .ok (.if_icmp .ge 127, 3) := by decide +kernel
theorem dX0_weigh_23 : decode cX0_weigh 23 = .ok (.aload_n 0, 1) := by decide +kernel
theorem dX0_weigh_24 : decode cX0_weigh 24 = .ok (.getfield 28, 3) := by decide +kernel
theorem dX0_weigh_27 : decode cX0_weigh 27 = .ok (.iload_n 1, 1) := by decide +kernel
theorem dX0_weigh_28 : decode cX0_weigh 28 = .ok (.iload 5, 2) := by decide +kernel
theorem dX0_weigh_30 : decode cX0_weigh 30 = .ok (.invokevirtual 54, 3) := by decide +kernel
theorem dX0_weigh_33 : decode cX0_weigh 33 = .ok (.istore 6, 2) := by decide +kernel
theorem dX0_weigh_35 : decode cX0_weigh 35 = .ok (.aload_n 0, 1) := by decide +kernel
theorem dX0_weigh_36 : decode cX0_weigh 36 = .ok (.getfield 32, 3) := by decide +kernel
theorem dX0_weigh_39 : decode cX0_weigh 39 = .ok (.iload 6, 2) := by decide +kernel
theorem dX0_weigh_41 : decode cX0_weigh 41 = .ok (.invokevirtual 58, 3) := by decide +kernel
theorem dX0_weigh_44 : decode cX0_weigh 44 = .ok (.istore 7, 2) := by decide +kernel
theorem dX0_weigh_46 : decode cX0_weigh 46 = .ok (.aload_n 0, 1) := by decide +kernel
theorem dX0_weigh_47 : decode cX0_weigh 47 = .ok (.getfield 28, 3) := by decide +kernel
theorem dX0_weigh_50 : decode cX0_weigh 50 = .ok (.iload 6, 2) := by decide +kernel
theorem dX0_weigh_52 : decode cX0_weigh 52 = .ok (.invokevirtual 63, 3) := by decide +kernel
theorem dX0_weigh_55 : decode cX0_weigh 55 = .ok (.istore 8, 2) := by decide +kernel
theorem dX0_weigh_57 : decode cX0_weigh 57 = .ok (.iload 5, 2) := by decide +kernel
theorem dX0_weigh_59 : decode cX0_weigh 59 = .ok (.ifCond .ne 31, 3) := by decide +kernel
theorem dX0_weigh_62 : decode cX0_weigh 62 = .ok (.iload 7, 2) := by decide +kernel
theorem dX0_weigh_64 : decode cX0_weigh 64 = .ok (.iconst 0, 1) := by decide +kernel
theorem dX0_weigh_65 : decode cX0_weigh 65 = .ok (.invokestatic 66, 3) := by decide +kernel
theorem dX0_weigh_68 : decode cX0_weigh 68 = .ok (.iload 8, 2) := by decide +kernel
theorem dX0_weigh_70 : decode cX0_weigh 70 = .ok (.iadd, 1) := by decide +kernel
theorem dX0_weigh_71 : decode cX0_weigh 71 = .ok (.istore_n 2, 1) := by decide +kernel
theorem dX0_weigh_72 : decode cX0_weigh 72 = .ok (.iload 7, 2) := by decide +kernel
theorem dX0_weigh_74 : decode cX0_weigh 74 = .ok (.iconst 1, 1) := by decide +kernel
theorem dX0_weigh_75 : decode cX0_weigh 75 = .ok (.invokestatic 66, 3) := by decide +kernel
theorem dX0_weigh_78 : decode cX0_weigh 78 = .ok (.istore_n 3, 1) := by decide +kernel
theorem dX0_weigh_79 : decode cX0_weigh 79 = .ok (.iload 7, 2) := by decide +kernel
theorem dX0_weigh_81 : decode cX0_weigh 81 = .ok (.iconst 2, 1) := by decide +kernel
theorem dX0_weigh_82 : decode cX0_weigh 82 = .ok (.invokestatic 66, 3) := by decide +kernel
theorem dX0_weigh_85 : decode cX0_weigh 85 = .ok (.istore 4, 2) := by decide +kernel
theorem dX0_weigh_87 : decode cX0_weigh 87 = .ok (.goto 44, 3) := by decide +kernel
theorem dX0_weigh_90 : decode cX0_weigh 90 = .ok (.iload 5, 2) := by decide +kernel
theorem dX0_weigh_92 : decode cX0_weigh 92 = .ok (.iconst 2, 1) := by decide +kernel
theorem dX0_weigh_93 : decode cX0_weigh 93 = .ok (.irem, 1) := by decide +kernel
theorem dX0_weigh_94 : decode cX0_weigh 94 = .ok (.iconst 1, 1) := by decide +kernel
theorem dX0_weigh_95 : decode cX0_weigh 95 = .ok (.if_icmp .ne 20, 3) := by decide +kernel
theorem dX0_weigh_98 : decode cX0_weigh 98 = .ok (.iload_n 2, 1) := by decide +kernel
theorem dX0_weigh_99 : decode cX0_weigh 99 = .ok (.iload 7, 2) := by decide +kernel
theorem dX0_weigh_101 : decode cX0_weigh 101 = .ok (.iadd, 1) := by decide +kernel
theorem dX0_weigh_102 : decode cX0_weigh 102 = .ok (.iload 8, 2) := by decide +kernel
theorem dX0_weigh_104 : decode cX0_weigh 104 = .ok (.iadd, 1) := by decide +kernel
theorem dX0_weigh_105 : decode cX0_weigh 105 = .ok (.istore 9, 2) := by decide +kernel
theorem dX0_weigh_107 : decode cX0_weigh 107 = .ok (.iload_n 3, 1) := by decide +kernel
theorem dX0_weigh_108 : decode cX0_weigh 108 = .ok (.istore_n 2, 1) := by decide +kernel
theorem dX0_weigh_109 : decode cX0_weigh 109 = .ok (.iload 9, 2) := by decide +kernel
theorem dX0_weigh_111 : decode cX0_weigh 111 = .ok (.istore_n 3, 1) := by decide +kernel
theorem dX0_weigh_112 : decode cX0_weigh 112 = .ok (.goto 19, 3) := by decide +kernel
theorem dX0_weigh_115 : decode cX0_weigh 115 = .ok (.iload 4, 2) := by decide +kernel
theorem dX0_weigh_117 : decode cX0_weigh 117 = .ok (.iload 7, 2) := by decide +kernel
theorem dX0_weigh_119 : decode cX0_weigh 119 = .ok (.iadd, 1) := by decide +kernel
theorem dX0_weigh_120 : decode cX0_weigh 120 = .ok (.iload 8, 2) := by decide +kernel
theorem dX0_weigh_122 : decode cX0_weigh 122 = .ok (.iadd, 1) := by decide +kernel
theorem dX0_weigh_123 : decode cX0_weigh 123 = .ok (.istore 9, 2) := by decide +kernel
theorem dX0_weigh_125 : decode cX0_weigh 125 = .ok (.iload_n 3, 1) := by decide +kernel
theorem dX0_weigh_126 : decode cX0_weigh 126 = .ok (.istore 4, 2) := by decide +kernel
theorem dX0_weigh_128 : decode cX0_weigh 128 = .ok (.iload 9, 2) := by decide +kernel
theorem dX0_weigh_130 : decode cX0_weigh 130 = .ok (.istore_n 3, 1) := by decide +kernel
theorem dX0_weigh_131 : decode cX0_weigh 131 = .ok (.aload_n 0, 1) := by decide +kernel
theorem dX0_weigh_132 : decode cX0_weigh 132 = .ok (.iload 6, 2) := by decide +kernel
theorem dX0_weigh_134 : decode cX0_weigh 134 = .ok (.iload_n 2, 1) := by decide +kernel
theorem dX0_weigh_135 : decode cX0_weigh 135 = .ok (.iload_n 3, 1) := by decide +kernel
theorem dX0_weigh_136 : decode cX0_weigh 136 = .ok (.iload 4, 2) := by decide +kernel
theorem dX0_weigh_138 : decode cX0_weigh 138 = .ok (.invokevirtual 69, 3) := by decide +kernel
theorem dX0_weigh_141 : decode cX0_weigh 141 = .ok (.iinc 5 1, 3) := by decide +kernel
theorem dX0_weigh_144 : decode cX0_weigh 144 = .ok (.goto (-134), 3) := by decide +kernel
theorem dX0_weigh_147 : decode cX0_weigh 147 = .ok (.return_, 1) := by decide +kernel
theorem dX0_keepWeights_0 : decode cX0_keepWeights 0 = .ok (.iload_n 1, 1) := by decide +kernel
theorem dX0_keepWeights_1 : decode cX0_keepWeights 1 = .ok (.invokestatic 73, 3) := by decide +kernel
theorem dX0_keepWeights_4 : decode cX0_keepWeights 4 = .ok (.ifCond .eq 25, 3) := by decide +kernel
theorem dX0_keepWeights_7 : decode cX0_keepWeights 7 = .ok (.aload_n 0, 1) := by decide +kernel
theorem dX0_keepWeights_8 : decode cX0_keepWeights 8 = .ok (.getfield 9, 3) := by decide +kernel
theorem dX0_keepWeights_11 : decode cX0_keepWeights 11 = .ok (.iload_n 1, 1) := by decide +kernel
theorem dX0_keepWeights_12 : decode cX0_keepWeights 12 = .ok (.iload_n 2, 1) := by decide +kernel
theorem dX0_keepWeights_13 : decode cX0_keepWeights 13 = .ok (.iastore, 1) := by decide +kernel
theorem dX0_keepWeights_14 : decode cX0_keepWeights 14 = .ok (.aload_n 0, 1) := by decide +kernel
theorem dX0_keepWeights_15 : decode cX0_keepWeights 15 = .ok (.getfield 15, 3) := by decide +kernel
theorem dX0_keepWeights_18 : decode cX0_keepWeights 18 = .ok (.iload_n 1, 1) := by decide +kernel
theorem dX0_keepWeights_19 : decode cX0_keepWeights 19 = .ok (.iload_n 3, 1) := by decide +kernel
theorem dX0_keepWeights_20 : decode cX0_keepWeights 20 = .ok (.iastore, 1) := by decide +kernel
theorem dX0_keepWeights_21 : decode cX0_keepWeights 21 = .ok (.aload_n 0, 1) := by decide +kernel
theorem dX0_keepWeights_22 : decode cX0_keepWeights 22 = .ok (.getfield 18, 3) := by decide +kernel
theorem dX0_keepWeights_25 : decode cX0_keepWeights 25 = .ok (.iload_n 1, 1) := by decide +kernel
theorem dX0_keepWeights_26 : decode cX0_keepWeights 26 = .ok (.iload 4, 2) := by decide +kernel
theorem dX0_keepWeights_28 : decode cX0_keepWeights 28 = .ok (.iastore, 1) := by decide +kernel
theorem dX0_keepWeights_29 : decode cX0_keepWeights 29 = .ok (.return_, 1) := by decide +kernel
theorem dX0_thirdOf_0 : decode cX0_thirdOf 0 = .ok (.iload_n 0, 1) := by decide +kernel
theorem dX0_thirdOf_1 : decode cX0_thirdOf 1 = .ok (.iconst 2, 1) := by decide +kernel
theorem dX0_thirdOf_2 : decode cX0_thirdOf 2 = .ok (.iadd, 1) := by decide +kernel
theorem dX0_thirdOf_3 : decode cX0_thirdOf 3 = .ok (.iload_n 1, 1) := by decide +kernel
theorem dX0_thirdOf_4 : decode cX0_thirdOf 4 = .ok (.isub, 1) := by decide +kernel
theorem dX0_thirdOf_5 : decode cX0_thirdOf 5 = .ok (.iconst 3, 1) := by decide +kernel
theorem dX0_thirdOf_6 : decode cX0_thirdOf 6 = .ok (.idiv, 1) := by decide +kernel
theorem dX0_thirdOf_7 : decode cX0_thirdOf 7 = .ok (.ireturn, 1) := by decide +kernel
theorem dX0_weightAt_0 : decode cX0_weightAt 0 = .ok (.iload_n 1, 1) := by decide +kernel
theorem dX0_weightAt_1 : decode cX0_weightAt 1 = .ok (.invokestatic 73, 3) := by decide +kernel
theorem dX0_weightAt_4 : decode cX0_weightAt 4 = .ok (.ifCond .ne 5, 3) := by decide +kernel
theorem dX0_weightAt_7 : decode cX0_weightAt 7 = .ok (.iconst 0, 1) := by decide +kernel
theorem dX0_weightAt_8 : decode cX0_weightAt 8 = .ok (.ireturn, 1) := by decide +kernel
theorem dX0_weightAt_9 : decode cX0_weightAt 9 = .ok (.iload_n 2, 1) := by decide +kernel
theorem dX0_weightAt_10 : decode cX0_weightAt 10 = .ok (.ifCond .ne 12, 3) := by decide +kernel
theorem dX0_weightAt_13 : decode cX0_weightAt 13 = .ok (.aload_n 0, 1) := by decide +kernel
theorem dX0_weightAt_14 : decode cX0_weightAt 14 = .ok (.getfield 9, 3) := by decide +kernel
theorem dX0_weightAt_17 : decode cX0_weightAt 17 = .ok (.iload_n 1, 1) := by decide +kernel
theorem dX0_weightAt_18 : decode cX0_weightAt 18 = .ok (.iaload, 1) := by decide +kernel
theorem dX0_weightAt_19 : decode cX0_weightAt 19 = .ok (.goto 23, 3) := by decide +kernel
theorem dX0_weightAt_22 : decode cX0_weightAt 22 = .ok (.iload_n 2, 1) := by decide +kernel
theorem dX0_weightAt_23 : decode cX0_weightAt 23 = .ok (.iconst 1, 1) := by decide +kernel
theorem dX0_weightAt_24 : decode cX0_weightAt 24 = .ok (.if_icmp .ne 12, 3) := by decide +kernel
theorem dX0_weightAt_27 : decode cX0_weightAt 27 = .ok (.aload_n 0, 1) := by decide +kernel
theorem dX0_weightAt_28 : decode cX0_weightAt 28 = .ok (.getfield 15, 3) := by decide +kernel
theorem dX0_weightAt_31 : decode cX0_weightAt 31 = .ok (.iload_n 1, 1) := by decide +kernel
theorem dX0_weightAt_32 : decode cX0_weightAt 32 = .ok (.iaload, 1) := by decide +kernel
theorem dX0_weightAt_33 : decode cX0_weightAt 33 = .ok (.goto 9, 3) := by decide +kernel
theorem dX0_weightAt_36 : decode cX0_weightAt 36 = .ok (.aload_n 0, 1) := by decide +kernel
theorem dX0_weightAt_37 : decode cX0_weightAt 37 = .ok (.getfield 18, 3) := by decide +kernel
theorem dX0_weightAt_40 : decode cX0_weightAt 40 = .ok (.iload_n 1, 1) := by decide +kernel
theorem dX0_weightAt_41 : decode cX0_weightAt 41 = .ok (.iaload, 1) := by decide +kernel
theorem dX0_weightAt_42 : decode cX0_weightAt 42 = .ok (.ireturn, 1) := by decide +kernel
theorem dX0_leastAt_0 : decode cX0_leastAt 0 = .ok (.aload_n 0, 1) := by decide +kernel
theorem dX0_leastAt_1 : decode cX0_leastAt 1 = .ok (.iload_n 1, 1) := by decide +kernel
theorem dX0_leastAt_2 : decode cX0_leastAt 2 = .ok (.iconst 0, 1) := by decide +kernel
theorem dX0_leastAt_3 : decode cX0_leastAt 3 = .ok (.invokevirtual 77, 3) := by decide +kernel
theorem dX0_leastAt_6 : decode cX0_leastAt 6 = .ok (.aload_n 0, 1) := by decide +kernel
theorem dX0_leastAt_7 : decode cX0_leastAt 7 = .ok (.iload_n 1, 1) := by decide +kernel
theorem dX0_leastAt_8 : decode cX0_leastAt 8 = .ok (.iconst 1, 1) := by decide +kernel
theorem dX0_leastAt_9 : decode cX0_leastAt 9 = .ok (.invokevirtual 77, 3) := by decide +kernel
theorem dX0_leastAt_12 : decode cX0_leastAt 12 = .ok (.aload_n 0, 1) := by decide +kernel
theorem dX0_leastAt_13 : decode cX0_leastAt 13 = .ok (.iload_n 1, 1) := by decide +kernel
theorem dX0_leastAt_14 : decode cX0_leastAt 14 = .ok (.iconst 2, 1) := by decide +kernel
theorem dX0_leastAt_15 : decode cX0_leastAt 15 = .ok (.invokevirtual 77, 3) := by decide +kernel
theorem dX0_leastAt_18 : decode cX0_leastAt 18 = .ok (.invokestatic 80, 3) := by decide +kernel
theorem dX0_leastAt_21 : decode cX0_leastAt 21 = .ok (.invokestatic 80, 3) := by decide +kernel
theorem dX0_leastAt_24 : decode cX0_leastAt 24 = .ok (.ireturn, 1) := by decide +kernel
theorem dX0_greatestAt_0 : decode cX0_greatestAt 0 = .ok (.aload_n 0, 1) := by decide +kernel
theorem dX0_greatestAt_1 : decode cX0_greatestAt 1 = .ok (.iload_n 1, 1) := by decide +kernel
theorem dX0_greatestAt_2 : decode cX0_greatestAt 2 = .ok (.iconst 0, 1) := by decide +kernel
theorem dX0_greatestAt_3 : decode cX0_greatestAt 3 = .ok (.invokevirtual 77, 3) := by decide +kernel
theorem dX0_greatestAt_6 : decode cX0_greatestAt 6 = .ok (.aload_n 0, 1) := by decide +kernel
theorem dX0_greatestAt_7 : decode cX0_greatestAt 7 = .ok (.iload_n 1, 1) := by decide +kernel
theorem dX0_greatestAt_8 : decode cX0_greatestAt 8 = .ok (.iconst 1, 1) := by decide +kernel
theorem dX0_greatestAt_9 : decode cX0_greatestAt 9 = .ok (.invokevirtual 77, 3) := by decide +kernel
theorem dX0_greatestAt_12 : decode cX0_greatestAt 12 = .ok (.aload_n 0, 1) := by decide +kernel
theorem dX0_greatestAt_13 : decode cX0_greatestAt 13 = .ok (.iload_n 1, 1) := by decide +kernel
theorem dX0_greatestAt_14 : decode cX0_greatestAt 14 = .ok (.iconst 2, 1) := by decide +kernel
theorem dX0_greatestAt_15 : decode cX0_greatestAt 15 = .ok (.invokevirtual 77, 3) := by decide +kernel
theorem dX0_greatestAt_18 : decode cX0_greatestAt 18 = .ok (.invokestatic 85, 3) := by decide +kernel
theorem dX0_greatestAt_21 : decode cX0_greatestAt 21 = .ok (.invokestatic 85, 3) := by decide +kernel
theorem dX0_greatestAt_24 : decode cX0_greatestAt 24 = .ok (.ireturn, 1) := by decide +kernel
theorem dX0_pullAt_0 : decode cX0_pullAt 0 = .ok (.aload_n 0, 1) := by decide +kernel
theorem dX0_pullAt_1 : decode cX0_pullAt 1 = .ok (.iload_n 1, 1) := by decide +kernel
theorem dX0_pullAt_2 : decode cX0_pullAt 2 = .ok (.invokevirtual 88, 3) := by decide +kernel
theorem dX0_pullAt_5 : decode cX0_pullAt 5 = .ok (.aload_n 0, 1) := by decide +kernel
theorem dX0_pullAt_6 : decode cX0_pullAt 6 = .ok (.iload_n 1, 1) := by decide +kernel
theorem dX0_pullAt_7 : decode cX0_pullAt 7 = .ok (.invokevirtual 91, 3) := by decide +kernel
theorem dX0_pullAt_10 : decode cX0_pullAt 10 = .ok (.isub, 1) := by decide +kernel
theorem dX0_pullAt_11 : decode cX0_pullAt 11 = .ok (.istore_n 2, 1) := by decide +kernel
theorem dX0_pullAt_12 : decode cX0_pullAt 12 = .ok (.aload_n 0, 1) := by decide +kernel
theorem dX0_pullAt_13 : decode cX0_pullAt 13 = .ok (.getfield 24, 3) := by decide +kernel
theorem dX0_pullAt_16 : decode cX0_pullAt 16 = .ok (.iload_n 1, 1) := by decide +kernel
theorem dX0_pullAt_17 : decode cX0_pullAt 17 = .ok (.invokevirtual 94, 3) := by decide +kernel
theorem dX0_pullAt_20 : decode cX0_pullAt 20 = .ok (.ifCond .eq 9, 3) := by decide +kernel
theorem dX0_pullAt_23 : decode cX0_pullAt 23 = .ok (.iconst 2, 1) := by decide +kernel
theorem dX0_pullAt_24 : decode cX0_pullAt 24 = .ok (.iload_n 2, 1) := by decide +kernel
theorem dX0_pullAt_25 : decode cX0_pullAt 25 = .ok (.imul, 1) := by decide +kernel
theorem dX0_pullAt_26 : decode cX0_pullAt 26 = .ok (.goto 4, 3) := by decide +kernel
theorem dX0_pullAt_29 : decode cX0_pullAt 29 = .ok (.iload_n 2, 1) := by decide +kernel
theorem dX0_pullAt_30 : decode cX0_pullAt 30 = .ok (.ireturn, 1) := by decide +kernel
theorem dX0_greatestPull_0 : decode cX0_greatestPull 0 = .ok (.iconst 0, 1) := by decide +kernel
theorem dX0_greatestPull_1 : decode cX0_greatestPull 1 = .ok (.istore_n 2, 1) := by decide +kernel
theorem dX0_greatestPull_2 : decode cX0_greatestPull 2 = .ok (.iconst 0, 1) := by decide +kernel
theorem dX0_greatestPull_3 : decode cX0_greatestPull 3 = .ok (.istore_n 3, 1) := by decide +kernel
theorem dX0_greatestPull_4 : decode cX0_greatestPull 4 = .ok (.iload_n 3, 1) := by decide +kernel
theorem dX0_greatestPull_5 : decode cX0_greatestPull 5 = .ok (.aload_n 0, 1) := by decide +kernel
theorem dX0_greatestPull_6 : decode cX0_greatestPull 6 = .ok (.getfield 28, 3) := by decide +kernel
theorem dX0_greatestPull_9 : decode cX0_greatestPull 9 = .ok (.iload_n 1, 1) := by decide +kernel
theorem dX0_greatestPull_10 : decode cX0_greatestPull 10 = .ok (.invokevirtual 50, 3) := by decide +kernel
theorem dX0_greatestPull_13 : decode cX0_greatestPull 13 = .ok (.if_icmp .ge 27, 3) := by decide +kernel
theorem dX0_greatestPull_16 : decode cX0_greatestPull 16 = .ok (.iload_n 2, 1) := by decide +kernel
theorem dX0_greatestPull_17 : decode cX0_greatestPull 17 = .ok (.aload_n 0, 1) := by decide +kernel
theorem dX0_greatestPull_18 : decode cX0_greatestPull 18 = .ok (.aload_n 0, 1) := by decide +kernel
theorem dX0_greatestPull_19 : decode cX0_greatestPull 19 = .ok (.getfield 28, 3) := by decide +kernel
theorem dX0_greatestPull_22 : decode cX0_greatestPull 22 = .ok (.iload_n 1, 1) := by decide +kernel
theorem dX0_greatestPull_23 : decode cX0_greatestPull 23 = .ok (.iload_n 3, 1) := by decide +kernel
theorem dX0_greatestPull_24 : decode cX0_greatestPull 24 = .ok (.invokevirtual 54, 3) := by decide +kernel
theorem dX0_greatestPull_27 : decode cX0_greatestPull 27 = .ok (.invokevirtual 99, 3) := by decide +kernel
theorem dX0_greatestPull_30 : decode cX0_greatestPull 30 = .ok (.invokestatic 85, 3) := by decide +kernel
theorem dX0_greatestPull_33 : decode cX0_greatestPull 33 = .ok (.istore_n 2, 1) := by decide +kernel
theorem dX0_greatestPull_34 : decode cX0_greatestPull 34 = .ok (.iinc 3 1, 3) := by decide +kernel
theorem dX0_greatestPull_37 : decode cX0_greatestPull 37 = .ok (.goto (-33), 3) := by decide +kernel
theorem dX0_greatestPull_40 : decode cX0_greatestPull 40 = .ok (.iload_n 2, 1) := by decide +kernel
theorem dX0_greatestPull_41 : decode cX0_greatestPull 41 = .ok (.ireturn, 1) := by decide +kernel
theorem dX0_unevenness_0 : decode cX0_unevenness 0 = .ok (.aload_n 0, 1) := by decide +kernel
theorem dX0_unevenness_1 : decode cX0_unevenness 1 = .ok (.getfield 32, 3) := by decide +kernel
theorem dX0_unevenness_4 : decode cX0_unevenness 4 = .ok (.aload_n 0, 1) := by decide +kernel
theorem dX0_unevenness_5 : decode cX0_unevenness 5 = .ok (.getfield 28, 3) := by decide +kernel
theorem dX0_unevenness_8 : decode cX0_unevenness 8 = .ok (.iload_n 1, 1) := by decide +kernel
theorem dX0_unevenness_9 : decode cX0_unevenness 9 = .ok (.iconst 0, 1) := by decide +kernel
theorem dX0_unevenness_10 : decode cX0_unevenness 10 = .ok (.invokevirtual 54, 3) := by decide +kernel
theorem dX0_unevenness_13 : decode cX0_unevenness 13 = .ok (.invokevirtual 58, 3) := by decide +kernel
theorem dX0_unevenness_16 : decode cX0_unevenness 16 = .ok (.istore_n 2, 1) := by decide +kernel
theorem dX0_unevenness_17 : decode cX0_unevenness 17 = .ok (.iload_n 2, 1) := by decide +kernel
theorem dX0_unevenness_18 : decode cX0_unevenness 18 = .ok (.istore_n 3, 1) := by decide +kernel
theorem dX0_unevenness_19 : decode cX0_unevenness 19 = .ok (.iconst 1, 1) := by decide +kernel
theorem dX0_unevenness_20 : decode cX0_unevenness 20 = .ok (.istore 4, 2) := by decide +kernel
theorem dX0_unevenness_22 : decode cX0_unevenness 22 = .ok (.iload 4, 2) := by decide +kernel
theorem dX0_unevenness_24 : decode cX0_unevenness 24 = .ok (.aload_n 0, 1) := by decide +kernel
theorem dX0_unevenness_25 : decode cX0_unevenness 25 = .ok (.getfield 28, 3) := by decide +kernel
theorem dX0_unevenness_28 : decode cX0_unevenness 28 = .ok (.iload_n 1, 1) := by decide +kernel
theorem dX0_unevenness_29 : decode cX0_unevenness 29 = .ok (.invokevirtual 50, 3) := by decide +kernel
theorem dX0_unevenness_32 : decode cX0_unevenness 32 = .ok (.if_icmp .ge 42, 3) := by decide +kernel
theorem dX0_unevenness_35 : decode cX0_unevenness 35 = .ok (.aload_n 0, 1) := by decide +kernel
theorem dX0_unevenness_36 : decode cX0_unevenness 36 = .ok (.getfield 32, 3) := by decide +kernel
theorem dX0_unevenness_39 : decode cX0_unevenness 39 = .ok (.aload_n 0, 1) := by decide +kernel
theorem dX0_unevenness_40 : decode cX0_unevenness 40 = .ok (.getfield 28, 3) := by decide +kernel
theorem dX0_unevenness_43 : decode cX0_unevenness 43 = .ok (.iload_n 1, 1) := by decide +kernel
theorem dX0_unevenness_44 : decode cX0_unevenness 44 = .ok (.iload 4, 2) := by decide +kernel
theorem dX0_unevenness_46 : decode cX0_unevenness 46 = .ok (.invokevirtual 54, 3) := by decide +kernel
theorem dX0_unevenness_49 : decode cX0_unevenness 49 = .ok (.invokevirtual 58, 3) := by decide +kernel
theorem dX0_unevenness_52 : decode cX0_unevenness 52 = .ok (.istore 5, 2) := by decide +kernel
theorem dX0_unevenness_54 : decode cX0_unevenness 54 = .ok (.iload_n 2, 1) := by decide +kernel
theorem dX0_unevenness_55 : decode cX0_unevenness 55 = .ok (.iload 5, 2) := by decide +kernel
theorem dX0_unevenness_57 : decode cX0_unevenness 57 = .ok (.invokestatic 80, 3) := by decide +kernel
theorem dX0_unevenness_60 : decode cX0_unevenness 60 = .ok (.istore_n 2, 1) := by decide +kernel
theorem dX0_unevenness_61 : decode cX0_unevenness 61 = .ok (.iload_n 3, 1) := by decide +kernel
theorem dX0_unevenness_62 : decode cX0_unevenness 62 = .ok (.iload 5, 2) := by decide +kernel
theorem dX0_unevenness_64 : decode cX0_unevenness 64 = .ok (.invokestatic 85, 3) := by decide +kernel
theorem dX0_unevenness_67 : decode cX0_unevenness 67 = .ok (.istore_n 3, 1) := by decide +kernel
theorem dX0_unevenness_68 : decode cX0_unevenness 68 = .ok (.iinc 4 1, 3) := by decide +kernel
theorem dX0_unevenness_71 : decode cX0_unevenness 71 = .ok (.goto (-49), 3) := by decide +kernel
theorem dX0_unevenness_74 : decode cX0_unevenness 74 = .ok (.iload_n 3, 1) := by decide +kernel
theorem dX0_unevenness_75 : decode cX0_unevenness 75 = .ok (.iload_n 2, 1) := by decide +kernel
theorem dX0_unevenness_76 : decode cX0_unevenness 76 = .ok (.isub, 1) := by decide +kernel
theorem dX0_unevenness_77 : decode cX0_unevenness 77 = .ok (.ireturn, 1) := by decide +kernel
theorem dX0_weeksHeld_0 : decode cX0_weeksHeld 0 = .ok (.aload_n 0, 1) := by decide +kernel
theorem dX0_weeksHeld_1 : decode cX0_weeksHeld 1 = .ok (.aload_n 0, 1) := by decide +kernel
theorem dX0_weeksHeld_2 : decode cX0_weeksHeld 2 = .ok (.getfield 28, 3) := by decide +kernel
theorem dX0_weeksHeld_5 : decode cX0_weeksHeld 5 = .ok (.iload_n 1, 1) := by decide +kernel
theorem dX0_weeksHeld_6 : decode cX0_weeksHeld 6 = .ok (.iconst 0, 1) := by decide +kernel
theorem dX0_weeksHeld_7 : decode cX0_weeksHeld 7 = .ok (.invokevirtual 54, 3) := by decide +kernel
theorem dX0_weeksHeld_10 : decode cX0_weeksHeld 10 = .ok (.invokevirtual 91, 3) := by decide +kernel
theorem dX0_weeksHeld_13 : decode cX0_weeksHeld 13 = .ok (.istore_n 2, 1) := by decide +kernel
theorem dX0_weeksHeld_14 : decode cX0_weeksHeld 14 = .ok (.iconst 1, 1) := by decide +kernel
theorem dX0_weeksHeld_15 : decode cX0_weeksHeld 15 = .ok (.istore_n 3, 1) := by decide +kernel
theorem dX0_weeksHeld_16 : decode cX0_weeksHeld 16 = .ok (.iload_n 3, 1) := by decide +kernel
theorem dX0_weeksHeld_17 : decode cX0_weeksHeld 17 = .ok (.aload_n 0, 1) := by decide +kernel
theorem dX0_weeksHeld_18 : decode cX0_weeksHeld 18 = .ok (.getfield 28, 3) := by decide +kernel
theorem dX0_weeksHeld_21 : decode cX0_weeksHeld 21 = .ok (.iload_n 1, 1) := by decide +kernel
theorem dX0_weeksHeld_22 : decode cX0_weeksHeld 22 = .ok (.invokevirtual 50, 3) := by decide +kernel
theorem dX0_weeksHeld_25 : decode cX0_weeksHeld 25 = .ok (.if_icmp .ge 27, 3) := by decide +kernel
theorem dX0_weeksHeld_28 : decode cX0_weeksHeld 28 = .ok (.iload_n 2, 1) := by decide +kernel
theorem dX0_weeksHeld_29 : decode cX0_weeksHeld 29 = .ok (.aload_n 0, 1) := by decide +kernel
theorem dX0_weeksHeld_30 : decode cX0_weeksHeld 30 = .ok (.aload_n 0, 1) := by decide +kernel
theorem dX0_weeksHeld_31 : decode cX0_weeksHeld 31 = .ok (.getfield 28, 3) := by decide +kernel
theorem dX0_weeksHeld_34 : decode cX0_weeksHeld 34 = .ok (.iload_n 1, 1) := by decide +kernel
theorem dX0_weeksHeld_35 : decode cX0_weeksHeld 35 = .ok (.iload_n 3, 1) := by decide +kernel
theorem dX0_weeksHeld_36 : decode cX0_weeksHeld 36 = .ok (.invokevirtual 54, 3) := by decide +kernel
theorem dX0_weeksHeld_39 : decode cX0_weeksHeld 39 = .ok (.invokevirtual 91, 3) := by decide +kernel
theorem dX0_weeksHeld_42 : decode cX0_weeksHeld 42 = .ok (.invokestatic 80, 3) := by decide +kernel
theorem dX0_weeksHeld_45 : decode cX0_weeksHeld 45 = .ok (.istore_n 2, 1) := by decide +kernel
theorem dX0_weeksHeld_46 : decode cX0_weeksHeld 46 = .ok (.iinc 3 1, 3) := by decide +kernel
theorem dX0_weeksHeld_49 : decode cX0_weeksHeld 49 = .ok (.goto (-33), 3) := by decide +kernel
theorem dX0_weeksHeld_52 : decode cX0_weeksHeld 52 = .ok (.bipush 8, 2) := by decide +kernel
theorem dX0_weeksHeld_54 : decode cX0_weeksHeld 54 = .ok (.iload_n 2, 1) := by decide +kernel
theorem dX0_weeksHeld_55 : decode cX0_weeksHeld 55 = .ok (.iconst 4, 1) := by decide +kernel
theorem dX0_weeksHeld_56 : decode cX0_weeksHeld 56 = .ok (.idiv, 1) := by decide +kernel
theorem dX0_weeksHeld_57 : decode cX0_weeksHeld 57 = .ok (.iconst 1, 1) := by decide +kernel
theorem dX0_weeksHeld_58 : decode cX0_weeksHeld 58 = .ok (.iadd, 1) := by decide +kernel
theorem dX0_weeksHeld_59 : decode cX0_weeksHeld 59 = .ok (.invokestatic 80, 3) := by decide +kernel
theorem dX0_weeksHeld_62 : decode cX0_weeksHeld 62 = .ok (.ireturn, 1) := by decide +kernel
theorem dX0_lastWeights_0 : decode cX0_lastWeights 0 = .ok (.aload_n 0, 1) := by decide +kernel
theorem dX0_lastWeights_1 : decode cX0_lastWeights 1 = .ok (.getfield 28, 3) := by decide +kernel
theorem dX0_lastWeights_4 : decode cX0_lastWeights 4 = .ok (.iload_n 1, 1) := by decide +kernel
theorem dX0_lastWeights_5 : decode cX0_lastWeights 5 = .ok (.invokevirtual 102, 3) := by decide +kernel
theorem dX0_lastWeights_8 : decode cX0_lastWeights 8 = .ok (.istore_n 2, 1) := by decide +kernel
theorem dX0_lastWeights_9 : decode cX0_lastWeights 9 = .ok (.aload_n 0, 1) := by decide +kernel
theorem dX0_lastWeights_10 : decode cX0_lastWeights 10 = .ok (.iload_n 2, 1) := by decide +kernel
theorem dX0_lastWeights_11 : decode cX0_lastWeights 11 = .ok (.iconst 0, 1) := by decide +kernel
theorem dX0_lastWeights_12 : decode cX0_lastWeights 12 = .ok (.invokevirtual 77, 3) := by decide +kernel
theorem dX0_lastWeights_15 : decode cX0_lastWeights 15 = .ok (.aload_n 0, 1) := by decide +kernel
theorem dX0_lastWeights_16 : decode cX0_lastWeights 16 = .ok (.iload_n 2, 1) := by decide +kernel
theorem dX0_lastWeights_17 : decode cX0_lastWeights 17 = .ok (.iconst 1, 1) := by decide +kernel
theorem dX0_lastWeights_18 : decode cX0_lastWeights 18 = .ok (.invokevirtual 77, 3) := by decide +kernel
theorem dX0_lastWeights_21 : decode cX0_lastWeights 21 = .ok (.iadd, 1) := by decide +kernel
theorem dX0_lastWeights_22 : decode cX0_lastWeights 22 = .ok (.aload_n 0, 1) := by decide +kernel
theorem dX0_lastWeights_23 : decode cX0_lastWeights 23 = .ok (.iload_n 2, 1) := by decide +kernel
theorem dX0_lastWeights_24 : decode cX0_lastWeights 24 = .ok (.iconst 2, 1) := by decide +kernel
theorem dX0_lastWeights_25 : decode cX0_lastWeights 25 = .ok (.invokevirtual 77, 3) := by decide +kernel
theorem dX0_lastWeights_28 : decode cX0_lastWeights 28 = .ok (.iadd, 1) := by decide +kernel
theorem dX0_lastWeights_29 : decode cX0_lastWeights 29 = .ok (.ireturn, 1) := by decide +kernel
theorem dX0_allWeights_0 : decode cX0_allWeights 0 = .ok (.iconst 0, 1) := by decide +kernel
theorem dX0_allWeights_1 : decode cX0_allWeights 1 = .ok (.istore_n 1, 1) := by decide +kernel
theorem dX0_allWeights_2 : decode cX0_allWeights 2 = .ok (.iconst 0, 1) := by decide +kernel
theorem dX0_allWeights_3 : decode cX0_allWeights 3 = .ok (.istore_n 2, 1) := by decide +kernel
theorem dX0_allWeights_4 : decode cX0_allWeights 4 = .ok (.iload_n 2, 1) := by decide +kernel
theorem dX0_allWeights_5 : decode cX0_allWeights 5 = .ok (.aload_n 0, 1) := by decide +kernel
theorem dX0_allWeights_6 : decode cX0_allWeights 6 = .ok (.getfield 28, 3) := by decide +kernel
theorem dX0_allWeights_9 : decode cX0_allWeights 9 = .ok (.getfield 40, 3) := by decide +kernel
theorem dX0_allWeights_12 : decode cX0_allWeights 12 = .ok (.if_icmp .ge 17, 3) := by decide +kernel
theorem dX0_allWeights_15 : decode cX0_allWeights 15 = .ok (.iload_n 1, 1) := by decide +kernel
theorem dX0_allWeights_16 : decode cX0_allWeights 16 = .ok (.aload_n 0, 1) := by decide +kernel
theorem dX0_allWeights_17 : decode cX0_allWeights 17 = .ok (.iload_n 2, 1) := by decide +kernel
theorem dX0_allWeights_18 : decode cX0_allWeights 18 = .ok (.invokevirtual 105, 3) := by decide +kernel
theorem dX0_allWeights_21 : decode cX0_allWeights 21 = .ok (.iadd, 1) := by decide +kernel
theorem dX0_allWeights_22 : decode cX0_allWeights 22 = .ok (.istore_n 1, 1) := by decide +kernel
theorem dX0_allWeights_23 : decode cX0_allWeights 23 = .ok (.iinc 2 1, 3) := by decide +kernel
theorem dX0_allWeights_26 : decode cX0_allWeights 26 = .ok (.goto (-22), 3) := by decide +kernel
theorem dX0_allWeights_29 : decode cX0_allWeights 29 = .ok (.iload_n 1, 1) := by decide +kernel
theorem dX0_allWeights_30 : decode cX0_allWeights 30 = .ok (.ireturn, 1) := by decide +kernel
theorem dX0_minutes_0 : decode cX0_minutes 0 = .ok (.iconst 2, 1) := by decide +kernel
theorem dX0_minutes_1 : decode cX0_minutes 1 = .ok (.aload_n 0, 1) := by decide +kernel
theorem dX0_minutes_2 : decode cX0_minutes 2 = .ok (.getfield 28, 3) := by decide +kernel
theorem dX0_minutes_5 : decode cX0_minutes 5 = .ok (.iload_n 1, 1) := by decide +kernel
theorem dX0_minutes_6 : decode cX0_minutes 6 = .ok (.invokevirtual 50, 3) := by decide +kernel
theorem dX0_minutes_9 : decode cX0_minutes 9 = .ok (.imul, 1) := by decide +kernel
theorem dX0_minutes_10 : decode cX0_minutes 10 = .ok (.aload_n 0, 1) := by decide +kernel
theorem dX0_minutes_11 : decode cX0_minutes 11 = .ok (.iload_n 1, 1) := by decide +kernel
theorem dX0_minutes_12 : decode cX0_minutes 12 = .ok (.invokevirtual 105, 3) := by decide +kernel
theorem dX0_minutes_15 : decode cX0_minutes 15 = .ok (.bipush 10, 2) := by decide +kernel
theorem dX0_minutes_17 : decode cX0_minutes 17 = .ok (.idiv, 1) := by decide +kernel
theorem dX0_minutes_18 : decode cX0_minutes 18 = .ok (.iadd, 1) := by decide +kernel
theorem dX0_minutes_19 : decode cX0_minutes 19 = .ok (.iconst 5, 1) := by decide +kernel
theorem dX0_minutes_20 : decode cX0_minutes 20 = .ok (.aload_n 0, 1) := by decide +kernel
theorem dX0_minutes_21 : decode cX0_minutes 21 = .ok (.getfield 28, 3) := by decide +kernel
theorem dX0_minutes_24 : decode cX0_minutes 24 = .ok (.iload_n 1, 1) := by decide +kernel
theorem dX0_minutes_25 : decode cX0_minutes 25 = .ok (.invokevirtual 108, 3) := by decide +kernel
theorem dX0_minutes_28 : decode cX0_minutes 28 = .ok (.imul, 1) := by decide +kernel
theorem dX0_minutes_29 : decode cX0_minutes 29 = .ok (.iadd, 1) := by decide +kernel
theorem dX0_minutes_30 : decode cX0_minutes 30 = .ok (.ireturn, 1) := by decide +kernel
theorem dX0_hang_0 : decode cX0_hang 0 = .ok (.sipush 2000, 3) := by decide +kernel
theorem dX0_hang_3 : decode cX0_hang 3 = .ok (.istore_n 2, 1) := by decide +kernel
theorem dX0_hang_4 : decode cX0_hang 4 = .ok (.aload_n 0, 1) := by decide +kernel
theorem dX0_hang_5 : decode cX0_hang 5 = .ok (.getfield 28, 3) := by decide +kernel
theorem dX0_hang_8 : decode cX0_hang 8 = .ok (.iload_n 1, 1) := by decide +kernel
theorem dX0_hang_9 : decode cX0_hang 9 = .ok (.invokevirtual 111, 3) := by decide +kernel
theorem dX0_hang_12 : decode cX0_hang 12 = .ok (.ifCond .ne 30, 3) := by decide +kernel
theorem dX0_hang_15 : decode cX0_hang 15 = .ok (.iconst 0, 1) := by decide +kernel
theorem dX0_hang_16 : decode cX0_hang 16 = .ok (.istore_n 3, 1) := by decide +kernel
theorem dX0_hang_17 : decode cX0_hang 17 = .ok (.iload_n 3, 1) := by decide +kernel
theorem dX0_hang_18 : decode cX0_hang 18 = .ok (.iconst 3, 1) := by decide +kernel
theorem dX0_hang_19 : decode cX0_hang 19 = .ok (.if_icmp .ge 21, 3) := by decide +kernel
theorem dX0_hang_22 : decode cX0_hang 22 = .ok (.iload_n 2, 1) := by decide +kernel
theorem dX0_hang_23 : decode cX0_hang 23 = .ok (.aload_n 0, 1) := by decide +kernel
theorem dX0_hang_24 : decode cX0_hang 24 = .ok (.iload_n 1, 1) := by decide +kernel
theorem dX0_hang_25 : decode cX0_hang 25 = .ok (.iload_n 3, 1) := by decide +kernel
theorem dX0_hang_26 : decode cX0_hang 26 = .ok (.iconst 3, 1) := by decide +kernel
theorem dX0_hang_27 : decode cX0_hang 27 = .ok (.invokevirtual 114, 3) := by decide +kernel
theorem dX0_hang_30 : decode cX0_hang 30 = .ok (.invokestatic 80, 3) := by decide +kernel
theorem dX0_hang_33 : decode cX0_hang 33 = .ok (.istore_n 2, 1) := by decide +kernel
theorem dX0_hang_34 : decode cX0_hang 34 = .ok (.iinc 3 1, 3) := by decide +kernel
theorem dX0_hang_37 : decode cX0_hang 37 = .ok (.goto (-20), 3) := by decide +kernel
theorem dX0_hang_40 : decode cX0_hang 40 = .ok (.iload_n 2, 1) := by decide +kernel
theorem dX0_hang_41 : decode cX0_hang 41 = .ok (.ireturn, 1) := by decide +kernel
theorem dX0_hang_42 : decode cX0_hang 42 = .ok (.iconst 0, 1) := by decide +kernel
theorem dX0_hang_43 : decode cX0_hang 43 = .ok (.istore_n 3, 1) := by decide +kernel
theorem dX0_hang_44 : decode cX0_hang 44 = .ok (.iload_n 3, 1) := by decide +kernel
theorem dX0_hang_45 : decode cX0_hang 45 = .ok (.aload_n 0, 1) := by decide +kernel
theorem dX0_hang_46 : decode cX0_hang 46 = .ok (.getfield 28, 3) := by decide +kernel
theorem dX0_hang_49 : decode cX0_hang 49 = .ok (.getfield 40, 3) := by decide +kernel
theorem dX0_hang_52 : decode cX0_hang 52 = .ok (.if_icmp .ge 41, 3) := by decide +kernel
theorem dX0_hang_55 : decode cX0_hang 55 = .ok (.aload_n 0, 1) := by decide +kernel
theorem dX0_hang_56 : decode cX0_hang 56 = .ok (.getfield 28, 3) := by decide +kernel
theorem dX0_hang_59 : decode cX0_hang 59 = .ok (.iload_n 3, 1) := by decide +kernel
theorem dX0_hang_60 : decode cX0_hang 60 = .ok (.invokevirtual 118, 3) := by decide +kernel
theorem dX0_hang_63 : decode cX0_hang 63 = .ok (.aload_n 0, 1) := by decide +kernel
theorem dX0_hang_64 : decode cX0_hang 64 = .ok (.getfield 28, 3) := by decide +kernel
theorem dX0_hang_67 : decode cX0_hang 67 = .ok (.iload_n 1, 1) := by decide +kernel
theorem dX0_hang_68 : decode cX0_hang 68 = .ok (.invokevirtual 118, 3) := by decide +kernel
theorem dX0_hang_71 : decode cX0_hang 71 = .ok (.if_icmp .ne 16, 3) := by decide +kernel
theorem dX0_hang_74 : decode cX0_hang 74 = .ok (.iload_n 2, 1) := by decide +kernel
theorem dX0_hang_75 : decode cX0_hang 75 = .ok (.aload_n 0, 1) := by decide +kernel
theorem dX0_hang_76 : decode cX0_hang 76 = .ok (.iload_n 3, 1) := by decide +kernel
theorem dX0_hang_77 : decode cX0_hang 77 = .ok (.iconst 3, 1) := by decide +kernel
theorem dX0_hang_78 : decode cX0_hang 78 = .ok (.bipush 9, 2) := by decide +kernel
theorem dX0_hang_80 : decode cX0_hang 80 = .ok (.invokevirtual 114, 3) := by decide +kernel
theorem dX0_hang_83 : decode cX0_hang 83 = .ok (.invokestatic 80, 3) := by decide +kernel
theorem dX0_hang_86 : decode cX0_hang 86 = .ok (.istore_n 2, 1) := by decide +kernel
theorem dX0_hang_87 : decode cX0_hang 87 = .ok (.iinc 3 1, 3) := by decide +kernel
theorem dX0_hang_90 : decode cX0_hang 90 = .ok (.goto (-46), 3) := by decide +kernel
theorem dX0_hang_93 : decode cX0_hang 93 = .ok (.iload_n 2, 1) := by decide +kernel
theorem dX0_hang_94 : decode cX0_hang 94 = .ok (.ireturn, 1) := by decide +kernel
theorem dX0_reach_0 : decode cX0_reach 0 = .ok (.aload_n 0, 1) := by decide +kernel
theorem dX0_reach_1 : decode cX0_reach 1 = .ok (.iload_n 3, 1) := by decide +kernel
theorem dX0_reach_2 : decode cX0_reach 2 = .ok (.putfield 121, 3) := by decide +kernel
theorem dX0_reach_5 : decode cX0_reach 5 = .ok (.aload_n 0, 1) := by decide +kernel
theorem dX0_reach_6 : decode cX0_reach 6 = .ok (.iconst 0, 1) := by decide +kernel
theorem dX0_reach_7 : decode cX0_reach 7 = .ok (.putfield 124, 3) := by decide +kernel
theorem dX0_reach_10 : decode cX0_reach 10 = .ok (.aload_n 0, 1) := by decide +kernel
theorem dX0_reach_11 : decode cX0_reach 11 = .ok (.getfield 28, 3) := by decide +kernel
theorem dX0_reach_14 : decode cX0_reach 14 = .ok (.iload_n 1, 1) := by decide +kernel
theorem dX0_reach_15 : decode cX0_reach 15 = .ok (.invokevirtual 50, 3) := by decide +kernel
theorem dX0_reach_18 : decode cX0_reach 18 = .ok (.iconst 1, 1) := by decide +kernel
theorem dX0_reach_19 : decode cX0_reach 19 = .ok (.isub, 1) := by decide +kernel
theorem dX0_reach_20 : decode cX0_reach 20 = .ok (.istore 4, 2) := by decide +kernel
theorem dX0_reach_22 : decode cX0_reach 22 = .ok (.iconst 0, 1) := by decide +kernel
theorem dX0_reach_23 : decode cX0_reach 23 = .ok (.istore 5, 2) := by decide +kernel
theorem dX0_reach_25 : decode cX0_reach 25 = .ok (.iload 5, 2) := by decide +kernel
theorem dX0_reach_27 : decode cX0_reach 27 = .ok (.iload 4, 2) := by decide +kernel
theorem dX0_reach_29 : decode cX0_reach 29 = .ok (.if_icmp .gt 37, 3) := by decide +kernel
theorem dX0_reach_32 : decode cX0_reach 32 = .ok (.aload_n 0, 1) := by decide +kernel
theorem dX0_reach_33 : decode cX0_reach 33 = .ok (.aload_n 0, 1) := by decide +kernel
theorem dX0_reach_34 : decode cX0_reach 34 = .ok (.iload_n 1, 1) := by decide +kernel
theorem dX0_reach_35 : decode cX0_reach 35 = .ok (.iload 5, 2) := by decide +kernel
theorem dX0_reach_37 : decode cX0_reach 37 = .ok (.iload_n 2, 1) := by decide +kernel
theorem dX0_reach_38 : decode cX0_reach 38 = .ok (.invokevirtual 127, 3) := by decide +kernel
theorem dX0_reach_41 : decode cX0_reach 41 = .ok (.aload_n 0, 1) := by decide +kernel
theorem dX0_reach_42 : decode cX0_reach 42 = .ok (.getfield 24, 3) := by decide +kernel
theorem dX0_reach_45 : decode cX0_reach 45 = .ok (.getfield 130, 3) := by decide +kernel
theorem dX0_reach_48 : decode cX0_reach 48 = .ok (.bipush 10, 2) := by decide +kernel
theorem dX0_reach_50 : decode cX0_reach 50 = .ok (.iload 4, 2) := by decide +kernel
theorem dX0_reach_52 : decode cX0_reach 52 = .ok (.iload 5, 2) := by decide +kernel
theorem dX0_reach_54 : decode cX0_reach 54 = .ok (.isub, 1) := by decide +kernel
theorem dX0_reach_55 : decode cX0_reach 55 = .ok (.imul, 1) := by decide +kernel
theorem dX0_reach_56 : decode cX0_reach 56 = .ok (.isub, 1) := by decide +kernel
theorem dX0_reach_57 : decode cX0_reach 57 = .ok (.invokevirtual 133, 3) := by decide +kernel
theorem dX0_reach_60 : decode cX0_reach 60 = .ok (.iinc 5 1, 3) := by decide +kernel
theorem dX0_reach_63 : decode cX0_reach 63 = .ok (.goto (-38), 3) := by decide +kernel
theorem dX0_reach_66 : decode cX0_reach 66 = .ok (.iconst 0, 1) := by decide +kernel
theorem dX0_reach_67 : decode cX0_reach 67 = .ok (.istore 5, 2) := by decide +kernel
theorem dX0_reach_69 : decode cX0_reach 69 = .ok (.iload 5, 2) := by decide +kernel
theorem dX0_reach_71 : decode cX0_reach 71 = .ok (.aload_n 0, 1) := by decide +kernel
theorem dX0_reach_72 : decode cX0_reach 72 = .ok (.getfield 36, 3) := by decide +kernel
theorem dX0_reach_75 : decode cX0_reach 75 = .ok (.getfield 137, 3) := by decide +kernel
theorem dX0_reach_78 : decode cX0_reach 78 = .ok (.if_icmp .ge 89, 3) := by decide +kernel
theorem dX0_reach_81 : decode cX0_reach 81 = .ok (.iload 5, 2) := by decide +kernel
theorem dX0_reach_83 : decode cX0_reach 83 = .ok (.bipush 60, 2) := by decide +kernel
theorem dX0_reach_85 : decode cX0_reach 85 = .ok (.if_icmp .ge 82, 3) := by decide +kernel
theorem dX0_reach_88 : decode cX0_reach 88 = .ok (.aload_n 0, 1) := by decide +kernel
theorem dX0_reach_89 : decode cX0_reach 89 = .ok (.getfield 36, 3) := by decide +kernel
theorem dX0_reach_92 : decode cX0_reach 92 = .ok (.getfield 140, 3) := by decide +kernel
theorem dX0_reach_95 : decode cX0_reach 95 = .ok (.iload 5, 2) := by decide +kernel
theorem dX0_reach_97 : decode cX0_reach 97 = .ok (.iaload, 1) := by decide +kernel
theorem dX0_reach_98 : decode cX0_reach 98 = .ok (.istore 6, 2) := by decide +kernel
theorem dX0_reach_100 : decode cX0_reach 100 = .ok (.aload_n 0, 1) := by decide +kernel
theorem dX0_reach_101 : decode cX0_reach 101 = .ok (.getfield 36, 3) := by decide +kernel
theorem dX0_reach_104 : decode cX0_reach 104 = .ok (.getfield 143, 3) := by decide +kernel
theorem dX0_reach_107 : decode cX0_reach 107 = .ok (.iload 5, 2) := by decide +kernel
theorem dX0_reach_109 : decode cX0_reach 109 = .ok (.iaload, 1) := by decide +kernel
theorem dX0_reach_110 : decode cX0_reach 110 = .ok (.iload_n 1, 1) := by decide +kernel
theorem dX0_reach_111 : decode cX0_reach 111 = .ok (.if_icmp .ne 50, 3) := by decide +kernel
theorem dX0_reach_114 : decode cX0_reach 114 = .ok (.iload_n 2, 1) := by decide +kernel
theorem dX0_reach_115 : decode cX0_reach 115 = .ok (.iconst 3, 1) := by decide +kernel
theorem dX0_reach_116 : decode cX0_reach 116 = .ok (.if_icmp .eq 12, 3) := by decide +kernel
theorem dX0_reach_119 : decode cX0_reach 119 = .ok (.iload 6, 2) := by decide +kernel
theorem dX0_reach_121 : decode cX0_reach 121 = .ok (.invokestatic 146, 3) := by decide +kernel
theorem dX0_reach_124 : decode cX0_reach 124 = .ok (.iload_n 2, 1) := by decide +kernel
theorem dX0_reach_125 : decode cX0_reach 125 = .ok (.if_icmp .ne 36, 3) := by decide +kernel
theorem dX0_reach_128 : decode cX0_reach 128 = .ok (.aload_n 0, 1) := by decide +kernel
theorem dX0_reach_129 : decode cX0_reach 129 = .ok (.aload_n 0, 1) := by decide +kernel
theorem dX0_reach_130 : decode cX0_reach 130 = .ok (.getfield 36, 3) := by decide +kernel
theorem dX0_reach_133 : decode cX0_reach 133 = .ok (.getfield 149, 3) := by decide +kernel
theorem dX0_reach_136 : decode cX0_reach 136 = .ok (.iload 5, 2) := by decide +kernel
theorem dX0_reach_138 : decode cX0_reach 138 = .ok (.iaload, 1) := by decide +kernel
theorem dX0_reach_139 : decode cX0_reach 139 = .ok (.aload_n 0, 1) := by decide +kernel
theorem dX0_reach_140 : decode cX0_reach 140 = .ok (.getfield 36, 3) := by decide +kernel
theorem dX0_reach_143 : decode cX0_reach 143 = .ok (.getfield 152, 3) := by decide +kernel
theorem dX0_reach_146 : decode cX0_reach 146 = .ok (.iload 5, 2) := by decide +kernel
theorem dX0_reach_148 : decode cX0_reach 148 = .ok (.iaload, 1) := by decide +kernel
theorem dX0_reach_149 : decode cX0_reach 149 = .ok (.bipush 10, 2) := by decide +kernel
theorem dX0_reach_151 : decode cX0_reach 151 = .ok (.iload 4, 2) := by decide +kernel
theorem dX0_reach_153 : decode cX0_reach 153 = .ok (.iload 6, 2) := by decide +kernel
theorem dX0_reach_155 : decode cX0_reach 155 = .ok (.isub, 1) := by decide +kernel
theorem dX0_reach_156 : decode cX0_reach 156 = .ok (.imul, 1) := by decide +kernel
theorem dX0_reach_157 : decode cX0_reach 157 = .ok (.isub, 1) := by decide +kernel
theorem dX0_reach_158 : decode cX0_reach 158 = .ok (.invokevirtual 133, 3) := by decide +kernel
theorem dX0_reach_161 : decode cX0_reach 161 = .ok (.iinc 5 1, 3) := by decide +kernel
theorem dX0_reach_164 : decode cX0_reach 164 = .ok (.goto (-95), 3) := by decide +kernel
theorem dX0_reach_167 : decode cX0_reach 167 = .ok (.aload_n 0, 1) := by decide +kernel
theorem dX0_reach_168 : decode cX0_reach 168 = .ok (.getfield 124, 3) := by decide +kernel
theorem dX0_reach_171 : decode cX0_reach 171 = .ok (.ifCond .le 40, 3) := by decide +kernel
theorem dX0_reach_174 : decode cX0_reach 174 = .ok (.aload_n 0, 1) := by decide +kernel
theorem dX0_reach_175 : decode cX0_reach 175 = .ok (.getfield 124, 3) := by decide +kernel
theorem dX0_reach_178 : decode cX0_reach 178 = .ok (.aload_n 0, 1) := by decide +kernel
theorem dX0_reach_179 : decode cX0_reach 179 = .ok (.getfield 121, 3) := by decide +kernel
theorem dX0_reach_182 : decode cX0_reach 182 = .ok (.if_icmp .lt 29, 3) := by decide +kernel
theorem dX0_reach_185 : decode cX0_reach 185 = .ok (.aload_n 0, 1) := by decide +kernel
theorem dX0_reach_186 : decode cX0_reach 186 = .ok (.getfield 124, 3) := by decide +kernel
theorem dX0_reach_189 : decode cX0_reach 189 = .ok (.aload_n 0, 1) := by decide +kernel
theorem dX0_reach_190 : decode cX0_reach 190 = .ok (.getfield 21, 3) := by decide +kernel
theorem dX0_reach_193 : decode cX0_reach 193 = .ok (.arraylength, 1) := by decide +kernel
theorem dX0_reach_194 : decode cX0_reach 194 = .ok (.if_icmp .gt 17, 3) := by decide +kernel
theorem dX0_reach_197 : decode cX0_reach 197 = .ok (.aload_n 0, 1) := by decide +kernel
theorem dX0_reach_198 : decode cX0_reach 198 = .ok (.getfield 21, 3) := by decide +kernel
theorem dX0_reach_201 : decode cX0_reach 201 = .ok (.aload_n 0, 1) := by decide +kernel
theorem dX0_reach_202 : decode cX0_reach 202 = .ok (.getfield 124, 3) := by decide +kernel
theorem dX0_reach_205 : decode cX0_reach 205 = .ok (.iconst 1, 1) := by decide +kernel
theorem dX0_reach_206 : decode cX0_reach 206 = .ok (.isub, 1) := by decide +kernel
theorem dX0_reach_207 : decode cX0_reach 207 = .ok (.iaload, 1) := by decide +kernel
theorem dX0_reach_208 : decode cX0_reach 208 = .ok (.goto 4, 3) := by decide +kernel
theorem dX0_reach_211 : decode cX0_reach 211 = .ok (.iconst 0, 1) := by decide +kernel
theorem dX0_reach_212 : decode cX0_reach 212 = .ok (.ireturn, 1) := by decide +kernel
theorem dX0_shareAt_0 : decode cX0_shareAt 0 = .ok (.aload_n 0, 1) := by decide +kernel
theorem dX0_shareAt_1 : decode cX0_shareAt 1 = .ok (.getfield 32, 3) := by decide +kernel
theorem dX0_shareAt_4 : decode cX0_shareAt 4 = .ok (.aload_n 0, 1) := by decide +kernel
theorem dX0_shareAt_5 : decode cX0_shareAt 5 = .ok (.getfield 28, 3) := by decide +kernel
theorem dX0_shareAt_8 : decode cX0_shareAt 8 = .ok (.iload_n 1, 1) := by decide +kernel
theorem dX0_shareAt_9 : decode cX0_shareAt 9 = .ok (.iload_n 2, 1) := by decide +kernel
theorem dX0_shareAt_10 : decode cX0_shareAt 10 = .ok (.invokevirtual 54, 3) := by decide +kernel
theorem dX0_shareAt_13 : decode cX0_shareAt 13 = .ok (.invokevirtual 58, 3) := by decide +kernel
theorem dX0_shareAt_16 : decode cX0_shareAt 16 = .ok (.istore 4, 2) := by decide +kernel
theorem dX0_shareAt_18 : decode cX0_shareAt 18 = .ok (.iload_n 3, 1) := by decide +kernel
theorem dX0_shareAt_19 : decode cX0_shareAt 19 = .ok (.iconst 3, 1) := by decide +kernel
theorem dX0_shareAt_20 : decode cX0_shareAt 20 = .ok (.if_icmp .ne 6, 3) := by decide +kernel
theorem dX0_shareAt_23 : decode cX0_shareAt 23 = .ok (.iload 4, 2) := by decide +kernel
theorem dX0_shareAt_25 : decode cX0_shareAt 25 = .ok (.ireturn, 1) := by decide +kernel
theorem dX0_shareAt_26 : decode cX0_shareAt 26 = .ok (.iload_n 2, 1) := by decide +kernel
theorem dX0_shareAt_27 : decode cX0_shareAt 27 = .ok (.ifCond .ne 10, 3) := by decide +kernel
theorem dX0_shareAt_30 : decode cX0_shareAt 30 = .ok (.iload 4, 2) := by decide +kernel
theorem dX0_shareAt_32 : decode cX0_shareAt 32 = .ok (.iload_n 3, 1) := by decide +kernel
theorem dX0_shareAt_33 : decode cX0_shareAt 33 = .ok (.invokestatic 66, 3) := by decide +kernel
theorem dX0_shareAt_36 : decode cX0_shareAt 36 = .ok (.ireturn, 1) := by decide +kernel
theorem dX0_shareAt_37 : decode cX0_shareAt 37 = .ok (.iload_n 2, 1) := by decide +kernel
theorem dX0_shareAt_38 : decode cX0_shareAt 38 = .ok (.invokestatic 146, 3) := by decide +kernel
theorem dX0_shareAt_41 : decode cX0_shareAt 41 = .ok (.iload_n 3, 1) := by decide +kernel
theorem dX0_shareAt_42 : decode cX0_shareAt 42 = .ok (.if_icmp .ne 8, 3) := by decide +kernel
theorem dX0_shareAt_45 : decode cX0_shareAt 45 = .ok (.iload 4, 2) := by decide +kernel
theorem dX0_shareAt_47 : decode cX0_shareAt 47 = .ok (.goto 4, 3) := by decide +kernel
theorem dX0_shareAt_50 : decode cX0_shareAt 50 = .ok (.iconst 0, 1) := by decide +kernel
theorem dX0_shareAt_51 : decode cX0_shareAt 51 = .ok (.ireturn, 1) := by decide +kernel
theorem dX0_takerAt_0 : decode cX0_takerAt 0 = .ok (.iload_n 0, 1) := by decide +kernel
theorem dX0_takerAt_1 : decode cX0_takerAt 1 = .ok (.ifCond .eq 10, 3) := by decide +kernel
theorem dX0_takerAt_4 : decode cX0_takerAt 4 = .ok (.iload_n 0, 1) := by decide +kernel
theorem dX0_takerAt_5 : decode cX0_takerAt 5 = .ok (.iconst 3, 1) := by decide +kernel
theorem dX0_takerAt_6 : decode cX0_takerAt 6 = .ok (.irem, 1) := by decide +kernel
theorem dX0_takerAt_7 : decode cX0_takerAt 7 = .ok (.iconst 1, 1) := by decide +kernel
theorem dX0_takerAt_8 : decode cX0_takerAt 8 = .ok (.if_icmp .ne 5, 3) := by decide +kernel
theorem dX0_takerAt_11 : decode cX0_takerAt 11 = .ok (.iconst 0, 1) := by decide +kernel
theorem dX0_takerAt_12 : decode cX0_takerAt 12 = .ok (.ireturn, 1) := by decide +kernel
theorem dX0_takerAt_13 : decode cX0_takerAt 13 = .ok (.iload_n 0, 1) := by decide +kernel
theorem dX0_takerAt_14 : decode cX0_takerAt 14 = .ok (.iconst 3, 1) := by decide +kernel
theorem dX0_takerAt_15 : decode cX0_takerAt 15 = .ok (.irem, 1) := by decide +kernel
theorem dX0_takerAt_16 : decode cX0_takerAt 16 = .ok (.iconst 2, 1) := by decide +kernel
theorem dX0_takerAt_17 : decode cX0_takerAt 17 = .ok (.if_icmp .ne 7, 3) := by decide +kernel
theorem dX0_takerAt_20 : decode cX0_takerAt 20 = .ok (.iconst 2, 1) := by decide +kernel
theorem dX0_takerAt_21 : decode cX0_takerAt 21 = .ok (.goto 4, 3) := by decide +kernel
theorem dX0_takerAt_24 : decode cX0_takerAt 24 = .ok (.iconst 1, 1) := by decide +kernel
theorem dX0_takerAt_25 : decode cX0_takerAt 25 = .ok (.ireturn, 1) := by decide +kernel
theorem dX0_keepLongest_0 : decode cX0_keepLongest 0 = .ok (.iload_n 1, 1) := by decide +kernel
theorem dX0_keepLongest_1 : decode cX0_keepLongest 1 = .ok (.aload_n 0, 1) := by decide +kernel
theorem dX0_keepLongest_2 : decode cX0_keepLongest 2 = .ok (.getfield 121, 3) := by decide +kernel
theorem dX0_keepLongest_5 : decode cX0_keepLongest 5 = .ok (.invokestatic 80, 3) := by decide +kernel
theorem dX0_keepLongest_8 : decode cX0_keepLongest 8 = .ok (.istore_n 3, 1) := by decide +kernel
theorem dX0_keepLongest_9 : decode cX0_keepLongest 9 = .ok (.iconst 0, 1) := by decide +kernel
theorem dX0_keepLongest_10 : decode cX0_keepLongest 10 = .ok (.istore 4, 2) := by decide +kernel
theorem dX0_keepLongest_12 : decode cX0_keepLongest 12 = .ok (.iload 4, 2) := by decide +kernel
theorem dX0_keepLongest_14 : decode cX0_keepLongest 14 = .ok (.iload_n 3, 1) := by decide +kernel
theorem dX0_keepLongest_15 : decode cX0_keepLongest 15 = .ok (.if_icmp .ge 18, 3) := by decide +kernel
theorem dX0_keepLongest_18 : decode cX0_keepLongest 18 = .ok (.aload_n 0, 1) := by decide +kernel
theorem dX0_keepLongest_19 : decode cX0_keepLongest 19 = .ok (.iconst 0, 1) := by decide +kernel
theorem dX0_keepLongest_20 : decode cX0_keepLongest 20 = .ok (.iload_n 2, 1) := by decide +kernel
theorem dX0_keepLongest_21 : decode cX0_keepLongest 21 = .ok (.invokestatic 85, 3) := by decide +kernel
theorem dX0_keepLongest_24 : decode cX0_keepLongest 24 = .ok (.invokevirtual 155, 3) := by decide +kernel
theorem dX0_keepLongest_27 : decode cX0_keepLongest 27 = .ok (.iinc 4 1, 3) := by decide +kernel
theorem dX0_keepLongest_30 : decode cX0_keepLongest 30 = .ok (.goto (-18), 3) := by decide +kernel
theorem dX0_keepLongest_33 : decode cX0_keepLongest 33 = .ok (.return_, 1) := by decide +kernel
theorem dX0_insert_0 : decode cX0_insert 0 = .ok (.aload_n 0, 1) := by decide +kernel
theorem dX0_insert_1 : decode cX0_insert 1 = .ok (.getfield 124, 3) := by decide +kernel
theorem dX0_insert_4 : decode cX0_insert 4 = .ok (.istore_n 2, 1) := by decide +kernel
theorem dX0_insert_5 : decode cX0_insert 5 = .ok (.aload_n 0, 1) := by decide +kernel
theorem dX0_insert_6 : decode cX0_insert 6 = .ok (.getfield 124, 3) := by decide +kernel
theorem dX0_insert_9 : decode cX0_insert 9 = .ok (.aload_n 0, 1) := by decide +kernel
theorem dX0_insert_10 : decode cX0_insert 10 = .ok (.getfield 121, 3) := by decide +kernel
theorem dX0_insert_13 : decode cX0_insert 13 = .ok (.if_icmp .lt 34, 3) := by decide +kernel
theorem dX0_insert_16 : decode cX0_insert 16 = .ok (.aload_n 0, 1) := by decide +kernel
theorem dX0_insert_17 : decode cX0_insert 17 = .ok (.getfield 121, 3) := by decide +kernel
theorem dX0_insert_20 : decode cX0_insert 20 = .ok (.iconst 1, 1) := by decide +kernel
theorem dX0_insert_21 : decode cX0_insert 21 = .ok (.isub, 1) := by decide +kernel
theorem dX0_insert_22 : decode cX0_insert 22 = .ok (.istore_n 2, 1) := by decide +kernel
theorem dX0_insert_23 : decode cX0_insert 23 = .ok (.iload_n 2, 1) := by decide +kernel
theorem dX0_insert_24 : decode cX0_insert 24 = .ok (.ifCond .lt 22, 3) := by decide +kernel
theorem dX0_insert_27 : decode cX0_insert 27 = .ok (.iload_n 2, 1) := by decide +kernel
theorem dX0_insert_28 : decode cX0_insert 28 = .ok (.aload_n 0, 1) := by decide +kernel
theorem dX0_insert_29 : decode cX0_insert 29 = .ok (.getfield 21, 3) := by decide +kernel
theorem dX0_insert_32 : decode cX0_insert 32 = .ok (.arraylength, 1) := by decide +kernel
theorem dX0_insert_33 : decode cX0_insert 33 = .ok (.if_icmp .ge 13, 3) := by decide +kernel
theorem dX0_insert_36 : decode cX0_insert 36 = .ok (.aload_n 0, 1) := by decide +kernel
theorem dX0_insert_37 : decode cX0_insert 37 = .ok (.getfield 21, 3) := by decide +kernel
theorem dX0_insert_40 : decode cX0_insert 40 = .ok (.iload_n 2, 1) := by decide +kernel
theorem dX0_insert_41 : decode cX0_insert 41 = .ok (.iaload, 1) := by decide +kernel
theorem dX0_insert_42 : decode cX0_insert 42 = .ok (.iload_n 1, 1) := by decide +kernel
theorem dX0_insert_43 : decode cX0_insert 43 = .ok (.if_icmp .lt 14, 3) := by decide +kernel
theorem dX0_insert_46 : decode cX0_insert 46 = .ok (.return_, 1) := by decide +kernel
theorem dX0_insert_47 : decode cX0_insert 47 = .ok (.aload_n 0, 1) := by decide +kernel
theorem dX0_insert_48 : decode cX0_insert 48 = .ok (.dup, 1) := by decide +kernel
theorem dX0_insert_49 : decode cX0_insert 49 = .ok (.getfield 124, 3) := by decide +kernel
theorem dX0_insert_52 : decode cX0_insert 52 = .ok (.iconst 1, 1) := by decide +kernel
theorem dX0_insert_53 : decode cX0_insert 53 = .ok (.iadd, 1) := by decide +kernel
theorem dX0_insert_54 : decode cX0_insert 54 = .ok (.putfield 124, 3) := by decide +kernel
theorem dX0_insert_57 : decode cX0_insert 57 = .ok (.iload_n 2, 1) := by decide +kernel
theorem dX0_insert_58 : decode cX0_insert 58 = .ok (.ifCond .le 44, 3) := by decide +kernel
theorem dX0_insert_61 : decode cX0_insert 61 = .ok (.iload_n 2, 1) := by decide +kernel
theorem dX0_insert_62 : decode cX0_insert 62 = .ok (.aload_n 0, 1) := by decide +kernel
theorem dX0_insert_63 : decode cX0_insert 63 = .ok (.getfield 21, 3) := by decide +kernel
theorem dX0_insert_66 : decode cX0_insert 66 = .ok (.arraylength, 1) := by decide +kernel
theorem dX0_insert_67 : decode cX0_insert 67 = .ok (.if_icmp .ge 35, 3) := by decide +kernel
theorem dX0_insert_70 : decode cX0_insert 70 = .ok (.aload_n 0, 1) := by decide +kernel
theorem dX0_insert_71 : decode cX0_insert 71 = .ok (.getfield 21, 3) := by decide +kernel
theorem dX0_insert_74 : decode cX0_insert 74 = .ok (.iload_n 2, 1) := by decide +kernel
theorem dX0_insert_75 : decode cX0_insert 75 = .ok (.iconst 1, 1) := by decide +kernel
theorem dX0_insert_76 : decode cX0_insert 76 = .ok (.isub, 1) := by decide +kernel
theorem dX0_insert_77 : decode cX0_insert 77 = .ok (.iaload, 1) := by decide +kernel
theorem dX0_insert_78 : decode cX0_insert 78 = .ok (.iload_n 1, 1) := by decide +kernel
theorem dX0_insert_79 : decode cX0_insert 79 = .ok (.if_icmp .ge 23, 3) := by decide +kernel
theorem dX0_insert_82 : decode cX0_insert 82 = .ok (.aload_n 0, 1) := by decide +kernel
theorem dX0_insert_83 : decode cX0_insert 83 = .ok (.getfield 21, 3) := by decide +kernel
theorem dX0_insert_86 : decode cX0_insert 86 = .ok (.iload_n 2, 1) := by decide +kernel
theorem dX0_insert_87 : decode cX0_insert 87 = .ok (.aload_n 0, 1) := by decide +kernel
theorem dX0_insert_88 : decode cX0_insert 88 = .ok (.getfield 21, 3) := by decide +kernel
theorem dX0_insert_91 : decode cX0_insert 91 = .ok (.iload_n 2, 1) := by decide +kernel
theorem dX0_insert_92 : decode cX0_insert 92 = .ok (.iconst 1, 1) := by decide +kernel
theorem dX0_insert_93 : decode cX0_insert 93 = .ok (.isub, 1) := by decide +kernel
theorem dX0_insert_94 : decode cX0_insert 94 = .ok (.iaload, 1) := by decide +kernel
theorem dX0_insert_95 : decode cX0_insert 95 = .ok (.iastore, 1) := by decide +kernel
theorem dX0_insert_96 : decode cX0_insert 96 = .ok (.iinc 2 (-1), 3) := by decide +kernel
theorem dX0_insert_99 : decode cX0_insert 99 = .ok (.goto (-42), 3) := by decide +kernel
theorem dX0_insert_102 : decode cX0_insert 102 = .ok (.iload_n 2, 1) := by decide +kernel
theorem dX0_insert_103 : decode cX0_insert 103 = .ok (.ifCond .lt 19, 3) := by decide +kernel
theorem dX0_insert_106 : decode cX0_insert 106 = .ok (.iload_n 2, 1) := by decide +kernel
theorem dX0_insert_107 : decode cX0_insert 107 = .ok (.aload_n 0, 1) := by decide +kernel
theorem dX0_insert_108 : decode cX0_insert 108 = .ok (.getfield 21, 3) := by decide +kernel
theorem dX0_insert_111 : decode cX0_insert 111 = .ok (.arraylength, 1) := by decide +kernel
theorem dX0_insert_112 : decode cX0_insert 112 = .ok (.if_icmp .ge 10, 3) := by decide +kernel
theorem dX0_insert_115 : decode cX0_insert 115 = .ok (.aload_n 0, 1) := by decide +kernel
theorem dX0_insert_116 : decode cX0_insert 116 = .ok (.getfield 21, 3) := by decide +kernel
theorem dX0_insert_119 : decode cX0_insert 119 = .ok (.iload_n 2, 1) := by decide +kernel
theorem dX0_insert_120 : decode cX0_insert 120 = .ok (.iload_n 1, 1) := by decide +kernel
theorem dX0_insert_121 : decode cX0_insert 121 = .ok (.iastore, 1) := by decide +kernel
theorem dX0_insert_122 : decode cX0_insert 122 = .ok (.return_, 1) := by decide +kernel
theorem dX1_init_0 : decode cX1_init 0 = .ok (.aload_n 0, 1) := by decide +kernel
theorem dX1_init_1 : decode cX1_init 1 = .ok (.invokespecial 3, 3) := by decide +kernel
theorem dX1_init_4 : decode cX1_init 4 = .ok (.aload_n 0, 1) := by decide +kernel
theorem dX1_init_5 : decode cX1_init 5 = .ok (.iconst 3, 1) := by decide +kernel
theorem dX1_init_6 : decode cX1_init 6 = .ok (.newarray .int, 2) := by decide +kernel
theorem dX1_init_8 : decode cX1_init 8 = .ok (.putfield 9, 3) := by decide +kernel
theorem dX1_init_11 : decode cX1_init 11 = .ok (.aload_n 0, 1) := by decide +kernel
theorem dX1_init_12 : decode cX1_init 12 = .ok (.iconst 3, 1) := by decide +kernel
theorem dX1_init_13 : decode cX1_init 13 = .ok (.newarray .int, 2) := by decide +kernel
theorem dX1_init_15 : decode cX1_init 15 = .ok (.putfield 15, 3) := by decide +kernel
theorem dX1_init_18 : decode cX1_init 18 = .ok (.aload_n 0, 1) := by decide +kernel
theorem dX1_init_19 : decode cX1_init 19 = .ok (.bipush 8, 2) := by decide +kernel
theorem dX1_init_21 : decode cX1_init 21 = .ok (.newarray .int, 2) := by decide +kernel
theorem dX1_init_23 : decode cX1_init 23 = .ok (.putfield 18, 3) := by decide +kernel
theorem dX1_init_26 : decode cX1_init 26 = .ok (.aload_n 0, 1) := by decide +kernel
theorem dX1_init_27 : decode cX1_init 27 = .ok (.bipush 8, 2) := by decide +kernel
theorem dX1_init_29 : decode cX1_init 29 = .ok (.newarray .int, 2) := by decide +kernel
theorem dX1_init_31 : decode cX1_init 31 = .ok (.putfield 21, 3) := by decide +kernel
theorem dX1_init_34 : decode cX1_init 34 = .ok (.aload_n 0, 1) := by decide +kernel
theorem dX1_init_35 : decode cX1_init 35 = .ok (.bipush 8, 2) := by decide +kernel
theorem dX1_init_37 : decode cX1_init 37 = .ok (.newarray .int, 2) := by decide +kernel
theorem dX1_init_39 : decode cX1_init 39 = .ok (.putfield 24, 3) := by decide +kernel
theorem dX1_init_42 : decode cX1_init 42 = .ok (.aload_n 0, 1) := by decide +kernel
theorem dX1_init_43 : decode cX1_init 43 = .ok (.bipush 8, 2) := by decide +kernel
theorem dX1_init_45 : decode cX1_init 45 = .ok (.newarray .int, 2) := by decide +kernel
theorem dX1_init_47 : decode cX1_init 47 = .ok (.putfield 27, 3) := by decide +kernel
theorem dX1_init_50 : decode cX1_init 50 = .ok (.aload_n 0, 1) := by decide +kernel
theorem dX1_init_51 : decode cX1_init 51 = .ok (.iconst 0, 1) := by decide +kernel
theorem dX1_init_52 : decode cX1_init 52 = .ok (.putfield 30, 3) := by decide +kernel
theorem dX1_init_55 : decode cX1_init 55 = .ok (.aload_n 0, 1) := by decide +kernel
theorem dX1_init_56 : decode cX1_init 56 = .ok (.iconst 0, 1) := by decide +kernel
theorem dX1_init_57 : decode cX1_init 57 = .ok (.putfield 34, 3) := by decide +kernel
theorem dX1_init_60 : decode cX1_init 60 = .ok (.aload_n 0, 1) := by decide +kernel
theorem dX1_init_61 : decode cX1_init 61 = .ok (.getfield 9, 3) := by decide +kernel
theorem dX1_init_64 : decode cX1_init 64 = .ok (.iconst 0, 1) := by decide +kernel
theorem dX1_init_65 : decode cX1_init 65 = .ok (.iconst 1, 1) := by decide +kernel
theorem dX1_init_66 : decode cX1_init 66 = .ok (.iastore, 1) := by decide +kernel
theorem dX1_init_67 : decode cX1_init 67 = .ok (.return_, 1) := by decide +kernel
theorem dX1_hire_0 : decode cX1_hire 0 = .ok (.aload_n 0, 1) := by decide +kernel
theorem dX1_hire_1 : decode cX1_hire 1 = .ok (.getfield 9, 3) := by decide +kernel
theorem dX1_hire_4 : decode cX1_hire 4 = .ok (.iconst 0, 1) := by decide +kernel
theorem dX1_hire_5 : decode cX1_hire 5 = .ok (.iload_n 1, 1) := by decide +kernel
theorem dX1_hire_6 : decode cX1_hire 6 = .ok (.iastore, 1) := by decide +kernel
theorem dX1_hire_7 : decode cX1_hire 7 = .ok (.aload_n 0, 1) := by decide +kernel
theorem dX1_hire_8 : decode cX1_hire 8 = .ok (.getfield 9, 3) := by decide +kernel
theorem dX1_hire_11 : decode cX1_hire 11 = .ok (.iconst 1, 1) := by decide +kernel
theorem dX1_hire_12 : decode cX1_hire 12 = .ok (.iload_n 2, 1) := by decide +kernel
theorem dX1_hire_13 : decode cX1_hire 13 = .ok (.iastore, 1) := by decide +kernel
theorem dX1_hire_14 : decode cX1_hire 14 = .ok (.aload_n 0, 1) := by decide +kernel
theorem dX1_hire_15 : decode cX1_hire 15 = .ok (.getfield 9, 3) := by decide +kernel
theorem dX1_hire_18 : decode cX1_hire 18 = .ok (.iconst 2, 1) := by decide +kernel
theorem dX1_hire_19 : decode cX1_hire 19 = .ok (.iload_n 2, 1) := by decide +kernel
theorem dX1_hire_20 : decode cX1_hire 20 = .ok (.ifCond .ne 7, 3) := by decide +kernel
theorem dX1_hire_23 : decode cX1_hire 23 = .ok (.iconst 0, 1) := by decide +kernel
theorem dX1_hire_24 : decode cX1_hire 24 = .ok (.goto 4, 3) := by decide +kernel
theorem dX1_hire_27 : decode cX1_hire 27 = .ok (.iload_n 3, 1) := by decide +kernel
theorem dX1_hire_28 : decode cX1_hire 28 = .ok (.iastore, 1) := by decide +kernel
theorem dX1_hire_29 : decode cX1_hire 29 = .ok (.return_, 1) := by decide +kernel
theorem dX1_clear_0 : decode cX1_clear 0 = .ok (.aload_n 0, 1) := by decide +kernel
theorem dX1_clear_1 : decode cX1_clear 1 = .ok (.iconst 0, 1) := by decide +kernel
theorem dX1_clear_2 : decode cX1_clear 2 = .ok (.putfield 30, 3) := by decide +kernel
theorem dX1_clear_5 : decode cX1_clear 5 = .ok (.return_, 1) := by decide +kernel
theorem dX1_put_0 : decode cX1_put 0 = .ok (.aload_n 0, 1) := by decide +kernel
theorem dX1_put_1 : decode cX1_put 1 = .ok (.getfield 30, 3) := by decide +kernel
theorem dX1_put_4 : decode cX1_put 4 = .ok (.bipush 8, 2) := by decide +kernel
theorem dX1_put_6 : decode cX1_put 6 = .ok (.if_icmp .ge 33, 3) := by decide +kernel
theorem dX1_put_9 : decode cX1_put 9 = .ok (.aload_n 0, 1) := by decide +kernel
theorem dX1_put_10 : decode cX1_put 10 = .ok (.getfield 18, 3) := by decide +kernel
theorem dX1_put_13 : decode cX1_put 13 = .ok (.aload_n 0, 1) := by decide +kernel
theorem dX1_put_14 : decode cX1_put 14 = .ok (.getfield 30, 3) := by decide +kernel
theorem dX1_put_17 : decode cX1_put 17 = .ok (.iload_n 1, 1) := by decide +kernel
theorem dX1_put_18 : decode cX1_put 18 = .ok (.iastore, 1) := by decide +kernel
theorem dX1_put_19 : decode cX1_put 19 = .ok (.aload_n 0, 1) := by decide +kernel
theorem dX1_put_20 : decode cX1_put 20 = .ok (.getfield 21, 3) := by decide +kernel
theorem dX1_put_23 : decode cX1_put 23 = .ok (.aload_n 0, 1) := by decide +kernel
theorem dX1_put_24 : decode cX1_put 24 = .ok (.getfield 30, 3) := by decide +kernel
theorem dX1_put_27 : decode cX1_put 27 = .ok (.iload_n 2, 1) := by decide +kernel
theorem dX1_put_28 : decode cX1_put 28 = .ok (.iastore, 1) := by decide +kernel
theorem dX1_put_29 : decode cX1_put 29 = .ok (.aload_n 0, 1) := by decide +kernel
theorem dX1_put_30 : decode cX1_put 30 = .ok (.dup, 1) := by decide +kernel
theorem dX1_put_31 : decode cX1_put 31 = .ok (.getfield 30, 3) := by decide +kernel
theorem dX1_put_34 : decode cX1_put 34 = .ok (.iconst 1, 1) := by decide +kernel
theorem dX1_put_35 : decode cX1_put 35 = .ok (.iadd, 1) := by decide +kernel
theorem dX1_put_36 : decode cX1_put 36 = .ok (.putfield 30, 3) := by decide +kernel
theorem dX1_put_39 : decode cX1_put 39 = .ok (.return_, 1) := by decide +kernel
theorem dX1_settle_0 : decode cX1_settle 0 = .ok (.aload_n 0, 1) := by decide +kernel
theorem dX1_settle_1 : decode cX1_settle 1 = .ok (.getfield 15, 3) := by decide +kernel
theorem dX1_settle_4 : decode cX1_settle 4 = .ok (.iconst 0, 1) := by decide +kernel
theorem dX1_settle_5 : decode cX1_settle 5 = .ok (.invokestatic 37, 3) := by decide +kernel
theorem dX1_settle_8 : decode cX1_settle 8 = .ok (.aload_n 0, 1) := by decide +kernel
theorem dX1_settle_9 : decode cX1_settle 9 = .ok (.ldc 43, 2) := by decide +kernel
theorem dX1_settle_11 : decode cX1_settle 11 = .ok (.putfield 34, 3) := by decide +kernel
theorem dX1_settle_14 : decode cX1_settle 14 = .ok (.aload_n 0, 1) := by decide +kernel
theorem dX1_settle_15 : decode cX1_settle 15 = .ok (.iconst 0, 1) := by decide +kernel
theorem dX1_settle_16 : decode cX1_settle 16 = .ok (.iconst 0, 1) := by decide +kernel
theorem dX1_settle_17 : decode cX1_settle 17 = .ok (.invokevirtual 44, 3) := by decide +kernel
theorem dX1_settle_20 : decode cX1_settle 20 = .ok (.return_, 1) := by decide +kernel
theorem dX1_share_0 : decode cX1_share 0 = .ok (.iload_n 1, 1) := by decide +kernel
theorem dX1_share_1 : decode cX1_share 1 = .ok (.aload_n 0, 1) := by decide +kernel
theorem dX1_share_2 : decode cX1_share 2 = .ok (.getfield 30, 3) := by decide +kernel
theorem dX1_share_5 : decode cX1_share 5 = .ok (.if_icmp .ge 13, 3) := by decide +kernel
theorem dX1_share_8 : decode cX1_share 8 = .ok (.iload_n 1, 1) := by decide +kernel
theorem dX1_share_9 : decode cX1_share 9 = .ok (.ifCond .lt 9, 3) := by decide +kernel
theorem dX1_share_12 : decode cX1_share 12 = .ok (.iload_n 1, 1) := by decide +kernel
theorem dX1_share_13 : decode cX1_share 13 = .ok (.bipush 8, 2) := by decide +kernel
theorem dX1_share_15 : decode cX1_share 15 = .ok (.if_icmp .lt 24, 3) := by decide +kernel
theorem dX1_share_18 : decode cX1_share 18 = .ok (.aload_n 0, 1) := by decide +kernel
theorem dX1_share_19 : decode cX1_share 19 = .ok (.iload_n 2, 1) := by decide +kernel
theorem dX1_share_20 : decode cX1_share 20 = .ok (.putfield 34, 3) := by decide +kernel
theorem dX1_share_23 : decode cX1_share 23 = .ok (.aload_n 0, 1) := by decide +kernel
theorem dX1_share_24 : decode cX1_share 24 = .ok (.getfield 24, 3) := by decide +kernel
theorem dX1_share_27 : decode cX1_share 27 = .ok (.iconst 0, 1) := by decide +kernel
theorem dX1_share_28 : decode cX1_share 28 = .ok (.aload_n 0, 1) := by decide +kernel
theorem dX1_share_29 : decode cX1_share 29 = .ok (.getfield 27, 3) := by decide +kernel
theorem dX1_share_32 : decode cX1_share 32 = .ok (.iconst 0, 1) := by decide +kernel
theorem dX1_share_33 : decode cX1_share 33 = .ok (.bipush 8, 2) := by decide +kernel
theorem dX1_share_35 : decode cX1_share 35 = .ok (.invokestatic 48, 3) := by decide +kernel
theorem dX1_share_38 : decode cX1_share 38 = .ok (.return_, 1) := by decide +kernel
theorem dX1_share_39 : decode cX1_share 39 = .ok (.iconst 0, 1) := by decide +kernel
theorem dX1_share_40 : decode cX1_share 40 = .ok (.istore_n 3, 1) := by decide +kernel
theorem dX1_share_41 : decode cX1_share 41 = .ok (.iload_n 3, 1) := by decide +kernel
theorem dX1_share_42 : decode cX1_share 42 = .ok (.iconst 3, 1) := by decide +kernel
theorem dX1_share_43 : decode cX1_share 43 = .ok (.if_icmp .ge 25, 3) := by decide +kernel
theorem dX1_share_46 : decode cX1_share 46 = .ok (.aload_n 0, 1) := by decide +kernel
theorem dX1_share_47 : decode cX1_share 47 = .ok (.getfield 9, 3) := by decide +kernel
theorem dX1_share_50 : decode cX1_share 50 = .ok (.iload_n 3, 1) := by decide +kernel
theorem dX1_share_51 : decode cX1_share 51 = .ok (.iaload, 1) := by decide +kernel
theorem dX1_share_52 : decode cX1_share 52 = .ok (.ifCond .le 10, 3) := by decide +kernel
theorem dX1_share_55 : decode cX1_share 55 = .ok (.aload_n 0, 1) := by decide +kernel
theorem dX1_share_56 : decode cX1_share 56 = .ok (.iload_n 3, 1) := by decide +kernel
theorem dX1_share_57 : decode cX1_share 57 = .ok (.iload_n 1, 1) := by decide +kernel
theorem dX1_share_58 : decode cX1_share 58 = .ok (.iload_n 2, 1) := by decide +kernel
theorem dX1_share_59 : decode cX1_share 59 = .ok (.invokevirtual 54, 3) := by decide +kernel
theorem dX1_share_62 : decode cX1_share 62 = .ok (.iinc 3 1, 3) := by decide +kernel
theorem dX1_share_65 : decode cX1_share 65 = .ok (.goto (-24), 3) := by decide +kernel
theorem dX1_share_68 : decode cX1_share 68 = .ok (.return_, 1) := by decide +kernel
theorem dX1_giveTo_0 : decode cX1_giveTo 0 = .ok (.iconst 1, 1) := by decide +kernel
theorem dX1_giveTo_1 : decode cX1_giveTo 1 = .ok (.aload_n 0, 1) := by decide +kernel
theorem dX1_giveTo_2 : decode cX1_giveTo 2 = .ok (.getfield 9, 3) := by decide +kernel
theorem dX1_giveTo_5 : decode cX1_giveTo 5 = .ok (.iload_n 1, 1) := by decide +kernel
theorem dX1_giveTo_6 : decode cX1_giveTo 6 = .ok (.iaload, 1) := by decide +kernel
theorem dX1_giveTo_7 : decode cX1_giveTo 7 = .ok (.invokestatic 58, 3) := by decide +kernel
theorem dX1_giveTo_10 : decode cX1_giveTo 10 = .ok (.istore 4, 2) := by decide +kernel
theorem dX1_giveTo_12 : decode cX1_giveTo 12 = .ok (.aload_n 0, 1) := by decide +kernel
theorem dX1_giveTo_13 : decode cX1_giveTo 13 = .ok (.getfield 21, 3) := by decide +kernel
theorem dX1_giveTo_16 : decode cX1_giveTo 16 = .ok (.iload_n 2, 1) := by decide +kernel
theorem dX1_giveTo_17 : decode cX1_giveTo 17 = .ok (.iaload, 1) := by decide +kernel
theorem dX1_giveTo_18 : decode cX1_giveTo 18 = .ok (.iload 4, 2) := by decide +kernel
theorem dX1_giveTo_20 : decode cX1_giveTo 20 = .ok (.iadd, 1) := by decide +kernel
theorem dX1_giveTo_21 : decode cX1_giveTo 21 = .ok (.iconst 1, 1) := by decide +kernel
theorem dX1_giveTo_22 : decode cX1_giveTo 22 = .ok (.isub, 1) := by decide +kernel
theorem dX1_giveTo_23 : decode cX1_giveTo 23 = .ok (.iload 4, 2) := by decide +kernel
theorem dX1_giveTo_25 : decode cX1_giveTo 25 = .ok (.idiv, 1) := by decide +kernel
theorem dX1_giveTo_26 : decode cX1_giveTo 26 = .ok (.istore 5, 2) := by decide +kernel
theorem dX1_giveTo_28 : decode cX1_giveTo 28 = .ok (.aload_n 0, 1) := by decide +kernel
theorem dX1_giveTo_29 : decode cX1_giveTo 29 = .ok (.getfield 15, 3) := by decide +kernel
theorem dX1_giveTo_32 : decode cX1_giveTo 32 = .ok (.iload_n 1, 1) := by decide +kernel
theorem dX1_giveTo_33 : decode cX1_giveTo 33 = .ok (.dup2, 1) := by decide +kernel
theorem dX1_giveTo_34 : decode cX1_giveTo 34 = .ok (.iaload, 1) := by decide +kernel
theorem dX1_giveTo_35 : decode cX1_giveTo 35 = .ok (.iload 5, 2) := by decide +kernel
theorem dX1_giveTo_37 : decode cX1_giveTo 37 = .ok (.iadd, 1) := by decide +kernel
theorem dX1_giveTo_38 : decode cX1_giveTo 38 = .ok (.iastore, 1) := by decide +kernel
theorem dX1_giveTo_39 : decode cX1_giveTo 39 = .ok (.iload_n 3, 1) := by decide +kernel
theorem dX1_giveTo_40 : decode cX1_giveTo 40 = .ok (.aload_n 0, 1) := by decide +kernel
theorem dX1_giveTo_41 : decode cX1_giveTo 41 = .ok (.getfield 15, 3) := by decide +kernel
theorem dX1_giveTo_44 : decode cX1_giveTo 44 = .ok (.iload_n 1, 1) := by decide +kernel
theorem dX1_giveTo_45 : decode cX1_giveTo 45 = .ok (.iaload, 1) := by decide +kernel
theorem dX1_giveTo_46 : decode cX1_giveTo 46 = .ok (.invokestatic 58, 3) := by decide +kernel
theorem dX1_giveTo_49 : decode cX1_giveTo 49 = .ok (.istore 6, 2) := by decide +kernel
theorem dX1_giveTo_51 : decode cX1_giveTo 51 = .ok (.iload 6, 2) := by decide +kernel
theorem dX1_giveTo_53 : decode cX1_giveTo 53 = .ok (.aload_n 0, 1) := by decide +kernel
theorem dX1_giveTo_54 : decode cX1_giveTo 54 = .ok (.getfield 34, 3) := by decide +kernel
theorem dX1_giveTo_57 : decode cX1_giveTo 57 = .ok (.if_icmp .ge 19, 3) := by decide +kernel
theorem dX1_giveTo_60 : decode cX1_giveTo 60 = .ok (.aload_n 0, 1) := by decide +kernel
theorem dX1_giveTo_61 : decode cX1_giveTo 61 = .ok (.getfield 24, 3) := by decide +kernel
theorem dX1_giveTo_64 : decode cX1_giveTo 64 = .ok (.iload_n 2, 1) := by decide +kernel
theorem dX1_giveTo_65 : decode cX1_giveTo 65 = .ok (.iload_n 1, 1) := by decide +kernel
theorem dX1_giveTo_66 : decode cX1_giveTo 66 = .ok (.iastore, 1) := by decide +kernel
theorem dX1_giveTo_67 : decode cX1_giveTo 67 = .ok (.aload_n 0, 1) := by decide +kernel
theorem dX1_giveTo_68 : decode cX1_giveTo 68 = .ok (.iload_n 2, 1) := by decide +kernel
theorem dX1_giveTo_69 : decode cX1_giveTo 69 = .ok (.iconst 1, 1) := by decide +kernel
theorem dX1_giveTo_70 : decode cX1_giveTo 70 = .ok (.iadd, 1) := by decide +kernel
theorem dX1_giveTo_71 : decode cX1_giveTo 71 = .ok (.iload 6, 2) := by decide +kernel
theorem dX1_giveTo_73 : decode cX1_giveTo 73 = .ok (.invokevirtual 44, 3) := by decide +kernel
theorem dX1_giveTo_76 : decode cX1_giveTo 76 = .ok (.aload_n 0, 1) := by decide +kernel
theorem dX1_giveTo_77 : decode cX1_giveTo 77 = .ok (.getfield 15, 3) := by decide +kernel
theorem dX1_giveTo_80 : decode cX1_giveTo 80 = .ok (.iload_n 1, 1) := by decide +kernel
theorem dX1_giveTo_81 : decode cX1_giveTo 81 = .ok (.dup2, 1) := by decide +kernel
theorem dX1_giveTo_82 : decode cX1_giveTo 82 = .ok (.iaload, 1) := by decide +kernel
theorem dX1_giveTo_83 : decode cX1_giveTo 83 = .ok (.iload 5, 2) := by decide +kernel
theorem dX1_giveTo_85 : decode cX1_giveTo 85 = .ok (.isub, 1) := by decide +kernel
theorem dX1_giveTo_86 : decode cX1_giveTo 86 = .ok (.iastore, 1) := by decide +kernel
theorem dX1_giveTo_87 : decode cX1_giveTo 87 = .ok (.return_, 1) := by decide +kernel
theorem dX1_sitting_0 : decode cX1_sitting 0 = .ok (.aload_n 0, 1) := by decide +kernel
theorem dX1_sitting_1 : decode cX1_sitting 1 = .ok (.getfield 34, 3) := by decide +kernel
theorem dX1_sitting_4 : decode cX1_sitting 4 = .ok (.ifCond .le 15, 3) := by decide +kernel
theorem dX1_sitting_7 : decode cX1_sitting 7 = .ok (.aload_n 0, 1) := by decide +kernel
theorem dX1_sitting_8 : decode cX1_sitting 8 = .ok (.getfield 34, 3) := by decide +kernel
theorem dX1_sitting_11 : decode cX1_sitting 11 = .ok (.iconst 1, 1) := by decide +kernel
theorem dX1_sitting_12 : decode cX1_sitting 12 = .ok (.isub, 1) := by decide +kernel
theorem dX1_sitting_13 : decode cX1_sitting 13 = .ok (.bipush 60, 2) := by decide +kernel
theorem dX1_sitting_15 : decode cX1_sitting 15 = .ok (.idiv, 1) := by decide +kernel
theorem dX1_sitting_16 : decode cX1_sitting 16 = .ok (.goto 4, 3) := by decide +kernel
theorem dX1_sitting_19 : decode cX1_sitting 19 = .ok (.iconst 0, 1) := by decide +kernel
theorem dX1_sitting_20 : decode cX1_sitting 20 = .ok (.istore_n 1, 1) := by decide +kernel
theorem dX1_sitting_21 : decode cX1_sitting 21 = .ok (.aload_n 0, 1) := by decide +kernel
theorem dX1_sitting_22 : decode cX1_sitting 22 = .ok (.getfield 34, 3) := by decide +kernel
theorem dX1_sitting_25 : decode cX1_sitting 25 = .ok (.bipush 10, 2) := by decide +kernel
theorem dX1_sitting_27 : decode cX1_sitting 27 = .ok (.iload_n 1, 1) := by decide +kernel
theorem dX1_sitting_28 : decode cX1_sitting 28 = .ok (.imul, 1) := by decide +kernel
theorem dX1_sitting_29 : decode cX1_sitting 29 = .ok (.iadd, 1) := by decide +kernel
theorem dX1_sitting_30 : decode cX1_sitting 30 = .ok (.ireturn, 1) := by decide +kernel
theorem dX1_handFor_0 : decode cX1_handFor 0 = .ok (.iconst 0, 1) := by decide +kernel
theorem dX1_handFor_1 : decode cX1_handFor 1 = .ok (.istore_n 2, 1) := by decide +kernel
theorem dX1_handFor_2 : decode cX1_handFor 2 = .ok (.iload_n 2, 1) := by decide +kernel
theorem dX1_handFor_3 : decode cX1_handFor 3 = .ok (.aload_n 0, 1) := by decide +kernel
theorem dX1_handFor_4 : decode cX1_handFor 4 = .ok (.getfield 30, 3) := by decide +kernel
theorem dX1_handFor_7 : decode cX1_handFor 7 = .ok (.if_icmp .ge 32, 3) := by decide +kernel
theorem dX1_handFor_10 : decode cX1_handFor 10 = .ok (.iload_n 2, 1) := by decide +kernel
theorem dX1_handFor_11 : decode cX1_handFor 11 = .ok (.bipush 8, 2) := by decide +kernel
theorem dX1_handFor_13 : decode cX1_handFor 13 = .ok (.if_icmp .ge 26, 3) := by decide +kernel
theorem dX1_handFor_16 : decode cX1_handFor 16 = .ok (.aload_n 0, 1) := by decide +kernel
theorem dX1_handFor_17 : decode cX1_handFor 17 = .ok (.getfield 18, 3) := by decide +kernel
theorem dX1_handFor_20 : decode cX1_handFor 20 = .ok (.iload_n 2, 1) := by decide +kernel
theorem dX1_handFor_21 : decode cX1_handFor 21 = .ok (.iaload, 1) := by decide +kernel
theorem dX1_handFor_22 : decode cX1_handFor 22 = .ok (.iload_n 1, 1) := by decide +kernel
theorem dX1_handFor_23 : decode cX1_handFor 23 = .ok (.if_icmp .ne 10, 3) := by decide +kernel
theorem dX1_handFor_26 : decode cX1_handFor 26 = .ok (.aload_n 0, 1) := by decide +kernel
theorem dX1_handFor_27 : decode cX1_handFor 27 = .ok (.getfield 27, 3) := by decide +kernel
theorem dX1_handFor_30 : decode cX1_handFor 30 = .ok (.iload_n 2, 1) := by decide +kernel
theorem dX1_handFor_31 : decode cX1_handFor 31 = .ok (.iaload, 1) := by decide +kernel
theorem dX1_handFor_32 : decode cX1_handFor 32 = .ok (.ireturn, 1) := by decide +kernel
theorem dX1_handFor_33 : decode cX1_handFor 33 = .ok (.iinc 2 1, 3) := by decide +kernel
theorem dX1_handFor_36 : decode cX1_handFor 36 = .ok (.goto (-34), 3) := by decide +kernel
theorem dX1_handFor_39 : decode cX1_handFor 39 = .ok (.iconst (-1), 1) := by decide +kernel
theorem dX1_handFor_40 : decode cX1_handFor 40 = .ok (.ireturn, 1) := by decide +kernel
theorem dX2_init_0 : decode cX2_init 0 = .ok (.aload_n 0, 1) := by decide +kernel
theorem dX2_init_1 : decode cX2_init 1 = .ok (.invokespecial 3, 3) := by decide +kernel
theorem dX2_init_4 : decode cX2_init 4 = .ok (.aload_n 0, 1) := by decide +kernel
theorem dX2_init_5 : decode cX2_init 5 = .ok (.sipush 192, 3) := by decide +kernel
theorem dX2_init_8 : decode cX2_init 8 = .ok (.newarray .int, 2) := by decide +kernel
theorem dX2_init_10 : decode cX2_init 10 = .ok (.putfield 9, 3) := by decide +kernel
theorem dX2_init_13 : decode cX2_init 13 = .ok (.aload_n 0, 1) := by decide +kernel
theorem dX2_init_14 : decode cX2_init 14 = .ok (.sipush 200, 3) := by decide +kernel
theorem dX2_init_17 : decode cX2_init 17 = .ok (.putfield 15, 3) := by decide +kernel
theorem dX2_init_20 : decode cX2_init 20 = .ok (.aload_n 0, 1) := by decide +kernel
theorem dX2_init_21 : decode cX2_init 21 = .ok (.iconst 0, 1) := by decide +kernel
theorem dX2_init_22 : decode cX2_init 22 = .ok (.putfield 19, 3) := by decide +kernel
theorem dX2_init_25 : decode cX2_init 25 = .ok (.aload_n 0, 1) := by decide +kernel
theorem dX2_init_26 : decode cX2_init 26 = .ok (.getfield 9, 3) := by decide +kernel
theorem dX2_init_29 : decode cX2_init 29 = .ok (.bipush 10, 2) := by decide +kernel
theorem dX2_init_31 : decode cX2_init 31 = .ok (.invokestatic 22, 3) := by decide +kernel
theorem dX2_init_34 : decode cX2_init 34 = .ok (.return_, 1) := by decide +kernel
theorem dX2_putHairs_0 : decode cX2_putHairs 0 = .ok (.iload_n 1, 1) := by decide +kernel
theorem dX2_putHairs_1 : decode cX2_putHairs 1 = .ok (.invokestatic 28, 3) := by decide +kernel
theorem dX2_putHairs_4 : decode cX2_putHairs 4 = .ok (.ifCond .eq 10, 3) := by decide +kernel
theorem dX2_putHairs_7 : decode cX2_putHairs 7 = .ok (.aload_n 0, 1) := by decide +kernel
theorem dX2_putHairs_8 : decode cX2_putHairs 8 = .ok (.getfield 9, 3) := by decide +kernel
theorem dX2_putHairs_11 : decode cX2_putHairs 11 = .ok (.iload_n 1, 1) := by decide +kernel
theorem dX2_putHairs_12 : decode cX2_putHairs 12 = .ok (.iload_n 2, 1) := by decide +kernel
theorem dX2_putHairs_13 : decode cX2_putHairs 13 = .ok (.iastore, 1) := by decide +kernel
theorem dX2_putHairs_14 : decode cX2_putHairs 14 = .ok (.return_, 1) := by decide +kernel
theorem dX2_hairsAt_0 : decode cX2_hairsAt 0 = .ok (.iload_n 1, 1) := by decide +kernel
theorem dX2_hairsAt_1 : decode cX2_hairsAt 1 = .ok (.invokestatic 28, 3) := by decide +kernel
theorem dX2_hairsAt_4 : decode cX2_hairsAt 4 = .ok (.ifCond .eq 12, 3) := by decide +kernel
theorem dX2_hairsAt_7 : decode cX2_hairsAt 7 = .ok (.aload_n 0, 1) := by decide +kernel
theorem dX2_hairsAt_8 : decode cX2_hairsAt 8 = .ok (.getfield 9, 3) := by decide +kernel
theorem dX2_hairsAt_11 : decode cX2_hairsAt 11 = .ok (.iload_n 1, 1) := by decide +kernel
theorem dX2_hairsAt_12 : decode cX2_hairsAt 12 = .ok (.iaload, 1) := by decide +kernel
theorem dX2_hairsAt_13 : decode cX2_hairsAt 13 = .ok (.goto 4, 3) := by decide +kernel
theorem dX2_hairsAt_16 : decode cX2_hairsAt 16 = .ok (.iconst (-1), 1) := by decide +kernel
theorem dX2_hairsAt_17 : decode cX2_hairsAt 17 = .ok (.ireturn, 1) := by decide +kernel
theorem dX2_isScalp_0 : decode cX2_isScalp 0 = .ok (.iload_n 1, 1) := by decide +kernel
theorem dX2_isScalp_1 : decode cX2_isScalp 1 = .ok (.invokestatic 28, 3) := by decide +kernel
theorem dX2_isScalp_4 : decode cX2_isScalp 4 = .ok (.ifCond .eq 17, 3) := by decide +kernel
theorem dX2_isScalp_7 : decode cX2_isScalp 7 = .ok (.aload_n 0, 1) := by decide +kernel
theorem dX2_isScalp_8 : decode cX2_isScalp 8 = .ok (.getfield 9, 3) := by decide +kernel
theorem dX2_isScalp_11 : decode cX2_isScalp 11 = .ok (.iload_n 1, 1) := by decide +kernel
theorem dX2_isScalp_12 : decode cX2_isScalp 12 = .ok (.iaload, 1) := by decide +kernel
theorem dX2_isScalp_13 : decode cX2_isScalp 13 = .ok (.iconst (-1), 1) := by decide +kernel
theorem dX2_isScalp_14 : decode cX2_isScalp 14 = .ok (.if_icmp .eq 7, 3) := by decide +kernel
theorem dX2_isScalp_17 : decode cX2_isScalp 17 = .ok (.iconst 1, 1) := by decide +kernel
theorem dX2_isScalp_18 : decode cX2_isScalp 18 = .ok (.goto 4, 3) := by decide +kernel
theorem dX2_isScalp_21 : decode cX2_isScalp 21 = .ok (.iconst 0, 1) := by decide +kernel
theorem dX2_isScalp_22 : decode cX2_isScalp 22 = .ok (.ireturn, 1) := by decide +kernel
theorem dX2_isEdge_0 : decode cX2_isEdge 0 = .ok (.iconst 0, 1) := by decide +kernel
theorem dX2_isEdge_1 : decode cX2_isEdge 1 = .ok (.istore_n 2, 1) := by decide +kernel
theorem dX2_isEdge_2 : decode cX2_isEdge 2 = .ok (.iload_n 2, 1) := by decide +kernel
theorem dX2_isEdge_3 : decode cX2_isEdge 3 = .ok (.iconst 4, 1) := by decide +kernel
theorem dX2_isEdge_4 : decode cX2_isEdge 4 = .ok (.if_icmp .ge 23, 3) := by decide +kernel
theorem dX2_isEdge_7 : decode cX2_isEdge 7 = .ok (.aload_n 0, 1) := by decide +kernel
theorem dX2_isEdge_8 : decode cX2_isEdge 8 = .ok (.iload_n 1, 1) := by decide +kernel
theorem dX2_isEdge_9 : decode cX2_isEdge 9 = .ok (.iload_n 2, 1) := by decide +kernel
theorem dX2_isEdge_10 : decode cX2_isEdge 10 = .ok (.invokestatic 32, 3) := by decide +kernel
theorem dX2_isEdge_13 : decode cX2_isEdge 13 = .ok (.invokevirtual 36, 3) := by decide +kernel
theorem dX2_isEdge_16 : decode cX2_isEdge 16 = .ok (.ifCond .ne 5, 3) := by decide +kernel
theorem dX2_isEdge_19 : decode cX2_isEdge 19 = .ok (.iconst 1, 1) := by decide +kernel
theorem dX2_isEdge_20 : decode cX2_isEdge 20 = .ok (.ireturn, 1) := by decide +kernel
theorem dX2_isEdge_21 : decode cX2_isEdge 21 = .ok (.iinc 2 1, 3) := by decide +kernel
theorem dX2_isEdge_24 : decode cX2_isEdge 24 = .ok (.goto (-22), 3) := by decide +kernel
theorem dX2_isEdge_27 : decode cX2_isEdge 27 = .ok (.iconst 0, 1) := by decide +kernel
theorem dX2_isEdge_28 : decode cX2_isEdge 28 = .ok (.ireturn, 1) := by decide +kernel
theorem dX2_allHairs_0 : decode cX2_allHairs 0 = .ok (.iconst 0, 1) := by decide +kernel
theorem dX2_allHairs_1 : decode cX2_allHairs 1 = .ok (.istore_n 1, 1) := by decide +kernel
theorem dX2_allHairs_2 : decode cX2_allHairs 2 = .ok (.aload_n 0, 1) := by decide +kernel
theorem dX2_allHairs_3 : decode cX2_allHairs 3 = .ok (.getfield 9, 3) := by decide +kernel
theorem dX2_allHairs_6 : decode cX2_allHairs 6 = .ok (.astore_n 2, 1) := by decide +kernel
theorem dX2_allHairs_7 : decode cX2_allHairs 7 = .ok (.aload_n 2, 1) := by decide +kernel
theorem dX2_allHairs_8 : decode cX2_allHairs 8 = .ok (.arraylength, 1) := by decide +kernel
theorem dX2_allHairs_9 : decode cX2_allHairs 9 = .ok (.istore_n 3, 1) := by decide +kernel
theorem dX2_allHairs_10 : decode cX2_allHairs 10 = .ok (.iconst 0, 1) := by decide +kernel
theorem dX2_allHairs_11 : decode cX2_allHairs 11 = .ok (.istore 4, 2) := by decide +kernel
theorem dX2_allHairs_13 : decode cX2_allHairs 13 = .ok (.iload 4, 2) := by decide +kernel
theorem dX2_allHairs_15 : decode cX2_allHairs 15 = .ok (.iload_n 3, 1) := by decide +kernel
theorem dX2_allHairs_16 : decode cX2_allHairs 16 = .ok (.if_icmp .ge 24, 3) := by decide +kernel
theorem dX2_allHairs_19 : decode cX2_allHairs 19 = .ok (.aload_n 2, 1) := by decide +kernel
theorem dX2_allHairs_20 : decode cX2_allHairs 20 = .ok (.iload 4, 2) := by decide +kernel
theorem dX2_allHairs_22 : decode cX2_allHairs 22 = .ok (.iaload, 1) := by decide +kernel
theorem dX2_allHairs_23 : decode cX2_allHairs 23 = .ok (.istore 5, 2) := by decide +kernel
theorem dX2_allHairs_25 : decode cX2_allHairs 25 = .ok (.iload_n 1, 1) := by decide +kernel
theorem dX2_allHairs_26 : decode cX2_allHairs 26 = .ok (.iconst 0, 1) := by decide +kernel
theorem dX2_allHairs_27 : decode cX2_allHairs 27 = .ok (.iload 5, 2) := by decide +kernel
theorem dX2_allHairs_29 : decode cX2_allHairs 29 = .ok (.invokestatic 39, 3) := by decide +kernel
theorem dX2_allHairs_32 : decode cX2_allHairs 32 = .ok (.iadd, 1) := by decide +kernel
theorem dX2_allHairs_33 : decode cX2_allHairs 33 = .ok (.istore_n 1, 1) := by decide +kernel
theorem dX2_allHairs_34 : decode cX2_allHairs 34 = .ok (.iinc 4 1, 3) := by decide +kernel
theorem dX2_allHairs_37 : decode cX2_allHairs 37 = .ok (.goto (-24), 3) := by decide +kernel
theorem dX2_allHairs_40 : decode cX2_allHairs 40 = .ok (.iload_n 1, 1) := by decide +kernel
theorem dX2_allHairs_41 : decode cX2_allHairs 41 = .ok (.ireturn, 1) := by decide +kernel
theorem dX2_grow_0 : decode cX2_grow 0 = .ok (.aload_n 0, 1) := by decide +kernel
theorem dX2_grow_1 : decode cX2_grow 1 = .ok (.dup, 1) := by decide +kernel
theorem dX2_grow_2 : decode cX2_grow 2 = .ok (.getfield 19, 3) := by decide +kernel
theorem dX2_grow_5 : decode cX2_grow 5 = .ok (.iload_n 1, 1) := by decide +kernel
theorem dX2_grow_6 : decode cX2_grow 6 = .ok (.iadd, 1) := by decide +kernel
theorem dX2_grow_7 : decode cX2_grow 7 = .ok (.putfield 19, 3) := by decide +kernel
theorem dX2_grow_10 : decode cX2_grow 10 = .ok (.aload_n 0, 1) := by decide +kernel
theorem dX2_grow_11 : decode cX2_grow 11 = .ok (.sipush 2000, 3) := by decide +kernel
theorem dX2_grow_14 : decode cX2_grow 14 = .ok (.aload_n 0, 1) := by decide +kernel
theorem dX2_grow_15 : decode cX2_grow 15 = .ok (.getfield 15, 3) := by decide +kernel
theorem dX2_grow_18 : decode cX2_grow 18 = .ok (.iconst 3, 1) := by decide +kernel
theorem dX2_grow_19 : decode cX2_grow 19 = .ok (.iload_n 1, 1) := by decide +kernel
theorem dX2_grow_20 : decode cX2_grow 20 = .ok (.imul, 1) := by decide +kernel
theorem dX2_grow_21 : decode cX2_grow 21 = .ok (.iadd, 1) := by decide +kernel
theorem dX2_grow_22 : decode cX2_grow 22 = .ok (.invokestatic 44, 3) := by decide +kernel
theorem dX2_grow_25 : decode cX2_grow 25 = .ok (.putfield 15, 3) := by decide +kernel
theorem dX2_grow_28 : decode cX2_grow 28 = .ok (.return_, 1) := by decide +kernel
theorem dX3_init_0 : decode cX3_init 0 = .ok (.aload_n 0, 1) := by decide +kernel
theorem dX3_init_1 : decode cX3_init 1 = .ok (.invokespecial 3, 3) := by decide +kernel
theorem dX3_init_4 : decode cX3_init 4 = .ok (.aload_n 0, 1) := by decide +kernel
theorem dX3_init_5 : decode cX3_init 5 = .ok (.bipush 60, 2) := by decide +kernel
theorem dX3_init_7 : decode cX3_init 7 = .ok (.newarray .int, 2) := by decide +kernel
theorem dX3_init_9 : decode cX3_init 9 = .ok (.putfield 9, 3) := by decide +kernel
theorem dX3_init_12 : decode cX3_init 12 = .ok (.aload_n 0, 1) := by decide +kernel
theorem dX3_init_13 : decode cX3_init 13 = .ok (.bipush 60, 2) := by decide +kernel
theorem dX3_init_15 : decode cX3_init 15 = .ok (.newarray .int, 2) := by decide +kernel
theorem dX3_init_17 : decode cX3_init 17 = .ok (.putfield 15, 3) := by decide +kernel
theorem dX3_init_20 : decode cX3_init 20 = .ok (.aload_n 0, 1) := by decide +kernel
theorem dX3_init_21 : decode cX3_init 21 = .ok (.bipush 60, 2) := by decide +kernel
theorem dX3_init_23 : decode cX3_init 23 = .ok (.newarray .int, 2) := by decide +kernel
theorem dX3_init_25 : decode cX3_init 25 = .ok (.putfield 18, 3) := by decide +kernel
theorem dX3_init_28 : decode cX3_init 28 = .ok (.aload_n 0, 1) := by decide +kernel
theorem dX3_init_29 : decode cX3_init 29 = .ok (.bipush 60, 2) := by decide +kernel
theorem dX3_init_31 : decode cX3_init 31 = .ok (.newarray .int, 2) := by decide +kernel
theorem dX3_init_33 : decode cX3_init 33 = .ok (.putfield 21, 3) := by decide +kernel
theorem dX3_init_36 : decode cX3_init 36 = .ok (.aload_n 0, 1) := by decide +kernel
theorem dX3_init_37 : decode cX3_init 37 = .ok (.iconst 0, 1) := by decide +kernel
theorem dX3_init_38 : decode cX3_init 38 = .ok (.putfield 24, 3) := by decide +kernel
theorem dX3_init_41 : decode cX3_init 41 = .ok (.return_, 1) := by decide +kernel
theorem dX3_put_0 : decode cX3_put 0 = .ok (.aload_n 0, 1) := by decide +kernel
theorem dX3_put_1 : decode cX3_put 1 = .ok (.getfield 24, 3) := by decide +kernel
theorem dX3_put_4 : decode cX3_put 4 = .ok (.bipush 60, 2) := by decide +kernel
theorem dX3_put_6 : decode cX3_put 6 = .ok (.if_icmp .ge 54, 3) := by decide +kernel
theorem dX3_put_9 : decode cX3_put 9 = .ok (.aload_n 0, 1) := by decide +kernel
theorem dX3_put_10 : decode cX3_put 10 = .ok (.getfield 9, 3) := by decide +kernel
theorem dX3_put_13 : decode cX3_put 13 = .ok (.aload_n 0, 1) := by decide +kernel
theorem dX3_put_14 : decode cX3_put 14 = .ok (.getfield 24, 3) := by decide +kernel
theorem dX3_put_17 : decode cX3_put 17 = .ok (.iload_n 1, 1) := by decide +kernel
theorem dX3_put_18 : decode cX3_put 18 = .ok (.iastore, 1) := by decide +kernel
theorem dX3_put_19 : decode cX3_put 19 = .ok (.aload_n 0, 1) := by decide +kernel
theorem dX3_put_20 : decode cX3_put 20 = .ok (.getfield 15, 3) := by decide +kernel
theorem dX3_put_23 : decode cX3_put 23 = .ok (.aload_n 0, 1) := by decide +kernel
theorem dX3_put_24 : decode cX3_put 24 = .ok (.getfield 24, 3) := by decide +kernel
theorem dX3_put_27 : decode cX3_put 27 = .ok (.iload_n 2, 1) := by decide +kernel
theorem dX3_put_28 : decode cX3_put 28 = .ok (.iastore, 1) := by decide +kernel
theorem dX3_put_29 : decode cX3_put 29 = .ok (.aload_n 0, 1) := by decide +kernel
theorem dX3_put_30 : decode cX3_put 30 = .ok (.getfield 18, 3) := by decide +kernel
theorem dX3_put_33 : decode cX3_put 33 = .ok (.aload_n 0, 1) := by decide +kernel
theorem dX3_put_34 : decode cX3_put 34 = .ok (.getfield 24, 3) := by decide +kernel
theorem dX3_put_37 : decode cX3_put 37 = .ok (.iload_n 3, 1) := by decide +kernel
theorem dX3_put_38 : decode cX3_put 38 = .ok (.iastore, 1) := by decide +kernel
theorem dX3_put_39 : decode cX3_put 39 = .ok (.aload_n 0, 1) := by decide +kernel
theorem dX3_put_40 : decode cX3_put 40 = .ok (.getfield 21, 3) := by decide +kernel
theorem dX3_put_43 : decode cX3_put 43 = .ok (.aload_n 0, 1) := by decide +kernel
theorem dX3_put_44 : decode cX3_put 44 = .ok (.getfield 24, 3) := by decide +kernel
theorem dX3_put_47 : decode cX3_put 47 = .ok (.iload 4, 2) := by decide +kernel
theorem dX3_put_49 : decode cX3_put 49 = .ok (.iastore, 1) := by decide +kernel
theorem dX3_put_50 : decode cX3_put 50 = .ok (.aload_n 0, 1) := by decide +kernel
theorem dX3_put_51 : decode cX3_put 51 = .ok (.dup, 1) := by decide +kernel
theorem dX3_put_52 : decode cX3_put 52 = .ok (.getfield 24, 3) := by decide +kernel
theorem dX3_put_55 : decode cX3_put 55 = .ok (.iconst 1, 1) := by decide +kernel
theorem dX3_put_56 : decode cX3_put 56 = .ok (.iadd, 1) := by decide +kernel
theorem dX3_put_57 : decode cX3_put 57 = .ok (.putfield 24, 3) := by decide +kernel
theorem dX3_put_60 : decode cX3_put 60 = .ok (.return_, 1) := by decide +kernel
theorem dX4_init_0 : decode cX4_init 0 = .ok (.aload_n 0, 1) := by decide +kernel
theorem dX4_init_1 : decode cX4_init 1 = .ok (.invokespecial 3, 3) := by decide +kernel
theorem dX4_init_4 : decode cX4_init 4 = .ok (.aload_n 0, 1) := by decide +kernel
theorem dX4_init_5 : decode cX4_init 5 = .ok (.new 9, 3) := by decide +kernel
theorem dX4_init_8 : decode cX4_init 8 = .ok (.dup, 1) := by decide +kernel
theorem dX4_init_9 : decode cX4_init 9 = .ok (.invokespecial 11, 3) := by decide +kernel
theorem dX4_init_12 : decode cX4_init 12 = .ok (.putfield 12, 3) := by decide +kernel
theorem dX4_init_15 : decode cX4_init 15 = .ok (.aload_n 0, 1) := by decide +kernel
theorem dX4_init_16 : decode cX4_init 16 = .ok (.bipush 84, 2) := by decide +kernel
theorem dX4_init_18 : decode cX4_init 18 = .ok (.newarray .int, 2) := by decide +kernel
theorem dX4_init_20 : decode cX4_init 20 = .ok (.putfield 18, 3) := by decide +kernel
theorem dX4_init_23 : decode cX4_init 23 = .ok (.aload_n 0, 1) := by decide +kernel
theorem dX4_init_24 : decode cX4_init 24 = .ok (.bipush 84, 2) := by decide +kernel
theorem dX4_init_26 : decode cX4_init 26 = .ok (.newarray .int, 2) := by decide +kernel
theorem dX4_init_28 : decode cX4_init 28 = .ok (.putfield 22, 3) := by decide +kernel
theorem dX4_init_31 : decode cX4_init 31 = .ok (.aload_n 0, 1) := by decide +kernel
theorem dX4_init_32 : decode cX4_init 32 = .ok (.iconst 0, 1) := by decide +kernel
theorem dX4_init_33 : decode cX4_init 33 = .ok (.putfield 25, 3) := by decide +kernel
theorem dX4_init_36 : decode cX4_init 36 = .ok (.aload_n 0, 1) := by decide +kernel
theorem dX4_init_37 : decode cX4_init 37 = .ok (.aload_n 1, 1) := by decide +kernel
theorem dX4_init_38 : decode cX4_init 38 = .ok (.putfield 29, 3) := by decide +kernel
theorem dX4_init_41 : decode cX4_init 41 = .ok (.aload_n 0, 1) := by decide +kernel
theorem dX4_init_42 : decode cX4_init 42 = .ok (.aload_n 2, 1) := by decide +kernel
theorem dX4_init_43 : decode cX4_init 43 = .ok (.putfield 33, 3) := by decide +kernel
theorem dX4_init_46 : decode cX4_init 46 = .ok (.aload_n 0, 1) := by decide +kernel
theorem dX4_init_47 : decode cX4_init 47 = .ok (.aload_n 3, 1) := by decide +kernel
theorem dX4_init_48 : decode cX4_init 48 = .ok (.putfield 37, 3) := by decide +kernel
theorem dX4_init_51 : decode cX4_init 51 = .ok (.return_, 1) := by decide +kernel
theorem dX4_drawProgram_0 : decode cX4_drawProgram 0 = .ok (.aload_n 0, 1) := by decide +kernel
theorem dX4_drawProgram_1 : decode cX4_drawProgram 1 = .ok (.getfield 33, 3) := by decide +kernel
theorem dX4_drawProgram_4 : decode cX4_drawProgram 4 = .ok (.getfield 41, 3) := by decide +kernel
theorem dX4_drawProgram_7 : decode cX4_drawProgram 7 = .ok (.istore_n 1, 1) := by decide +kernel
theorem dX4_drawProgram_8 : decode cX4_drawProgram 8 = .ok (.aload_n 0, 1) := by decide +kernel
theorem dX4_drawProgram_9 : decode cX4_drawProgram 9 = .ok (.getfield 37, 3) := by decide +kernel
theorem dX4_drawProgram_12 : decode cX4_drawProgram 12 = .ok (.getfield 46, 3) := by decide +kernel
theorem dX4_drawProgram_15 : decode cX4_drawProgram 15 = .ok (.istore_n 2, 1) := by decide +kernel
theorem dX4_drawProgram_16 : decode cX4_drawProgram 16 = .ok (.aload_n 0, 1) := by decide +kernel
theorem dX4_drawProgram_17 : decode cX4_drawProgram 17 = .ok (.iconst 0, 1) := by decide +kernel
theorem dX4_drawProgram_18 : decode cX4_drawProgram 18 = .ok (.putfield 49, 3) := by decide +kernel
theorem dX4_drawProgram_21 : decode cX4_drawProgram 21 = .ok (.aload_n 0, 1) := by decide +kernel
theorem dX4_drawProgram_22 : decode cX4_drawProgram 22 = .ok (.iconst (-1), 1) := by decide +kernel
theorem dX4_drawProgram_23 : decode cX4_drawProgram 23 = .ok (.putfield 52, 3) := by decide +kernel
theorem dX4_drawProgram_26 : decode cX4_drawProgram 26 = .ok (.aload_n 0, 1) := by decide +kernel
theorem dX4_drawProgram_27 : decode cX4_drawProgram 27 = .ok (.iconst 0, 1) := by decide +kernel
theorem dX4_drawProgram_28 : decode cX4_drawProgram 28 = .ok (.aload_n 0, 1) := by decide +kernel
theorem dX4_drawProgram_29 : decode cX4_drawProgram 29 = .ok (.getfield 29, 3) := by decide +kernel
theorem dX4_drawProgram_32 : decode cX4_drawProgram 32 = .ok (.getfield 55, 3) := by decide +kernel
theorem dX4_drawProgram_35 : decode cX4_drawProgram 35 = .ok (.iconst 1, 1) := by decide +kernel
theorem dX4_drawProgram_36 : decode cX4_drawProgram 36 = .ok (.iconst 0, 1) := by decide +kernel
theorem dX4_drawProgram_37 : decode cX4_drawProgram 37 = .ok (.iconst 0, 1) := by decide +kernel
theorem dX4_drawProgram_38 : decode cX4_drawProgram 38 = .ok (.iconst 0, 1) := by decide +kernel
theorem dX4_drawProgram_39 : decode cX4_drawProgram 39 = .ok (.invokevirtual 58, 3) := by decide +kernel
theorem dX4_drawProgram_42 : decode cX4_drawProgram 42 = .ok (.aload_n 0, 1) := by decide +kernel
theorem dX4_drawProgram_43 : decode cX4_drawProgram 43 = .ok (.getfield 52, 3) := by decide +kernel
theorem dX4_drawProgram_46 : decode cX4_drawProgram 46 = .ok (.iconst (-1), 1) := by decide +kernel
theorem dX4_drawProgram_47 : decode cX4_drawProgram 47 = .ok (.if_icmp .eq 22, 3) := by decide +kernel
theorem dX4_drawProgram_50 : decode cX4_drawProgram 50 = .ok (.aload_n 0, 1) := by decide +kernel
theorem dX4_drawProgram_51 : decode cX4_drawProgram 51 = .ok (.getfield 33, 3) := by decide +kernel
theorem dX4_drawProgram_54 : decode cX4_drawProgram 54 = .ok (.iload_n 1, 1) := by decide +kernel
theorem dX4_drawProgram_55 : decode cX4_drawProgram 55 = .ok (.invokevirtual 62, 3) := by decide +kernel
theorem dX4_drawProgram_58 : decode cX4_drawProgram 58 = .ok (.aload_n 0, 1) := by decide +kernel
theorem dX4_drawProgram_59 : decode cX4_drawProgram 59 = .ok (.getfield 37, 3) := by decide +kernel
theorem dX4_drawProgram_62 : decode cX4_drawProgram 62 = .ok (.iload_n 2, 1) := by decide +kernel
theorem dX4_drawProgram_63 : decode cX4_drawProgram 63 = .ok (.invokevirtual 66, 3) := by decide +kernel
theorem dX4_drawProgram_66 : decode cX4_drawProgram 66 = .ok (.goto 49, 3) := by decide +kernel
theorem dX4_drawProgram_69 : decode cX4_drawProgram 69 = .ok (.aload_n 0, 1) := by decide +kernel
theorem dX4_drawProgram_70 : decode cX4_drawProgram 70 = .ok (.getfield 49, 3) := by decide +kernel
theorem dX4_drawProgram_73 : decode cX4_drawProgram 73 = .ok (.ifCond .le 42, 3) := by decide +kernel
theorem dX4_drawProgram_76 : decode cX4_drawProgram 76 = .ok (.aload_n 0, 1) := by decide +kernel
theorem dX4_drawProgram_77 : decode cX4_drawProgram 77 = .ok (.getfield 25, 3) := by decide +kernel
theorem dX4_drawProgram_80 : decode cX4_drawProgram 80 = .ok (.bipush 84, 2) := by decide +kernel
theorem dX4_drawProgram_82 : decode cX4_drawProgram 82 = .ok (.if_icmp .ge 33, 3) := by decide +kernel
theorem dX4_drawProgram_85 : decode cX4_drawProgram 85 = .ok (.aload_n 0, 1) := by decide +kernel
theorem dX4_drawProgram_86 : decode cX4_drawProgram 86 = .ok (.getfield 18, 3) := by decide +kernel
theorem dX4_drawProgram_89 : decode cX4_drawProgram 89 = .ok (.aload_n 0, 1) := by decide +kernel
theorem dX4_drawProgram_90 : decode cX4_drawProgram 90 = .ok (.getfield 25, 3) := by decide +kernel
theorem dX4_drawProgram_93 : decode cX4_drawProgram 93 = .ok (.iload_n 1, 1) := by decide +kernel
theorem dX4_drawProgram_94 : decode cX4_drawProgram 94 = .ok (.iastore, 1) := by decide +kernel
theorem dX4_drawProgram_95 : decode cX4_drawProgram 95 = .ok (.aload_n 0, 1) := by decide +kernel
theorem dX4_drawProgram_96 : decode cX4_drawProgram 96 = .ok (.getfield 22, 3) := by decide +kernel
theorem dX4_drawProgram_99 : decode cX4_drawProgram 99 = .ok (.aload_n 0, 1) := by decide +kernel
theorem dX4_drawProgram_100 : decode cX4_drawProgram 100 = .ok (.getfield 25, 3) := by decide +kernel
theorem dX4_drawProgram_103 : decode cX4_drawProgram 103 = .ok (.iload_n 2, 1) := by decide +kernel
theorem dX4_drawProgram_104 : decode cX4_drawProgram 104 = .ok (.iastore, 1) := by decide +kernel
theorem dX4_drawProgram_105 : decode cX4_drawProgram 105 = .ok (.aload_n 0, 1) := by decide +kernel
theorem dX4_drawProgram_106 : decode cX4_drawProgram 106 = .ok (.dup, 1) := by decide +kernel
theorem dX4_drawProgram_107 : decode cX4_drawProgram 107 = .ok (.getfield 25, 3) := by decide +kernel
theorem dX4_drawProgram_110 : decode cX4_drawProgram 110 = .ok (.iconst 1, 1) := by decide +kernel
theorem dX4_drawProgram_111 : decode cX4_drawProgram 111 = .ok (.iadd, 1) := by decide +kernel
theorem dX4_drawProgram_112 : decode cX4_drawProgram 112 = .ok (.putfield 25, 3) := by decide +kernel
theorem dX4_drawProgram_115 : decode cX4_drawProgram 115 = .ok (.aload_n 0, 1) := by decide +kernel
theorem dX4_drawProgram_116 : decode cX4_drawProgram 116 = .ok (.getfield 52, 3) := by decide +kernel
theorem dX4_drawProgram_119 : decode cX4_drawProgram 119 = .ok (.ireturn, 1) := by decide +kernel
theorem dX4_undoLatest_0 : decode cX4_undoLatest 0 = .ok (.aload_n 0, 1) := by decide +kernel
theorem dX4_undoLatest_1 : decode cX4_undoLatest 1 = .ok (.getfield 25, 3) := by decide +kernel
theorem dX4_undoLatest_4 : decode cX4_undoLatest 4 = .ok (.ifCond .le 12, 3) := by decide +kernel
theorem dX4_undoLatest_7 : decode cX4_undoLatest 7 = .ok (.aload_n 0, 1) := by decide +kernel
theorem dX4_undoLatest_8 : decode cX4_undoLatest 8 = .ok (.getfield 25, 3) := by decide +kernel
theorem dX4_undoLatest_11 : decode cX4_undoLatest 11 = .ok (.bipush 84, 2) := by decide +kernel
theorem dX4_undoLatest_13 : decode cX4_undoLatest 13 = .ok (.if_icmp .le 5, 3) := by decide +kernel
theorem dX4_undoLatest_16 : decode cX4_undoLatest 16 = .ok (.iconst (-1), 1) := by decide +kernel
theorem dX4_undoLatest_17 : decode cX4_undoLatest 17 = .ok (.ireturn, 1) := by decide +kernel
theorem dX4_undoLatest_18 : decode cX4_undoLatest 18 = .ok (.aload_n 0, 1) := by decide +kernel
theorem dX4_undoLatest_19 : decode cX4_undoLatest 19 = .ok (.getfield 18, 3) := by decide +kernel
theorem dX4_undoLatest_22 : decode cX4_undoLatest 22 = .ok (.aload_n 0, 1) := by decide +kernel
theorem dX4_undoLatest_23 : decode cX4_undoLatest 23 = .ok (.getfield 25, 3) := by decide +kernel
theorem dX4_undoLatest_26 : decode cX4_undoLatest 26 = .ok (.iconst 1, 1) := by decide +kernel
theorem dX4_undoLatest_27 : decode cX4_undoLatest 27 = .ok (.isub, 1) := by decide +kernel
theorem dX4_undoLatest_28 : decode cX4_undoLatest 28 = .ok (.iaload, 1) := by decide +kernel
theorem dX4_undoLatest_29 : decode cX4_undoLatest 29 = .ok (.istore_n 1, 1) := by decide +kernel
theorem dX4_undoLatest_30 : decode cX4_undoLatest 30 = .ok (.aload_n 0, 1) := by decide +kernel
theorem dX4_undoLatest_31 : decode cX4_undoLatest 31 = .ok (.getfield 22, 3) := by decide +kernel
theorem dX4_undoLatest_34 : decode cX4_undoLatest 34 = .ok (.aload_n 0, 1) := by decide +kernel
theorem dX4_undoLatest_35 : decode cX4_undoLatest 35 = .ok (.getfield 25, 3) := by decide +kernel
theorem dX4_undoLatest_38 : decode cX4_undoLatest 38 = .ok (.iconst 1, 1) := by decide +kernel
theorem dX4_undoLatest_39 : decode cX4_undoLatest 39 = .ok (.isub, 1) := by decide +kernel
theorem dX4_undoLatest_40 : decode cX4_undoLatest 40 = .ok (.iaload, 1) := by decide +kernel
theorem dX4_undoLatest_41 : decode cX4_undoLatest 41 = .ok (.istore_n 2, 1) := by decide +kernel
theorem dX4_undoLatest_42 : decode cX4_undoLatest 42 = .ok (.iload_n 2, 1) := by decide +kernel
theorem dX4_undoLatest_43 : decode cX4_undoLatest 43 = .ok (.istore_n 3, 1) := by decide +kernel
theorem dX4_undoLatest_44 : decode cX4_undoLatest 44 = .ok (.iload_n 3, 1) := by decide +kernel
theorem dX4_undoLatest_45 : decode cX4_undoLatest 45 = .ok (.aload_n 0, 1) := by decide +kernel
theorem dX4_undoLatest_46 : decode cX4_undoLatest 46 = .ok (.getfield 37, 3) := by decide +kernel
theorem dX4_undoLatest_49 : decode cX4_undoLatest 49 = .ok (.getfield 46, 3) := by decide +kernel
theorem dX4_undoLatest_52 : decode cX4_undoLatest 52 = .ok (.if_icmp .ge 33, 3) := by decide +kernel
theorem dX4_undoLatest_55 : decode cX4_undoLatest 55 = .ok (.aload_n 0, 1) := by decide +kernel
theorem dX4_undoLatest_56 : decode cX4_undoLatest 56 = .ok (.getfield 37, 3) := by decide +kernel
theorem dX4_undoLatest_59 : decode cX4_undoLatest 59 = .ok (.iload_n 3, 1) := by decide +kernel
theorem dX4_undoLatest_60 : decode cX4_undoLatest 60 = .ok (.invokevirtual 67, 3) := by decide +kernel
theorem dX4_undoLatest_63 : decode cX4_undoLatest 63 = .ok (.ifCond .gt 14, 3) := by decide +kernel
theorem dX4_undoLatest_66 : decode cX4_undoLatest 66 = .ok (.aload_n 0, 1) := by decide +kernel
theorem dX4_undoLatest_67 : decode cX4_undoLatest 67 = .ok (.getfield 37, 3) := by decide +kernel
theorem dX4_undoLatest_70 : decode cX4_undoLatest 70 = .ok (.iload_n 3, 1) := by decide +kernel
theorem dX4_undoLatest_71 : decode cX4_undoLatest 71 = .ok (.invokevirtual 71, 3) := by decide +kernel
theorem dX4_undoLatest_74 : decode cX4_undoLatest 74 = .ok (.ifCond .eq 5, 3) := by decide +kernel
theorem dX4_undoLatest_77 : decode cX4_undoLatest 77 = .ok (.iconst (-1), 1) := by decide +kernel
theorem dX4_undoLatest_78 : decode cX4_undoLatest 78 = .ok (.ireturn, 1) := by decide +kernel
theorem dX4_undoLatest_79 : decode cX4_undoLatest 79 = .ok (.iinc 3 1, 3) := by decide +kernel
theorem dX4_undoLatest_82 : decode cX4_undoLatest 82 = .ok (.goto (-38), 3) := by decide +kernel
theorem dX4_undoLatest_85 : decode cX4_undoLatest 85 = .ok (.aload_n 0, 1) := by decide +kernel
theorem dX4_undoLatest_86 : decode cX4_undoLatest 86 = .ok (.getfield 33, 3) := by decide +kernel
theorem dX4_undoLatest_89 : decode cX4_undoLatest 89 = .ok (.getfield 41, 3) := by decide +kernel
theorem dX4_undoLatest_92 : decode cX4_undoLatest 92 = .ok (.iload_n 1, 1) := by decide +kernel
theorem dX4_undoLatest_93 : decode cX4_undoLatest 93 = .ok (.isub, 1) := by decide +kernel
theorem dX4_undoLatest_94 : decode cX4_undoLatest 94 = .ok (.aload_n 0, 1) := by decide +kernel
theorem dX4_undoLatest_95 : decode cX4_undoLatest 95 = .ok (.getfield 37, 3) := by decide +kernel
theorem dX4_undoLatest_98 : decode cX4_undoLatest 98 = .ok (.getfield 46, 3) := by decide +kernel
theorem dX4_undoLatest_101 : decode cX4_undoLatest 101 = .ok (.iadd, 1) := by decide +kernel
theorem dX4_undoLatest_102 : decode cX4_undoLatest 102 = .ok (.iload_n 2, 1) := by decide +kernel
theorem dX4_undoLatest_103 : decode cX4_undoLatest 103 = .ok (.isub, 1) := by decide +kernel
theorem dX4_undoLatest_104 : decode cX4_undoLatest 104 = .ok (.istore_n 3, 1) := by decide +kernel
theorem dX4_undoLatest_105 : decode cX4_undoLatest 105 = .ok (.aload_n 0, 1) := by decide +kernel
theorem dX4_undoLatest_106 : decode cX4_undoLatest 106 = .ok (.getfield 33, 3) := by decide +kernel
theorem dX4_undoLatest_109 : decode cX4_undoLatest 109 = .ok (.iload_n 1, 1) := by decide +kernel
theorem dX4_undoLatest_110 : decode cX4_undoLatest 110 = .ok (.invokevirtual 62, 3) := by decide +kernel
theorem dX4_undoLatest_113 : decode cX4_undoLatest 113 = .ok (.aload_n 0, 1) := by decide +kernel
theorem dX4_undoLatest_114 : decode cX4_undoLatest 114 = .ok (.getfield 37, 3) := by decide +kernel
theorem dX4_undoLatest_117 : decode cX4_undoLatest 117 = .ok (.iload_n 2, 1) := by decide +kernel
theorem dX4_undoLatest_118 : decode cX4_undoLatest 118 = .ok (.invokevirtual 66, 3) := by decide +kernel
theorem dX4_undoLatest_121 : decode cX4_undoLatest 121 = .ok (.aload_n 0, 1) := by decide +kernel
theorem dX4_undoLatest_122 : decode cX4_undoLatest 122 = .ok (.dup, 1) := by decide +kernel
theorem dX4_undoLatest_123 : decode cX4_undoLatest 123 = .ok (.getfield 25, 3) := by decide +kernel
theorem dX4_undoLatest_126 : decode cX4_undoLatest 126 = .ok (.iconst 1, 1) := by decide +kernel
theorem dX4_undoLatest_127 : decode cX4_undoLatest 127 = .ok (.isub, 1) := by decide +kernel
theorem dX4_undoLatest_128 : decode cX4_undoLatest 128 = .ok (.putfield 25, 3) := by decide +kernel
theorem dX4_undoLatest_131 : decode cX4_undoLatest 131 = .ok (.iload_n 3, 1) := by decide +kernel
theorem dX4_undoLatest_132 : decode cX4_undoLatest 132 = .ok (.ireturn, 1) := by decide +kernel
theorem dX4_drawSteps_0 : decode cX4_drawSteps 0 = .ok (.iload 6, 2) := by decide +kernel
theorem dX4_drawSteps_2 : decode cX4_drawSteps 2 = .ok (.iconst 4, 1) := by decide +kernel
theorem dX4_drawSteps_3 : decode cX4_drawSteps 3 = .ok (.if_icmp .le 4, 3) := by decide +kernel
theorem dX4_drawSteps_6 : decode cX4_drawSteps 6 = .ok (.return_, 1) := by decide +kernel
theorem dX4_drawSteps_7 : decode cX4_drawSteps 7 = .ok (.iload_n 1, 1) := by decide +kernel
theorem dX4_drawSteps_8 : decode cX4_drawSteps 8 = .ok (.istore 7, 2) := by decide +kernel
theorem dX4_drawSteps_10 : decode cX4_drawSteps 10 = .ok (.iconst 0, 1) := by decide +kernel
theorem dX4_drawSteps_11 : decode cX4_drawSteps 11 = .ok (.istore 8, 2) := by decide +kernel
theorem dX4_drawSteps_13 : decode cX4_drawSteps 13 = .ok (.iload 8, 2) := by decide +kernel
theorem dX4_drawSteps_15 : decode cX4_drawSteps 15 = .ok (.sipush 1000, 3) := by decide +kernel
theorem dX4_drawSteps_18 : decode cX4_drawSteps 18 = .ok (.if_icmp .ge 137, 3) := by decide +kernel
theorem dX4_drawSteps_21 : decode cX4_drawSteps 21 = .ok (.iload 7, 2) := by decide +kernel
theorem dX4_drawSteps_23 : decode cX4_drawSteps 23 = .ok (.iload_n 2, 1) := by decide +kernel
theorem dX4_drawSteps_24 : decode cX4_drawSteps 24 = .ok (.if_icmp .ge 131, 3) := by decide +kernel
theorem dX4_drawSteps_27 : decode cX4_drawSteps 27 = .ok (.aload_n 0, 1) := by decide +kernel
theorem dX4_drawSteps_28 : decode cX4_drawSteps 28 = .ok (.getfield 52, 3) := by decide +kernel
theorem dX4_drawSteps_31 : decode cX4_drawSteps 31 = .ok (.iconst (-1), 1) := by decide +kernel
theorem dX4_drawSteps_32 : decode cX4_drawSteps 32 = .ok (.if_icmp .ne 123, 3) := by decide +kernel
theorem dX4_drawSteps_35 : decode cX4_drawSteps 35 = .ok (.aload_n 0, 1) := by decide +kernel
theorem dX4_drawSteps_36 : decode cX4_drawSteps 36 = .ok (.getfield 29, 3) := by decide +kernel
theorem dX4_drawSteps_39 : decode cX4_drawSteps 39 = .ok (.iload 7, 2) := by decide +kernel
theorem dX4_drawSteps_41 : decode cX4_drawSteps 41 = .ok (.invokevirtual 75, 3) := by decide +kernel
theorem dX4_drawSteps_44 : decode cX4_drawSteps 44 = .ok (.istore 9, 2) := by decide +kernel
theorem dX4_drawSteps_46 : decode cX4_drawSteps 46 = .ok (.iload 9, 2) := by decide +kernel
theorem dX4_drawSteps_48 : decode cX4_drawSteps 48 = .ok (.bipush 6, 2) := by decide +kernel
theorem dX4_drawSteps_50 : decode cX4_drawSteps 50 = .ok (.if_icmp .ne 32, 3) := by decide +kernel
theorem dX4_drawSteps_53 : decode cX4_drawSteps 53 = .ok (.aload_n 0, 1) := by decide +kernel
theorem dX4_drawSteps_54 : decode cX4_drawSteps 54 = .ok (.iload 7, 2) := by decide +kernel
theorem dX4_drawSteps_56 : decode cX4_drawSteps 56 = .ok (.iload_n 3, 1) := by decide +kernel
theorem dX4_drawSteps_57 : decode cX4_drawSteps 57 = .ok (.iload 4, 2) := by decide +kernel
theorem dX4_drawSteps_59 : decode cX4_drawSteps 59 = .ok (.iload 5, 2) := by decide +kernel
theorem dX4_drawSteps_61 : decode cX4_drawSteps 61 = .ok (.iload 6, 2) := by decide +kernel
theorem dX4_drawSteps_63 : decode cX4_drawSteps 63 = .ok (.invokevirtual 78, 3) := by decide +kernel
theorem dX4_drawSteps_66 : decode cX4_drawSteps 66 = .ok (.aload_n 0, 1) := by decide +kernel
theorem dX4_drawSteps_67 : decode cX4_drawSteps 67 = .ok (.getfield 29, 3) := by decide +kernel
theorem dX4_drawSteps_70 : decode cX4_drawSteps 70 = .ok (.iload 7, 2) := by decide +kernel
theorem dX4_drawSteps_72 : decode cX4_drawSteps 72 = .ok (.iconst 4, 1) := by decide +kernel
theorem dX4_drawSteps_73 : decode cX4_drawSteps 73 = .ok (.iadd, 1) := by decide +kernel
theorem dX4_drawSteps_74 : decode cX4_drawSteps 74 = .ok (.invokevirtual 75, 3) := by decide +kernel
theorem dX4_drawSteps_77 : decode cX4_drawSteps 77 = .ok (.istore 7, 2) := by decide +kernel
theorem dX4_drawSteps_79 : decode cX4_drawSteps 79 = .ok (.goto 70, 3) := by decide +kernel
theorem dX4_drawSteps_82 : decode cX4_drawSteps 82 = .ok (.iload 9, 2) := by decide +kernel
theorem dX4_drawSteps_84 : decode cX4_drawSteps 84 = .ok (.bipush 7, 2) := by decide +kernel
theorem dX4_drawSteps_86 : decode cX4_drawSteps 86 = .ok (.if_icmp .ne 32, 3) := by decide +kernel
theorem dX4_drawSteps_89 : decode cX4_drawSteps 89 = .ok (.aload_n 0, 1) := by decide +kernel
theorem dX4_drawSteps_90 : decode cX4_drawSteps 90 = .ok (.iload 7, 2) := by decide +kernel
theorem dX4_drawSteps_92 : decode cX4_drawSteps 92 = .ok (.iload_n 3, 1) := by decide +kernel
theorem dX4_drawSteps_93 : decode cX4_drawSteps 93 = .ok (.iload 4, 2) := by decide +kernel
theorem dX4_drawSteps_95 : decode cX4_drawSteps 95 = .ok (.iload 5, 2) := by decide +kernel
theorem dX4_drawSteps_97 : decode cX4_drawSteps 97 = .ok (.iload 6, 2) := by decide +kernel
theorem dX4_drawSteps_99 : decode cX4_drawSteps 99 = .ok (.invokevirtual 82, 3) := by decide +kernel
theorem dX4_drawSteps_102 : decode cX4_drawSteps 102 = .ok (.aload_n 0, 1) := by decide +kernel
theorem dX4_drawSteps_103 : decode cX4_drawSteps 103 = .ok (.getfield 29, 3) := by decide +kernel
theorem dX4_drawSteps_106 : decode cX4_drawSteps 106 = .ok (.iload 7, 2) := by decide +kernel
theorem dX4_drawSteps_108 : decode cX4_drawSteps 108 = .ok (.iconst 1, 1) := by decide +kernel
theorem dX4_drawSteps_109 : decode cX4_drawSteps 109 = .ok (.iadd, 1) := by decide +kernel
theorem dX4_drawSteps_110 : decode cX4_drawSteps 110 = .ok (.invokevirtual 75, 3) := by decide +kernel
theorem dX4_drawSteps_113 : decode cX4_drawSteps 113 = .ok (.istore 7, 2) := by decide +kernel
theorem dX4_drawSteps_115 : decode cX4_drawSteps 115 = .ok (.goto 34, 3) := by decide +kernel
theorem dX4_drawSteps_118 : decode cX4_drawSteps 118 = .ok (.aload_n 0, 1) := by decide +kernel
theorem dX4_drawSteps_119 : decode cX4_drawSteps 119 = .ok (.iload 7, 2) := by decide +kernel
theorem dX4_drawSteps_121 : decode cX4_drawSteps 121 = .ok (.iload_n 3, 1) := by decide +kernel
theorem dX4_drawSteps_122 : decode cX4_drawSteps 122 = .ok (.iload 4, 2) := by decide +kernel
theorem dX4_drawSteps_124 : decode cX4_drawSteps 124 = .ok (.iload 5, 2) := by decide +kernel
theorem dX4_drawSteps_126 : decode cX4_drawSteps 126 = .ok (.invokevirtual 85, 3) := by decide +kernel
theorem dX4_drawSteps_129 : decode cX4_drawSteps 129 = .ok (.iload 7, 2) := by decide +kernel
theorem dX4_drawSteps_131 : decode cX4_drawSteps 131 = .ok (.iconst 4, 1) := by decide +kernel
theorem dX4_drawSteps_132 : decode cX4_drawSteps 132 = .ok (.iconst 2, 1) := by decide +kernel
theorem dX4_drawSteps_133 : decode cX4_drawSteps 133 = .ok (.aload_n 0, 1) := by decide +kernel
theorem dX4_drawSteps_134 : decode cX4_drawSteps 134 = .ok (.getfield 29, 3) := by decide +kernel
theorem dX4_drawSteps_137 : decode cX4_drawSteps 137 = .ok (.iload 7, 2) := by decide +kernel
theorem dX4_drawSteps_139 : decode cX4_drawSteps 139 = .ok (.iconst 3, 1) := by decide +kernel
theorem dX4_drawSteps_140 : decode cX4_drawSteps 140 = .ok (.iadd, 1) := by decide +kernel
theorem dX4_drawSteps_141 : decode cX4_drawSteps 141 = .ok (.invokevirtual 75, 3) := by decide +kernel
theorem dX4_drawSteps_144 : decode cX4_drawSteps 144 = .ok (.imul, 1) := by decide +kernel
theorem dX4_drawSteps_145 : decode cX4_drawSteps 145 = .ok (.iadd, 1) := by decide +kernel
theorem dX4_drawSteps_146 : decode cX4_drawSteps 146 = .ok (.iadd, 1) := by decide +kernel
theorem dX4_drawSteps_147 : decode cX4_drawSteps 147 = .ok (.istore 7, 2) := by decide +kernel
theorem dX4_drawSteps_149 : decode cX4_drawSteps 149 = .ok (.iinc 8 1, 3) := by decide +kernel
theorem dX4_drawSteps_152 : decode cX4_drawSteps 152 = .ok (.goto (-139), 3) := by decide +kernel
theorem dX4_drawSteps_155 : decode cX4_drawSteps 155 = .ok (.return_, 1) := by decide +kernel
theorem dX4_drawAgain_0 : decode cX4_drawAgain 0 = .ok (.aload_n 0, 1) := by decide +kernel
theorem dX4_drawAgain_1 : decode cX4_drawAgain 1 = .ok (.getfield 29, 3) := by decide +kernel
theorem dX4_drawAgain_4 : decode cX4_drawAgain 4 = .ok (.iload_n 1, 1) := by decide +kernel
theorem dX4_drawAgain_5 : decode cX4_drawAgain 5 = .ok (.iconst 1, 1) := by decide +kernel
theorem dX4_drawAgain_6 : decode cX4_drawAgain 6 = .ok (.iadd, 1) := by decide +kernel
theorem dX4_drawAgain_7 : decode cX4_drawAgain 7 = .ok (.invokevirtual 75, 3) := by decide +kernel
theorem dX4_drawAgain_10 : decode cX4_drawAgain 10 = .ok (.istore 6, 2) := by decide +kernel
theorem dX4_drawAgain_12 : decode cX4_drawAgain 12 = .ok (.aload_n 0, 1) := by decide +kernel
theorem dX4_drawAgain_13 : decode cX4_drawAgain 13 = .ok (.getfield 29, 3) := by decide +kernel
theorem dX4_drawAgain_16 : decode cX4_drawAgain 16 = .ok (.iload_n 1, 1) := by decide +kernel
theorem dX4_drawAgain_17 : decode cX4_drawAgain 17 = .ok (.iconst 2, 1) := by decide +kernel
theorem dX4_drawAgain_18 : decode cX4_drawAgain 18 = .ok (.iadd, 1) := by decide +kernel
theorem dX4_drawAgain_19 : decode cX4_drawAgain 19 = .ok (.invokevirtual 75, 3) := by decide +kernel
theorem dX4_drawAgain_22 : decode cX4_drawAgain 22 = .ok (.istore 7, 2) := by decide +kernel
theorem dX4_drawAgain_24 : decode cX4_drawAgain 24 = .ok (.aload_n 0, 1) := by decide +kernel
theorem dX4_drawAgain_25 : decode cX4_drawAgain 25 = .ok (.getfield 29, 3) := by decide +kernel
theorem dX4_drawAgain_28 : decode cX4_drawAgain 28 = .ok (.iload_n 1, 1) := by decide +kernel
theorem dX4_drawAgain_29 : decode cX4_drawAgain 29 = .ok (.iconst 3, 1) := by decide +kernel
theorem dX4_drawAgain_30 : decode cX4_drawAgain 30 = .ok (.iadd, 1) := by decide +kernel
theorem dX4_drawAgain_31 : decode cX4_drawAgain 31 = .ok (.invokevirtual 75, 3) := by decide +kernel
theorem dX4_drawAgain_34 : decode cX4_drawAgain 34 = .ok (.istore 8, 2) := by decide +kernel
theorem dX4_drawAgain_36 : decode cX4_drawAgain 36 = .ok (.aload_n 0, 1) := by decide +kernel
theorem dX4_drawAgain_37 : decode cX4_drawAgain 37 = .ok (.getfield 29, 3) := by decide +kernel
theorem dX4_drawAgain_40 : decode cX4_drawAgain 40 = .ok (.iload_n 1, 1) := by decide +kernel
theorem dX4_drawAgain_41 : decode cX4_drawAgain 41 = .ok (.iconst 4, 1) := by decide +kernel
theorem dX4_drawAgain_42 : decode cX4_drawAgain 42 = .ok (.iadd, 1) := by decide +kernel
theorem dX4_drawAgain_43 : decode cX4_drawAgain 43 = .ok (.invokevirtual 75, 3) := by decide +kernel
theorem dX4_drawAgain_46 : decode cX4_drawAgain 46 = .ok (.istore 9, 2) := by decide +kernel
theorem dX4_drawAgain_48 : decode cX4_drawAgain 48 = .ok (.iconst 0, 1) := by decide +kernel
theorem dX4_drawAgain_49 : decode cX4_drawAgain 49 = .ok (.istore 10, 2) := by decide +kernel
theorem dX4_drawAgain_51 : decode cX4_drawAgain 51 = .ok (.iload 10, 2) := by decide +kernel
theorem dX4_drawAgain_53 : decode cX4_drawAgain 53 = .ok (.iload 6, 2) := by decide +kernel
theorem dX4_drawAgain_55 : decode cX4_drawAgain 55 = .ok (.if_icmp .ge 64, 3) := by decide +kernel
theorem dX4_drawAgain_58 : decode cX4_drawAgain 58 = .ok (.aload_n 0, 1) := by decide +kernel
theorem dX4_drawAgain_59 : decode cX4_drawAgain 59 = .ok (.getfield 52, 3) := by decide +kernel
theorem dX4_drawAgain_62 : decode cX4_drawAgain 62 = .ok (.iconst (-1), 1) := by decide +kernel
theorem dX4_drawAgain_63 : decode cX4_drawAgain 63 = .ok (.if_icmp .ne 56, 3) := by decide +kernel
theorem dX4_drawAgain_66 : decode cX4_drawAgain 66 = .ok (.iload_n 3, 1) := by decide +kernel
theorem dX4_drawAgain_67 : decode cX4_drawAgain 67 = .ok (.iload_n 2, 1) := by decide +kernel
theorem dX4_drawAgain_68 : decode cX4_drawAgain 68 = .ok (.iload 10, 2) := by decide +kernel
theorem dX4_drawAgain_70 : decode cX4_drawAgain 70 = .ok (.imul, 1) := by decide +kernel
theorem dX4_drawAgain_71 : decode cX4_drawAgain 71 = .ok (.iload 8, 2) := by decide +kernel
theorem dX4_drawAgain_73 : decode cX4_drawAgain 73 = .ok (.imul, 1) := by decide +kernel
theorem dX4_drawAgain_74 : decode cX4_drawAgain 74 = .ok (.iload 7, 2) := by decide +kernel
theorem dX4_drawAgain_76 : decode cX4_drawAgain 76 = .ok (.invokestatic 89, 3) := by decide +kernel
theorem dX4_drawAgain_79 : decode cX4_drawAgain 79 = .ok (.imul, 1) := by decide +kernel
theorem dX4_drawAgain_80 : decode cX4_drawAgain 80 = .ok (.iadd, 1) := by decide +kernel
theorem dX4_drawAgain_81 : decode cX4_drawAgain 81 = .ok (.istore 11, 2) := by decide +kernel
theorem dX4_drawAgain_83 : decode cX4_drawAgain 83 = .ok (.aload_n 0, 1) := by decide +kernel
theorem dX4_drawAgain_84 : decode cX4_drawAgain 84 = .ok (.iload_n 1, 1) := by decide +kernel
theorem dX4_drawAgain_85 : decode cX4_drawAgain 85 = .ok (.iconst 5, 1) := by decide +kernel
theorem dX4_drawAgain_86 : decode cX4_drawAgain 86 = .ok (.iadd, 1) := by decide +kernel
theorem dX4_drawAgain_87 : decode cX4_drawAgain 87 = .ok (.iload 9, 2) := by decide +kernel
theorem dX4_drawAgain_89 : decode cX4_drawAgain 89 = .ok (.iload_n 2, 1) := by decide +kernel
theorem dX4_drawAgain_90 : decode cX4_drawAgain 90 = .ok (.iload 11, 2) := by decide +kernel
theorem dX4_drawAgain_92 : decode cX4_drawAgain 92 = .ok (.iload 4, 2) := by decide +kernel
theorem dX4_drawAgain_94 : decode cX4_drawAgain 94 = .ok (.iload 10, 2) := by decide +kernel
theorem dX4_drawAgain_96 : decode cX4_drawAgain 96 = .ok (.iload 8, 2) := by decide +kernel
theorem dX4_drawAgain_98 : decode cX4_drawAgain 98 = .ok (.imul, 1) := by decide +kernel
theorem dX4_drawAgain_99 : decode cX4_drawAgain 99 = .ok (.iload 7, 2) := by decide +kernel
theorem dX4_drawAgain_101 : decode cX4_drawAgain 101 = .ok (.invokestatic 92, 3) := by decide +kernel
theorem dX4_drawAgain_104 : decode cX4_drawAgain 104 = .ok (.imul, 1) := by decide +kernel
theorem dX4_drawAgain_105 : decode cX4_drawAgain 105 = .ok (.iadd, 1) := by decide +kernel
theorem dX4_drawAgain_106 : decode cX4_drawAgain 106 = .ok (.iload 5, 2) := by decide +kernel
theorem dX4_drawAgain_108 : decode cX4_drawAgain 108 = .ok (.iconst 1, 1) := by decide +kernel
theorem dX4_drawAgain_109 : decode cX4_drawAgain 109 = .ok (.iadd, 1) := by decide +kernel
theorem dX4_drawAgain_110 : decode cX4_drawAgain 110 = .ok (.invokevirtual 58, 3) := by decide +kernel
theorem dX4_drawAgain_113 : decode cX4_drawAgain 113 = .ok (.iinc 10 1, 3) := by decide +kernel
theorem dX4_drawAgain_116 : decode cX4_drawAgain 116 = .ok (.goto (-65), 3) := by decide +kernel
theorem dX4_drawAgain_119 : decode cX4_drawAgain 119 = .ok (.return_, 1) := by decide +kernel
theorem dX4_drawMirrored_0 : decode cX4_drawMirrored 0 = .ok (.aload_n 0, 1) := by decide +kernel
theorem dX4_drawMirrored_1 : decode cX4_drawMirrored 1 = .ok (.getfield 29, 3) := by decide +kernel
theorem dX4_drawMirrored_4 : decode cX4_drawMirrored 4 = .ok (.iload_n 1, 1) := by decide +kernel
theorem dX4_drawMirrored_5 : decode cX4_drawMirrored 5 = .ok (.iconst 1, 1) := by decide +kernel
theorem dX4_drawMirrored_6 : decode cX4_drawMirrored 6 = .ok (.iadd, 1) := by decide +kernel
theorem dX4_drawMirrored_7 : decode cX4_drawMirrored 7 = .ok (.invokevirtual 75, 3) := by decide +kernel
theorem dX4_drawMirrored_10 : decode cX4_drawMirrored 10 = .ok (.istore 6, 2) := by decide +kernel
theorem dX4_drawMirrored_12 : decode cX4_drawMirrored 12 = .ok (.aload_n 0, 1) := by decide +kernel
theorem dX4_drawMirrored_13 : decode cX4_drawMirrored 13 = .ok (.iload_n 1, 1) := by decide +kernel
theorem dX4_drawMirrored_14 : decode cX4_drawMirrored 14 = .ok (.iconst 2, 1) := by decide +kernel
theorem dX4_drawMirrored_15 : decode cX4_drawMirrored 15 = .ok (.iadd, 1) := by decide +kernel
theorem dX4_drawMirrored_16 : decode cX4_drawMirrored 16 = .ok (.iload 6, 2) := by decide +kernel
theorem dX4_drawMirrored_18 : decode cX4_drawMirrored 18 = .ok (.iload_n 2, 1) := by decide +kernel
theorem dX4_drawMirrored_19 : decode cX4_drawMirrored 19 = .ok (.iload_n 3, 1) := by decide +kernel
theorem dX4_drawMirrored_20 : decode cX4_drawMirrored 20 = .ok (.iload 4, 2) := by decide +kernel
theorem dX4_drawMirrored_22 : decode cX4_drawMirrored 22 = .ok (.iload 5, 2) := by decide +kernel
theorem dX4_drawMirrored_24 : decode cX4_drawMirrored 24 = .ok (.iconst 1, 1) := by decide +kernel
theorem dX4_drawMirrored_25 : decode cX4_drawMirrored 25 = .ok (.iadd, 1) := by decide +kernel
theorem dX4_drawMirrored_26 : decode cX4_drawMirrored 26 = .ok (.invokevirtual 58, 3) := by decide +kernel
theorem dX4_drawMirrored_29 : decode cX4_drawMirrored 29 = .ok (.aload_n 0, 1) := by decide +kernel
theorem dX4_drawMirrored_30 : decode cX4_drawMirrored 30 = .ok (.getfield 52, 3) := by decide +kernel
theorem dX4_drawMirrored_33 : decode cX4_drawMirrored 33 = .ok (.iconst (-1), 1) := by decide +kernel
theorem dX4_drawMirrored_34 : decode cX4_drawMirrored 34 = .ok (.if_icmp .ne 26, 3) := by decide +kernel
theorem dX4_drawMirrored_37 : decode cX4_drawMirrored 37 = .ok (.aload_n 0, 1) := by decide +kernel
theorem dX4_drawMirrored_38 : decode cX4_drawMirrored 38 = .ok (.iload_n 1, 1) := by decide +kernel
theorem dX4_drawMirrored_39 : decode cX4_drawMirrored 39 = .ok (.iconst 2, 1) := by decide +kernel
theorem dX4_drawMirrored_40 : decode cX4_drawMirrored 40 = .ok (.iadd, 1) := by decide +kernel
theorem dX4_drawMirrored_41 : decode cX4_drawMirrored 41 = .ok (.iload 6, 2) := by decide +kernel
theorem dX4_drawMirrored_43 : decode cX4_drawMirrored 43 = .ok (.iload_n 2, 1) := by decide +kernel
theorem dX4_drawMirrored_44 : decode cX4_drawMirrored 44 = .ok (.ineg, 1) := by decide +kernel
theorem dX4_drawMirrored_45 : decode cX4_drawMirrored 45 = .ok (.iload_n 3, 1) := by decide +kernel
theorem dX4_drawMirrored_46 : decode cX4_drawMirrored 46 = .ok (.iload_n 2, 1) := by decide +kernel
theorem dX4_drawMirrored_47 : decode cX4_drawMirrored 47 = .ok (.bipush 16, 2) := by decide +kernel
theorem dX4_drawMirrored_49 : decode cX4_drawMirrored 49 = .ok (.imul, 1) := by decide +kernel
theorem dX4_drawMirrored_50 : decode cX4_drawMirrored 50 = .ok (.iadd, 1) := by decide +kernel
theorem dX4_drawMirrored_51 : decode cX4_drawMirrored 51 = .ok (.iload 4, 2) := by decide +kernel
theorem dX4_drawMirrored_53 : decode cX4_drawMirrored 53 = .ok (.iload 5, 2) := by decide +kernel
theorem dX4_drawMirrored_55 : decode cX4_drawMirrored 55 = .ok (.iconst 1, 1) := by decide +kernel
theorem dX4_drawMirrored_56 : decode cX4_drawMirrored 56 = .ok (.iadd, 1) := by decide +kernel
theorem dX4_drawMirrored_57 : decode cX4_drawMirrored 57 = .ok (.invokevirtual 58, 3) := by decide +kernel
theorem dX4_drawMirrored_60 : decode cX4_drawMirrored 60 = .ok (.return_, 1) := by decide +kernel
theorem dX4_drawLine_0 : decode cX4_drawLine 0 = .ok (.aload_n 0, 1) := by decide +kernel
theorem dX4_drawLine_1 : decode cX4_drawLine 1 = .ok (.getfield 29, 3) := by decide +kernel
theorem dX4_drawLine_4 : decode cX4_drawLine 4 = .ok (.iload_n 1, 1) := by decide +kernel
theorem dX4_drawLine_5 : decode cX4_drawLine 5 = .ok (.invokevirtual 75, 3) := by decide +kernel
theorem dX4_drawLine_8 : decode cX4_drawLine 8 = .ok (.iconst 5, 1) := by decide +kernel
theorem dX4_drawLine_9 : decode cX4_drawLine 9 = .ok (.if_icmp .ne 7, 3) := by decide +kernel
theorem dX4_drawLine_12 : decode cX4_drawLine 12 = .ok (.iconst 1, 1) := by decide +kernel
theorem dX4_drawLine_13 : decode cX4_drawLine 13 = .ok (.goto 4, 3) := by decide +kernel
theorem dX4_drawLine_16 : decode cX4_drawLine 16 = .ok (.iconst 0, 1) := by decide +kernel
theorem dX4_drawLine_17 : decode cX4_drawLine 17 = .ok (.istore 5, 2) := by decide +kernel
theorem dX4_drawLine_19 : decode cX4_drawLine 19 = .ok (.aload_n 0, 1) := by decide +kernel
theorem dX4_drawLine_20 : decode cX4_drawLine 20 = .ok (.iload_n 1, 1) := by decide +kernel
theorem dX4_drawLine_21 : decode cX4_drawLine 21 = .ok (.iload_n 2, 1) := by decide +kernel
theorem dX4_drawLine_22 : decode cX4_drawLine 22 = .ok (.iload_n 3, 1) := by decide +kernel
theorem dX4_drawLine_23 : decode cX4_drawLine 23 = .ok (.iload 4, 2) := by decide +kernel
theorem dX4_drawLine_25 : decode cX4_drawLine 25 = .ok (.invokevirtual 95, 3) := by decide +kernel
theorem dX4_drawLine_28 : decode cX4_drawLine 28 = .ok (.iload 5, 2) := by decide +kernel
theorem dX4_drawLine_30 : decode cX4_drawLine 30 = .ok (.ifCond .eq 17, 3) := by decide +kernel
theorem dX4_drawLine_33 : decode cX4_drawLine 33 = .ok (.aload_n 0, 1) := by decide +kernel
theorem dX4_drawLine_34 : decode cX4_drawLine 34 = .ok (.getfield 37, 3) := by decide +kernel
theorem dX4_drawLine_37 : decode cX4_drawLine 37 = .ok (.aload_n 0, 1) := by decide +kernel
theorem dX4_drawLine_38 : decode cX4_drawLine 38 = .ok (.getfield 12, 3) := by decide +kernel
theorem dX4_drawLine_41 : decode cX4_drawLine 41 = .ok (.invokevirtual 98, 3) := by decide +kernel
theorem dX4_drawLine_44 : decode cX4_drawLine 44 = .ok (.goto 14, 3) := by decide +kernel
theorem dX4_drawLine_47 : decode cX4_drawLine 47 = .ok (.aload_n 0, 1) := by decide +kernel
theorem dX4_drawLine_48 : decode cX4_drawLine 48 = .ok (.getfield 33, 3) := by decide +kernel
theorem dX4_drawLine_51 : decode cX4_drawLine 51 = .ok (.aload_n 0, 1) := by decide +kernel
theorem dX4_drawLine_52 : decode cX4_drawLine 52 = .ok (.getfield 12, 3) := by decide +kernel
theorem dX4_drawLine_55 : decode cX4_drawLine 55 = .ok (.invokevirtual 102, 3) := by decide +kernel
theorem dX4_drawLine_58 : decode cX4_drawLine 58 = .ok (.istore 6, 2) := by decide +kernel
theorem dX4_drawLine_60 : decode cX4_drawLine 60 = .ok (.iload 6, 2) := by decide +kernel
theorem dX4_drawLine_62 : decode cX4_drawLine 62 = .ok (.iconst (-1), 1) := by decide +kernel
theorem dX4_drawLine_63 : decode cX4_drawLine 63 = .ok (.if_icmp .eq 18, 3) := by decide +kernel
theorem dX4_drawLine_66 : decode cX4_drawLine 66 = .ok (.aload_n 0, 1) := by decide +kernel
theorem dX4_drawLine_67 : decode cX4_drawLine 67 = .ok (.iload 6, 2) := by decide +kernel
theorem dX4_drawLine_69 : decode cX4_drawLine 69 = .ok (.bipush 16, 2) := by decide +kernel
theorem dX4_drawLine_71 : decode cX4_drawLine 71 = .ok (.aload_n 0, 1) := by decide +kernel
theorem dX4_drawLine_72 : decode cX4_drawLine 72 = .ok (.getfield 49, 3) := by decide +kernel
theorem dX4_drawLine_75 : decode cX4_drawLine 75 = .ok (.imul, 1) := by decide +kernel
theorem dX4_drawLine_76 : decode cX4_drawLine 76 = .ok (.iadd, 1) := by decide +kernel
theorem dX4_drawLine_77 : decode cX4_drawLine 77 = .ok (.putfield 52, 3) := by decide +kernel
theorem dX4_drawLine_80 : decode cX4_drawLine 80 = .ok (.return_, 1) := by decide +kernel
theorem dX4_drawLine_81 : decode cX4_drawLine 81 = .ok (.iload 5, 2) := by decide +kernel
theorem dX4_drawLine_83 : decode cX4_drawLine 83 = .ok (.ifCond .eq 17, 3) := by decide +kernel
theorem dX4_drawLine_86 : decode cX4_drawLine 86 = .ok (.aload_n 0, 1) := by decide +kernel
theorem dX4_drawLine_87 : decode cX4_drawLine 87 = .ok (.getfield 37, 3) := by decide +kernel
theorem dX4_drawLine_90 : decode cX4_drawLine 90 = .ok (.aload_n 0, 1) := by decide +kernel
theorem dX4_drawLine_91 : decode cX4_drawLine 91 = .ok (.getfield 12, 3) := by decide +kernel
theorem dX4_drawLine_94 : decode cX4_drawLine 94 = .ok (.invokevirtual 103, 3) := by decide +kernel
theorem dX4_drawLine_97 : decode cX4_drawLine 97 = .ok (.goto 14, 3) := by decide +kernel
theorem dX4_drawLine_100 : decode cX4_drawLine 100 = .ok (.aload_n 0, 1) := by decide +kernel
theorem dX4_drawLine_101 : decode cX4_drawLine 101 = .ok (.getfield 33, 3) := by decide +kernel
theorem dX4_drawLine_104 : decode cX4_drawLine 104 = .ok (.aload_n 0, 1) := by decide +kernel
theorem dX4_drawLine_105 : decode cX4_drawLine 105 = .ok (.getfield 12, 3) := by decide +kernel
theorem dX4_drawLine_108 : decode cX4_drawLine 108 = .ok (.invokevirtual 107, 3) := by decide +kernel
theorem dX4_drawLine_111 : decode cX4_drawLine 111 = .ok (.aload_n 0, 1) := by decide +kernel
theorem dX4_drawLine_112 : decode cX4_drawLine 112 = .ok (.dup, 1) := by decide +kernel
theorem dX4_drawLine_113 : decode cX4_drawLine 113 = .ok (.getfield 49, 3) := by decide +kernel
theorem dX4_drawLine_116 : decode cX4_drawLine 116 = .ok (.iconst 1, 1) := by decide +kernel
theorem dX4_drawLine_117 : decode cX4_drawLine 117 = .ok (.iadd, 1) := by decide +kernel
theorem dX4_drawLine_118 : decode cX4_drawLine 118 = .ok (.putfield 49, 3) := by decide +kernel
theorem dX4_drawLine_121 : decode cX4_drawLine 121 = .ok (.return_, 1) := by decide +kernel
theorem dX4_walk_0 : decode cX4_walk 0 = .ok (.aload_n 0, 1) := by decide +kernel
theorem dX4_walk_1 : decode cX4_walk 1 = .ok (.getfield 29, 3) := by decide +kernel
theorem dX4_walk_4 : decode cX4_walk 4 = .ok (.iload_n 1, 1) := by decide +kernel
theorem dX4_walk_5 : decode cX4_walk 5 = .ok (.invokevirtual 75, 3) := by decide +kernel
theorem dX4_walk_8 : decode cX4_walk 8 = .ok (.iconst 5, 1) := by decide +kernel
theorem dX4_walk_9 : decode cX4_walk 9 = .ok (.if_icmp .ne 7, 3) := by decide +kernel
theorem dX4_walk_12 : decode cX4_walk 12 = .ok (.iconst 1, 1) := by decide +kernel
theorem dX4_walk_13 : decode cX4_walk 13 = .ok (.goto 4, 3) := by decide +kernel
theorem dX4_walk_16 : decode cX4_walk 16 = .ok (.iconst 0, 1) := by decide +kernel
theorem dX4_walk_17 : decode cX4_walk 17 = .ok (.istore 5, 2) := by decide +kernel
theorem dX4_walk_19 : decode cX4_walk 19 = .ok (.iload_n 3, 1) := by decide +kernel
theorem dX4_walk_20 : decode cX4_walk 20 = .ok (.iload_n 2, 1) := by decide +kernel
theorem dX4_walk_21 : decode cX4_walk 21 = .ok (.aload_n 0, 1) := by decide +kernel
theorem dX4_walk_22 : decode cX4_walk 22 = .ok (.getfield 29, 3) := by decide +kernel
theorem dX4_walk_25 : decode cX4_walk 25 = .ok (.iload_n 1, 1) := by decide +kernel
theorem dX4_walk_26 : decode cX4_walk 26 = .ok (.iconst 1, 1) := by decide +kernel
theorem dX4_walk_27 : decode cX4_walk 27 = .ok (.iadd, 1) := by decide +kernel
theorem dX4_walk_28 : decode cX4_walk 28 = .ok (.invokevirtual 75, 3) := by decide +kernel
theorem dX4_walk_31 : decode cX4_walk 31 = .ok (.imul, 1) := by decide +kernel
theorem dX4_walk_32 : decode cX4_walk 32 = .ok (.iadd, 1) := by decide +kernel
theorem dX4_walk_33 : decode cX4_walk 33 = .ok (.istore 6, 2) := by decide +kernel
theorem dX4_walk_35 : decode cX4_walk 35 = .ok (.iload 5, 2) := by decide +kernel
theorem dX4_walk_37 : decode cX4_walk 37 = .ok (.ifCond .eq 11, 3) := by decide +kernel
theorem dX4_walk_40 : decode cX4_walk 40 = .ok (.iload_n 2, 1) := by decide +kernel
theorem dX4_walk_41 : decode cX4_walk 41 = .ok (.ifCond .ge 7, 3) := by decide +kernel
theorem dX4_walk_44 : decode cX4_walk 44 = .ok (.iconst 1, 1) := by decide +kernel
theorem dX4_walk_45 : decode cX4_walk 45 = .ok (.goto 4, 3) := by decide +kernel
theorem dX4_walk_48 : decode cX4_walk 48 = .ok (.iconst 0, 1) := by decide +kernel
theorem dX4_walk_49 : decode cX4_walk 49 = .ok (.istore 7, 2) := by decide +kernel
theorem dX4_walk_51 : decode cX4_walk 51 = .ok (.aload_n 0, 1) := by decide +kernel
theorem dX4_walk_52 : decode cX4_walk 52 = .ok (.getfield 12, 3) := by decide +kernel
theorem dX4_walk_55 : decode cX4_walk 55 = .ok (.iload 5, 2) := by decide +kernel
theorem dX4_walk_57 : decode cX4_walk 57 = .ok (.iload 6, 2) := by decide +kernel
theorem dX4_walk_59 : decode cX4_walk 59 = .ok (.iload 7, 2) := by decide +kernel
theorem dX4_walk_61 : decode cX4_walk 61 = .ok (.isub, 1) := by decide +kernel
theorem dX4_walk_62 : decode cX4_walk 62 = .ok (.iload 4, 2) := by decide +kernel
theorem dX4_walk_64 : decode cX4_walk 64 = .ok (.aload_n 0, 1) := by decide +kernel
theorem dX4_walk_65 : decode cX4_walk 65 = .ok (.getfield 29, 3) := by decide +kernel
theorem dX4_walk_68 : decode cX4_walk 68 = .ok (.iload_n 1, 1) := by decide +kernel
theorem dX4_walk_69 : decode cX4_walk 69 = .ok (.iconst 2, 1) := by decide +kernel
theorem dX4_walk_70 : decode cX4_walk 70 = .ok (.iadd, 1) := by decide +kernel
theorem dX4_walk_71 : decode cX4_walk 71 = .ok (.invokevirtual 75, 3) := by decide +kernel
theorem dX4_walk_74 : decode cX4_walk 74 = .ok (.iadd, 1) := by decide +kernel
theorem dX4_walk_75 : decode cX4_walk 75 = .ok (.invokevirtual 108, 3) := by decide +kernel
theorem dX4_walk_78 : decode cX4_walk 78 = .ok (.aload_n 0, 1) := by decide +kernel
theorem dX4_walk_79 : decode cX4_walk 79 = .ok (.getfield 29, 3) := by decide +kernel
theorem dX4_walk_82 : decode cX4_walk 82 = .ok (.iload_n 1, 1) := by decide +kernel
theorem dX4_walk_83 : decode cX4_walk 83 = .ok (.iconst 3, 1) := by decide +kernel
theorem dX4_walk_84 : decode cX4_walk 84 = .ok (.iadd, 1) := by decide +kernel
theorem dX4_walk_85 : decode cX4_walk 85 = .ok (.invokevirtual 75, 3) := by decide +kernel
theorem dX4_walk_88 : decode cX4_walk 88 = .ok (.istore 8, 2) := by decide +kernel
theorem dX4_walk_90 : decode cX4_walk 90 = .ok (.iconst 0, 1) := by decide +kernel
theorem dX4_walk_91 : decode cX4_walk 91 = .ok (.istore 9, 2) := by decide +kernel
theorem dX4_walk_93 : decode cX4_walk 93 = .ok (.iload 9, 2) := by decide +kernel
theorem dX4_walk_95 : decode cX4_walk 95 = .ok (.iload 8, 2) := by decide +kernel
theorem dX4_walk_97 : decode cX4_walk 97 = .ok (.if_icmp .ge 85, 3) := by decide +kernel
theorem dX4_walk_100 : decode cX4_walk 100 = .ok (.aload_n 0, 1) := by decide +kernel
theorem dX4_walk_101 : decode cX4_walk 101 = .ok (.getfield 29, 3) := by decide +kernel
theorem dX4_walk_104 : decode cX4_walk 104 = .ok (.iload_n 1, 1) := by decide +kernel
theorem dX4_walk_105 : decode cX4_walk 105 = .ok (.iconst 4, 1) := by decide +kernel
theorem dX4_walk_106 : decode cX4_walk 106 = .ok (.iadd, 1) := by decide +kernel
theorem dX4_walk_107 : decode cX4_walk 107 = .ok (.iconst 2, 1) := by decide +kernel
theorem dX4_walk_108 : decode cX4_walk 108 = .ok (.iload 9, 2) := by decide +kernel
theorem dX4_walk_110 : decode cX4_walk 110 = .ok (.imul, 1) := by decide +kernel
theorem dX4_walk_111 : decode cX4_walk 111 = .ok (.iadd, 1) := by decide +kernel
theorem dX4_walk_112 : decode cX4_walk 112 = .ok (.invokevirtual 75, 3) := by decide +kernel
theorem dX4_walk_115 : decode cX4_walk 115 = .ok (.istore 10, 2) := by decide +kernel
theorem dX4_walk_117 : decode cX4_walk 117 = .ok (.iload_n 2, 1) := by decide +kernel
theorem dX4_walk_118 : decode cX4_walk 118 = .ok (.ifCond .ge 19, 3) := by decide +kernel
theorem dX4_walk_121 : decode cX4_walk 121 = .ok (.iload 10, 2) := by decide +kernel
theorem dX4_walk_123 : decode cX4_walk 123 = .ok (.iconst 2, 1) := by decide +kernel
theorem dX4_walk_124 : decode cX4_walk 124 = .ok (.if_icmp .eq 9, 3) := by decide +kernel
theorem dX4_walk_127 : decode cX4_walk 127 = .ok (.iload 10, 2) := by decide +kernel
theorem dX4_walk_129 : decode cX4_walk 129 = .ok (.iconst 3, 1) := by decide +kernel
theorem dX4_walk_130 : decode cX4_walk 130 = .ok (.if_icmp .ne 7, 3) := by decide +kernel
theorem dX4_walk_133 : decode cX4_walk 133 = .ok (.iconst 1, 1) := by decide +kernel
theorem dX4_walk_134 : decode cX4_walk 134 = .ok (.goto 4, 3) := by decide +kernel
theorem dX4_walk_137 : decode cX4_walk 137 = .ok (.iconst 0, 1) := by decide +kernel
theorem dX4_walk_138 : decode cX4_walk 138 = .ok (.istore 11, 2) := by decide +kernel
theorem dX4_walk_140 : decode cX4_walk 140 = .ok (.aload_n 0, 1) := by decide +kernel
theorem dX4_walk_141 : decode cX4_walk 141 = .ok (.getfield 12, 3) := by decide +kernel
theorem dX4_walk_144 : decode cX4_walk 144 = .ok (.iload 11, 2) := by decide +kernel
theorem dX4_walk_146 : decode cX4_walk 146 = .ok (.ifCond .eq 10, 3) := by decide +kernel
theorem dX4_walk_149 : decode cX4_walk 149 = .ok (.iconst 5, 1) := by decide +kernel
theorem dX4_walk_150 : decode cX4_walk 150 = .ok (.iload 10, 2) := by decide +kernel
theorem dX4_walk_152 : decode cX4_walk 152 = .ok (.isub, 1) := by decide +kernel
theorem dX4_walk_153 : decode cX4_walk 153 = .ok (.goto 5, 3) := by decide +kernel
theorem dX4_walk_156 : decode cX4_walk 156 = .ok (.iload 10, 2) := by decide +kernel
theorem dX4_walk_158 : decode cX4_walk 158 = .ok (.aload_n 0, 1) := by decide +kernel
theorem dX4_walk_159 : decode cX4_walk 159 = .ok (.getfield 29, 3) := by decide +kernel
theorem dX4_walk_162 : decode cX4_walk 162 = .ok (.iload_n 1, 1) := by decide +kernel
theorem dX4_walk_163 : decode cX4_walk 163 = .ok (.iconst 5, 1) := by decide +kernel
theorem dX4_walk_164 : decode cX4_walk 164 = .ok (.iadd, 1) := by decide +kernel
theorem dX4_walk_165 : decode cX4_walk 165 = .ok (.iconst 2, 1) := by decide +kernel
theorem dX4_walk_166 : decode cX4_walk 166 = .ok (.iload 9, 2) := by decide +kernel
theorem dX4_walk_168 : decode cX4_walk 168 = .ok (.imul, 1) := by decide +kernel
theorem dX4_walk_169 : decode cX4_walk 169 = .ok (.iadd, 1) := by decide +kernel
theorem dX4_walk_170 : decode cX4_walk 170 = .ok (.invokevirtual 75, 3) := by decide +kernel
theorem dX4_walk_173 : decode cX4_walk 173 = .ok (.invokevirtual 112, 3) := by decide +kernel
theorem dX4_walk_176 : decode cX4_walk 176 = .ok (.iinc 9 1, 3) := by decide +kernel
theorem dX4_walk_179 : decode cX4_walk 179 = .ok (.goto (-86), 3) := by decide +kernel
theorem dX4_walk_182 : decode cX4_walk 182 = .ok (.return_, 1) := by decide +kernel
theorem dX5_init_0 : decode cX5_init 0 = .ok (.aload_n 0, 1) := by decide +kernel
theorem dX5_init_1 : decode cX5_init 1 = .ok (.invokespecial 3, 3) := by decide +kernel
theorem dX5_init_4 : decode cX5_init 4 = .ok (.aload_n 0, 1) := by decide +kernel
theorem dX5_init_5 : decode cX5_init 5 = .ok (.sipush 412, 3) := by decide +kernel
theorem dX5_init_8 : decode cX5_init 8 = .ok (.newarray .int, 2) := by decide +kernel
theorem dX5_init_10 : decode cX5_init 10 = .ok (.putfield 9, 3) := by decide +kernel
theorem dX5_init_13 : decode cX5_init 13 = .ok (.aload_n 0, 1) := by decide +kernel
theorem dX5_init_14 : decode cX5_init 14 = .ok (.sipush 412, 3) := by decide +kernel
theorem dX5_init_17 : decode cX5_init 17 = .ok (.newarray .int, 2) := by decide +kernel
theorem dX5_init_19 : decode cX5_init 19 = .ok (.putfield 15, 3) := by decide +kernel
theorem dX5_init_22 : decode cX5_init 22 = .ok (.aload_n 0, 1) := by decide +kernel
theorem dX5_init_23 : decode cX5_init 23 = .ok (.sipush 221, 3) := by decide +kernel
theorem dX5_init_26 : decode cX5_init 26 = .ok (.newarray .int, 2) := by decide +kernel
theorem dX5_init_28 : decode cX5_init 28 = .ok (.putfield 18, 3) := by decide +kernel
theorem dX5_init_31 : decode cX5_init 31 = .ok (.aload_n 0, 1) := by decide +kernel
theorem dX5_init_32 : decode cX5_init 32 = .ok (.iconst 0, 1) := by decide +kernel
theorem dX5_init_33 : decode cX5_init 33 = .ok (.putfield 21, 3) := by decide +kernel
theorem dX5_init_36 : decode cX5_init 36 = .ok (.aload_n 0, 1) := by decide +kernel
theorem dX5_init_37 : decode cX5_init 37 = .ok (.getfield 9, 3) := by decide +kernel
theorem dX5_init_40 : decode cX5_init 40 = .ok (.iconst (-1), 1) := by decide +kernel
theorem dX5_init_41 : decode cX5_init 41 = .ok (.invokestatic 25, 3) := by decide +kernel
theorem dX5_init_44 : decode cX5_init 44 = .ok (.return_, 1) := by decide +kernel
theorem dX5_isParted_0 : decode cX5_isParted 0 = .ok (.iload_n 1, 1) := by decide +kernel
theorem dX5_isParted_1 : decode cX5_isParted 1 = .ok (.invokestatic 31, 3) := by decide +kernel
theorem dX5_isParted_4 : decode cX5_isParted 4 = .ok (.ifCond .eq 19, 3) := by decide +kernel
theorem dX5_isParted_7 : decode cX5_isParted 7 = .ok (.aload_n 0, 1) := by decide +kernel
theorem dX5_isParted_8 : decode cX5_isParted 8 = .ok (.iload_n 1, 1) := by decide +kernel
theorem dX5_isParted_9 : decode cX5_isParted 9 = .ok (.iload_n 2, 1) := by decide +kernel
theorem dX5_isParted_10 : decode cX5_isParted 10 = .ok (.invokestatic 35, 3) := by decide +kernel
theorem dX5_isParted_13 : decode cX5_isParted 13 = .ok (.invokevirtual 39, 3) := by decide +kernel
theorem dX5_isParted_16 : decode cX5_isParted 16 = .ok (.ifCond .eq 7, 3) := by decide +kernel
theorem dX5_isParted_19 : decode cX5_isParted 19 = .ok (.iconst 1, 1) := by decide +kernel
theorem dX5_isParted_20 : decode cX5_isParted 20 = .ok (.goto 4, 3) := by decide +kernel
theorem dX5_isParted_23 : decode cX5_isParted 23 = .ok (.iconst 0, 1) := by decide +kernel
theorem dX5_isParted_24 : decode cX5_isParted 24 = .ok (.ireturn, 1) := by decide +kernel
theorem dX5_whyNot_0 : decode cX5_whyNot 0 = .ok (.aload_n 0, 1) := by decide +kernel
theorem dX5_whyNot_1 : decode cX5_whyNot 1 = .ok (.getfield 21, 3) := by decide +kernel
theorem dX5_whyNot_4 : decode cX5_whyNot 4 = .ok (.bipush 60, 2) := by decide +kernel
theorem dX5_whyNot_6 : decode cX5_whyNot 6 = .ok (.if_icmp .lt 6, 3) := by decide +kernel
theorem dX5_whyNot_9 : decode cX5_whyNot 9 = .ok (.bipush 9, 2) := by decide +kernel
theorem dX5_whyNot_11 : decode cX5_whyNot 11 = .ok (.ireturn, 1) := by decide +kernel
theorem dX5_whyNot_12 : decode cX5_whyNot 12 = .ok (.aload_n 1, 1) := by decide +kernel
theorem dX5_whyNot_13 : decode cX5_whyNot 13 = .ok (.getfield 42, 3) := by decide +kernel
theorem dX5_whyNot_16 : decode cX5_whyNot 16 = .ok (.ifCond .eq 5, 3) := by decide +kernel
theorem dX5_whyNot_19 : decode cX5_whyNot 19 = .ok (.iconst 1, 1) := by decide +kernel
theorem dX5_whyNot_20 : decode cX5_whyNot 20 = .ok (.ireturn, 1) := by decide +kernel
theorem dX5_whyNot_21 : decode cX5_whyNot 21 = .ok (.aload_n 1, 1) := by decide +kernel
theorem dX5_whyNot_22 : decode cX5_whyNot 22 = .ok (.getfield 48, 3) := by decide +kernel
theorem dX5_whyNot_25 : decode cX5_whyNot 25 = .ok (.iconst 2, 1) := by decide +kernel
theorem dX5_whyNot_26 : decode cX5_whyNot 26 = .ok (.if_icmp .ge 5, 3) := by decide +kernel
theorem dX5_whyNot_29 : decode cX5_whyNot 29 = .ok (.iconst 2, 1) := by decide +kernel
theorem dX5_whyNot_30 : decode cX5_whyNot 30 = .ok (.ireturn, 1) := by decide +kernel
theorem dX5_whyNot_31 : decode cX5_whyNot 31 = .ok (.aload_n 0, 1) := by decide +kernel
theorem dX5_whyNot_32 : decode cX5_whyNot 32 = .ok (.aload_n 1, 1) := by decide +kernel
theorem dX5_whyNot_33 : decode cX5_whyNot 33 = .ok (.invokevirtual 49, 3) := by decide +kernel
theorem dX5_whyNot_36 : decode cX5_whyNot 36 = .ok (.ifCond .eq 5, 3) := by decide +kernel
theorem dX5_whyNot_39 : decode cX5_whyNot 39 = .ok (.iconst 3, 1) := by decide +kernel
theorem dX5_whyNot_40 : decode cX5_whyNot 40 = .ok (.ireturn, 1) := by decide +kernel
theorem dX5_whyNot_41 : decode cX5_whyNot 41 = .ok (.aload_n 0, 1) := by decide +kernel
theorem dX5_whyNot_42 : decode cX5_whyNot 42 = .ok (.aload_n 1, 1) := by decide +kernel
theorem dX5_whyNot_43 : decode cX5_whyNot 43 = .ok (.invokevirtual 53, 3) := by decide +kernel
theorem dX5_whyNot_46 : decode cX5_whyNot 46 = .ok (.ifCond .eq 7, 3) := by decide +kernel
theorem dX5_whyNot_49 : decode cX5_whyNot 49 = .ok (.iconst 4, 1) := by decide +kernel
theorem dX5_whyNot_50 : decode cX5_whyNot 50 = .ok (.goto 4, 3) := by decide +kernel
theorem dX5_whyNot_53 : decode cX5_whyNot 53 = .ok (.iconst (-1), 1) := by decide +kernel
theorem dX5_whyNot_54 : decode cX5_whyNot 54 = .ok (.ireturn, 1) := by decide +kernel
theorem dX5_put_0 : decode cX5_put 0 = .ok (.iconst 1, 1) := by decide +kernel
theorem dX5_put_1 : decode cX5_put 1 = .ok (.istore_n 2, 1) := by decide +kernel
theorem dX5_put_2 : decode cX5_put 2 = .ok (.iload_n 2, 1) := by decide +kernel
theorem dX5_put_3 : decode cX5_put 3 = .ok (.aload_n 1, 1) := by decide +kernel
theorem dX5_put_4 : decode cX5_put 4 = .ok (.getfield 56, 3) := by decide +kernel
theorem dX5_put_7 : decode cX5_put 7 = .ok (.if_icmp .ge 32, 3) := by decide +kernel
theorem dX5_put_10 : decode cX5_put 10 = .ok (.aload_n 1, 1) := by decide +kernel
theorem dX5_put_11 : decode cX5_put 11 = .ok (.iload_n 2, 1) := by decide +kernel
theorem dX5_put_12 : decode cX5_put 12 = .ok (.invokestatic 59, 3) := by decide +kernel
theorem dX5_put_15 : decode cX5_put 15 = .ok (.istore_n 3, 1) := by decide +kernel
theorem dX5_put_16 : decode cX5_put 16 = .ok (.iload_n 3, 1) := by decide +kernel
theorem dX5_put_17 : decode cX5_put 17 = .ok (.invokestatic 63, 3) := by decide +kernel
theorem dX5_put_20 : decode cX5_put 20 = .ok (.ifCond .eq 13, 3) := by decide +kernel
theorem dX5_put_23 : decode cX5_put 23 = .ok (.aload_n 0, 1) := by decide +kernel
theorem dX5_put_24 : decode cX5_put 24 = .ok (.getfield 9, 3) := by decide +kernel
theorem dX5_put_27 : decode cX5_put 27 = .ok (.iload_n 3, 1) := by decide +kernel
theorem dX5_put_28 : decode cX5_put 28 = .ok (.aload_n 0, 1) := by decide +kernel
theorem dX5_put_29 : decode cX5_put 29 = .ok (.getfield 21, 3) := by decide +kernel
theorem dX5_put_32 : decode cX5_put 32 = .ok (.iastore, 1) := by decide +kernel
theorem dX5_put_33 : decode cX5_put 33 = .ok (.iinc 2 1, 3) := by decide +kernel
theorem dX5_put_36 : decode cX5_put 36 = .ok (.goto (-34), 3) := by decide +kernel
theorem dX5_put_39 : decode cX5_put 39 = .ok (.aload_n 0, 1) := by decide +kernel
theorem dX5_put_40 : decode cX5_put 40 = .ok (.dup, 1) := by decide +kernel
theorem dX5_put_41 : decode cX5_put 41 = .ok (.getfield 21, 3) := by decide +kernel
theorem dX5_put_44 : decode cX5_put 44 = .ok (.iconst 1, 1) := by decide +kernel
theorem dX5_put_45 : decode cX5_put 45 = .ok (.iadd, 1) := by decide +kernel
theorem dX5_put_46 : decode cX5_put 46 = .ok (.putfield 21, 3) := by decide +kernel
theorem dX5_put_49 : decode cX5_put 49 = .ok (.return_, 1) := by decide +kernel
theorem dX5_cutTo_0 : decode cX5_cutTo 0 = .ok (.iconst 0, 1) := by decide +kernel
theorem dX5_cutTo_1 : decode cX5_cutTo 1 = .ok (.istore_n 2, 1) := by decide +kernel
theorem dX5_cutTo_2 : decode cX5_cutTo 2 = .ok (.iload_n 2, 1) := by decide +kernel
theorem dX5_cutTo_3 : decode cX5_cutTo 3 = .ok (.sipush 412, 3) := by decide +kernel
theorem dX5_cutTo_6 : decode cX5_cutTo 6 = .ok (.if_icmp .ge 26, 3) := by decide +kernel
theorem dX5_cutTo_9 : decode cX5_cutTo 9 = .ok (.aload_n 0, 1) := by decide +kernel
theorem dX5_cutTo_10 : decode cX5_cutTo 10 = .ok (.getfield 9, 3) := by decide +kernel
theorem dX5_cutTo_13 : decode cX5_cutTo 13 = .ok (.iload_n 2, 1) := by decide +kernel
theorem dX5_cutTo_14 : decode cX5_cutTo 14 = .ok (.iaload, 1) := by decide +kernel
theorem dX5_cutTo_15 : decode cX5_cutTo 15 = .ok (.iload_n 1, 1) := by decide +kernel
theorem dX5_cutTo_16 : decode cX5_cutTo 16 = .ok (.if_icmp .lt 10, 3) := by decide +kernel
theorem dX5_cutTo_19 : decode cX5_cutTo 19 = .ok (.aload_n 0, 1) := by decide +kernel
theorem dX5_cutTo_20 : decode cX5_cutTo 20 = .ok (.getfield 9, 3) := by decide +kernel
theorem dX5_cutTo_23 : decode cX5_cutTo 23 = .ok (.iload_n 2, 1) := by decide +kernel
theorem dX5_cutTo_24 : decode cX5_cutTo 24 = .ok (.iconst (-1), 1) := by decide +kernel
theorem dX5_cutTo_25 : decode cX5_cutTo 25 = .ok (.iastore, 1) := by decide +kernel
theorem dX5_cutTo_26 : decode cX5_cutTo 26 = .ok (.iinc 2 1, 3) := by decide +kernel
theorem dX5_cutTo_29 : decode cX5_cutTo 29 = .ok (.goto (-27), 3) := by decide +kernel
theorem dX5_cutTo_32 : decode cX5_cutTo 32 = .ok (.aload_n 0, 1) := by decide +kernel
theorem dX5_cutTo_33 : decode cX5_cutTo 33 = .ok (.iload_n 1, 1) := by decide +kernel
theorem dX5_cutTo_34 : decode cX5_cutTo 34 = .ok (.putfield 21, 3) := by decide +kernel
theorem dX5_cutTo_37 : decode cX5_cutTo 37 = .ok (.return_, 1) := by decide +kernel
theorem dX5_hasUsedSide_0 : decode cX5_hasUsedSide 0 = .ok (.aload_n 1, 1) := by decide +kernel
theorem dX5_hasUsedSide_1 : decode cX5_hasUsedSide 1 = .ok (.getfield 48, 3) := by decide +kernel
theorem dX5_hasUsedSide_4 : decode cX5_hasUsedSide 4 = .ok (.sipush 413, 3) := by decide +kernel
theorem dX5_hasUsedSide_7 : decode cX5_hasUsedSide 7 = .ok (.if_icmp .le 5, 3) := by decide +kernel
theorem dX5_hasUsedSide_10 : decode cX5_hasUsedSide 10 = .ok (.iconst 1, 1) := by decide +kernel
theorem dX5_hasUsedSide_11 : decode cX5_hasUsedSide 11 = .ok (.ireturn, 1) := by decide +kernel
theorem dX5_hasUsedSide_12 : decode cX5_hasUsedSide 12 = .ok (.aload_n 0, 1) := by decide +kernel
theorem dX5_hasUsedSide_13 : decode cX5_hasUsedSide 13 = .ok (.getfield 15, 3) := by decide +kernel
theorem dX5_hasUsedSide_16 : decode cX5_hasUsedSide 16 = .ok (.iconst 0, 1) := by decide +kernel
theorem dX5_hasUsedSide_17 : decode cX5_hasUsedSide 17 = .ok (.invokestatic 25, 3) := by decide +kernel
theorem dX5_hasUsedSide_20 : decode cX5_hasUsedSide 20 = .ok (.iconst 1, 1) := by decide +kernel
theorem dX5_hasUsedSide_21 : decode cX5_hasUsedSide 21 = .ok (.istore_n 2, 1) := by decide +kernel
theorem dX5_hasUsedSide_22 : decode cX5_hasUsedSide 22 = .ok (.iload_n 2, 1) := by decide +kernel
theorem dX5_hasUsedSide_23 : decode cX5_hasUsedSide 23 = .ok (.aload_n 1, 1) := by decide +kernel
theorem dX5_hasUsedSide_24 : decode cX5_hasUsedSide 24 = .ok (.getfield 56, 3) := by decide +kernel
theorem dX5_hasUsedSide_27 : decode cX5_hasUsedSide 27 = .ok (.if_icmp .ge 51, 3) := by decide +kernel
theorem dX5_hasUsedSide_30 : decode cX5_hasUsedSide 30 = .ok (.aload_n 1, 1) := by decide +kernel
theorem dX5_hasUsedSide_31 : decode cX5_hasUsedSide 31 = .ok (.iload_n 2, 1) := by decide +kernel
theorem dX5_hasUsedSide_32 : decode cX5_hasUsedSide 32 = .ok (.invokestatic 59, 3) := by decide +kernel
theorem dX5_hasUsedSide_35 : decode cX5_hasUsedSide 35 = .ok (.istore_n 3, 1) := by decide +kernel
theorem dX5_hasUsedSide_36 : decode cX5_hasUsedSide 36 = .ok (.iload_n 3, 1) := by decide +kernel
theorem dX5_hasUsedSide_37 : decode cX5_hasUsedSide 37 = .ok (.invokestatic 63, 3) := by decide +kernel
theorem dX5_hasUsedSide_40 : decode cX5_hasUsedSide 40 = .ok (.ifCond .eq 20, 3) := by decide +kernel
theorem dX5_hasUsedSide_43 : decode cX5_hasUsedSide 43 = .ok (.aload_n 0, 1) := by decide +kernel
theorem dX5_hasUsedSide_44 : decode cX5_hasUsedSide 44 = .ok (.iload_n 3, 1) := by decide +kernel
theorem dX5_hasUsedSide_45 : decode cX5_hasUsedSide 45 = .ok (.invokevirtual 39, 3) := by decide +kernel
theorem dX5_hasUsedSide_48 : decode cX5_hasUsedSide 48 = .ok (.ifCond .ne 12, 3) := by decide +kernel
theorem dX5_hasUsedSide_51 : decode cX5_hasUsedSide 51 = .ok (.aload_n 0, 1) := by decide +kernel
theorem dX5_hasUsedSide_52 : decode cX5_hasUsedSide 52 = .ok (.getfield 15, 3) := by decide +kernel
theorem dX5_hasUsedSide_55 : decode cX5_hasUsedSide 55 = .ok (.iload_n 3, 1) := by decide +kernel
theorem dX5_hasUsedSide_56 : decode cX5_hasUsedSide 56 = .ok (.iaload, 1) := by decide +kernel
theorem dX5_hasUsedSide_57 : decode cX5_hasUsedSide 57 = .ok (.ifCond .le 5, 3) := by decide +kernel
theorem dX5_hasUsedSide_60 : decode cX5_hasUsedSide 60 = .ok (.iconst 1, 1) := by decide +kernel
theorem dX5_hasUsedSide_61 : decode cX5_hasUsedSide 61 = .ok (.ireturn, 1) := by decide +kernel
theorem dX5_hasUsedSide_62 : decode cX5_hasUsedSide 62 = .ok (.aload_n 0, 1) := by decide +kernel
theorem dX5_hasUsedSide_63 : decode cX5_hasUsedSide 63 = .ok (.getfield 15, 3) := by decide +kernel
theorem dX5_hasUsedSide_66 : decode cX5_hasUsedSide 66 = .ok (.iload_n 3, 1) := by decide +kernel
theorem dX5_hasUsedSide_67 : decode cX5_hasUsedSide 67 = .ok (.dup2, 1) := by decide +kernel
theorem dX5_hasUsedSide_68 : decode cX5_hasUsedSide 68 = .ok (.iaload, 1) := by decide +kernel
theorem dX5_hasUsedSide_69 : decode cX5_hasUsedSide 69 = .ok (.iconst 1, 1) := by decide +kernel
theorem dX5_hasUsedSide_70 : decode cX5_hasUsedSide 70 = .ok (.iadd, 1) := by decide +kernel
theorem dX5_hasUsedSide_71 : decode cX5_hasUsedSide 71 = .ok (.iastore, 1) := by decide +kernel
theorem dX5_hasUsedSide_72 : decode cX5_hasUsedSide 72 = .ok (.iinc 2 1, 3) := by decide +kernel
theorem dX5_hasUsedSide_75 : decode cX5_hasUsedSide 75 = .ok (.goto (-53), 3) := by decide +kernel
theorem dX5_hasUsedSide_78 : decode cX5_hasUsedSide 78 = .ok (.iconst 0, 1) := by decide +kernel
theorem dX5_hasUsedSide_79 : decode cX5_hasUsedSide 79 = .ok (.ireturn, 1) := by decide +kernel
theorem dX5_hasUsedCorner_0 : decode cX5_hasUsedCorner 0 = .ok (.aload_n 0, 1) := by decide +kernel
theorem dX5_hasUsedCorner_1 : decode cX5_hasUsedCorner 1 = .ok (.getfield 18, 3) := by decide +kernel
theorem dX5_hasUsedCorner_4 : decode cX5_hasUsedCorner 4 = .ok (.iconst 0, 1) := by decide +kernel
theorem dX5_hasUsedCorner_5 : decode cX5_hasUsedCorner 5 = .ok (.invokestatic 25, 3) := by decide +kernel
theorem dX5_hasUsedCorner_8 : decode cX5_hasUsedCorner 8 = .ok (.iconst 0, 1) := by decide +kernel
theorem dX5_hasUsedCorner_9 : decode cX5_hasUsedCorner 9 = .ok (.istore_n 2, 1) := by decide +kernel
theorem dX5_hasUsedCorner_10 : decode cX5_hasUsedCorner 10 = .ok (.iload_n 2, 1) := by decide +kernel
theorem dX5_hasUsedCorner_11 : decode cX5_hasUsedCorner 11 = .ok (.aload_n 1, 1) := by decide +kernel
theorem dX5_hasUsedCorner_12 : decode cX5_hasUsedCorner 12 = .ok (.getfield 56, 3) := by decide +kernel
theorem dX5_hasUsedCorner_15 : decode cX5_hasUsedCorner 15 = .ok (.if_icmp .ge 32, 3) := by decide +kernel
theorem dX5_hasUsedCorner_18 : decode cX5_hasUsedCorner 18 = .ok (.aload_n 1, 1) := by decide +kernel
theorem dX5_hasUsedCorner_19 : decode cX5_hasUsedCorner 19 = .ok (.iload_n 2, 1) := by decide +kernel
theorem dX5_hasUsedCorner_20 : decode cX5_hasUsedCorner 20 = .ok (.invokevirtual 66, 3) := by decide +kernel
theorem dX5_hasUsedCorner_23 : decode cX5_hasUsedCorner 23 = .ok (.istore_n 3, 1) := by decide +kernel
theorem dX5_hasUsedCorner_24 : decode cX5_hasUsedCorner 24 = .ok (.iload_n 3, 1) := by decide +kernel
theorem dX5_hasUsedCorner_25 : decode cX5_hasUsedCorner 25 = .ok (.invokestatic 70, 3) := by decide +kernel
theorem dX5_hasUsedCorner_28 : decode cX5_hasUsedCorner 28 = .ok (.ifCond .eq 13, 3) := by decide +kernel
theorem dX5_hasUsedCorner_31 : decode cX5_hasUsedCorner 31 = .ok (.aload_n 0, 1) := by decide +kernel
theorem dX5_hasUsedCorner_32 : decode cX5_hasUsedCorner 32 = .ok (.getfield 18, 3) := by decide +kernel
theorem dX5_hasUsedCorner_35 : decode cX5_hasUsedCorner 35 = .ok (.iload_n 3, 1) := by decide +kernel
theorem dX5_hasUsedCorner_36 : decode cX5_hasUsedCorner 36 = .ok (.dup2, 1) := by decide +kernel
theorem dX5_hasUsedCorner_37 : decode cX5_hasUsedCorner 37 = .ok (.iaload, 1) := by decide +kernel
theorem dX5_hasUsedCorner_38 : decode cX5_hasUsedCorner 38 = .ok (.iconst 1, 1) := by decide +kernel
theorem dX5_hasUsedCorner_39 : decode cX5_hasUsedCorner 39 = .ok (.iadd, 1) := by decide +kernel
theorem dX5_hasUsedCorner_40 : decode cX5_hasUsedCorner 40 = .ok (.iastore, 1) := by decide +kernel
theorem dX5_hasUsedCorner_41 : decode cX5_hasUsedCorner 41 = .ok (.iinc 2 1, 3) := by decide +kernel
theorem dX5_hasUsedCorner_44 : decode cX5_hasUsedCorner 44 = .ok (.goto (-34), 3) := by decide +kernel
theorem dX5_hasUsedCorner_47 : decode cX5_hasUsedCorner 47 = .ok (.iconst 1, 1) := by decide +kernel
theorem dX5_hasUsedCorner_48 : decode cX5_hasUsedCorner 48 = .ok (.istore_n 2, 1) := by decide +kernel
theorem dX5_hasUsedCorner_49 : decode cX5_hasUsedCorner 49 = .ok (.iload_n 2, 1) := by decide +kernel
theorem dX5_hasUsedCorner_50 : decode cX5_hasUsedCorner 50 = .ok (.aload_n 1, 1) := by decide +kernel
theorem dX5_hasUsedCorner_51 : decode cX5_hasUsedCorner 51 = .ok (.getfield 56, 3) := by decide +kernel
theorem dX5_hasUsedCorner_54 : decode cX5_hasUsedCorner 54 = .ok (.iconst 1, 1) := by decide +kernel
theorem dX5_hasUsedCorner_55 : decode cX5_hasUsedCorner 55 = .ok (.isub, 1) := by decide +kernel
theorem dX5_hasUsedCorner_56 : decode cX5_hasUsedCorner 56 = .ok (.if_icmp .ge 42, 3) := by decide +kernel
theorem dX5_hasUsedCorner_59 : decode cX5_hasUsedCorner 59 = .ok (.aload_n 1, 1) := by decide +kernel
theorem dX5_hasUsedCorner_60 : decode cX5_hasUsedCorner 60 = .ok (.iload_n 2, 1) := by decide +kernel
theorem dX5_hasUsedCorner_61 : decode cX5_hasUsedCorner 61 = .ok (.invokevirtual 66, 3) := by decide +kernel
theorem dX5_hasUsedCorner_64 : decode cX5_hasUsedCorner 64 = .ok (.istore_n 3, 1) := by decide +kernel
theorem dX5_hasUsedCorner_65 : decode cX5_hasUsedCorner 65 = .ok (.iload_n 3, 1) := by decide +kernel
theorem dX5_hasUsedCorner_66 : decode cX5_hasUsedCorner 66 = .ok (.invokestatic 70, 3) := by decide +kernel
theorem dX5_hasUsedCorner_69 : decode cX5_hasUsedCorner 69 = .ok (.ifCond .eq 23, 3) := by decide +kernel
theorem dX5_hasUsedCorner_72 : decode cX5_hasUsedCorner 72 = .ok (.aload_n 0, 1) := by decide +kernel
theorem dX5_hasUsedCorner_73 : decode cX5_hasUsedCorner 73 = .ok (.getfield 18, 3) := by decide +kernel
theorem dX5_hasUsedCorner_76 : decode cX5_hasUsedCorner 76 = .ok (.iload_n 3, 1) := by decide +kernel
theorem dX5_hasUsedCorner_77 : decode cX5_hasUsedCorner 77 = .ok (.iaload, 1) := by decide +kernel
theorem dX5_hasUsedCorner_78 : decode cX5_hasUsedCorner 78 = .ok (.iconst 1, 1) := by decide +kernel
theorem dX5_hasUsedCorner_79 : decode cX5_hasUsedCorner 79 = .ok (.if_icmp .gt 11, 3) := by decide +kernel
theorem dX5_hasUsedCorner_82 : decode cX5_hasUsedCorner 82 = .ok (.aload_n 0, 1) := by decide +kernel
theorem dX5_hasUsedCorner_83 : decode cX5_hasUsedCorner 83 = .ok (.iload_n 3, 1) := by decide +kernel
theorem dX5_hasUsedCorner_84 : decode cX5_hasUsedCorner 84 = .ok (.invokevirtual 73, 3) := by decide +kernel
theorem dX5_hasUsedCorner_87 : decode cX5_hasUsedCorner 87 = .ok (.ifCond .eq 5, 3) := by decide +kernel
theorem dX5_hasUsedCorner_90 : decode cX5_hasUsedCorner 90 = .ok (.iconst 1, 1) := by decide +kernel
theorem dX5_hasUsedCorner_91 : decode cX5_hasUsedCorner 91 = .ok (.ireturn, 1) := by decide +kernel
theorem dX5_hasUsedCorner_92 : decode cX5_hasUsedCorner 92 = .ok (.iinc 2 1, 3) := by decide +kernel
theorem dX5_hasUsedCorner_95 : decode cX5_hasUsedCorner 95 = .ok (.goto (-46), 3) := by decide +kernel
theorem dX5_hasUsedCorner_98 : decode cX5_hasUsedCorner 98 = .ok (.iconst 0, 1) := by decide +kernel
theorem dX5_hasUsedCorner_99 : decode cX5_hasUsedCorner 99 = .ok (.ireturn, 1) := by decide +kernel
theorem dX5_isOnParting_0 : decode cX5_isOnParting 0 = .ok (.iconst 0, 1) := by decide +kernel
theorem dX5_isOnParting_1 : decode cX5_isOnParting 1 = .ok (.istore_n 2, 1) := by decide +kernel
theorem dX5_isOnParting_2 : decode cX5_isOnParting 2 = .ok (.iload_n 2, 1) := by decide +kernel
theorem dX5_isOnParting_3 : decode cX5_isOnParting 3 = .ok (.iconst 4, 1) := by decide +kernel
theorem dX5_isOnParting_4 : decode cX5_isOnParting 4 = .ok (.if_icmp .ge 23, 3) := by decide +kernel
theorem dX5_isOnParting_7 : decode cX5_isOnParting 7 = .ok (.aload_n 0, 1) := by decide +kernel
theorem dX5_isOnParting_8 : decode cX5_isOnParting 8 = .ok (.iload_n 1, 1) := by decide +kernel
theorem dX5_isOnParting_9 : decode cX5_isOnParting 9 = .ok (.iload_n 2, 1) := by decide +kernel
theorem dX5_isOnParting_10 : decode cX5_isOnParting 10 = .ok (.invokestatic 76, 3) := by decide +kernel
theorem dX5_isOnParting_13 : decode cX5_isOnParting 13 = .ok (.invokevirtual 39, 3) := by decide +kernel
theorem dX5_isOnParting_16 : decode cX5_isOnParting 16 = .ok (.ifCond .eq 5, 3) := by decide +kernel
theorem dX5_isOnParting_19 : decode cX5_isOnParting 19 = .ok (.iconst 1, 1) := by decide +kernel
theorem dX5_isOnParting_20 : decode cX5_isOnParting 20 = .ok (.ireturn, 1) := by decide +kernel
theorem dX5_isOnParting_21 : decode cX5_isOnParting 21 = .ok (.iinc 2 1, 3) := by decide +kernel
theorem dX5_isOnParting_24 : decode cX5_isOnParting 24 = .ok (.goto (-22), 3) := by decide +kernel
theorem dX5_isOnParting_27 : decode cX5_isOnParting 27 = .ok (.iconst 0, 1) := by decide +kernel
theorem dX5_isOnParting_28 : decode cX5_isOnParting 28 = .ok (.ireturn, 1) := by decide +kernel
theorem dX5_hasParting_0 : decode cX5_hasParting 0 = .ok (.iload_n 1, 1) := by decide +kernel
theorem dX5_hasParting_1 : decode cX5_hasParting 1 = .ok (.ifCond .lt 24, 3) := by decide +kernel
theorem dX5_hasParting_4 : decode cX5_hasParting 4 = .ok (.iload_n 1, 1) := by decide +kernel
theorem dX5_hasParting_5 : decode cX5_hasParting 5 = .ok (.sipush 412, 3) := by decide +kernel
theorem dX5_hasParting_8 : decode cX5_hasParting 8 = .ok (.if_icmp .ge 17, 3) := by decide +kernel
theorem dX5_hasParting_11 : decode cX5_hasParting 11 = .ok (.aload_n 0, 1) := by decide +kernel
theorem dX5_hasParting_12 : decode cX5_hasParting 12 = .ok (.getfield 9, 3) := by decide +kernel
theorem dX5_hasParting_15 : decode cX5_hasParting 15 = .ok (.iload_n 1, 1) := by decide +kernel
theorem dX5_hasParting_16 : decode cX5_hasParting 16 = .ok (.iaload, 1) := by decide +kernel
theorem dX5_hasParting_17 : decode cX5_hasParting 17 = .ok (.iconst (-1), 1) := by decide +kernel
theorem dX5_hasParting_18 : decode cX5_hasParting 18 = .ok (.if_icmp .eq 7, 3) := by decide +kernel
theorem dX5_hasParting_21 : decode cX5_hasParting 21 = .ok (.iconst 1, 1) := by decide +kernel
theorem dX5_hasParting_22 : decode cX5_hasParting 22 = .ok (.goto 4, 3) := by decide +kernel
theorem dX5_hasParting_25 : decode cX5_hasParting 25 = .ok (.iconst 0, 1) := by decide +kernel
theorem dX5_hasParting_26 : decode cX5_hasParting 26 = .ok (.ireturn, 1) := by decide +kernel
theorem dX5_isSide_0 : decode cX5_isSide 0 = .ok (.iload_n 0, 1) := by decide +kernel
theorem dX5_isSide_1 : decode cX5_isSide 1 = .ok (.ifCond .lt 14, 3) := by decide +kernel
theorem dX5_isSide_4 : decode cX5_isSide 4 = .ok (.iload_n 0, 1) := by decide +kernel
theorem dX5_isSide_5 : decode cX5_isSide 5 = .ok (.sipush 412, 3) := by decide +kernel
theorem dX5_isSide_8 : decode cX5_isSide 8 = .ok (.if_icmp .ge 7, 3) := by decide +kernel
theorem dX5_isSide_11 : decode cX5_isSide 11 = .ok (.iconst 1, 1) := by decide +kernel
theorem dX5_isSide_12 : decode cX5_isSide 12 = .ok (.goto 4, 3) := by decide +kernel
theorem dX5_isSide_15 : decode cX5_isSide 15 = .ok (.iconst 0, 1) := by decide +kernel
theorem dX5_isSide_16 : decode cX5_isSide 16 = .ok (.ireturn, 1) := by decide +kernel
theorem dX5_isCorner_0 : decode cX5_isCorner 0 = .ok (.iload_n 0, 1) := by decide +kernel
theorem dX5_isCorner_1 : decode cX5_isCorner 1 = .ok (.ifCond .lt 14, 3) := by decide +kernel
theorem dX5_isCorner_4 : decode cX5_isCorner 4 = .ok (.iload_n 0, 1) := by decide +kernel
theorem dX5_isCorner_5 : decode cX5_isCorner 5 = .ok (.sipush 221, 3) := by decide +kernel
theorem dX5_isCorner_8 : decode cX5_isCorner 8 = .ok (.if_icmp .ge 7, 3) := by decide +kernel
theorem dX5_isCorner_11 : decode cX5_isCorner 11 = .ok (.iconst 1, 1) := by decide +kernel
theorem dX5_isCorner_12 : decode cX5_isCorner 12 = .ok (.goto 4, 3) := by decide +kernel
theorem dX5_isCorner_15 : decode cX5_isCorner 15 = .ok (.iconst 0, 1) := by decide +kernel
theorem dX5_isCorner_16 : decode cX5_isCorner 16 = .ok (.ireturn, 1) := by decide +kernel
theorem dX5_sideTo_0 : decode cX5_sideTo 0 = .ok (.aload_n 0, 1) := by decide +kernel
theorem dX5_sideTo_1 : decode cX5_sideTo 1 = .ok (.iload_n 1, 1) := by decide +kernel
theorem dX5_sideTo_2 : decode cX5_sideTo 2 = .ok (.iconst 1, 1) := by decide +kernel
theorem dX5_sideTo_3 : decode cX5_sideTo 3 = .ok (.isub, 1) := by decide +kernel
theorem dX5_sideTo_4 : decode cX5_sideTo 4 = .ok (.invokevirtual 66, 3) := by decide +kernel
theorem dX5_sideTo_7 : decode cX5_sideTo 7 = .ok (.aload_n 0, 1) := by decide +kernel
theorem dX5_sideTo_8 : decode cX5_sideTo 8 = .ok (.iload_n 1, 1) := by decide +kernel
theorem dX5_sideTo_9 : decode cX5_sideTo 9 = .ok (.invokevirtual 79, 3) := by decide +kernel
theorem dX5_sideTo_12 : decode cX5_sideTo 12 = .ok (.invokestatic 76, 3) := by decide +kernel
theorem dX5_sideTo_15 : decode cX5_sideTo 15 = .ok (.ireturn, 1) := by decide +kernel
theorem dX5_sideOfCell_0 : decode cX5_sideOfCell 0 = .ok (.iload_n 1, 1) := by decide +kernel
theorem dX5_sideOfCell_1 : decode cX5_sideOfCell 1 = .ok (.ifCond .eq 8, 3) := by decide +kernel
theorem dX5_sideOfCell_4 : decode cX5_sideOfCell 4 = .ok (.iload_n 1, 1) := by decide +kernel
theorem dX5_sideOfCell_5 : decode cX5_sideOfCell 5 = .ok (.iconst 1, 1) := by decide +kernel
theorem dX5_sideOfCell_6 : decode cX5_sideOfCell 6 = .ok (.if_icmp .ne 16, 3) := by decide +kernel
theorem dX5_sideOfCell_9 : decode cX5_sideOfCell 9 = .ok (.iload_n 1, 1) := by decide +kernel
theorem dX5_sideOfCell_10 : decode cX5_sideOfCell 10 = .ok (.ifCond .ne 7, 3) := by decide +kernel
theorem dX5_sideOfCell_13 : decode cX5_sideOfCell 13 = .ok (.iload_n 0, 1) := by decide +kernel
theorem dX5_sideOfCell_14 : decode cX5_sideOfCell 14 = .ok (.goto 7, 3) := by decide +kernel
theorem dX5_sideOfCell_17 : decode cX5_sideOfCell 17 = .ok (.iload_n 0, 1) := by decide +kernel
theorem dX5_sideOfCell_18 : decode cX5_sideOfCell 18 = .ok (.bipush 16, 2) := by decide +kernel
theorem dX5_sideOfCell_20 : decode cX5_sideOfCell 20 = .ok (.iadd, 1) := by decide +kernel
theorem dX5_sideOfCell_21 : decode cX5_sideOfCell 21 = .ok (.ireturn, 1) := by decide +kernel
theorem dX5_sideOfCell_22 : decode cX5_sideOfCell 22 = .ok (.sipush 208, 3) := by decide +kernel
theorem dX5_sideOfCell_25 : decode cX5_sideOfCell 25 = .ok (.bipush 17, 2) := by decide +kernel
theorem dX5_sideOfCell_27 : decode cX5_sideOfCell 27 = .ok (.iload_n 0, 1) := by decide +kernel
theorem dX5_sideOfCell_28 : decode cX5_sideOfCell 28 = .ok (.bipush 16, 2) := by decide +kernel
theorem dX5_sideOfCell_30 : decode cX5_sideOfCell 30 = .ok (.idiv, 1) := by decide +kernel
theorem dX5_sideOfCell_31 : decode cX5_sideOfCell 31 = .ok (.imul, 1) := by decide +kernel
theorem dX5_sideOfCell_32 : decode cX5_sideOfCell 32 = .ok (.iadd, 1) := by decide +kernel
theorem dX5_sideOfCell_33 : decode cX5_sideOfCell 33 = .ok (.iload_n 0, 1) := by decide +kernel
theorem dX5_sideOfCell_34 : decode cX5_sideOfCell 34 = .ok (.bipush 16, 2) := by decide +kernel
theorem dX5_sideOfCell_36 : decode cX5_sideOfCell 36 = .ok (.irem, 1) := by decide +kernel
theorem dX5_sideOfCell_37 : decode cX5_sideOfCell 37 = .ok (.iadd, 1) := by decide +kernel
theorem dX5_sideOfCell_38 : decode cX5_sideOfCell 38 = .ok (.istore_n 2, 1) := by decide +kernel
theorem dX5_sideOfCell_39 : decode cX5_sideOfCell 39 = .ok (.iload_n 1, 1) := by decide +kernel
theorem dX5_sideOfCell_40 : decode cX5_sideOfCell 40 = .ok (.iconst 2, 1) := by decide +kernel
theorem dX5_sideOfCell_41 : decode cX5_sideOfCell 41 = .ok (.if_icmp .ne 7, 3) := by decide +kernel
theorem dX5_sideOfCell_44 : decode cX5_sideOfCell 44 = .ok (.iload_n 2, 1) := by decide +kernel
theorem dX5_sideOfCell_45 : decode cX5_sideOfCell 45 = .ok (.goto 6, 3) := by decide +kernel
theorem dX5_sideOfCell_48 : decode cX5_sideOfCell 48 = .ok (.iload_n 2, 1) := by decide +kernel
theorem dX5_sideOfCell_49 : decode cX5_sideOfCell 49 = .ok (.iconst 1, 1) := by decide +kernel
theorem dX5_sideOfCell_50 : decode cX5_sideOfCell 50 = .ok (.iadd, 1) := by decide +kernel
theorem dX5_sideOfCell_51 : decode cX5_sideOfCell 51 = .ok (.ireturn, 1) := by decide +kernel
theorem dX5_sideFromCorner_0 : decode cX5_sideFromCorner 0 = .ok (.iload_n 0, 1) := by decide +kernel
theorem dX5_sideFromCorner_1 : decode cX5_sideFromCorner 1 = .ok (.bipush 17, 2) := by decide +kernel
theorem dX5_sideFromCorner_3 : decode cX5_sideFromCorner 3 = .ok (.irem, 1) := by decide +kernel
theorem dX5_sideFromCorner_4 : decode cX5_sideFromCorner 4 = .ok (.istore_n 2, 1) := by decide +kernel
theorem dX5_sideFromCorner_5 : decode cX5_sideFromCorner 5 = .ok (.iload_n 0, 1) := by decide +kernel
theorem dX5_sideFromCorner_6 : decode cX5_sideFromCorner 6 = .ok (.bipush 17, 2) := by decide +kernel
theorem dX5_sideFromCorner_8 : decode cX5_sideFromCorner 8 = .ok (.idiv, 1) := by decide +kernel
theorem dX5_sideFromCorner_9 : decode cX5_sideFromCorner 9 = .ok (.istore_n 3, 1) := by decide +kernel
theorem dX5_sideFromCorner_10 : decode cX5_sideFromCorner 10 = .ok (.iload_n 1, 1) := by decide +kernel
theorem dX5_sideFromCorner_11 : decode cX5_sideFromCorner 11 = .ok (.ifCond .ne 16, 3) := by decide +kernel
theorem dX5_sideFromCorner_14 : decode cX5_sideFromCorner 14 = .ok (.iload_n 3, 1) := by decide +kernel
theorem dX5_sideFromCorner_15 : decode cX5_sideFromCorner 15 = .ok (.ifCond .le 12, 3) := by decide +kernel
theorem dX5_sideFromCorner_18 : decode cX5_sideFromCorner 18 = .ok (.sipush 208, 3) := by decide +kernel
theorem dX5_sideFromCorner_21 : decode cX5_sideFromCorner 21 = .ok (.iload_n 0, 1) := by decide +kernel
theorem dX5_sideFromCorner_22 : decode cX5_sideFromCorner 22 = .ok (.iadd, 1) := by decide +kernel
theorem dX5_sideFromCorner_23 : decode cX5_sideFromCorner 23 = .ok (.bipush 17, 2) := by decide +kernel
theorem dX5_sideFromCorner_25 : decode cX5_sideFromCorner 25 = .ok (.isub, 1) := by decide +kernel
theorem dX5_sideFromCorner_26 : decode cX5_sideFromCorner 26 = .ok (.ireturn, 1) := by decide +kernel
theorem dX5_sideFromCorner_27 : decode cX5_sideFromCorner 27 = .ok (.iload_n 1, 1) := by decide +kernel
theorem dX5_sideFromCorner_28 : decode cX5_sideFromCorner 28 = .ok (.iconst 1, 1) := by decide +kernel
theorem dX5_sideFromCorner_29 : decode cX5_sideFromCorner 29 = .ok (.if_icmp .ne 15, 3) := by decide +kernel
theorem dX5_sideFromCorner_32 : decode cX5_sideFromCorner 32 = .ok (.iload_n 3, 1) := by decide +kernel
theorem dX5_sideFromCorner_33 : decode cX5_sideFromCorner 33 = .ok (.bipush 12, 2) := by decide +kernel
theorem dX5_sideFromCorner_35 : decode cX5_sideFromCorner 35 = .ok (.if_icmp .ge 9, 3) := by decide +kernel
theorem dX5_sideFromCorner_38 : decode cX5_sideFromCorner 38 = .ok (.sipush 208, 3) := by decide +kernel
theorem dX5_sideFromCorner_41 : decode cX5_sideFromCorner 41 = .ok (.iload_n 0, 1) := by decide +kernel
theorem dX5_sideFromCorner_42 : decode cX5_sideFromCorner 42 = .ok (.iadd, 1) := by decide +kernel
theorem dX5_sideFromCorner_43 : decode cX5_sideFromCorner 43 = .ok (.ireturn, 1) := by decide +kernel
theorem dX5_sideFromCorner_44 : decode cX5_sideFromCorner 44 = .ok (.iload_n 1, 1) := by decide +kernel
theorem dX5_sideFromCorner_45 : decode cX5_sideFromCorner 45 = .ok (.iconst 2, 1) := by decide +kernel
theorem dX5_sideFromCorner_46 : decode cX5_sideFromCorner 46 = .ok (.if_icmp .ne 16, 3) := by decide +kernel
theorem dX5_sideFromCorner_49 : decode cX5_sideFromCorner 49 = .ok (.iload_n 2, 1) := by decide +kernel
theorem dX5_sideFromCorner_50 : decode cX5_sideFromCorner 50 = .ok (.ifCond .le 12, 3) := by decide +kernel
theorem dX5_sideFromCorner_53 : decode cX5_sideFromCorner 53 = .ok (.bipush 16, 2) := by decide +kernel
theorem dX5_sideFromCorner_55 : decode cX5_sideFromCorner 55 = .ok (.iload_n 3, 1) := by decide +kernel
theorem dX5_sideFromCorner_56 : decode cX5_sideFromCorner 56 = .ok (.imul, 1) := by decide +kernel
theorem dX5_sideFromCorner_57 : decode cX5_sideFromCorner 57 = .ok (.iload_n 2, 1) := by decide +kernel
theorem dX5_sideFromCorner_58 : decode cX5_sideFromCorner 58 = .ok (.iadd, 1) := by decide +kernel
theorem dX5_sideFromCorner_59 : decode cX5_sideFromCorner 59 = .ok (.iconst 1, 1) := by decide +kernel
theorem dX5_sideFromCorner_60 : decode cX5_sideFromCorner 60 = .ok (.isub, 1) := by decide +kernel
theorem dX5_sideFromCorner_61 : decode cX5_sideFromCorner 61 = .ok (.ireturn, 1) := by decide +kernel
theorem dX5_sideFromCorner_62 : decode cX5_sideFromCorner 62 = .ok (.iload_n 1, 1) := by decide +kernel
theorem dX5_sideFromCorner_63 : decode cX5_sideFromCorner 63 = .ok (.iconst 3, 1) := by decide +kernel
theorem dX5_sideFromCorner_64 : decode cX5_sideFromCorner 64 = .ok (.if_icmp .ne 18, 3) := by decide +kernel
theorem dX5_sideFromCorner_67 : decode cX5_sideFromCorner 67 = .ok (.iload_n 2, 1) := by decide +kernel
theorem dX5_sideFromCorner_68 : decode cX5_sideFromCorner 68 = .ok (.bipush 16, 2) := by decide +kernel
theorem dX5_sideFromCorner_70 : decode cX5_sideFromCorner 70 = .ok (.if_icmp .ge 12, 3) := by decide +kernel
theorem dX5_sideFromCorner_73 : decode cX5_sideFromCorner 73 = .ok (.bipush 16, 2) := by decide +kernel
theorem dX5_sideFromCorner_75 : decode cX5_sideFromCorner 75 = .ok (.iload_n 3, 1) := by decide +kernel
theorem dX5_sideFromCorner_76 : decode cX5_sideFromCorner 76 = .ok (.imul, 1) := by decide +kernel
theorem dX5_sideFromCorner_77 : decode cX5_sideFromCorner 77 = .ok (.iload_n 2, 1) := by decide +kernel
theorem dX5_sideFromCorner_78 : decode cX5_sideFromCorner 78 = .ok (.iadd, 1) := by decide +kernel
theorem dX5_sideFromCorner_79 : decode cX5_sideFromCorner 79 = .ok (.goto 4, 3) := by decide +kernel
theorem dX5_sideFromCorner_82 : decode cX5_sideFromCorner 82 = .ok (.iconst (-1), 1) := by decide +kernel
theorem dX5_sideFromCorner_83 : decode cX5_sideFromCorner 83 = .ok (.ireturn, 1) := by decide +kernel
theorem dX6_init_0 : decode cX6_init 0 = .ok (.aload_n 0, 1) := by decide +kernel
theorem dX6_init_1 : decode cX6_init 1 = .ok (.invokespecial 3, 3) := by decide +kernel
theorem dX6_init_4 : decode cX6_init 4 = .ok (.aload_n 0, 1) := by decide +kernel
theorem dX6_init_5 : decode cX6_init 5 = .ok (.sipush 192, 3) := by decide +kernel
theorem dX6_init_8 : decode cX6_init 8 = .ok (.newarray .int, 2) := by decide +kernel
theorem dX6_init_10 : decode cX6_init 10 = .ok (.putfield 9, 3) := by decide +kernel
theorem dX6_init_13 : decode cX6_init 13 = .ok (.aload_n 0, 1) := by decide +kernel
theorem dX6_init_14 : decode cX6_init 14 = .ok (.bipush 24, 2) := by decide +kernel
theorem dX6_init_16 : decode cX6_init 16 = .ok (.newarray .int, 2) := by decide +kernel
theorem dX6_init_18 : decode cX6_init 18 = .ok (.putfield 15, 3) := by decide +kernel
theorem dX6_init_21 : decode cX6_init 21 = .ok (.aload_n 0, 1) := by decide +kernel
theorem dX6_init_22 : decode cX6_init 22 = .ok (.bipush 24, 2) := by decide +kernel
theorem dX6_init_24 : decode cX6_init 24 = .ok (.newarray .int, 2) := by decide +kernel
theorem dX6_init_26 : decode cX6_init 26 = .ok (.putfield 18, 3) := by decide +kernel
theorem dX6_init_29 : decode cX6_init 29 = .ok (.aload_n 0, 1) := by decide +kernel
theorem dX6_init_30 : decode cX6_init 30 = .ok (.sipush 192, 3) := by decide +kernel
theorem dX6_init_33 : decode cX6_init 33 = .ok (.newarray .int, 2) := by decide +kernel
theorem dX6_init_35 : decode cX6_init 35 = .ok (.putfield 21, 3) := by decide +kernel
theorem dX6_init_38 : decode cX6_init 38 = .ok (.aload_n 0, 1) := by decide +kernel
theorem dX6_init_39 : decode cX6_init 39 = .ok (.sipush 192, 3) := by decide +kernel
theorem dX6_init_42 : decode cX6_init 42 = .ok (.newarray .int, 2) := by decide +kernel
theorem dX6_init_44 : decode cX6_init 44 = .ok (.putfield 24, 3) := by decide +kernel
theorem dX6_init_47 : decode cX6_init 47 = .ok (.aload_n 0, 1) := by decide +kernel
theorem dX6_init_48 : decode cX6_init 48 = .ok (.bipush 24, 2) := by decide +kernel
theorem dX6_init_50 : decode cX6_init 50 = .ok (.newarray .int, 2) := by decide +kernel
theorem dX6_init_52 : decode cX6_init 52 = .ok (.putfield 27, 3) := by decide +kernel
theorem dX6_init_55 : decode cX6_init 55 = .ok (.aload_n 0, 1) := by decide +kernel
theorem dX6_init_56 : decode cX6_init 56 = .ok (.bipush 24, 2) := by decide +kernel
theorem dX6_init_58 : decode cX6_init 58 = .ok (.newarray .int, 2) := by decide +kernel
theorem dX6_init_60 : decode cX6_init 60 = .ok (.putfield 30, 3) := by decide +kernel
theorem dX6_init_63 : decode cX6_init 63 = .ok (.aload_n 0, 1) := by decide +kernel
theorem dX6_init_64 : decode cX6_init 64 = .ok (.bipush 24, 2) := by decide +kernel
theorem dX6_init_66 : decode cX6_init 66 = .ok (.newarray .int, 2) := by decide +kernel
theorem dX6_init_68 : decode cX6_init 68 = .ok (.putfield 33, 3) := by decide +kernel
theorem dX6_init_71 : decode cX6_init 71 = .ok (.aload_n 0, 1) := by decide +kernel
theorem dX6_init_72 : decode cX6_init 72 = .ok (.sipush 192, 3) := by decide +kernel
theorem dX6_init_75 : decode cX6_init 75 = .ok (.newarray .int, 2) := by decide +kernel
theorem dX6_init_77 : decode cX6_init 77 = .ok (.putfield 36, 3) := by decide +kernel
theorem dX6_init_80 : decode cX6_init 80 = .ok (.aload_n 0, 1) := by decide +kernel
theorem dX6_init_81 : decode cX6_init 81 = .ok (.iconst 0, 1) := by decide +kernel
theorem dX6_init_82 : decode cX6_init 82 = .ok (.putfield 39, 3) := by decide +kernel
theorem dX6_init_85 : decode cX6_init 85 = .ok (.aload_n 0, 1) := by decide +kernel
theorem dX6_init_86 : decode cX6_init 86 = .ok (.iconst 0, 1) := by decide +kernel
theorem dX6_init_87 : decode cX6_init 87 = .ok (.putfield 43, 3) := by decide +kernel
theorem dX6_init_90 : decode cX6_init 90 = .ok (.aload_n 0, 1) := by decide +kernel
theorem dX6_init_91 : decode cX6_init 91 = .ok (.aload_n 1, 1) := by decide +kernel
theorem dX6_init_92 : decode cX6_init 92 = .ok (.putfield 46, 3) := by decide +kernel
theorem dX6_init_95 : decode cX6_init 95 = .ok (.aload_n 0, 1) := by decide +kernel
theorem dX6_init_96 : decode cX6_init 96 = .ok (.aload_n 2, 1) := by decide +kernel
theorem dX6_init_97 : decode cX6_init 97 = .ok (.putfield 50, 3) := by decide +kernel
theorem dX6_init_100 : decode cX6_init 100 = .ok (.aload_n 0, 1) := by decide +kernel
theorem dX6_init_101 : decode cX6_init 101 = .ok (.getfield 21, 3) := by decide +kernel
theorem dX6_init_104 : decode cX6_init 104 = .ok (.iconst (-1), 1) := by decide +kernel
theorem dX6_init_105 : decode cX6_init 105 = .ok (.invokestatic 54, 3) := by decide +kernel
theorem dX6_init_108 : decode cX6_init 108 = .ok (.return_, 1) := by decide +kernel
theorem dX6_has_0 : decode cX6_has 0 = .ok (.iload_n 1, 1) := by decide +kernel
theorem dX6_has_1 : decode cX6_has 1 = .ok (.ifCond .lt 21, 3) := by decide +kernel
theorem dX6_has_4 : decode cX6_has 4 = .ok (.iload_n 1, 1) := by decide +kernel
theorem dX6_has_5 : decode cX6_has 5 = .ok (.aload_n 0, 1) := by decide +kernel
theorem dX6_has_6 : decode cX6_has 6 = .ok (.getfield 39, 3) := by decide +kernel
theorem dX6_has_9 : decode cX6_has 9 = .ok (.if_icmp .ge 13, 3) := by decide +kernel
theorem dX6_has_12 : decode cX6_has 12 = .ok (.iload_n 1, 1) := by decide +kernel
theorem dX6_has_13 : decode cX6_has 13 = .ok (.bipush 24, 2) := by decide +kernel
theorem dX6_has_15 : decode cX6_has 15 = .ok (.if_icmp .ge 7, 3) := by decide +kernel
theorem dX6_has_18 : decode cX6_has 18 = .ok (.iconst 1, 1) := by decide +kernel
theorem dX6_has_19 : decode cX6_has 19 = .ok (.goto 4, 3) := by decide +kernel
theorem dX6_has_22 : decode cX6_has 22 = .ok (.iconst 0, 1) := by decide +kernel
theorem dX6_has_23 : decode cX6_has 23 = .ok (.ireturn, 1) := by decide +kernel
theorem dX6_sizeIn_0 : decode cX6_sizeIn 0 = .ok (.aload_n 0, 1) := by decide +kernel
theorem dX6_sizeIn_1 : decode cX6_sizeIn 1 = .ok (.iload_n 1, 1) := by decide +kernel
theorem dX6_sizeIn_2 : decode cX6_sizeIn 2 = .ok (.invokevirtual 60, 3) := by decide +kernel
theorem dX6_sizeIn_5 : decode cX6_sizeIn 5 = .ok (.ifCond .eq 12, 3) := by decide +kernel
theorem dX6_sizeIn_8 : decode cX6_sizeIn 8 = .ok (.aload_n 0, 1) := by decide +kernel
theorem dX6_sizeIn_9 : decode cX6_sizeIn 9 = .ok (.getfield 18, 3) := by decide +kernel
theorem dX6_sizeIn_12 : decode cX6_sizeIn 12 = .ok (.iload_n 1, 1) := by decide +kernel
theorem dX6_sizeIn_13 : decode cX6_sizeIn 13 = .ok (.iaload, 1) := by decide +kernel
theorem dX6_sizeIn_14 : decode cX6_sizeIn 14 = .ok (.goto 4, 3) := by decide +kernel
theorem dX6_sizeIn_17 : decode cX6_sizeIn 17 = .ok (.iconst 0, 1) := by decide +kernel
theorem dX6_sizeIn_18 : decode cX6_sizeIn 18 = .ok (.ireturn, 1) := by decide +kernel
theorem dX6_cellIn_0 : decode cX6_cellIn 0 = .ok (.aload_n 0, 1) := by decide +kernel
theorem dX6_cellIn_1 : decode cX6_cellIn 1 = .ok (.iload_n 1, 1) := by decide +kernel
theorem dX6_cellIn_2 : decode cX6_cellIn 2 = .ok (.invokevirtual 60, 3) := by decide +kernel
theorem dX6_cellIn_5 : decode cX6_cellIn 5 = .ok (.ifCond .eq 17, 3) := by decide +kernel
theorem dX6_cellIn_8 : decode cX6_cellIn 8 = .ok (.iload_n 2, 1) := by decide +kernel
theorem dX6_cellIn_9 : decode cX6_cellIn 9 = .ok (.ifCond .lt 13, 3) := by decide +kernel
theorem dX6_cellIn_12 : decode cX6_cellIn 12 = .ok (.iload_n 2, 1) := by decide +kernel
theorem dX6_cellIn_13 : decode cX6_cellIn 13 = .ok (.aload_n 0, 1) := by decide +kernel
theorem dX6_cellIn_14 : decode cX6_cellIn 14 = .ok (.getfield 18, 3) := by decide +kernel
theorem dX6_cellIn_17 : decode cX6_cellIn 17 = .ok (.iload_n 1, 1) := by decide +kernel
theorem dX6_cellIn_18 : decode cX6_cellIn 18 = .ok (.iaload, 1) := by decide +kernel
theorem dX6_cellIn_19 : decode cX6_cellIn 19 = .ok (.if_icmp .lt 5, 3) := by decide +kernel
theorem dX6_cellIn_22 : decode cX6_cellIn 22 = .ok (.iconst (-1), 1) := by decide +kernel
theorem dX6_cellIn_23 : decode cX6_cellIn 23 = .ok (.ireturn, 1) := by decide +kernel
theorem dX6_cellIn_24 : decode cX6_cellIn 24 = .ok (.aload_n 0, 1) := by decide +kernel
theorem dX6_cellIn_25 : decode cX6_cellIn 25 = .ok (.getfield 15, 3) := by decide +kernel
theorem dX6_cellIn_28 : decode cX6_cellIn 28 = .ok (.iload_n 1, 1) := by decide +kernel
theorem dX6_cellIn_29 : decode cX6_cellIn 29 = .ok (.iaload, 1) := by decide +kernel
theorem dX6_cellIn_30 : decode cX6_cellIn 30 = .ok (.iload_n 2, 1) := by decide +kernel
theorem dX6_cellIn_31 : decode cX6_cellIn 31 = .ok (.iadd, 1) := by decide +kernel
theorem dX6_cellIn_32 : decode cX6_cellIn 32 = .ok (.istore_n 3, 1) := by decide +kernel
theorem dX6_cellIn_33 : decode cX6_cellIn 33 = .ok (.iload_n 3, 1) := by decide +kernel
theorem dX6_cellIn_34 : decode cX6_cellIn 34 = .ok (.ifCond .lt 19, 3) := by decide +kernel
theorem dX6_cellIn_37 : decode cX6_cellIn 37 = .ok (.iload_n 3, 1) := by decide +kernel
theorem dX6_cellIn_38 : decode cX6_cellIn 38 = .ok (.sipush 192, 3) := by decide +kernel
theorem dX6_cellIn_41 : decode cX6_cellIn 41 = .ok (.if_icmp .ge 12, 3) := by decide +kernel
theorem dX6_cellIn_44 : decode cX6_cellIn 44 = .ok (.aload_n 0, 1) := by decide +kernel
theorem dX6_cellIn_45 : decode cX6_cellIn 45 = .ok (.getfield 9, 3) := by decide +kernel
theorem dX6_cellIn_48 : decode cX6_cellIn 48 = .ok (.iload_n 3, 1) := by decide +kernel
theorem dX6_cellIn_49 : decode cX6_cellIn 49 = .ok (.iaload, 1) := by decide +kernel
theorem dX6_cellIn_50 : decode cX6_cellIn 50 = .ok (.goto 4, 3) := by decide +kernel
theorem dX6_cellIn_53 : decode cX6_cellIn 53 = .ok (.iconst (-1), 1) := by decide +kernel
theorem dX6_cellIn_54 : decode cX6_cellIn 54 = .ok (.ireturn, 1) := by decide +kernel
theorem dX6_lastCell_0 : decode cX6_lastCell 0 = .ok (.aload_n 0, 1) := by decide +kernel
theorem dX6_lastCell_1 : decode cX6_lastCell 1 = .ok (.iload_n 1, 1) := by decide +kernel
theorem dX6_lastCell_2 : decode cX6_lastCell 2 = .ok (.aload_n 0, 1) := by decide +kernel
theorem dX6_lastCell_3 : decode cX6_lastCell 3 = .ok (.iload_n 1, 1) := by decide +kernel
theorem dX6_lastCell_4 : decode cX6_lastCell 4 = .ok (.invokevirtual 64, 3) := by decide +kernel
theorem dX6_lastCell_7 : decode cX6_lastCell 7 = .ok (.iconst 1, 1) := by decide +kernel
theorem dX6_lastCell_8 : decode cX6_lastCell 8 = .ok (.isub, 1) := by decide +kernel
theorem dX6_lastCell_9 : decode cX6_lastCell 9 = .ok (.invokevirtual 68, 3) := by decide +kernel
theorem dX6_lastCell_12 : decode cX6_lastCell 12 = .ok (.ireturn, 1) := by decide +kernel
theorem dX6_placeAt_0 : decode cX6_placeAt 0 = .ok (.iload_n 1, 1) := by decide +kernel
theorem dX6_placeAt_1 : decode cX6_placeAt 1 = .ok (.invokestatic 72, 3) := by decide +kernel
theorem dX6_placeAt_4 : decode cX6_placeAt 4 = .ok (.ifCond .eq 12, 3) := by decide +kernel
theorem dX6_placeAt_7 : decode cX6_placeAt 7 = .ok (.aload_n 0, 1) := by decide +kernel
theorem dX6_placeAt_8 : decode cX6_placeAt 8 = .ok (.getfield 21, 3) := by decide +kernel
theorem dX6_placeAt_11 : decode cX6_placeAt 11 = .ok (.iload_n 1, 1) := by decide +kernel
theorem dX6_placeAt_12 : decode cX6_placeAt 12 = .ok (.iaload, 1) := by decide +kernel
theorem dX6_placeAt_13 : decode cX6_placeAt 13 = .ok (.goto 4, 3) := by decide +kernel
theorem dX6_placeAt_16 : decode cX6_placeAt 16 = .ok (.iconst (-1), 1) := by decide +kernel
theorem dX6_placeAt_17 : decode cX6_placeAt 17 = .ok (.ireturn, 1) := by decide +kernel
theorem dX6_whyNot_0 : decode cX6_whyNot 0 = .ok (.aload_n 0, 1) := by decide +kernel
theorem dX6_whyNot_1 : decode cX6_whyNot 1 = .ok (.getfield 39, 3) := by decide +kernel
theorem dX6_whyNot_4 : decode cX6_whyNot 4 = .ok (.bipush 24, 2) := by decide +kernel
theorem dX6_whyNot_6 : decode cX6_whyNot 6 = .ok (.if_icmp .lt 6, 3) := by decide +kernel
theorem dX6_whyNot_9 : decode cX6_whyNot 9 = .ok (.bipush 9, 2) := by decide +kernel
theorem dX6_whyNot_11 : decode cX6_whyNot 11 = .ok (.ireturn, 1) := by decide +kernel
theorem dX6_whyNot_12 : decode cX6_whyNot 12 = .ok (.aload_n 0, 1) := by decide +kernel
theorem dX6_whyNot_13 : decode cX6_whyNot 13 = .ok (.getfield 36, 3) := by decide +kernel
theorem dX6_whyNot_16 : decode cX6_whyNot 16 = .ok (.iconst 0, 1) := by decide +kernel
theorem dX6_whyNot_17 : decode cX6_whyNot 17 = .ok (.invokestatic 54, 3) := by decide +kernel
theorem dX6_whyNot_20 : decode cX6_whyNot 20 = .ok (.iconst 0, 1) := by decide +kernel
theorem dX6_whyNot_21 : decode cX6_whyNot 21 = .ok (.istore_n 2, 1) := by decide +kernel
theorem dX6_whyNot_22 : decode cX6_whyNot 22 = .ok (.iload_n 2, 1) := by decide +kernel
theorem dX6_whyNot_23 : decode cX6_whyNot 23 = .ok (.aload_n 1, 1) := by decide +kernel
theorem dX6_whyNot_24 : decode cX6_whyNot 24 = .ok (.getfield 75, 3) := by decide +kernel
theorem dX6_whyNot_27 : decode cX6_whyNot 27 = .ok (.if_icmp .ge 23, 3) := by decide +kernel
theorem dX6_whyNot_30 : decode cX6_whyNot 30 = .ok (.aload_n 0, 1) := by decide +kernel
theorem dX6_whyNot_31 : decode cX6_whyNot 31 = .ok (.aload_n 1, 1) := by decide +kernel
theorem dX6_whyNot_32 : decode cX6_whyNot 32 = .ok (.iload_n 2, 1) := by decide +kernel
theorem dX6_whyNot_33 : decode cX6_whyNot 33 = .ok (.invokevirtual 80, 3) := by decide +kernel
theorem dX6_whyNot_36 : decode cX6_whyNot 36 = .ok (.istore_n 3, 1) := by decide +kernel
theorem dX6_whyNot_37 : decode cX6_whyNot 37 = .ok (.iload_n 3, 1) := by decide +kernel
theorem dX6_whyNot_38 : decode cX6_whyNot 38 = .ok (.iconst (-1), 1) := by decide +kernel
theorem dX6_whyNot_39 : decode cX6_whyNot 39 = .ok (.if_icmp .eq 5, 3) := by decide +kernel
theorem dX6_whyNot_42 : decode cX6_whyNot 42 = .ok (.iload_n 3, 1) := by decide +kernel
theorem dX6_whyNot_43 : decode cX6_whyNot 43 = .ok (.ireturn, 1) := by decide +kernel
theorem dX6_whyNot_44 : decode cX6_whyNot 44 = .ok (.iinc 2 1, 3) := by decide +kernel
theorem dX6_whyNot_47 : decode cX6_whyNot 47 = .ok (.goto (-25), 3) := by decide +kernel
theorem dX6_whyNot_50 : decode cX6_whyNot 50 = .ok (.aload_n 1, 1) := by decide +kernel
theorem dX6_whyNot_51 : decode cX6_whyNot 51 = .ok (.getfield 84, 3) := by decide +kernel
theorem dX6_whyNot_54 : decode cX6_whyNot 54 = .ok (.ifCond .eq 5, 3) := by decide +kernel
theorem dX6_whyNot_57 : decode cX6_whyNot 57 = .ok (.iconst 5, 1) := by decide +kernel
theorem dX6_whyNot_58 : decode cX6_whyNot 58 = .ok (.ireturn, 1) := by decide +kernel
theorem dX6_whyNot_59 : decode cX6_whyNot 59 = .ok (.aload_n 1, 1) := by decide +kernel
theorem dX6_whyNot_60 : decode cX6_whyNot 60 = .ok (.getfield 88, 3) := by decide +kernel
theorem dX6_whyNot_63 : decode cX6_whyNot 63 = .ok (.iconst 1, 1) := by decide +kernel
theorem dX6_whyNot_64 : decode cX6_whyNot 64 = .ok (.if_icmp .ne 8, 3) := by decide +kernel
theorem dX6_whyNot_67 : decode cX6_whyNot 67 = .ok (.bipush 8, 2) := by decide +kernel
theorem dX6_whyNot_69 : decode cX6_whyNot 69 = .ok (.goto 4, 3) := by decide +kernel
theorem dX6_whyNot_72 : decode cX6_whyNot 72 = .ok (.iconst (-1), 1) := by decide +kernel
theorem dX6_whyNot_73 : decode cX6_whyNot 73 = .ok (.ireturn, 1) := by decide +kernel
theorem dX6_whyNotCell_0 : decode cX6_whyNotCell 0 = .ok (.aload_n 1, 1) := by decide +kernel
theorem dX6_whyNotCell_1 : decode cX6_whyNotCell 1 = .ok (.iload_n 2, 1) := by decide +kernel
theorem dX6_whyNotCell_2 : decode cX6_whyNotCell 2 = .ok (.invokevirtual 89, 3) := by decide +kernel
theorem dX6_whyNotCell_5 : decode cX6_whyNotCell 5 = .ok (.istore_n 3, 1) := by decide +kernel
theorem dX6_whyNotCell_6 : decode cX6_whyNotCell 6 = .ok (.iload_n 3, 1) := by decide +kernel
theorem dX6_whyNotCell_7 : decode cX6_whyNotCell 7 = .ok (.invokestatic 72, 3) := by decide +kernel
theorem dX6_whyNotCell_10 : decode cX6_whyNotCell 10 = .ok (.ifCond .eq 14, 3) := by decide +kernel
theorem dX6_whyNotCell_13 : decode cX6_whyNotCell 13 = .ok (.aload_n 0, 1) := by decide +kernel
theorem dX6_whyNotCell_14 : decode cX6_whyNotCell 14 = .ok (.getfield 46, 3) := by decide +kernel
theorem dX6_whyNotCell_17 : decode cX6_whyNotCell 17 = .ok (.iload_n 3, 1) := by decide +kernel
theorem dX6_whyNotCell_18 : decode cX6_whyNotCell 18 = .ok (.invokevirtual 92, 3) := by decide +kernel
theorem dX6_whyNotCell_21 : decode cX6_whyNotCell 21 = .ok (.ifCond .ne 5, 3) := by decide +kernel
theorem dX6_whyNotCell_24 : decode cX6_whyNotCell 24 = .ok (.iconst 5, 1) := by decide +kernel
theorem dX6_whyNotCell_25 : decode cX6_whyNotCell 25 = .ok (.ireturn, 1) := by decide +kernel
theorem dX6_whyNotCell_26 : decode cX6_whyNotCell 26 = .ok (.iload_n 2, 1) := by decide +kernel
theorem dX6_whyNotCell_27 : decode cX6_whyNotCell 27 = .ok (.ifCond .le 28, 3) := by decide +kernel
theorem dX6_whyNotCell_30 : decode cX6_whyNotCell 30 = .ok (.aload_n 0, 1) := by decide +kernel
theorem dX6_whyNotCell_31 : decode cX6_whyNotCell 31 = .ok (.getfield 50, 3) := by decide +kernel
theorem dX6_whyNotCell_34 : decode cX6_whyNotCell 34 = .ok (.aload_n 1, 1) := by decide +kernel
theorem dX6_whyNotCell_35 : decode cX6_whyNotCell 35 = .ok (.iload_n 2, 1) := by decide +kernel
theorem dX6_whyNotCell_36 : decode cX6_whyNotCell 36 = .ok (.iconst 1, 1) := by decide +kernel
theorem dX6_whyNotCell_37 : decode cX6_whyNotCell 37 = .ok (.isub, 1) := by decide +kernel
theorem dX6_whyNotCell_38 : decode cX6_whyNotCell 38 = .ok (.invokevirtual 89, 3) := by decide +kernel
theorem dX6_whyNotCell_41 : decode cX6_whyNotCell 41 = .ok (.aload_n 1, 1) := by decide +kernel
theorem dX6_whyNotCell_42 : decode cX6_whyNotCell 42 = .ok (.iload_n 2, 1) := by decide +kernel
theorem dX6_whyNotCell_43 : decode cX6_whyNotCell 43 = .ok (.invokevirtual 97, 3) := by decide +kernel
theorem dX6_whyNotCell_46 : decode cX6_whyNotCell 46 = .ok (.invokevirtual 100, 3) := by decide +kernel
theorem dX6_whyNotCell_49 : decode cX6_whyNotCell 49 = .ok (.ifCond .eq 6, 3) := by decide +kernel
theorem dX6_whyNotCell_52 : decode cX6_whyNotCell 52 = .ok (.bipush 6, 2) := by decide +kernel
theorem dX6_whyNotCell_54 : decode cX6_whyNotCell 54 = .ok (.ireturn, 1) := by decide +kernel
theorem dX6_whyNotCell_55 : decode cX6_whyNotCell 55 = .ok (.aload_n 0, 1) := by decide +kernel
theorem dX6_whyNotCell_56 : decode cX6_whyNotCell 56 = .ok (.getfield 21, 3) := by decide +kernel
theorem dX6_whyNotCell_59 : decode cX6_whyNotCell 59 = .ok (.iload_n 3, 1) := by decide +kernel
theorem dX6_whyNotCell_60 : decode cX6_whyNotCell 60 = .ok (.iaload, 1) := by decide +kernel
theorem dX6_whyNotCell_61 : decode cX6_whyNotCell 61 = .ok (.iconst (-1), 1) := by decide +kernel
theorem dX6_whyNotCell_62 : decode cX6_whyNotCell 62 = .ok (.if_icmp .ne 12, 3) := by decide +kernel
theorem dX6_whyNotCell_65 : decode cX6_whyNotCell 65 = .ok (.aload_n 0, 1) := by decide +kernel
theorem dX6_whyNotCell_66 : decode cX6_whyNotCell 66 = .ok (.getfield 36, 3) := by decide +kernel
theorem dX6_whyNotCell_69 : decode cX6_whyNotCell 69 = .ok (.iload_n 3, 1) := by decide +kernel
theorem dX6_whyNotCell_70 : decode cX6_whyNotCell 70 = .ok (.iaload, 1) := by decide +kernel
theorem dX6_whyNotCell_71 : decode cX6_whyNotCell 71 = .ok (.ifCond .le 6, 3) := by decide +kernel
theorem dX6_whyNotCell_74 : decode cX6_whyNotCell 74 = .ok (.bipush 7, 2) := by decide +kernel
theorem dX6_whyNotCell_76 : decode cX6_whyNotCell 76 = .ok (.ireturn, 1) := by decide +kernel
theorem dX6_whyNotCell_77 : decode cX6_whyNotCell 77 = .ok (.aload_n 0, 1) := by decide +kernel
theorem dX6_whyNotCell_78 : decode cX6_whyNotCell 78 = .ok (.getfield 36, 3) := by decide +kernel
theorem dX6_whyNotCell_81 : decode cX6_whyNotCell 81 = .ok (.iload_n 3, 1) := by decide +kernel
theorem dX6_whyNotCell_82 : decode cX6_whyNotCell 82 = .ok (.dup2, 1) := by decide +kernel
theorem dX6_whyNotCell_83 : decode cX6_whyNotCell 83 = .ok (.iaload, 1) := by decide +kernel
theorem dX6_whyNotCell_84 : decode cX6_whyNotCell 84 = .ok (.iconst 1, 1) := by decide +kernel
theorem dX6_whyNotCell_85 : decode cX6_whyNotCell 85 = .ok (.iadd, 1) := by decide +kernel
theorem dX6_whyNotCell_86 : decode cX6_whyNotCell 86 = .ok (.iastore, 1) := by decide +kernel
theorem dX6_whyNotCell_87 : decode cX6_whyNotCell 87 = .ok (.iconst (-1), 1) := by decide +kernel
theorem dX6_whyNotCell_88 : decode cX6_whyNotCell 88 = .ok (.ireturn, 1) := by decide +kernel
theorem dX6_put_0 : decode cX6_put 0 = .ok (.aload_n 0, 1) := by decide +kernel
theorem dX6_put_1 : decode cX6_put 1 = .ok (.getfield 39, 3) := by decide +kernel
theorem dX6_put_4 : decode cX6_put 4 = .ok (.bipush 24, 2) := by decide +kernel
theorem dX6_put_6 : decode cX6_put 6 = .ok (.if_icmp .lt 4, 3) := by decide +kernel
theorem dX6_put_9 : decode cX6_put 9 = .ok (.return_, 1) := by decide +kernel
theorem dX6_put_10 : decode cX6_put 10 = .ok (.aload_n 0, 1) := by decide +kernel
theorem dX6_put_11 : decode cX6_put 11 = .ok (.getfield 39, 3) := by decide +kernel
theorem dX6_put_14 : decode cX6_put 14 = .ok (.ifCond .ne 7, 3) := by decide +kernel
theorem dX6_put_17 : decode cX6_put 17 = .ok (.iconst 0, 1) := by decide +kernel
theorem dX6_put_18 : decode cX6_put 18 = .ok (.goto 26, 3) := by decide +kernel
theorem dX6_put_21 : decode cX6_put 21 = .ok (.aload_n 0, 1) := by decide +kernel
theorem dX6_put_22 : decode cX6_put 22 = .ok (.getfield 15, 3) := by decide +kernel
theorem dX6_put_25 : decode cX6_put 25 = .ok (.aload_n 0, 1) := by decide +kernel
theorem dX6_put_26 : decode cX6_put 26 = .ok (.getfield 39, 3) := by decide +kernel
theorem dX6_put_29 : decode cX6_put 29 = .ok (.iconst 1, 1) := by decide +kernel
theorem dX6_put_30 : decode cX6_put 30 = .ok (.isub, 1) := by decide +kernel
theorem dX6_put_31 : decode cX6_put 31 = .ok (.iaload, 1) := by decide +kernel
theorem dX6_put_32 : decode cX6_put 32 = .ok (.aload_n 0, 1) := by decide +kernel
theorem dX6_put_33 : decode cX6_put 33 = .ok (.getfield 18, 3) := by decide +kernel
theorem dX6_put_36 : decode cX6_put 36 = .ok (.aload_n 0, 1) := by decide +kernel
theorem dX6_put_37 : decode cX6_put 37 = .ok (.getfield 39, 3) := by decide +kernel
theorem dX6_put_40 : decode cX6_put 40 = .ok (.iconst 1, 1) := by decide +kernel
theorem dX6_put_41 : decode cX6_put 41 = .ok (.isub, 1) := by decide +kernel
theorem dX6_put_42 : decode cX6_put 42 = .ok (.iaload, 1) := by decide +kernel
theorem dX6_put_43 : decode cX6_put 43 = .ok (.iadd, 1) := by decide +kernel
theorem dX6_put_44 : decode cX6_put 44 = .ok (.istore_n 2, 1) := by decide +kernel
theorem dX6_put_45 : decode cX6_put 45 = .ok (.aload_n 0, 1) := by decide +kernel
theorem dX6_put_46 : decode cX6_put 46 = .ok (.getfield 15, 3) := by decide +kernel
theorem dX6_put_49 : decode cX6_put 49 = .ok (.aload_n 0, 1) := by decide +kernel
theorem dX6_put_50 : decode cX6_put 50 = .ok (.getfield 39, 3) := by decide +kernel
theorem dX6_put_53 : decode cX6_put 53 = .ok (.iload_n 2, 1) := by decide +kernel
theorem dX6_put_54 : decode cX6_put 54 = .ok (.iastore, 1) := by decide +kernel
theorem dX6_put_55 : decode cX6_put 55 = .ok (.aload_n 0, 1) := by decide +kernel
theorem dX6_put_56 : decode cX6_put 56 = .ok (.getfield 18, 3) := by decide +kernel
theorem dX6_put_59 : decode cX6_put 59 = .ok (.aload_n 0, 1) := by decide +kernel
theorem dX6_put_60 : decode cX6_put 60 = .ok (.getfield 39, 3) := by decide +kernel
theorem dX6_put_63 : decode cX6_put 63 = .ok (.aload_n 1, 1) := by decide +kernel
theorem dX6_put_64 : decode cX6_put 64 = .ok (.getfield 75, 3) := by decide +kernel
theorem dX6_put_67 : decode cX6_put 67 = .ok (.iastore, 1) := by decide +kernel
theorem dX6_put_68 : decode cX6_put 68 = .ok (.aload_n 0, 1) := by decide +kernel
theorem dX6_put_69 : decode cX6_put 69 = .ok (.getfield 27, 3) := by decide +kernel
theorem dX6_put_72 : decode cX6_put 72 = .ok (.aload_n 0, 1) := by decide +kernel
theorem dX6_put_73 : decode cX6_put 73 = .ok (.getfield 39, 3) := by decide +kernel
theorem dX6_put_76 : decode cX6_put 76 = .ok (.iconst 0, 1) := by decide +kernel
theorem dX6_put_77 : decode cX6_put 77 = .ok (.iastore, 1) := by decide +kernel
theorem dX6_put_78 : decode cX6_put 78 = .ok (.aload_n 0, 1) := by decide +kernel
theorem dX6_put_79 : decode cX6_put 79 = .ok (.getfield 30, 3) := by decide +kernel
theorem dX6_put_82 : decode cX6_put 82 = .ok (.aload_n 0, 1) := by decide +kernel
theorem dX6_put_83 : decode cX6_put 83 = .ok (.getfield 39, 3) := by decide +kernel
theorem dX6_put_86 : decode cX6_put 86 = .ok (.iconst (-1), 1) := by decide +kernel
theorem dX6_put_87 : decode cX6_put 87 = .ok (.iastore, 1) := by decide +kernel
theorem dX6_put_88 : decode cX6_put 88 = .ok (.aload_n 0, 1) := by decide +kernel
theorem dX6_put_89 : decode cX6_put 89 = .ok (.getfield 33, 3) := by decide +kernel
theorem dX6_put_92 : decode cX6_put 92 = .ok (.aload_n 0, 1) := by decide +kernel
theorem dX6_put_93 : decode cX6_put 93 = .ok (.getfield 39, 3) := by decide +kernel
theorem dX6_put_96 : decode cX6_put 96 = .ok (.iconst (-1), 1) := by decide +kernel
theorem dX6_put_97 : decode cX6_put 97 = .ok (.iastore, 1) := by decide +kernel
theorem dX6_put_98 : decode cX6_put 98 = .ok (.iconst 0, 1) := by decide +kernel
theorem dX6_put_99 : decode cX6_put 99 = .ok (.istore_n 3, 1) := by decide +kernel
theorem dX6_put_100 : decode cX6_put 100 = .ok (.iload_n 3, 1) := by decide +kernel
theorem dX6_put_101 : decode cX6_put 101 = .ok (.aload_n 1, 1) := by decide +kernel
theorem dX6_put_102 : decode cX6_put 102 = .ok (.getfield 75, 3) := by decide +kernel
theorem dX6_put_105 : decode cX6_put 105 = .ok (.if_icmp .ge 60, 3) := by decide +kernel
theorem dX6_put_108 : decode cX6_put 108 = .ok (.aload_n 1, 1) := by decide +kernel
theorem dX6_put_109 : decode cX6_put 109 = .ok (.iload_n 3, 1) := by decide +kernel
theorem dX6_put_110 : decode cX6_put 110 = .ok (.invokevirtual 89, 3) := by decide +kernel
theorem dX6_put_113 : decode cX6_put 113 = .ok (.istore 4, 2) := by decide +kernel
theorem dX6_put_115 : decode cX6_put 115 = .ok (.iload 4, 2) := by decide +kernel
theorem dX6_put_117 : decode cX6_put 117 = .ok (.invokestatic 72, 3) := by decide +kernel
theorem dX6_put_120 : decode cX6_put 120 = .ok (.ifCond .eq 39, 3) := by decide +kernel
theorem dX6_put_123 : decode cX6_put 123 = .ok (.iload_n 2, 1) := by decide +kernel
theorem dX6_put_124 : decode cX6_put 124 = .ok (.iload_n 3, 1) := by decide +kernel
theorem dX6_put_125 : decode cX6_put 125 = .ok (.iadd, 1) := by decide +kernel
theorem dX6_put_126 : decode cX6_put 126 = .ok (.invokestatic 72, 3) := by decide +kernel
theorem dX6_put_129 : decode cX6_put 129 = .ok (.ifCond .eq 30, 3) := by decide +kernel
theorem dX6_put_132 : decode cX6_put 132 = .ok (.aload_n 0, 1) := by decide +kernel
theorem dX6_put_133 : decode cX6_put 133 = .ok (.getfield 9, 3) := by decide +kernel
theorem dX6_put_136 : decode cX6_put 136 = .ok (.iload_n 2, 1) := by decide +kernel
theorem dX6_put_137 : decode cX6_put 137 = .ok (.iload_n 3, 1) := by decide +kernel
theorem dX6_put_138 : decode cX6_put 138 = .ok (.iadd, 1) := by decide +kernel
theorem dX6_put_139 : decode cX6_put 139 = .ok (.iload 4, 2) := by decide +kernel
theorem dX6_put_141 : decode cX6_put 141 = .ok (.iastore, 1) := by decide +kernel
theorem dX6_put_142 : decode cX6_put 142 = .ok (.aload_n 0, 1) := by decide +kernel
theorem dX6_put_143 : decode cX6_put 143 = .ok (.getfield 21, 3) := by decide +kernel
theorem dX6_put_146 : decode cX6_put 146 = .ok (.iload 4, 2) := by decide +kernel
theorem dX6_put_148 : decode cX6_put 148 = .ok (.sipush 200, 3) := by decide +kernel
theorem dX6_put_151 : decode cX6_put 151 = .ok (.aload_n 0, 1) := by decide +kernel
theorem dX6_put_152 : decode cX6_put 152 = .ok (.getfield 39, 3) := by decide +kernel
theorem dX6_put_155 : decode cX6_put 155 = .ok (.imul, 1) := by decide +kernel
theorem dX6_put_156 : decode cX6_put 156 = .ok (.iload_n 3, 1) := by decide +kernel
theorem dX6_put_157 : decode cX6_put 157 = .ok (.iadd, 1) := by decide +kernel
theorem dX6_put_158 : decode cX6_put 158 = .ok (.iastore, 1) := by decide +kernel
theorem dX6_put_159 : decode cX6_put 159 = .ok (.iinc 3 1, 3) := by decide +kernel
theorem dX6_put_162 : decode cX6_put 162 = .ok (.goto (-62), 3) := by decide +kernel
theorem dX6_put_165 : decode cX6_put 165 = .ok (.aload_n 0, 1) := by decide +kernel
theorem dX6_put_166 : decode cX6_put 166 = .ok (.dup, 1) := by decide +kernel
theorem dX6_put_167 : decode cX6_put 167 = .ok (.getfield 39, 3) := by decide +kernel
theorem dX6_put_170 : decode cX6_put 170 = .ok (.iconst 1, 1) := by decide +kernel
theorem dX6_put_171 : decode cX6_put 171 = .ok (.iadd, 1) := by decide +kernel
theorem dX6_put_172 : decode cX6_put 172 = .ok (.putfield 39, 3) := by decide +kernel
theorem dX6_put_175 : decode cX6_put 175 = .ok (.return_, 1) := by decide +kernel
theorem dX6_cutTo_0 : decode cX6_cutTo 0 = .ok (.iconst 0, 1) := by decide +kernel
theorem dX6_cutTo_1 : decode cX6_cutTo 1 = .ok (.istore_n 2, 1) := by decide +kernel
theorem dX6_cutTo_2 : decode cX6_cutTo 2 = .ok (.iload_n 2, 1) := by decide +kernel
theorem dX6_cutTo_3 : decode cX6_cutTo 3 = .ok (.sipush 192, 3) := by decide +kernel
theorem dX6_cutTo_6 : decode cX6_cutTo 6 = .ok (.if_icmp .ge 30, 3) := by decide +kernel
theorem dX6_cutTo_9 : decode cX6_cutTo 9 = .ok (.aload_n 0, 1) := by decide +kernel
theorem dX6_cutTo_10 : decode cX6_cutTo 10 = .ok (.getfield 21, 3) := by decide +kernel
theorem dX6_cutTo_13 : decode cX6_cutTo 13 = .ok (.iload_n 2, 1) := by decide +kernel
theorem dX6_cutTo_14 : decode cX6_cutTo 14 = .ok (.iaload, 1) := by decide +kernel
theorem dX6_cutTo_15 : decode cX6_cutTo 15 = .ok (.sipush 200, 3) := by decide +kernel
theorem dX6_cutTo_18 : decode cX6_cutTo 18 = .ok (.iload_n 1, 1) := by decide +kernel
theorem dX6_cutTo_19 : decode cX6_cutTo 19 = .ok (.imul, 1) := by decide +kernel
theorem dX6_cutTo_20 : decode cX6_cutTo 20 = .ok (.if_icmp .lt 10, 3) := by decide +kernel
theorem dX6_cutTo_23 : decode cX6_cutTo 23 = .ok (.aload_n 0, 1) := by decide +kernel
theorem dX6_cutTo_24 : decode cX6_cutTo 24 = .ok (.getfield 21, 3) := by decide +kernel
theorem dX6_cutTo_27 : decode cX6_cutTo 27 = .ok (.iload_n 2, 1) := by decide +kernel
theorem dX6_cutTo_28 : decode cX6_cutTo 28 = .ok (.iconst (-1), 1) := by decide +kernel
theorem dX6_cutTo_29 : decode cX6_cutTo 29 = .ok (.iastore, 1) := by decide +kernel
theorem dX6_cutTo_30 : decode cX6_cutTo 30 = .ok (.iinc 2 1, 3) := by decide +kernel
theorem dX6_cutTo_33 : decode cX6_cutTo 33 = .ok (.goto (-31), 3) := by decide +kernel
theorem dX6_cutTo_36 : decode cX6_cutTo 36 = .ok (.aload_n 0, 1) := by decide +kernel
theorem dX6_cutTo_37 : decode cX6_cutTo 37 = .ok (.iload_n 1, 1) := by decide +kernel
theorem dX6_cutTo_38 : decode cX6_cutTo 38 = .ok (.putfield 39, 3) := by decide +kernel
theorem dX6_cutTo_41 : decode cX6_cutTo 41 = .ok (.return_, 1) := by decide +kernel
theorem dX6_noteAdded_0 : decode cX6_noteAdded 0 = .ok (.aload_n 0, 1) := by decide +kernel
theorem dX6_noteAdded_1 : decode cX6_noteAdded 1 = .ok (.iload_n 1, 1) := by decide +kernel
theorem dX6_noteAdded_2 : decode cX6_noteAdded 2 = .ok (.invokevirtual 60, 3) := by decide +kernel
theorem dX6_noteAdded_5 : decode cX6_noteAdded 5 = .ok (.ifCond .eq 30, 3) := by decide +kernel
theorem dX6_noteAdded_8 : decode cX6_noteAdded 8 = .ok (.iload_n 2, 1) := by decide +kernel
theorem dX6_noteAdded_9 : decode cX6_noteAdded 9 = .ok (.invokestatic 72, 3) := by decide +kernel
theorem dX6_noteAdded_12 : decode cX6_noteAdded 12 = .ok (.ifCond .eq 23, 3) := by decide +kernel
theorem dX6_noteAdded_15 : decode cX6_noteAdded 15 = .ok (.aload_n 0, 1) := by decide +kernel
theorem dX6_noteAdded_16 : decode cX6_noteAdded 16 = .ok (.getfield 27, 3) := by decide +kernel
theorem dX6_noteAdded_19 : decode cX6_noteAdded 19 = .ok (.iload_n 1, 1) := by decide +kernel
theorem dX6_noteAdded_20 : decode cX6_noteAdded 20 = .ok (.dup2, 1) := by decide +kernel
theorem dX6_noteAdded_21 : decode cX6_noteAdded 21 = .ok (.iaload, 1) := by decide +kernel
theorem dX6_noteAdded_22 : decode cX6_noteAdded 22 = .ok (.iconst 1, 1) := by decide +kernel
theorem dX6_noteAdded_23 : decode cX6_noteAdded 23 = .ok (.iadd, 1) := by decide +kernel
theorem dX6_noteAdded_24 : decode cX6_noteAdded 24 = .ok (.iastore, 1) := by decide +kernel
theorem dX6_noteAdded_25 : decode cX6_noteAdded 25 = .ok (.aload_n 0, 1) := by decide +kernel
theorem dX6_noteAdded_26 : decode cX6_noteAdded 26 = .ok (.getfield 24, 3) := by decide +kernel
theorem dX6_noteAdded_29 : decode cX6_noteAdded 29 = .ok (.iload_n 2, 1) := by decide +kernel
theorem dX6_noteAdded_30 : decode cX6_noteAdded 30 = .ok (.dup2, 1) := by decide +kernel
theorem dX6_noteAdded_31 : decode cX6_noteAdded 31 = .ok (.iaload, 1) := by decide +kernel
theorem dX6_noteAdded_32 : decode cX6_noteAdded 32 = .ok (.iload_n 3, 1) := by decide +kernel
theorem dX6_noteAdded_33 : decode cX6_noteAdded 33 = .ok (.iadd, 1) := by decide +kernel
theorem dX6_noteAdded_34 : decode cX6_noteAdded 34 = .ok (.iastore, 1) := by decide +kernel
theorem dX6_noteAdded_35 : decode cX6_noteAdded 35 = .ok (.return_, 1) := by decide +kernel
theorem dX6_timesAddedTo_0 : decode cX6_timesAddedTo 0 = .ok (.aload_n 0, 1) := by decide +kernel
theorem dX6_timesAddedTo_1 : decode cX6_timesAddedTo 1 = .ok (.iload_n 1, 1) := by decide +kernel
theorem dX6_timesAddedTo_2 : decode cX6_timesAddedTo 2 = .ok (.invokevirtual 60, 3) := by decide +kernel
theorem dX6_timesAddedTo_5 : decode cX6_timesAddedTo 5 = .ok (.ifCond .eq 12, 3) := by decide +kernel
theorem dX6_timesAddedTo_8 : decode cX6_timesAddedTo 8 = .ok (.aload_n 0, 1) := by decide +kernel
theorem dX6_timesAddedTo_9 : decode cX6_timesAddedTo 9 = .ok (.getfield 27, 3) := by decide +kernel
theorem dX6_timesAddedTo_12 : decode cX6_timesAddedTo 12 = .ok (.iload_n 1, 1) := by decide +kernel
theorem dX6_timesAddedTo_13 : decode cX6_timesAddedTo 13 = .ok (.iaload, 1) := by decide +kernel
theorem dX6_timesAddedTo_14 : decode cX6_timesAddedTo 14 = .ok (.goto 4, 3) := by decide +kernel
theorem dX6_timesAddedTo_17 : decode cX6_timesAddedTo 17 = .ok (.iconst 0, 1) := by decide +kernel
theorem dX6_timesAddedTo_18 : decode cX6_timesAddedTo 18 = .ok (.ireturn, 1) := by decide +kernel
theorem dX6_addedIn_0 : decode cX6_addedIn 0 = .ok (.iload_n 1, 1) := by decide +kernel
theorem dX6_addedIn_1 : decode cX6_addedIn 1 = .ok (.invokestatic 72, 3) := by decide +kernel
theorem dX6_addedIn_4 : decode cX6_addedIn 4 = .ok (.ifCond .eq 12, 3) := by decide +kernel
theorem dX6_addedIn_7 : decode cX6_addedIn 7 = .ok (.aload_n 0, 1) := by decide +kernel
theorem dX6_addedIn_8 : decode cX6_addedIn 8 = .ok (.getfield 24, 3) := by decide +kernel
theorem dX6_addedIn_11 : decode cX6_addedIn 11 = .ok (.iload_n 1, 1) := by decide +kernel
theorem dX6_addedIn_12 : decode cX6_addedIn 12 = .ok (.iaload, 1) := by decide +kernel
theorem dX6_addedIn_13 : decode cX6_addedIn 13 = .ok (.goto 4, 3) := by decide +kernel
theorem dX6_addedIn_16 : decode cX6_addedIn 16 = .ok (.iconst 0, 1) := by decide +kernel
theorem dX6_addedIn_17 : decode cX6_addedIn 17 = .ok (.ireturn, 1) := by decide +kernel
theorem dX6_putWeek_0 : decode cX6_putWeek 0 = .ok (.aload_n 0, 1) := by decide +kernel
theorem dX6_putWeek_1 : decode cX6_putWeek 1 = .ok (.iload_n 1, 1) := by decide +kernel
theorem dX6_putWeek_2 : decode cX6_putWeek 2 = .ok (.invokevirtual 60, 3) := by decide +kernel
theorem dX6_putWeek_5 : decode cX6_putWeek 5 = .ok (.ifCond .eq 10, 3) := by decide +kernel
theorem dX6_putWeek_8 : decode cX6_putWeek 8 = .ok (.aload_n 0, 1) := by decide +kernel
theorem dX6_putWeek_9 : decode cX6_putWeek 9 = .ok (.getfield 33, 3) := by decide +kernel
theorem dX6_putWeek_12 : decode cX6_putWeek 12 = .ok (.iload_n 1, 1) := by decide +kernel
theorem dX6_putWeek_13 : decode cX6_putWeek 13 = .ok (.iload_n 2, 1) := by decide +kernel
theorem dX6_putWeek_14 : decode cX6_putWeek 14 = .ok (.iastore, 1) := by decide +kernel
theorem dX6_putWeek_15 : decode cX6_putWeek 15 = .ok (.return_, 1) := by decide +kernel
theorem dX6_weekOf_0 : decode cX6_weekOf 0 = .ok (.aload_n 0, 1) := by decide +kernel
theorem dX6_weekOf_1 : decode cX6_weekOf 1 = .ok (.iload_n 1, 1) := by decide +kernel
theorem dX6_weekOf_2 : decode cX6_weekOf 2 = .ok (.invokevirtual 60, 3) := by decide +kernel
theorem dX6_weekOf_5 : decode cX6_weekOf 5 = .ok (.ifCond .eq 12, 3) := by decide +kernel
theorem dX6_weekOf_8 : decode cX6_weekOf 8 = .ok (.aload_n 0, 1) := by decide +kernel
theorem dX6_weekOf_9 : decode cX6_weekOf 9 = .ok (.getfield 33, 3) := by decide +kernel
theorem dX6_weekOf_12 : decode cX6_weekOf 12 = .ok (.iload_n 1, 1) := by decide +kernel
theorem dX6_weekOf_13 : decode cX6_weekOf 13 = .ok (.iaload, 1) := by decide +kernel
theorem dX6_weekOf_14 : decode cX6_weekOf 14 = .ok (.goto 4, 3) := by decide +kernel
theorem dX6_weekOf_17 : decode cX6_weekOf 17 = .ok (.iconst (-1), 1) := by decide +kernel
theorem dX6_weekOf_18 : decode cX6_weekOf 18 = .ok (.ireturn, 1) := by decide +kernel
theorem dX6_knotWith_0 : decode cX6_knotWith 0 = .ok (.aload_n 0, 1) := by decide +kernel
theorem dX6_knotWith_1 : decode cX6_knotWith 1 = .ok (.iload_n 1, 1) := by decide +kernel
theorem dX6_knotWith_2 : decode cX6_knotWith 2 = .ok (.invokevirtual 60, 3) := by decide +kernel
theorem dX6_knotWith_5 : decode cX6_knotWith 5 = .ok (.ifCond .eq 12, 3) := by decide +kernel
theorem dX6_knotWith_8 : decode cX6_knotWith 8 = .ok (.aload_n 0, 1) := by decide +kernel
theorem dX6_knotWith_9 : decode cX6_knotWith 9 = .ok (.getfield 30, 3) := by decide +kernel
theorem dX6_knotWith_12 : decode cX6_knotWith 12 = .ok (.iload_n 1, 1) := by decide +kernel
theorem dX6_knotWith_13 : decode cX6_knotWith 13 = .ok (.iaload, 1) := by decide +kernel
theorem dX6_knotWith_14 : decode cX6_knotWith 14 = .ok (.goto 4, 3) := by decide +kernel
theorem dX6_knotWith_17 : decode cX6_knotWith 17 = .ok (.iconst (-1), 1) := by decide +kernel
theorem dX6_knotWith_18 : decode cX6_knotWith 18 = .ok (.ireturn, 1) := by decide +kernel
theorem dX6_isTied_0 : decode cX6_isTied 0 = .ok (.aload_n 0, 1) := by decide +kernel
theorem dX6_isTied_1 : decode cX6_isTied 1 = .ok (.iload_n 1, 1) := by decide +kernel
theorem dX6_isTied_2 : decode cX6_isTied 2 = .ok (.invokevirtual 106, 3) := by decide +kernel
theorem dX6_isTied_5 : decode cX6_isTied 5 = .ok (.iconst (-1), 1) := by decide +kernel
theorem dX6_isTied_6 : decode cX6_isTied 6 = .ok (.if_icmp .eq 7, 3) := by decide +kernel
theorem dX6_isTied_9 : decode cX6_isTied 9 = .ok (.iconst 1, 1) := by decide +kernel
theorem dX6_isTied_10 : decode cX6_isTied 10 = .ok (.goto 4, 3) := by decide +kernel
theorem dX6_isTied_13 : decode cX6_isTied 13 = .ok (.iconst 0, 1) := by decide +kernel
theorem dX6_isTied_14 : decode cX6_isTied 14 = .ok (.ireturn, 1) := by decide +kernel
theorem dX6_canTie_0 : decode cX6_canTie 0 = .ok (.aload_n 0, 1) := by decide +kernel
theorem dX6_canTie_1 : decode cX6_canTie 1 = .ok (.iload_n 1, 1) := by decide +kernel
theorem dX6_canTie_2 : decode cX6_canTie 2 = .ok (.invokevirtual 60, 3) := by decide +kernel
theorem dX6_canTie_5 : decode cX6_canTie 5 = .ok (.ifCond .eq 34, 3) := by decide +kernel
theorem dX6_canTie_8 : decode cX6_canTie 8 = .ok (.aload_n 0, 1) := by decide +kernel
theorem dX6_canTie_9 : decode cX6_canTie 9 = .ok (.iload_n 2, 1) := by decide +kernel
theorem dX6_canTie_10 : decode cX6_canTie 10 = .ok (.invokevirtual 60, 3) := by decide +kernel
theorem dX6_canTie_13 : decode cX6_canTie 13 = .ok (.ifCond .eq 26, 3) := by decide +kernel
theorem dX6_canTie_16 : decode cX6_canTie 16 = .ok (.aload_n 0, 1) := by decide +kernel
theorem dX6_canTie_17 : decode cX6_canTie 17 = .ok (.iload_n 3, 1) := by decide +kernel
theorem dX6_canTie_18 : decode cX6_canTie 18 = .ok (.invokevirtual 60, 3) := by decide +kernel
theorem dX6_canTie_21 : decode cX6_canTie 21 = .ok (.ifCond .eq 18, 3) := by decide +kernel
theorem dX6_canTie_24 : decode cX6_canTie 24 = .ok (.iload_n 1, 1) := by decide +kernel
theorem dX6_canTie_25 : decode cX6_canTie 25 = .ok (.iload_n 2, 1) := by decide +kernel
theorem dX6_canTie_26 : decode cX6_canTie 26 = .ok (.if_icmp .eq 13, 3) := by decide +kernel
theorem dX6_canTie_29 : decode cX6_canTie 29 = .ok (.iload_n 1, 1) := by decide +kernel
theorem dX6_canTie_30 : decode cX6_canTie 30 = .ok (.iload_n 3, 1) := by decide +kernel
theorem dX6_canTie_31 : decode cX6_canTie 31 = .ok (.if_icmp .eq 8, 3) := by decide +kernel
theorem dX6_canTie_34 : decode cX6_canTie 34 = .ok (.iload_n 2, 1) := by decide +kernel
theorem dX6_canTie_35 : decode cX6_canTie 35 = .ok (.iload_n 3, 1) := by decide +kernel
theorem dX6_canTie_36 : decode cX6_canTie 36 = .ok (.if_icmp .ne 5, 3) := by decide +kernel
theorem dX6_canTie_39 : decode cX6_canTie 39 = .ok (.iconst 0, 1) := by decide +kernel
theorem dX6_canTie_40 : decode cX6_canTie 40 = .ok (.ireturn, 1) := by decide +kernel
theorem dX6_canTie_41 : decode cX6_canTie 41 = .ok (.aload_n 0, 1) := by decide +kernel
theorem dX6_canTie_42 : decode cX6_canTie 42 = .ok (.iload_n 1, 1) := by decide +kernel
theorem dX6_canTie_43 : decode cX6_canTie 43 = .ok (.invokevirtual 109, 3) := by decide +kernel
theorem dX6_canTie_46 : decode cX6_canTie 46 = .ok (.ifCond .ne 19, 3) := by decide +kernel
theorem dX6_canTie_49 : decode cX6_canTie 49 = .ok (.aload_n 0, 1) := by decide +kernel
theorem dX6_canTie_50 : decode cX6_canTie 50 = .ok (.iload_n 2, 1) := by decide +kernel
theorem dX6_canTie_51 : decode cX6_canTie 51 = .ok (.invokevirtual 109, 3) := by decide +kernel
theorem dX6_canTie_54 : decode cX6_canTie 54 = .ok (.ifCond .ne 11, 3) := by decide +kernel
theorem dX6_canTie_57 : decode cX6_canTie 57 = .ok (.aload_n 0, 1) := by decide +kernel
theorem dX6_canTie_58 : decode cX6_canTie 58 = .ok (.iload_n 3, 1) := by decide +kernel
theorem dX6_canTie_59 : decode cX6_canTie 59 = .ok (.invokevirtual 109, 3) := by decide +kernel
theorem dX6_canTie_62 : decode cX6_canTie 62 = .ok (.ifCond .eq 5, 3) := by decide +kernel
theorem dX6_canTie_65 : decode cX6_canTie 65 = .ok (.iconst 0, 1) := by decide +kernel
theorem dX6_canTie_66 : decode cX6_canTie 66 = .ok (.ireturn, 1) := by decide +kernel
theorem dX6_canTie_67 : decode cX6_canTie 67 = .ok (.aload_n 0, 1) := by decide +kernel
theorem dX6_canTie_68 : decode cX6_canTie 68 = .ok (.iload_n 1, 1) := by decide +kernel
theorem dX6_canTie_69 : decode cX6_canTie 69 = .ok (.iload_n 2, 1) := by decide +kernel
theorem dX6_canTie_70 : decode cX6_canTie 70 = .ok (.invokevirtual 112, 3) := by decide +kernel
theorem dX6_canTie_73 : decode cX6_canTie 73 = .ok (.ifCond .eq 25, 3) := by decide +kernel
theorem dX6_canTie_76 : decode cX6_canTie 76 = .ok (.aload_n 0, 1) := by decide +kernel
theorem dX6_canTie_77 : decode cX6_canTie 77 = .ok (.iload_n 1, 1) := by decide +kernel
theorem dX6_canTie_78 : decode cX6_canTie 78 = .ok (.iload_n 3, 1) := by decide +kernel
theorem dX6_canTie_79 : decode cX6_canTie 79 = .ok (.invokevirtual 112, 3) := by decide +kernel
theorem dX6_canTie_82 : decode cX6_canTie 82 = .ok (.ifCond .eq 16, 3) := by decide +kernel
theorem dX6_canTie_85 : decode cX6_canTie 85 = .ok (.aload_n 0, 1) := by decide +kernel
theorem dX6_canTie_86 : decode cX6_canTie 86 = .ok (.iload_n 2, 1) := by decide +kernel
theorem dX6_canTie_87 : decode cX6_canTie 87 = .ok (.iload_n 3, 1) := by decide +kernel
theorem dX6_canTie_88 : decode cX6_canTie 88 = .ok (.invokevirtual 112, 3) := by decide +kernel
theorem dX6_canTie_91 : decode cX6_canTie 91 = .ok (.ifCond .eq 7, 3) := by decide +kernel
theorem dX6_canTie_94 : decode cX6_canTie 94 = .ok (.iconst 1, 1) := by decide +kernel
theorem dX6_canTie_95 : decode cX6_canTie 95 = .ok (.goto 4, 3) := by decide +kernel
theorem dX6_canTie_98 : decode cX6_canTie 98 = .ok (.iconst 0, 1) := by decide +kernel
theorem dX6_canTie_99 : decode cX6_canTie 99 = .ok (.ireturn, 1) := by decide +kernel
theorem dX6_tie_0 : decode cX6_tie 0 = .ok (.aload_n 0, 1) := by decide +kernel
theorem dX6_tie_1 : decode cX6_tie 1 = .ok (.iload_n 1, 1) := by decide +kernel
theorem dX6_tie_2 : decode cX6_tie 2 = .ok (.invokevirtual 60, 3) := by decide +kernel
theorem dX6_tie_5 : decode cX6_tie 5 = .ok (.ifCond .eq 59, 3) := by decide +kernel
theorem dX6_tie_8 : decode cX6_tie 8 = .ok (.aload_n 0, 1) := by decide +kernel
theorem dX6_tie_9 : decode cX6_tie 9 = .ok (.iload_n 2, 1) := by decide +kernel
theorem dX6_tie_10 : decode cX6_tie 10 = .ok (.invokevirtual 60, 3) := by decide +kernel
theorem dX6_tie_13 : decode cX6_tie 13 = .ok (.ifCond .eq 51, 3) := by decide +kernel
theorem dX6_tie_16 : decode cX6_tie 16 = .ok (.aload_n 0, 1) := by decide +kernel
theorem dX6_tie_17 : decode cX6_tie 17 = .ok (.iload_n 3, 1) := by decide +kernel
theorem dX6_tie_18 : decode cX6_tie 18 = .ok (.invokevirtual 60, 3) := by decide +kernel
theorem dX6_tie_21 : decode cX6_tie 21 = .ok (.ifCond .eq 43, 3) := by decide +kernel
theorem dX6_tie_24 : decode cX6_tie 24 = .ok (.aload_n 0, 1) := by decide +kernel
theorem dX6_tie_25 : decode cX6_tie 25 = .ok (.getfield 30, 3) := by decide +kernel
theorem dX6_tie_28 : decode cX6_tie 28 = .ok (.iload_n 1, 1) := by decide +kernel
theorem dX6_tie_29 : decode cX6_tie 29 = .ok (.aload_n 0, 1) := by decide +kernel
theorem dX6_tie_30 : decode cX6_tie 30 = .ok (.getfield 43, 3) := by decide +kernel
theorem dX6_tie_33 : decode cX6_tie 33 = .ok (.iastore, 1) := by decide +kernel
theorem dX6_tie_34 : decode cX6_tie 34 = .ok (.aload_n 0, 1) := by decide +kernel
theorem dX6_tie_35 : decode cX6_tie 35 = .ok (.getfield 30, 3) := by decide +kernel
theorem dX6_tie_38 : decode cX6_tie 38 = .ok (.iload_n 2, 1) := by decide +kernel
theorem dX6_tie_39 : decode cX6_tie 39 = .ok (.aload_n 0, 1) := by decide +kernel
theorem dX6_tie_40 : decode cX6_tie 40 = .ok (.getfield 43, 3) := by decide +kernel
theorem dX6_tie_43 : decode cX6_tie 43 = .ok (.iastore, 1) := by decide +kernel
theorem dX6_tie_44 : decode cX6_tie 44 = .ok (.aload_n 0, 1) := by decide +kernel
theorem dX6_tie_45 : decode cX6_tie 45 = .ok (.getfield 30, 3) := by decide +kernel
theorem dX6_tie_48 : decode cX6_tie 48 = .ok (.iload_n 3, 1) := by decide +kernel
theorem dX6_tie_49 : decode cX6_tie 49 = .ok (.aload_n 0, 1) := by decide +kernel
theorem dX6_tie_50 : decode cX6_tie 50 = .ok (.getfield 43, 3) := by decide +kernel
theorem dX6_tie_53 : decode cX6_tie 53 = .ok (.iastore, 1) := by decide +kernel
theorem dX6_tie_54 : decode cX6_tie 54 = .ok (.aload_n 0, 1) := by decide +kernel
theorem dX6_tie_55 : decode cX6_tie 55 = .ok (.dup, 1) := by decide +kernel
theorem dX6_tie_56 : decode cX6_tie 56 = .ok (.getfield 43, 3) := by decide +kernel
theorem dX6_tie_59 : decode cX6_tie 59 = .ok (.iconst 1, 1) := by decide +kernel
theorem dX6_tie_60 : decode cX6_tie 60 = .ok (.iadd, 1) := by decide +kernel
theorem dX6_tie_61 : decode cX6_tie 61 = .ok (.putfield 43, 3) := by decide +kernel
theorem dX6_tie_64 : decode cX6_tie 64 = .ok (.aload_n 0, 1) := by decide +kernel
theorem dX6_tie_65 : decode cX6_tie 65 = .ok (.getfield 43, 3) := by decide +kernel
theorem dX6_tie_68 : decode cX6_tie 68 = .ok (.ireturn, 1) := by decide +kernel
theorem dX6_endNear_0 : decode cX6_endNear 0 = .ok (.aload_n 0, 1) := by decide +kernel
theorem dX6_endNear_1 : decode cX6_endNear 1 = .ok (.iload_n 1, 1) := by decide +kernel
theorem dX6_endNear_2 : decode cX6_endNear 2 = .ok (.invokevirtual 115, 3) := by decide +kernel
theorem dX6_endNear_5 : decode cX6_endNear 5 = .ok (.istore_n 3, 1) := by decide +kernel
theorem dX6_endNear_6 : decode cX6_endNear 6 = .ok (.aload_n 0, 1) := by decide +kernel
theorem dX6_endNear_7 : decode cX6_endNear 7 = .ok (.iload_n 2, 1) := by decide +kernel
theorem dX6_endNear_8 : decode cX6_endNear 8 = .ok (.invokevirtual 115, 3) := by decide +kernel
theorem dX6_endNear_11 : decode cX6_endNear 11 = .ok (.istore 4, 2) := by decide +kernel
theorem dX6_endNear_13 : decode cX6_endNear 13 = .ok (.iload_n 3, 1) := by decide +kernel
theorem dX6_endNear_14 : decode cX6_endNear 14 = .ok (.bipush 16, 2) := by decide +kernel
theorem dX6_endNear_16 : decode cX6_endNear 16 = .ok (.irem, 1) := by decide +kernel
theorem dX6_endNear_17 : decode cX6_endNear 17 = .ok (.iload 4, 2) := by decide +kernel
theorem dX6_endNear_19 : decode cX6_endNear 19 = .ok (.bipush 16, 2) := by decide +kernel
theorem dX6_endNear_21 : decode cX6_endNear 21 = .ok (.irem, 1) := by decide +kernel
theorem dX6_endNear_22 : decode cX6_endNear 22 = .ok (.isub, 1) := by decide +kernel
theorem dX6_endNear_23 : decode cX6_endNear 23 = .ok (.invokestatic 118, 3) := by decide +kernel
theorem dX6_endNear_26 : decode cX6_endNear 26 = .ok (.iconst 2, 1) := by decide +kernel
theorem dX6_endNear_27 : decode cX6_endNear 27 = .ok (.if_icmp .gt 24, 3) := by decide +kernel
theorem dX6_endNear_30 : decode cX6_endNear 30 = .ok (.iload_n 3, 1) := by decide +kernel
theorem dX6_endNear_31 : decode cX6_endNear 31 = .ok (.bipush 16, 2) := by decide +kernel
theorem dX6_endNear_33 : decode cX6_endNear 33 = .ok (.idiv, 1) := by decide +kernel
theorem dX6_endNear_34 : decode cX6_endNear 34 = .ok (.iload 4, 2) := by decide +kernel
theorem dX6_endNear_36 : decode cX6_endNear 36 = .ok (.bipush 16, 2) := by decide +kernel
theorem dX6_endNear_38 : decode cX6_endNear 38 = .ok (.idiv, 1) := by decide +kernel
theorem dX6_endNear_39 : decode cX6_endNear 39 = .ok (.isub, 1) := by decide +kernel
theorem dX6_endNear_40 : decode cX6_endNear 40 = .ok (.invokestatic 118, 3) := by decide +kernel
theorem dX6_endNear_43 : decode cX6_endNear 43 = .ok (.iconst 2, 1) := by decide +kernel
theorem dX6_endNear_44 : decode cX6_endNear 44 = .ok (.if_icmp .gt 7, 3) := by decide +kernel
theorem dX6_endNear_47 : decode cX6_endNear 47 = .ok (.iconst 1, 1) := by decide +kernel
theorem dX6_endNear_48 : decode cX6_endNear 48 = .ok (.goto 4, 3) := by decide +kernel
theorem dX6_endNear_51 : decode cX6_endNear 51 = .ok (.iconst 0, 1) := by decide +kernel
theorem dX6_endNear_52 : decode cX6_endNear 52 = .ok (.ireturn, 1) := by decide +kernel
theorem dX7_init_0 : decode cX7_init 0 = .ok (.aload_n 0, 1) := by decide +kernel
theorem dX7_init_1 : decode cX7_init 1 = .ok (.invokespecial 3, 3) := by decide +kernel
theorem dX7_init_4 : decode cX7_init 4 = .ok (.aload_n 0, 1) := by decide +kernel
theorem dX7_init_5 : decode cX7_init 5 = .ok (.sipush 1000, 3) := by decide +kernel
theorem dX7_init_8 : decode cX7_init 8 = .ok (.newarray .int, 2) := by decide +kernel
theorem dX7_init_10 : decode cX7_init 10 = .ok (.putfield 9, 3) := by decide +kernel
theorem dX7_init_13 : decode cX7_init 13 = .ok (.aload_n 0, 1) := by decide +kernel
theorem dX7_init_14 : decode cX7_init 14 = .ok (.iconst 4, 1) := by decide +kernel
theorem dX7_init_15 : decode cX7_init 15 = .ok (.newarray .int, 2) := by decide +kernel
theorem dX7_init_17 : decode cX7_init 17 = .ok (.putfield 15, 3) := by decide +kernel
theorem dX7_init_20 : decode cX7_init 20 = .ok (.aload_n 0, 1) := by decide +kernel
theorem dX7_init_21 : decode cX7_init 21 = .ok (.aload_n 1, 1) := by decide +kernel
theorem dX7_init_22 : decode cX7_init 22 = .ok (.putfield 18, 3) := by decide +kernel
theorem dX7_init_25 : decode cX7_init 25 = .ok (.return_, 1) := by decide +kernel
theorem dX7_codeAt_0 : decode cX7_codeAt 0 = .ok (.iload_n 1, 1) := by decide +kernel
theorem dX7_codeAt_1 : decode cX7_codeAt 1 = .ok (.ifCond .lt 27, 3) := by decide +kernel
theorem dX7_codeAt_4 : decode cX7_codeAt 4 = .ok (.iload_n 1, 1) := by decide +kernel
theorem dX7_codeAt_5 : decode cX7_codeAt 5 = .ok (.aload_n 0, 1) := by decide +kernel
theorem dX7_codeAt_6 : decode cX7_codeAt 6 = .ok (.getfield 22, 3) := by decide +kernel
theorem dX7_codeAt_9 : decode cX7_codeAt 9 = .ok (.if_icmp .ge 19, 3) := by decide +kernel
theorem dX7_codeAt_12 : decode cX7_codeAt 12 = .ok (.iload_n 1, 1) := by decide +kernel
theorem dX7_codeAt_13 : decode cX7_codeAt 13 = .ok (.sipush 1000, 3) := by decide +kernel
theorem dX7_codeAt_16 : decode cX7_codeAt 16 = .ok (.if_icmp .ge 12, 3) := by decide +kernel
theorem dX7_codeAt_19 : decode cX7_codeAt 19 = .ok (.aload_n 0, 1) := by decide +kernel
theorem dX7_codeAt_20 : decode cX7_codeAt 20 = .ok (.getfield 9, 3) := by decide +kernel
theorem dX7_codeAt_23 : decode cX7_codeAt 23 = .ok (.iload_n 1, 1) := by decide +kernel
theorem dX7_codeAt_24 : decode cX7_codeAt 24 = .ok (.iaload, 1) := by decide +kernel
theorem dX7_codeAt_25 : decode cX7_codeAt 25 = .ok (.goto 4, 3) := by decide +kernel
theorem dX7_codeAt_28 : decode cX7_codeAt 28 = .ok (.iconst 0, 1) := by decide +kernel
theorem dX7_codeAt_29 : decode cX7_codeAt 29 = .ok (.ireturn, 1) := by decide +kernel
theorem dX7_read_0 : decode cX7_read 0 = .ok (.aload_n 0, 1) := by decide +kernel
theorem dX7_read_1 : decode cX7_read 1 = .ok (.iconst 0, 1) := by decide +kernel
theorem dX7_read_2 : decode cX7_read 2 = .ok (.putfield 22, 3) := by decide +kernel
theorem dX7_read_5 : decode cX7_read 5 = .ok (.aload_n 0, 1) := by decide +kernel
theorem dX7_read_6 : decode cX7_read 6 = .ok (.iconst 0, 1) := by decide +kernel
theorem dX7_read_7 : decode cX7_read 7 = .ok (.putfield 26, 3) := by decide +kernel
theorem dX7_read_10 : decode cX7_read 10 = .ok (.aload_n 0, 1) := by decide +kernel
theorem dX7_read_11 : decode cX7_read 11 = .ok (.iconst 0, 1) := by decide +kernel
theorem dX7_read_12 : decode cX7_read 12 = .ok (.putfield 29, 3) := by decide +kernel
theorem dX7_read_15 : decode cX7_read 15 = .ok (.aload_n 0, 1) := by decide +kernel
theorem dX7_read_16 : decode cX7_read 16 = .ok (.getfield 18, 3) := by decide +kernel
theorem dX7_read_19 : decode cX7_read 19 = .ok (.invokevirtual 32, 3) := by decide +kernel
theorem dX7_read_22 : decode cX7_read 22 = .ok (.iconst 0, 1) := by decide +kernel
theorem dX7_read_23 : decode cX7_read 23 = .ok (.istore_n 1, 1) := by decide +kernel
theorem dX7_read_24 : decode cX7_read 24 = .ok (.iload_n 1, 1) := by decide +kernel
theorem dX7_read_25 : decode cX7_read 25 = .ok (.sipush 1000, 3) := by decide +kernel
theorem dX7_read_28 : decode cX7_read 28 = .ok (.if_icmp .gt 127, 3) := by decide +kernel
theorem dX7_read_31 : decode cX7_read 31 = .ok (.aload_n 0, 1) := by decide +kernel
theorem dX7_read_32 : decode cX7_read 32 = .ok (.getfield 29, 3) := by decide +kernel
theorem dX7_read_35 : decode cX7_read 35 = .ok (.ifCond .ne 120, 3) := by decide +kernel
theorem dX7_read_38 : decode cX7_read 38 = .ok (.aload_n 0, 1) := by decide +kernel
theorem dX7_read_39 : decode cX7_read 39 = .ok (.getfield 26, 3) := by decide +kernel
theorem dX7_read_42 : decode cX7_read 42 = .ok (.ifCond .gt 15, 3) := by decide +kernel
theorem dX7_read_45 : decode cX7_read 45 = .ok (.aload_n 0, 1) := by decide +kernel
theorem dX7_read_46 : decode cX7_read 46 = .ok (.getfield 18, 3) := by decide +kernel
theorem dX7_read_49 : decode cX7_read 49 = .ok (.getfield 37, 3) := by decide +kernel
theorem dX7_read_52 : decode cX7_read 52 = .ok (.bipush 12, 2) := by decide +kernel
theorem dX7_read_54 : decode cX7_read 54 = .ok (.if_icmp .eq 101, 3) := by decide +kernel
theorem dX7_read_57 : decode cX7_read 57 = .ok (.aload_n 0, 1) := by decide +kernel
theorem dX7_read_58 : decode cX7_read 58 = .ok (.getfield 18, 3) := by decide +kernel
theorem dX7_read_61 : decode cX7_read 61 = .ok (.getfield 37, 3) := by decide +kernel
theorem dX7_read_64 : decode cX7_read 64 = .ok (.tableswitch 80 4 10 #[44, 55, 66, 66, 80, 80, 73], 44) := by decide +kernel
theorem dX7_read_108 : decode cX7_read 108 = .ok (.aload_n 0, 1) := by decide +kernel
theorem dX7_read_109 : decode cX7_read 109 = .ok (.bipush 16, 2) := by decide +kernel
theorem dX7_read_111 : decode cX7_read 111 = .ok (.bipush 12, 2) := by decide +kernel
theorem dX7_read_113 : decode cX7_read 113 = .ok (.invokevirtual 40, 3) := by decide +kernel
theorem dX7_read_116 : decode cX7_read 116 = .ok (.goto 33, 3) := by decide +kernel
theorem dX7_read_119 : decode cX7_read 119 = .ok (.aload_n 0, 1) := by decide +kernel
theorem dX7_read_120 : decode cX7_read 120 = .ok (.bipush 15, 2) := by decide +kernel
theorem dX7_read_122 : decode cX7_read 122 = .ok (.bipush 11, 2) := by decide +kernel
theorem dX7_read_124 : decode cX7_read 124 = .ok (.invokevirtual 40, 3) := by decide +kernel
theorem dX7_read_127 : decode cX7_read 127 = .ok (.goto 22, 3) := by decide +kernel
theorem dX7_read_130 : decode cX7_read 130 = .ok (.aload_n 0, 1) := by decide +kernel
theorem dX7_read_131 : decode cX7_read 131 = .ok (.invokevirtual 44, 3) := by decide +kernel
theorem dX7_read_134 : decode cX7_read 134 = .ok (.goto 15, 3) := by decide +kernel
theorem dX7_read_137 : decode cX7_read 137 = .ok (.aload_n 0, 1) := by decide +kernel
theorem dX7_read_138 : decode cX7_read 138 = .ok (.invokevirtual 47, 3) := by decide +kernel
theorem dX7_read_141 : decode cX7_read 141 = .ok (.goto 8, 3) := by decide +kernel
theorem dX7_read_144 : decode cX7_read 144 = .ok (.aload_n 0, 1) := by decide +kernel
theorem dX7_read_145 : decode cX7_read 145 = .ok (.iconst 1, 1) := by decide +kernel
theorem dX7_read_146 : decode cX7_read 146 = .ok (.invokevirtual 50, 3) := by decide +kernel
theorem dX7_read_149 : decode cX7_read 149 = .ok (.iinc 1 1, 3) := by decide +kernel
theorem dX7_read_152 : decode cX7_read 152 = .ok (.goto (-128), 3) := by decide +kernel
theorem dX7_read_155 : decode cX7_read 155 = .ok (.aload_n 0, 1) := by decide +kernel
theorem dX7_read_156 : decode cX7_read 156 = .ok (.getfield 29, 3) := by decide +kernel
theorem dX7_read_159 : decode cX7_read 159 = .ok (.ireturn, 1) := by decide +kernel
theorem dX7_readLine_0 : decode cX7_readLine 0 = .ok (.aload_n 0, 1) := by decide +kernel
theorem dX7_readLine_1 : decode cX7_readLine 1 = .ok (.aload_n 0, 1) := by decide +kernel
theorem dX7_readLine_2 : decode cX7_readLine 2 = .ok (.getfield 18, 3) := by decide +kernel
theorem dX7_readLine_5 : decode cX7_readLine 5 = .ok (.getfield 37, 3) := by decide +kernel
theorem dX7_readLine_8 : decode cX7_readLine 8 = .ok (.invokevirtual 54, 3) := by decide +kernel
theorem dX7_readLine_11 : decode cX7_readLine 11 = .ok (.aload_n 0, 1) := by decide +kernel
theorem dX7_readLine_12 : decode cX7_readLine 12 = .ok (.getfield 18, 3) := by decide +kernel
theorem dX7_readLine_15 : decode cX7_readLine 15 = .ok (.invokevirtual 57, 3) := by decide +kernel
theorem dX7_readLine_18 : decode cX7_readLine 18 = .ok (.aload_n 0, 1) := by decide +kernel
theorem dX7_readLine_19 : decode cX7_readLine 19 = .ok (.iconst 0, 1) := by decide +kernel
theorem dX7_readLine_20 : decode cX7_readLine 20 = .ok (.iload_n 1, 1) := by decide +kernel
theorem dX7_readLine_21 : decode cX7_readLine 21 = .ok (.invokevirtual 60, 3) := by decide +kernel
theorem dX7_readLine_24 : decode cX7_readLine 24 = .ok (.aload_n 0, 1) := by decide +kernel
theorem dX7_readLine_25 : decode cX7_readLine 25 = .ok (.iconst 0, 1) := by decide +kernel
theorem dX7_readLine_26 : decode cX7_readLine 26 = .ok (.iload_n 2, 1) := by decide +kernel
theorem dX7_readLine_27 : decode cX7_readLine 27 = .ok (.invokevirtual 60, 3) := by decide +kernel
theorem dX7_readLine_30 : decode cX7_readLine 30 = .ok (.aload_n 0, 1) := by decide +kernel
theorem dX7_readLine_31 : decode cX7_readLine 31 = .ok (.getfield 22, 3) := by decide +kernel
theorem dX7_readLine_34 : decode cX7_readLine 34 = .ok (.istore_n 3, 1) := by decide +kernel
theorem dX7_readLine_35 : decode cX7_readLine 35 = .ok (.aload_n 0, 1) := by decide +kernel
theorem dX7_readLine_36 : decode cX7_readLine 36 = .ok (.iconst 0, 1) := by decide +kernel
theorem dX7_readLine_37 : decode cX7_readLine 37 = .ok (.invokevirtual 54, 3) := by decide +kernel
theorem dX7_readLine_40 : decode cX7_readLine 40 = .ok (.aload_n 0, 1) := by decide +kernel
theorem dX7_readLine_41 : decode cX7_readLine 41 = .ok (.invokevirtual 63, 3) := by decide +kernel
theorem dX7_readLine_44 : decode cX7_readLine 44 = .ok (.iconst 1, 1) := by decide +kernel
theorem dX7_readLine_45 : decode cX7_readLine 45 = .ok (.istore 4, 2) := by decide +kernel
theorem dX7_readLine_47 : decode cX7_readLine 47 = .ok (.iload 4, 2) := by decide +kernel
theorem dX7_readLine_49 : decode cX7_readLine 49 = .ok (.sipush 1000, 3) := by decide +kernel
theorem dX7_readLine_52 : decode cX7_readLine 52 = .ok (.if_icmp .gt 32, 3) := by decide +kernel
theorem dX7_readLine_55 : decode cX7_readLine 55 = .ok (.aload_n 0, 1) := by decide +kernel
theorem dX7_readLine_56 : decode cX7_readLine 56 = .ok (.getfield 29, 3) := by decide +kernel
theorem dX7_readLine_59 : decode cX7_readLine 59 = .ok (.ifCond .ne 25, 3) := by decide +kernel
theorem dX7_readLine_62 : decode cX7_readLine 62 = .ok (.aload_n 0, 1) := by decide +kernel
theorem dX7_readLine_63 : decode cX7_readLine 63 = .ok (.getfield 18, 3) := by decide +kernel
theorem dX7_readLine_66 : decode cX7_readLine 66 = .ok (.getfield 37, 3) := by decide +kernel
theorem dX7_readLine_69 : decode cX7_readLine 69 = .ok (.bipush 11, 2) := by decide +kernel
theorem dX7_readLine_71 : decode cX7_readLine 71 = .ok (.if_icmp .eq 13, 3) := by decide +kernel
theorem dX7_readLine_74 : decode cX7_readLine 74 = .ok (.aload_n 0, 1) := by decide +kernel
theorem dX7_readLine_75 : decode cX7_readLine 75 = .ok (.invokevirtual 63, 3) := by decide +kernel
theorem dX7_readLine_78 : decode cX7_readLine 78 = .ok (.iinc 4 1, 3) := by decide +kernel
theorem dX7_readLine_81 : decode cX7_readLine 81 = .ok (.goto (-34), 3) := by decide +kernel
theorem dX7_readLine_84 : decode cX7_readLine 84 = .ok (.iload_n 3, 1) := by decide +kernel
theorem dX7_readLine_85 : decode cX7_readLine 85 = .ok (.sipush 1000, 3) := by decide +kernel
theorem dX7_readLine_88 : decode cX7_readLine 88 = .ok (.if_icmp .ge 11, 3) := by decide +kernel
theorem dX7_readLine_91 : decode cX7_readLine 91 = .ok (.aload_n 0, 1) := by decide +kernel
theorem dX7_readLine_92 : decode cX7_readLine 92 = .ok (.getfield 9, 3) := by decide +kernel
theorem dX7_readLine_95 : decode cX7_readLine 95 = .ok (.iload_n 3, 1) := by decide +kernel
theorem dX7_readLine_96 : decode cX7_readLine 96 = .ok (.iload 4, 2) := by decide +kernel
theorem dX7_readLine_98 : decode cX7_readLine 98 = .ok (.iastore, 1) := by decide +kernel
theorem dX7_readLine_99 : decode cX7_readLine 99 = .ok (.aload_n 0, 1) := by decide +kernel
theorem dX7_readLine_100 : decode cX7_readLine 100 = .ok (.bipush 11, 2) := by decide +kernel
theorem dX7_readLine_102 : decode cX7_readLine 102 = .ok (.invokevirtual 66, 3) := by decide +kernel
theorem dX7_readLine_105 : decode cX7_readLine 105 = .ok (.return_, 1) := by decide +kernel
theorem dX7_readOpening_0 : decode cX7_readOpening 0 = .ok (.aload_n 0, 1) := by decide +kernel
theorem dX7_readOpening_1 : decode cX7_readOpening 1 = .ok (.getfield 26, 3) := by decide +kernel
theorem dX7_readOpening_4 : decode cX7_readOpening 4 = .ok (.iconst 4, 1) := by decide +kernel
theorem dX7_readOpening_5 : decode cX7_readOpening 5 = .ok (.if_icmp .lt 9, 3) := by decide +kernel
theorem dX7_readOpening_8 : decode cX7_readOpening 8 = .ok (.aload_n 0, 1) := by decide +kernel
theorem dX7_readOpening_9 : decode cX7_readOpening 9 = .ok (.iconst 5, 1) := by decide +kernel
theorem dX7_readOpening_10 : decode cX7_readOpening 10 = .ok (.invokevirtual 50, 3) := by decide +kernel
theorem dX7_readOpening_13 : decode cX7_readOpening 13 = .ok (.return_, 1) := by decide +kernel
theorem dX7_readOpening_14 : decode cX7_readOpening 14 = .ok (.aload_n 0, 1) := by decide +kernel
theorem dX7_readOpening_15 : decode cX7_readOpening 15 = .ok (.getfield 15, 3) := by decide +kernel
theorem dX7_readOpening_18 : decode cX7_readOpening 18 = .ok (.aload_n 0, 1) := by decide +kernel
theorem dX7_readOpening_19 : decode cX7_readOpening 19 = .ok (.getfield 26, 3) := by decide +kernel
theorem dX7_readOpening_22 : decode cX7_readOpening 22 = .ok (.aload_n 0, 1) := by decide +kernel
theorem dX7_readOpening_23 : decode cX7_readOpening 23 = .ok (.getfield 22, 3) := by decide +kernel
theorem dX7_readOpening_26 : decode cX7_readOpening 26 = .ok (.iastore, 1) := by decide +kernel
theorem dX7_readOpening_27 : decode cX7_readOpening 27 = .ok (.aload_n 0, 1) := by decide +kernel
theorem dX7_readOpening_28 : decode cX7_readOpening 28 = .ok (.dup, 1) := by decide +kernel
theorem dX7_readOpening_29 : decode cX7_readOpening 29 = .ok (.getfield 26, 3) := by decide +kernel
theorem dX7_readOpening_32 : decode cX7_readOpening 32 = .ok (.iconst 1, 1) := by decide +kernel
theorem dX7_readOpening_33 : decode cX7_readOpening 33 = .ok (.iadd, 1) := by decide +kernel
theorem dX7_readOpening_34 : decode cX7_readOpening 34 = .ok (.putfield 26, 3) := by decide +kernel
theorem dX7_readOpening_37 : decode cX7_readOpening 37 = .ok (.aload_n 0, 1) := by decide +kernel
theorem dX7_readOpening_38 : decode cX7_readOpening 38 = .ok (.getfield 18, 3) := by decide +kernel
theorem dX7_readOpening_41 : decode cX7_readOpening 41 = .ok (.getfield 37, 3) := by decide +kernel
theorem dX7_readOpening_44 : decode cX7_readOpening 44 = .ok (.bipush 6, 2) := by decide +kernel
theorem dX7_readOpening_46 : decode cX7_readOpening 46 = .ok (.if_icmp .ne 7, 3) := by decide +kernel
theorem dX7_readOpening_49 : decode cX7_readOpening 49 = .ok (.iconst 1, 1) := by decide +kernel
theorem dX7_readOpening_50 : decode cX7_readOpening 50 = .ok (.goto 4, 3) := by decide +kernel
theorem dX7_readOpening_53 : decode cX7_readOpening 53 = .ok (.iconst 0, 1) := by decide +kernel
theorem dX7_readOpening_54 : decode cX7_readOpening 54 = .ok (.istore_n 1, 1) := by decide +kernel
theorem dX7_readOpening_55 : decode cX7_readOpening 55 = .ok (.aload_n 0, 1) := by decide +kernel
theorem dX7_readOpening_56 : decode cX7_readOpening 56 = .ok (.aload_n 0, 1) := by decide +kernel
theorem dX7_readOpening_57 : decode cX7_readOpening 57 = .ok (.getfield 18, 3) := by decide +kernel
theorem dX7_readOpening_60 : decode cX7_readOpening 60 = .ok (.getfield 37, 3) := by decide +kernel
theorem dX7_readOpening_63 : decode cX7_readOpening 63 = .ok (.invokevirtual 54, 3) := by decide +kernel
theorem dX7_readOpening_66 : decode cX7_readOpening 66 = .ok (.aload_n 0, 1) := by decide +kernel
theorem dX7_readOpening_67 : decode cX7_readOpening 67 = .ok (.getfield 18, 3) := by decide +kernel
theorem dX7_readOpening_70 : decode cX7_readOpening 70 = .ok (.invokevirtual 57, 3) := by decide +kernel
theorem dX7_readOpening_73 : decode cX7_readOpening 73 = .ok (.iload_n 1, 1) := by decide +kernel
theorem dX7_readOpening_74 : decode cX7_readOpening 74 = .ok (.ifCond .eq 14, 3) := by decide +kernel
theorem dX7_readOpening_77 : decode cX7_readOpening 77 = .ok (.aload_n 0, 1) := by decide +kernel
theorem dX7_readOpening_78 : decode cX7_readOpening 78 = .ok (.iconst 1, 1) := by decide +kernel
theorem dX7_readOpening_79 : decode cX7_readOpening 79 = .ok (.bipush 9, 2) := by decide +kernel
theorem dX7_readOpening_81 : decode cX7_readOpening 81 = .ok (.invokevirtual 60, 3) := by decide +kernel
theorem dX7_readOpening_84 : decode cX7_readOpening 84 = .ok (.aload_n 0, 1) := by decide +kernel
theorem dX7_readOpening_85 : decode cX7_readOpening 85 = .ok (.invokevirtual 63, 3) := by decide +kernel
theorem dX7_readOpening_88 : decode cX7_readOpening 88 = .ok (.aload_n 0, 1) := by decide +kernel
theorem dX7_readOpening_89 : decode cX7_readOpening 89 = .ok (.iconst 0, 1) := by decide +kernel
theorem dX7_readOpening_90 : decode cX7_readOpening 90 = .ok (.invokevirtual 54, 3) := by decide +kernel
theorem dX7_readOpening_93 : decode cX7_readOpening 93 = .ok (.aload_n 0, 1) := by decide +kernel
theorem dX7_readOpening_94 : decode cX7_readOpening 94 = .ok (.bipush 9, 2) := by decide +kernel
theorem dX7_readOpening_96 : decode cX7_readOpening 96 = .ok (.invokevirtual 66, 3) := by decide +kernel
theorem dX7_readOpening_99 : decode cX7_readOpening 99 = .ok (.return_, 1) := by decide +kernel
theorem dX7_readClosing_0 : decode cX7_readClosing 0 = .ok (.aload_n 0, 1) := by decide +kernel
theorem dX7_readClosing_1 : decode cX7_readClosing 1 = .ok (.getfield 26, 3) := by decide +kernel
theorem dX7_readClosing_4 : decode cX7_readClosing 4 = .ok (.ifCond .le 11, 3) := by decide +kernel
theorem dX7_readClosing_7 : decode cX7_readClosing 7 = .ok (.aload_n 0, 1) := by decide +kernel
theorem dX7_readClosing_8 : decode cX7_readClosing 8 = .ok (.getfield 26, 3) := by decide +kernel
theorem dX7_readClosing_11 : decode cX7_readClosing 11 = .ok (.iconst 4, 1) := by decide +kernel
theorem dX7_readClosing_12 : decode cX7_readClosing 12 = .ok (.if_icmp .le 9, 3) := by decide +kernel
theorem dX7_readClosing_15 : decode cX7_readClosing 15 = .ok (.aload_n 0, 1) := by decide +kernel
theorem dX7_readClosing_16 : decode cX7_readClosing 16 = .ok (.iconst 1, 1) := by decide +kernel
theorem dX7_readClosing_17 : decode cX7_readClosing 17 = .ok (.invokevirtual 50, 3) := by decide +kernel
theorem dX7_readClosing_20 : decode cX7_readClosing 20 = .ok (.return_, 1) := by decide +kernel
theorem dX7_readClosing_21 : decode cX7_readClosing 21 = .ok (.aload_n 0, 1) := by decide +kernel
theorem dX7_readClosing_22 : decode cX7_readClosing 22 = .ok (.getfield 18, 3) := by decide +kernel
theorem dX7_readClosing_25 : decode cX7_readClosing 25 = .ok (.invokevirtual 57, 3) := by decide +kernel
theorem dX7_readClosing_28 : decode cX7_readClosing 28 = .ok (.aload_n 0, 1) := by decide +kernel
theorem dX7_readClosing_29 : decode cX7_readClosing 29 = .ok (.bipush 11, 2) := by decide +kernel
theorem dX7_readClosing_31 : decode cX7_readClosing 31 = .ok (.invokevirtual 66, 3) := by decide +kernel
theorem dX7_readClosing_34 : decode cX7_readClosing 34 = .ok (.aload_n 0, 1) := by decide +kernel
theorem dX7_readClosing_35 : decode cX7_readClosing 35 = .ok (.dup, 1) := by decide +kernel
theorem dX7_readClosing_36 : decode cX7_readClosing 36 = .ok (.getfield 26, 3) := by decide +kernel
theorem dX7_readClosing_39 : decode cX7_readClosing 39 = .ok (.iconst 1, 1) := by decide +kernel
theorem dX7_readClosing_40 : decode cX7_readClosing 40 = .ok (.isub, 1) := by decide +kernel
theorem dX7_readClosing_41 : decode cX7_readClosing 41 = .ok (.putfield 26, 3) := by decide +kernel
theorem dX7_readClosing_44 : decode cX7_readClosing 44 = .ok (.aload_n 0, 1) := by decide +kernel
theorem dX7_readClosing_45 : decode cX7_readClosing 45 = .ok (.getfield 15, 3) := by decide +kernel
theorem dX7_readClosing_48 : decode cX7_readClosing 48 = .ok (.aload_n 0, 1) := by decide +kernel
theorem dX7_readClosing_49 : decode cX7_readClosing 49 = .ok (.getfield 26, 3) := by decide +kernel
theorem dX7_readClosing_52 : decode cX7_readClosing 52 = .ok (.iaload, 1) := by decide +kernel
theorem dX7_readClosing_53 : decode cX7_readClosing 53 = .ok (.istore_n 1, 1) := by decide +kernel
theorem dX7_readClosing_54 : decode cX7_readClosing 54 = .ok (.iload_n 1, 1) := by decide +kernel
theorem dX7_readClosing_55 : decode cX7_readClosing 55 = .ok (.aload_n 0, 1) := by decide +kernel
theorem dX7_readClosing_56 : decode cX7_readClosing 56 = .ok (.iload_n 1, 1) := by decide +kernel
theorem dX7_readClosing_57 : decode cX7_readClosing 57 = .ok (.invokevirtual 69, 3) := by decide +kernel
theorem dX7_readClosing_60 : decode cX7_readClosing 60 = .ok (.bipush 6, 2) := by decide +kernel
theorem dX7_readClosing_62 : decode cX7_readClosing 62 = .ok (.if_icmp .ne 7, 3) := by decide +kernel
theorem dX7_readClosing_65 : decode cX7_readClosing 65 = .ok (.iconst 4, 1) := by decide +kernel
theorem dX7_readClosing_66 : decode cX7_readClosing 66 = .ok (.goto 4, 3) := by decide +kernel
theorem dX7_readClosing_69 : decode cX7_readClosing 69 = .ok (.iconst 1, 1) := by decide +kernel
theorem dX7_readClosing_70 : decode cX7_readClosing 70 = .ok (.iadd, 1) := by decide +kernel
theorem dX7_readClosing_71 : decode cX7_readClosing 71 = .ok (.istore_n 2, 1) := by decide +kernel
theorem dX7_readClosing_72 : decode cX7_readClosing 72 = .ok (.aload_n 0, 1) := by decide +kernel
theorem dX7_readClosing_73 : decode cX7_readClosing 73 = .ok (.getfield 22, 3) := by decide +kernel
theorem dX7_readClosing_76 : decode cX7_readClosing 76 = .ok (.iload_n 2, 1) := by decide +kernel
theorem dX7_readClosing_77 : decode cX7_readClosing 77 = .ok (.iconst 1, 1) := by decide +kernel
theorem dX7_readClosing_78 : decode cX7_readClosing 78 = .ok (.iadd, 1) := by decide +kernel
theorem dX7_readClosing_79 : decode cX7_readClosing 79 = .ok (.if_icmp .ne 11, 3) := by decide +kernel
theorem dX7_readClosing_82 : decode cX7_readClosing 82 = .ok (.aload_n 0, 1) := by decide +kernel
theorem dX7_readClosing_83 : decode cX7_readClosing 83 = .ok (.iload_n 1, 1) := by decide +kernel
theorem dX7_readClosing_84 : decode cX7_readClosing 84 = .ok (.putfield 22, 3) := by decide +kernel
theorem dX7_readClosing_87 : decode cX7_readClosing 87 = .ok (.goto 20, 3) := by decide +kernel
theorem dX7_readClosing_90 : decode cX7_readClosing 90 = .ok (.iload_n 2, 1) := by decide +kernel
theorem dX7_readClosing_91 : decode cX7_readClosing 91 = .ok (.sipush 1000, 3) := by decide +kernel
theorem dX7_readClosing_94 : decode cX7_readClosing 94 = .ok (.if_icmp .ge 13, 3) := by decide +kernel
theorem dX7_readClosing_97 : decode cX7_readClosing 97 = .ok (.aload_n 0, 1) := by decide +kernel
theorem dX7_readClosing_98 : decode cX7_readClosing 98 = .ok (.getfield 9, 3) := by decide +kernel
theorem dX7_readClosing_101 : decode cX7_readClosing 101 = .ok (.iload_n 2, 1) := by decide +kernel
theorem dX7_readClosing_102 : decode cX7_readClosing 102 = .ok (.aload_n 0, 1) := by decide +kernel
theorem dX7_readClosing_103 : decode cX7_readClosing 103 = .ok (.getfield 22, 3) := by decide +kernel
theorem dX7_readClosing_106 : decode cX7_readClosing 106 = .ok (.iastore, 1) := by decide +kernel
theorem dX7_readClosing_107 : decode cX7_readClosing 107 = .ok (.return_, 1) := by decide +kernel
theorem dX7_readWay_0 : decode cX7_readWay 0 = .ok (.aload_n 0, 1) := by decide +kernel
theorem dX7_readWay_1 : decode cX7_readWay 1 = .ok (.getfield 18, 3) := by decide +kernel
theorem dX7_readWay_4 : decode cX7_readWay 4 = .ok (.getfield 37, 3) := by decide +kernel
theorem dX7_readWay_7 : decode cX7_readWay 7 = .ok (.iconst 4, 1) := by decide +kernel
theorem dX7_readWay_8 : decode cX7_readWay 8 = .ok (.if_icmp .lt 8, 3) := by decide +kernel
theorem dX7_readWay_11 : decode cX7_readWay 11 = .ok (.aload_n 0, 1) := by decide +kernel
theorem dX7_readWay_12 : decode cX7_readWay 12 = .ok (.iconst 1, 1) := by decide +kernel
theorem dX7_readWay_13 : decode cX7_readWay 13 = .ok (.invokevirtual 50, 3) := by decide +kernel
theorem dX7_readWay_16 : decode cX7_readWay 16 = .ok (.aload_n 0, 1) := by decide +kernel
theorem dX7_readWay_17 : decode cX7_readWay 17 = .ok (.getfield 29, 3) := by decide +kernel
theorem dX7_readWay_20 : decode cX7_readWay 20 = .ok (.ifCond .ne 28, 3) := by decide +kernel
theorem dX7_readWay_23 : decode cX7_readWay 23 = .ok (.aload_n 0, 1) := by decide +kernel
theorem dX7_readWay_24 : decode cX7_readWay 24 = .ok (.aload_n 0, 1) := by decide +kernel
theorem dX7_readWay_25 : decode cX7_readWay 25 = .ok (.getfield 18, 3) := by decide +kernel
theorem dX7_readWay_28 : decode cX7_readWay 28 = .ok (.getfield 37, 3) := by decide +kernel
theorem dX7_readWay_31 : decode cX7_readWay 31 = .ok (.invokevirtual 54, 3) := by decide +kernel
theorem dX7_readWay_34 : decode cX7_readWay 34 = .ok (.aload_n 0, 1) := by decide +kernel
theorem dX7_readWay_35 : decode cX7_readWay 35 = .ok (.getfield 18, 3) := by decide +kernel
theorem dX7_readWay_38 : decode cX7_readWay 38 = .ok (.invokevirtual 57, 3) := by decide +kernel
theorem dX7_readWay_41 : decode cX7_readWay 41 = .ok (.aload_n 0, 1) := by decide +kernel
theorem dX7_readWay_42 : decode cX7_readWay 42 = .ok (.iconst 0, 1) := by decide +kernel
theorem dX7_readWay_43 : decode cX7_readWay 43 = .ok (.bipush 16, 2) := by decide +kernel
theorem dX7_readWay_45 : decode cX7_readWay 45 = .ok (.invokevirtual 60, 3) := by decide +kernel
theorem dX7_readWay_48 : decode cX7_readWay 48 = .ok (.return_, 1) := by decide +kernel
theorem dX7_readNumber_0 : decode cX7_readNumber 0 = .ok (.aload_n 0, 1) := by decide +kernel
theorem dX7_readNumber_1 : decode cX7_readNumber 1 = .ok (.getfield 18, 3) := by decide +kernel
theorem dX7_readNumber_4 : decode cX7_readNumber 4 = .ok (.getfield 37, 3) := by decide +kernel
theorem dX7_readNumber_7 : decode cX7_readNumber 7 = .ok (.bipush 8, 2) := by decide +kernel
theorem dX7_readNumber_9 : decode cX7_readNumber 9 = .ok (.if_icmp .eq 11, 3) := by decide +kernel
theorem dX7_readNumber_12 : decode cX7_readNumber 12 = .ok (.aload_n 0, 1) := by decide +kernel
theorem dX7_readNumber_13 : decode cX7_readNumber 13 = .ok (.iconst 1, 1) := by decide +kernel
theorem dX7_readNumber_14 : decode cX7_readNumber 14 = .ok (.invokevirtual 50, 3) := by decide +kernel
theorem dX7_readNumber_17 : decode cX7_readNumber 17 = .ok (.goto 30, 3) := by decide +kernel
theorem dX7_readNumber_20 : decode cX7_readNumber 20 = .ok (.aload_n 0, 1) := by decide +kernel
theorem dX7_readNumber_21 : decode cX7_readNumber 21 = .ok (.getfield 18, 3) := by decide +kernel
theorem dX7_readNumber_24 : decode cX7_readNumber 24 = .ok (.getfield 73, 3) := by decide +kernel
theorem dX7_readNumber_27 : decode cX7_readNumber 27 = .ok (.iload_n 1, 1) := by decide +kernel
theorem dX7_readNumber_28 : decode cX7_readNumber 28 = .ok (.if_icmp .lt 14, 3) := by decide +kernel
theorem dX7_readNumber_31 : decode cX7_readNumber 31 = .ok (.aload_n 0, 1) := by decide +kernel
theorem dX7_readNumber_32 : decode cX7_readNumber 32 = .ok (.getfield 18, 3) := by decide +kernel
theorem dX7_readNumber_35 : decode cX7_readNumber 35 = .ok (.getfield 73, 3) := by decide +kernel
theorem dX7_readNumber_38 : decode cX7_readNumber 38 = .ok (.iload_n 2, 1) := by decide +kernel
theorem dX7_readNumber_39 : decode cX7_readNumber 39 = .ok (.if_icmp .le 8, 3) := by decide +kernel
theorem dX7_readNumber_42 : decode cX7_readNumber 42 = .ok (.aload_n 0, 1) := by decide +kernel
theorem dX7_readNumber_43 : decode cX7_readNumber 43 = .ok (.iconst 4, 1) := by decide +kernel
theorem dX7_readNumber_44 : decode cX7_readNumber 44 = .ok (.invokevirtual 50, 3) := by decide +kernel
theorem dX7_readNumber_47 : decode cX7_readNumber 47 = .ok (.aload_n 0, 1) := by decide +kernel
theorem dX7_readNumber_48 : decode cX7_readNumber 48 = .ok (.getfield 29, 3) := by decide +kernel
theorem dX7_readNumber_51 : decode cX7_readNumber 51 = .ok (.ifCond .ne 21, 3) := by decide +kernel
theorem dX7_readNumber_54 : decode cX7_readNumber 54 = .ok (.aload_n 0, 1) := by decide +kernel
theorem dX7_readNumber_55 : decode cX7_readNumber 55 = .ok (.aload_n 0, 1) := by decide +kernel
theorem dX7_readNumber_56 : decode cX7_readNumber 56 = .ok (.getfield 18, 3) := by decide +kernel
theorem dX7_readNumber_59 : decode cX7_readNumber 59 = .ok (.getfield 73, 3) := by decide +kernel
theorem dX7_readNumber_62 : decode cX7_readNumber 62 = .ok (.invokevirtual 54, 3) := by decide +kernel
theorem dX7_readNumber_65 : decode cX7_readNumber 65 = .ok (.aload_n 0, 1) := by decide +kernel
theorem dX7_readNumber_66 : decode cX7_readNumber 66 = .ok (.getfield 18, 3) := by decide +kernel
theorem dX7_readNumber_69 : decode cX7_readNumber 69 = .ok (.invokevirtual 57, 3) := by decide +kernel
theorem dX7_readNumber_72 : decode cX7_readNumber 72 = .ok (.return_, 1) := by decide +kernel
theorem dX7_expect_0 : decode cX7_expect 0 = .ok (.aload_n 0, 1) := by decide +kernel
theorem dX7_expect_1 : decode cX7_expect 1 = .ok (.getfield 18, 3) := by decide +kernel
theorem dX7_expect_4 : decode cX7_expect 4 = .ok (.getfield 37, 3) := by decide +kernel
theorem dX7_expect_7 : decode cX7_expect 7 = .ok (.iload_n 1, 1) := by decide +kernel
theorem dX7_expect_8 : decode cX7_expect 8 = .ok (.if_icmp .eq 8, 3) := by decide +kernel
theorem dX7_expect_11 : decode cX7_expect 11 = .ok (.aload_n 0, 1) := by decide +kernel
theorem dX7_expect_12 : decode cX7_expect 12 = .ok (.iconst 1, 1) := by decide +kernel
theorem dX7_expect_13 : decode cX7_expect 13 = .ok (.invokevirtual 50, 3) := by decide +kernel
theorem dX7_expect_16 : decode cX7_expect 16 = .ok (.aload_n 0, 1) := by decide +kernel
theorem dX7_expect_17 : decode cX7_expect 17 = .ok (.getfield 29, 3) := by decide +kernel
theorem dX7_expect_20 : decode cX7_expect 20 = .ok (.ifCond .ne 10, 3) := by decide +kernel
theorem dX7_expect_23 : decode cX7_expect 23 = .ok (.aload_n 0, 1) := by decide +kernel
theorem dX7_expect_24 : decode cX7_expect 24 = .ok (.getfield 18, 3) := by decide +kernel
theorem dX7_expect_27 : decode cX7_expect 27 = .ok (.invokevirtual 57, 3) := by decide +kernel
theorem dX7_expect_30 : decode cX7_expect 30 = .ok (.return_, 1) := by decide +kernel
theorem dX7_tellFault_0 : decode cX7_tellFault 0 = .ok (.aload_n 0, 1) := by decide +kernel
theorem dX7_tellFault_1 : decode cX7_tellFault 1 = .ok (.getfield 29, 3) := by decide +kernel
theorem dX7_tellFault_4 : decode cX7_tellFault 4 = .ok (.ifCond .ne 19, 3) := by decide +kernel
theorem dX7_tellFault_7 : decode cX7_tellFault 7 = .ok (.aload_n 0, 1) := by decide +kernel
theorem dX7_tellFault_8 : decode cX7_tellFault 8 = .ok (.iload_n 1, 1) := by decide +kernel
theorem dX7_tellFault_9 : decode cX7_tellFault 9 = .ok (.bipush 16, 2) := by decide +kernel
theorem dX7_tellFault_11 : decode cX7_tellFault 11 = .ok (.aload_n 0, 1) := by decide +kernel
theorem dX7_tellFault_12 : decode cX7_tellFault 12 = .ok (.getfield 18, 3) := by decide +kernel
theorem dX7_tellFault_15 : decode cX7_tellFault 15 = .ok (.getfield 76, 3) := by decide +kernel
theorem dX7_tellFault_18 : decode cX7_tellFault 18 = .ok (.imul, 1) := by decide +kernel
theorem dX7_tellFault_19 : decode cX7_tellFault 19 = .ok (.iadd, 1) := by decide +kernel
theorem dX7_tellFault_20 : decode cX7_tellFault 20 = .ok (.putfield 29, 3) := by decide +kernel
theorem dX7_tellFault_23 : decode cX7_tellFault 23 = .ok (.return_, 1) := by decide +kernel
theorem dX7_put_0 : decode cX7_put 0 = .ok (.aload_n 0, 1) := by decide +kernel
theorem dX7_put_1 : decode cX7_put 1 = .ok (.getfield 22, 3) := by decide +kernel
theorem dX7_put_4 : decode cX7_put 4 = .ok (.sipush 1000, 3) := by decide +kernel
theorem dX7_put_7 : decode cX7_put 7 = .ok (.if_icmp .ge 23, 3) := by decide +kernel
theorem dX7_put_10 : decode cX7_put 10 = .ok (.aload_n 0, 1) := by decide +kernel
theorem dX7_put_11 : decode cX7_put 11 = .ok (.getfield 9, 3) := by decide +kernel
theorem dX7_put_14 : decode cX7_put 14 = .ok (.aload_n 0, 1) := by decide +kernel
theorem dX7_put_15 : decode cX7_put 15 = .ok (.getfield 22, 3) := by decide +kernel
theorem dX7_put_18 : decode cX7_put 18 = .ok (.iload_n 1, 1) := by decide +kernel
theorem dX7_put_19 : decode cX7_put 19 = .ok (.iastore, 1) := by decide +kernel
theorem dX7_put_20 : decode cX7_put 20 = .ok (.aload_n 0, 1) := by decide +kernel
theorem dX7_put_21 : decode cX7_put 21 = .ok (.dup, 1) := by decide +kernel
theorem dX7_put_22 : decode cX7_put 22 = .ok (.getfield 22, 3) := by decide +kernel
theorem dX7_put_25 : decode cX7_put 25 = .ok (.iconst 1, 1) := by decide +kernel
theorem dX7_put_26 : decode cX7_put 26 = .ok (.iadd, 1) := by decide +kernel
theorem dX7_put_27 : decode cX7_put 27 = .ok (.putfield 22, 3) := by decide +kernel
theorem dX7_put_30 : decode cX7_put 30 = .ok (.return_, 1) := by decide +kernel
theorem dX8_init_0 : decode cX8_init 0 = .ok (.aload_n 0, 1) := by decide +kernel
theorem dX8_init_1 : decode cX8_init 1 = .ok (.invokespecial 3, 3) := by decide +kernel
theorem dX8_init_4 : decode cX8_init 4 = .ok (.aload_n 0, 1) := by decide +kernel
theorem dX8_init_5 : decode cX8_init 5 = .ok (.sipush 192, 3) := by decide +kernel
theorem dX8_init_8 : decode cX8_init 8 = .ok (.newarray .int, 2) := by decide +kernel
theorem dX8_init_10 : decode cX8_init 10 = .ok (.putfield 9, 3) := by decide +kernel
theorem dX8_init_13 : decode cX8_init 13 = .ok (.aload_n 0, 1) := by decide +kernel
theorem dX8_init_14 : decode cX8_init 14 = .ok (.sipush 192, 3) := by decide +kernel
theorem dX8_init_17 : decode cX8_init 17 = .ok (.newarray .int, 2) := by decide +kernel
theorem dX8_init_19 : decode cX8_init 19 = .ok (.putfield 15, 3) := by decide +kernel
theorem dX8_init_22 : decode cX8_init 22 = .ok (.aload_n 0, 1) := by decide +kernel
theorem dX8_init_23 : decode cX8_init 23 = .ok (.sipush 192, 3) := by decide +kernel
theorem dX8_init_26 : decode cX8_init 26 = .ok (.newarray .int, 2) := by decide +kernel
theorem dX8_init_28 : decode cX8_init 28 = .ok (.putfield 18, 3) := by decide +kernel
theorem dX8_init_31 : decode cX8_init 31 = .ok (.aload_n 0, 1) := by decide +kernel
theorem dX8_init_32 : decode cX8_init 32 = .ok (.sipush 192, 3) := by decide +kernel
theorem dX8_init_35 : decode cX8_init 35 = .ok (.newarray .int, 2) := by decide +kernel
theorem dX8_init_37 : decode cX8_init 37 = .ok (.putfield 21, 3) := by decide +kernel
theorem dX8_init_40 : decode cX8_init 40 = .ok (.aload_n 0, 1) := by decide +kernel
theorem dX8_init_41 : decode cX8_init 41 = .ok (.sipush 192, 3) := by decide +kernel
theorem dX8_init_44 : decode cX8_init 44 = .ok (.newarray .int, 2) := by decide +kernel
theorem dX8_init_46 : decode cX8_init 46 = .ok (.putfield 24, 3) := by decide +kernel
theorem dX8_init_49 : decode cX8_init 49 = .ok (.aload_n 0, 1) := by decide +kernel
theorem dX8_init_50 : decode cX8_init 50 = .ok (.aload_n 1, 1) := by decide +kernel
theorem dX8_init_51 : decode cX8_init 51 = .ok (.putfield 27, 3) := by decide +kernel
theorem dX8_init_54 : decode cX8_init 54 = .ok (.aload_n 0, 1) := by decide +kernel
theorem dX8_init_55 : decode cX8_init 55 = .ok (.aload_n 2, 1) := by decide +kernel
theorem dX8_init_56 : decode cX8_init 56 = .ok (.putfield 31, 3) := by decide +kernel
theorem dX8_init_59 : decode cX8_init 59 = .ok (.aload_n 0, 1) := by decide +kernel
theorem dX8_init_60 : decode cX8_init 60 = .ok (.aload_n 3, 1) := by decide +kernel
theorem dX8_init_61 : decode cX8_init 61 = .ok (.putfield 35, 3) := by decide +kernel
theorem dX8_init_64 : decode cX8_init 64 = .ok (.return_, 1) := by decide +kernel
theorem dX8_regionAt_0 : decode cX8_regionAt 0 = .ok (.iload_n 1, 1) := by decide +kernel
theorem dX8_regionAt_1 : decode cX8_regionAt 1 = .ok (.invokestatic 39, 3) := by decide +kernel
theorem dX8_regionAt_4 : decode cX8_regionAt 4 = .ok (.ifCond .eq 12, 3) := by decide +kernel
theorem dX8_regionAt_7 : decode cX8_regionAt 7 = .ok (.aload_n 0, 1) := by decide +kernel
theorem dX8_regionAt_8 : decode cX8_regionAt 8 = .ok (.getfield 9, 3) := by decide +kernel
theorem dX8_regionAt_11 : decode cX8_regionAt 11 = .ok (.iload_n 1, 1) := by decide +kernel
theorem dX8_regionAt_12 : decode cX8_regionAt 12 = .ok (.iaload, 1) := by decide +kernel
theorem dX8_regionAt_13 : decode cX8_regionAt 13 = .ok (.goto 4, 3) := by decide +kernel
theorem dX8_regionAt_16 : decode cX8_regionAt 16 = .ok (.iconst (-1), 1) := by decide +kernel
theorem dX8_regionAt_17 : decode cX8_regionAt 17 = .ok (.ireturn, 1) := by decide +kernel
theorem dX8_takerAt_0 : decode cX8_takerAt 0 = .ok (.iload_n 1, 1) := by decide +kernel
theorem dX8_takerAt_1 : decode cX8_takerAt 1 = .ok (.invokestatic 39, 3) := by decide +kernel
theorem dX8_takerAt_4 : decode cX8_takerAt 4 = .ok (.ifCond .eq 12, 3) := by decide +kernel
theorem dX8_takerAt_7 : decode cX8_takerAt 7 = .ok (.aload_n 0, 1) := by decide +kernel
theorem dX8_takerAt_8 : decode cX8_takerAt 8 = .ok (.getfield 15, 3) := by decide +kernel
theorem dX8_takerAt_11 : decode cX8_takerAt 11 = .ok (.iload_n 1, 1) := by decide +kernel
theorem dX8_takerAt_12 : decode cX8_takerAt 12 = .ok (.iaload, 1) := by decide +kernel
theorem dX8_takerAt_13 : decode cX8_takerAt 13 = .ok (.goto 4, 3) := by decide +kernel
theorem dX8_takerAt_16 : decode cX8_takerAt 16 = .ok (.iconst (-1), 1) := by decide +kernel
theorem dX8_takerAt_17 : decode cX8_takerAt 17 = .ok (.ireturn, 1) := by decide +kernel
theorem dX8_hairsBy_0 : decode cX8_hairsBy 0 = .ok (.iload_n 1, 1) := by decide +kernel
theorem dX8_hairsBy_1 : decode cX8_hairsBy 1 = .ok (.invokestatic 39, 3) := by decide +kernel
theorem dX8_hairsBy_4 : decode cX8_hairsBy 4 = .ok (.ifCond .eq 12, 3) := by decide +kernel
theorem dX8_hairsBy_7 : decode cX8_hairsBy 7 = .ok (.aload_n 0, 1) := by decide +kernel
theorem dX8_hairsBy_8 : decode cX8_hairsBy 8 = .ok (.getfield 21, 3) := by decide +kernel
theorem dX8_hairsBy_11 : decode cX8_hairsBy 11 = .ok (.iload_n 1, 1) := by decide +kernel
theorem dX8_hairsBy_12 : decode cX8_hairsBy 12 = .ok (.iaload, 1) := by decide +kernel
theorem dX8_hairsBy_13 : decode cX8_hairsBy 13 = .ok (.goto 4, 3) := by decide +kernel
theorem dX8_hairsBy_16 : decode cX8_hairsBy 16 = .ok (.iconst 0, 1) := by decide +kernel
theorem dX8_hairsBy_17 : decode cX8_hairsBy 17 = .ok (.ireturn, 1) := by decide +kernel
theorem dX8_settle_0 : decode cX8_settle 0 = .ok (.aload_n 0, 1) := by decide +kernel
theorem dX8_settle_1 : decode cX8_settle 1 = .ok (.invokevirtual 43, 3) := by decide +kernel
theorem dX8_settle_4 : decode cX8_settle 4 = .ok (.aload_n 0, 1) := by decide +kernel
theorem dX8_settle_5 : decode cX8_settle 5 = .ok (.invokevirtual 46, 3) := by decide +kernel
theorem dX8_settle_8 : decode cX8_settle 8 = .ok (.aload_n 0, 1) := by decide +kernel
theorem dX8_settle_9 : decode cX8_settle 9 = .ok (.invokevirtual 49, 3) := by decide +kernel
theorem dX8_settle_12 : decode cX8_settle 12 = .ok (.return_, 1) := by decide +kernel
theorem dX8_nameRegions_0 : decode cX8_nameRegions 0 = .ok (.aload_n 0, 1) := by decide +kernel
theorem dX8_nameRegions_1 : decode cX8_nameRegions 1 = .ok (.getfield 9, 3) := by decide +kernel
theorem dX8_nameRegions_4 : decode cX8_nameRegions 4 = .ok (.iconst (-1), 1) := by decide +kernel
theorem dX8_nameRegions_5 : decode cX8_nameRegions 5 = .ok (.invokestatic 52, 3) := by decide +kernel
theorem dX8_nameRegions_8 : decode cX8_nameRegions 8 = .ok (.aload_n 0, 1) := by decide +kernel
theorem dX8_nameRegions_9 : decode cX8_nameRegions 9 = .ok (.iconst 0, 1) := by decide +kernel
theorem dX8_nameRegions_10 : decode cX8_nameRegions 10 = .ok (.putfield 58, 3) := by decide +kernel
theorem dX8_nameRegions_13 : decode cX8_nameRegions 13 = .ok (.iconst 0, 1) := by decide +kernel
theorem dX8_nameRegions_14 : decode cX8_nameRegions 14 = .ok (.istore_n 1, 1) := by decide +kernel
theorem dX8_nameRegions_15 : decode cX8_nameRegions 15 = .ok (.iload_n 1, 1) := by decide +kernel
theorem dX8_nameRegions_16 : decode cX8_nameRegions 16 = .ok (.sipush 192, 3) := by decide +kernel
theorem dX8_nameRegions_19 : decode cX8_nameRegions 19 = .ok (.if_icmp .ge 45, 3) := by decide +kernel
theorem dX8_nameRegions_22 : decode cX8_nameRegions 22 = .ok (.aload_n 0, 1) := by decide +kernel
theorem dX8_nameRegions_23 : decode cX8_nameRegions 23 = .ok (.getfield 9, 3) := by decide +kernel
theorem dX8_nameRegions_26 : decode cX8_nameRegions 26 = .ok (.iload_n 1, 1) := by decide +kernel
theorem dX8_nameRegions_27 : decode cX8_nameRegions 27 = .ok (.iaload, 1) := by decide +kernel
theorem dX8_nameRegions_28 : decode cX8_nameRegions 28 = .ok (.iconst (-1), 1) := by decide +kernel
theorem dX8_nameRegions_29 : decode cX8_nameRegions 29 = .ok (.if_icmp .ne 29, 3) := by decide +kernel
theorem dX8_nameRegions_32 : decode cX8_nameRegions 32 = .ok (.aload_n 0, 1) := by decide +kernel
theorem dX8_nameRegions_33 : decode cX8_nameRegions 33 = .ok (.getfield 27, 3) := by decide +kernel
theorem dX8_nameRegions_36 : decode cX8_nameRegions 36 = .ok (.iload_n 1, 1) := by decide +kernel
theorem dX8_nameRegions_37 : decode cX8_nameRegions 37 = .ok (.invokevirtual 62, 3) := by decide +kernel
theorem dX8_nameRegions_40 : decode cX8_nameRegions 40 = .ok (.ifCond .eq 18, 3) := by decide +kernel
theorem dX8_nameRegions_43 : decode cX8_nameRegions 43 = .ok (.aload_n 0, 1) := by decide +kernel
theorem dX8_nameRegions_44 : decode cX8_nameRegions 44 = .ok (.iload_n 1, 1) := by decide +kernel
theorem dX8_nameRegions_45 : decode cX8_nameRegions 45 = .ok (.invokevirtual 67, 3) := by decide +kernel
theorem dX8_nameRegions_48 : decode cX8_nameRegions 48 = .ok (.aload_n 0, 1) := by decide +kernel
theorem dX8_nameRegions_49 : decode cX8_nameRegions 49 = .ok (.dup, 1) := by decide +kernel
theorem dX8_nameRegions_50 : decode cX8_nameRegions 50 = .ok (.getfield 58, 3) := by decide +kernel
theorem dX8_nameRegions_53 : decode cX8_nameRegions 53 = .ok (.iconst 1, 1) := by decide +kernel
theorem dX8_nameRegions_54 : decode cX8_nameRegions 54 = .ok (.iadd, 1) := by decide +kernel
theorem dX8_nameRegions_55 : decode cX8_nameRegions 55 = .ok (.putfield 58, 3) := by decide +kernel
theorem dX8_nameRegions_58 : decode cX8_nameRegions 58 = .ok (.iinc 1 1, 3) := by decide +kernel
theorem dX8_nameRegions_61 : decode cX8_nameRegions 61 = .ok (.goto (-46), 3) := by decide +kernel
theorem dX8_nameRegions_64 : decode cX8_nameRegions 64 = .ok (.return_, 1) := by decide +kernel
theorem dX8_nameRegion_0 : decode cX8_nameRegion 0 = .ok (.aload_n 0, 1) := by decide +kernel
theorem dX8_nameRegion_1 : decode cX8_nameRegion 1 = .ok (.iconst 0, 1) := by decide +kernel
theorem dX8_nameRegion_2 : decode cX8_nameRegion 2 = .ok (.putfield 71, 3) := by decide +kernel
theorem dX8_nameRegion_5 : decode cX8_nameRegion 5 = .ok (.aload_n 0, 1) := by decide +kernel
theorem dX8_nameRegion_6 : decode cX8_nameRegion 6 = .ok (.iload_n 1, 1) := by decide +kernel
theorem dX8_nameRegion_7 : decode cX8_nameRegion 7 = .ok (.iload_n 1, 1) := by decide +kernel
theorem dX8_nameRegion_8 : decode cX8_nameRegion 8 = .ok (.invokevirtual 74, 3) := by decide +kernel
theorem dX8_nameRegion_11 : decode cX8_nameRegion 11 = .ok (.iconst 0, 1) := by decide +kernel
theorem dX8_nameRegion_12 : decode cX8_nameRegion 12 = .ok (.istore_n 2, 1) := by decide +kernel
theorem dX8_nameRegion_13 : decode cX8_nameRegion 13 = .ok (.iload_n 2, 1) := by decide +kernel
theorem dX8_nameRegion_14 : decode cX8_nameRegion 14 = .ok (.aload_n 0, 1) := by decide +kernel
theorem dX8_nameRegion_15 : decode cX8_nameRegion 15 = .ok (.getfield 71, 3) := by decide +kernel
theorem dX8_nameRegion_18 : decode cX8_nameRegion 18 = .ok (.if_icmp .ge 45, 3) := by decide +kernel
theorem dX8_nameRegion_21 : decode cX8_nameRegion 21 = .ok (.iload_n 2, 1) := by decide +kernel
theorem dX8_nameRegion_22 : decode cX8_nameRegion 22 = .ok (.sipush 192, 3) := by decide +kernel
theorem dX8_nameRegion_25 : decode cX8_nameRegion 25 = .ok (.if_icmp .ge 38, 3) := by decide +kernel
theorem dX8_nameRegion_28 : decode cX8_nameRegion 28 = .ok (.iconst 0, 1) := by decide +kernel
theorem dX8_nameRegion_29 : decode cX8_nameRegion 29 = .ok (.istore_n 3, 1) := by decide +kernel
theorem dX8_nameRegion_30 : decode cX8_nameRegion 30 = .ok (.iload_n 3, 1) := by decide +kernel
theorem dX8_nameRegion_31 : decode cX8_nameRegion 31 = .ok (.iconst 4, 1) := by decide +kernel
theorem dX8_nameRegion_32 : decode cX8_nameRegion 32 = .ok (.if_icmp .ge 25, 3) := by decide +kernel
theorem dX8_nameRegion_35 : decode cX8_nameRegion 35 = .ok (.aload_n 0, 1) := by decide +kernel
theorem dX8_nameRegion_36 : decode cX8_nameRegion 36 = .ok (.aload_n 0, 1) := by decide +kernel
theorem dX8_nameRegion_37 : decode cX8_nameRegion 37 = .ok (.aload_n 0, 1) := by decide +kernel
theorem dX8_nameRegion_38 : decode cX8_nameRegion 38 = .ok (.getfield 24, 3) := by decide +kernel
theorem dX8_nameRegion_41 : decode cX8_nameRegion 41 = .ok (.iload_n 2, 1) := by decide +kernel
theorem dX8_nameRegion_42 : decode cX8_nameRegion 42 = .ok (.iaload, 1) := by decide +kernel
theorem dX8_nameRegion_43 : decode cX8_nameRegion 43 = .ok (.iload_n 3, 1) := by decide +kernel
theorem dX8_nameRegion_44 : decode cX8_nameRegion 44 = .ok (.invokevirtual 78, 3) := by decide +kernel
theorem dX8_nameRegion_47 : decode cX8_nameRegion 47 = .ok (.iload_n 1, 1) := by decide +kernel
theorem dX8_nameRegion_48 : decode cX8_nameRegion 48 = .ok (.invokevirtual 74, 3) := by decide +kernel
theorem dX8_nameRegion_51 : decode cX8_nameRegion 51 = .ok (.iinc 3 1, 3) := by decide +kernel
theorem dX8_nameRegion_54 : decode cX8_nameRegion 54 = .ok (.goto (-24), 3) := by decide +kernel
theorem dX8_nameRegion_57 : decode cX8_nameRegion 57 = .ok (.iinc 2 1, 3) := by decide +kernel
theorem dX8_nameRegion_60 : decode cX8_nameRegion 60 = .ok (.goto (-47), 3) := by decide +kernel
theorem dX8_nameRegion_63 : decode cX8_nameRegion 63 = .ok (.return_, 1) := by decide +kernel
theorem dX8_spreadName_0 : decode cX8_spreadName 0 = .ok (.iload_n 1, 1) := by decide +kernel
theorem dX8_spreadName_1 : decode cX8_spreadName 1 = .ok (.invokestatic 39, 3) := by decide +kernel
theorem dX8_spreadName_4 : decode cX8_spreadName 4 = .ok (.ifCond .eq 25, 3) := by decide +kernel
theorem dX8_spreadName_7 : decode cX8_spreadName 7 = .ok (.aload_n 0, 1) := by decide +kernel
theorem dX8_spreadName_8 : decode cX8_spreadName 8 = .ok (.getfield 9, 3) := by decide +kernel
theorem dX8_spreadName_11 : decode cX8_spreadName 11 = .ok (.iload_n 1, 1) := by decide +kernel
theorem dX8_spreadName_12 : decode cX8_spreadName 12 = .ok (.iaload, 1) := by decide +kernel
theorem dX8_spreadName_13 : decode cX8_spreadName 13 = .ok (.iconst (-1), 1) := by decide +kernel
theorem dX8_spreadName_14 : decode cX8_spreadName 14 = .ok (.if_icmp .ne 15, 3) := by decide +kernel
theorem dX8_spreadName_17 : decode cX8_spreadName 17 = .ok (.aload_n 0, 1) := by decide +kernel
theorem dX8_spreadName_18 : decode cX8_spreadName 18 = .ok (.getfield 9, 3) := by decide +kernel
theorem dX8_spreadName_21 : decode cX8_spreadName 21 = .ok (.iload_n 1, 1) := by decide +kernel
theorem dX8_spreadName_22 : decode cX8_spreadName 22 = .ok (.iload_n 2, 1) := by decide +kernel
theorem dX8_spreadName_23 : decode cX8_spreadName 23 = .ok (.iastore, 1) := by decide +kernel
theorem dX8_spreadName_24 : decode cX8_spreadName 24 = .ok (.aload_n 0, 1) := by decide +kernel
theorem dX8_spreadName_25 : decode cX8_spreadName 25 = .ok (.iload_n 1, 1) := by decide +kernel
theorem dX8_spreadName_26 : decode cX8_spreadName 26 = .ok (.invokevirtual 82, 3) := by decide +kernel
theorem dX8_spreadName_29 : decode cX8_spreadName 29 = .ok (.return_, 1) := by decide +kernel
theorem dX8_takeHair_0 : decode cX8_takeHair 0 = .ok (.aload_n 0, 1) := by decide +kernel
theorem dX8_takeHair_1 : decode cX8_takeHair 1 = .ok (.getfield 18, 3) := by decide +kernel
theorem dX8_takeHair_4 : decode cX8_takeHair 4 = .ok (.iconst (-1), 1) := by decide +kernel
theorem dX8_takeHair_5 : decode cX8_takeHair 5 = .ok (.invokestatic 52, 3) := by decide +kernel
theorem dX8_takeHair_8 : decode cX8_takeHair 8 = .ok (.aload_n 0, 1) := by decide +kernel
theorem dX8_takeHair_9 : decode cX8_takeHair 9 = .ok (.iconst 0, 1) := by decide +kernel
theorem dX8_takeHair_10 : decode cX8_takeHair 10 = .ok (.putfield 71, 3) := by decide +kernel
theorem dX8_takeHair_13 : decode cX8_takeHair 13 = .ok (.iconst 0, 1) := by decide +kernel
theorem dX8_takeHair_14 : decode cX8_takeHair 14 = .ok (.istore_n 1, 1) := by decide +kernel
theorem dX8_takeHair_15 : decode cX8_takeHair 15 = .ok (.iload_n 1, 1) := by decide +kernel
theorem dX8_takeHair_16 : decode cX8_takeHair 16 = .ok (.sipush 192, 3) := by decide +kernel
theorem dX8_takeHair_19 : decode cX8_takeHair 19 = .ok (.if_icmp .ge 67, 3) := by decide +kernel
theorem dX8_takeHair_22 : decode cX8_takeHair 22 = .ok (.aload_n 0, 1) := by decide +kernel
theorem dX8_takeHair_23 : decode cX8_takeHair 23 = .ok (.getfield 15, 3) := by decide +kernel
theorem dX8_takeHair_26 : decode cX8_takeHair 26 = .ok (.iload_n 1, 1) := by decide +kernel
theorem dX8_takeHair_27 : decode cX8_takeHair 27 = .ok (.aload_n 0, 1) := by decide +kernel
theorem dX8_takeHair_28 : decode cX8_takeHair 28 = .ok (.getfield 35, 3) := by decide +kernel
theorem dX8_takeHair_31 : decode cX8_takeHair 31 = .ok (.iload_n 1, 1) := by decide +kernel
theorem dX8_takeHair_32 : decode cX8_takeHair 32 = .ok (.invokevirtual 85, 3) := by decide +kernel
theorem dX8_takeHair_35 : decode cX8_takeHair 35 = .ok (.iastore, 1) := by decide +kernel
theorem dX8_takeHair_36 : decode cX8_takeHair 36 = .ok (.aload_n 0, 1) := by decide +kernel
theorem dX8_takeHair_37 : decode cX8_takeHair 37 = .ok (.getfield 15, 3) := by decide +kernel
theorem dX8_takeHair_40 : decode cX8_takeHair 40 = .ok (.iload_n 1, 1) := by decide +kernel
theorem dX8_takeHair_41 : decode cX8_takeHair 41 = .ok (.iaload, 1) := by decide +kernel
theorem dX8_takeHair_42 : decode cX8_takeHair 42 = .ok (.iconst (-1), 1) := by decide +kernel
theorem dX8_takeHair_43 : decode cX8_takeHair 43 = .ok (.if_icmp .eq 18, 3) := by decide +kernel
theorem dX8_takeHair_46 : decode cX8_takeHair 46 = .ok (.aload_n 0, 1) := by decide +kernel
theorem dX8_takeHair_47 : decode cX8_takeHair 47 = .ok (.getfield 18, 3) := by decide +kernel
theorem dX8_takeHair_50 : decode cX8_takeHair 50 = .ok (.iload_n 1, 1) := by decide +kernel
theorem dX8_takeHair_51 : decode cX8_takeHair 51 = .ok (.iconst 0, 1) := by decide +kernel
theorem dX8_takeHair_52 : decode cX8_takeHair 52 = .ok (.iastore, 1) := by decide +kernel
theorem dX8_takeHair_53 : decode cX8_takeHair 53 = .ok (.aload_n 0, 1) := by decide +kernel
theorem dX8_takeHair_54 : decode cX8_takeHair 54 = .ok (.iload_n 1, 1) := by decide +kernel
theorem dX8_takeHair_55 : decode cX8_takeHair 55 = .ok (.invokevirtual 82, 3) := by decide +kernel
theorem dX8_takeHair_58 : decode cX8_takeHair 58 = .ok (.goto 22, 3) := by decide +kernel
theorem dX8_takeHair_61 : decode cX8_takeHair 61 = .ok (.aload_n 0, 1) := by decide +kernel
theorem dX8_takeHair_62 : decode cX8_takeHair 62 = .ok (.getfield 27, 3) := by decide +kernel
theorem dX8_takeHair_65 : decode cX8_takeHair 65 = .ok (.iload_n 1, 1) := by decide +kernel
theorem dX8_takeHair_66 : decode cX8_takeHair 66 = .ok (.invokevirtual 62, 3) := by decide +kernel
theorem dX8_takeHair_69 : decode cX8_takeHair 69 = .ok (.ifCond .eq 11, 3) := by decide +kernel
theorem dX8_takeHair_72 : decode cX8_takeHair 72 = .ok (.aload_n 0, 1) := by decide +kernel
theorem dX8_takeHair_73 : decode cX8_takeHair 73 = .ok (.getfield 15, 3) := by decide +kernel
theorem dX8_takeHair_76 : decode cX8_takeHair 76 = .ok (.iload_n 1, 1) := by decide +kernel
theorem dX8_takeHair_77 : decode cX8_takeHair 77 = .ok (.bipush (-2), 2) := by decide +kernel
theorem dX8_takeHair_79 : decode cX8_takeHair 79 = .ok (.iastore, 1) := by decide +kernel
theorem dX8_takeHair_80 : decode cX8_takeHair 80 = .ok (.iinc 1 1, 3) := by decide +kernel
theorem dX8_takeHair_83 : decode cX8_takeHair 83 = .ok (.goto (-68), 3) := by decide +kernel
theorem dX8_takeHair_86 : decode cX8_takeHair 86 = .ok (.iconst 0, 1) := by decide +kernel
theorem dX8_takeHair_87 : decode cX8_takeHair 87 = .ok (.istore_n 1, 1) := by decide +kernel
theorem dX8_takeHair_88 : decode cX8_takeHair 88 = .ok (.iload_n 1, 1) := by decide +kernel
theorem dX8_takeHair_89 : decode cX8_takeHair 89 = .ok (.aload_n 0, 1) := by decide +kernel
theorem dX8_takeHair_90 : decode cX8_takeHair 90 = .ok (.getfield 71, 3) := by decide +kernel
theorem dX8_takeHair_93 : decode cX8_takeHair 93 = .ok (.if_icmp .ge 50, 3) := by decide +kernel
theorem dX8_takeHair_96 : decode cX8_takeHair 96 = .ok (.iload_n 1, 1) := by decide +kernel
theorem dX8_takeHair_97 : decode cX8_takeHair 97 = .ok (.sipush 192, 3) := by decide +kernel
theorem dX8_takeHair_100 : decode cX8_takeHair 100 = .ok (.if_icmp .ge 43, 3) := by decide +kernel
theorem dX8_takeHair_103 : decode cX8_takeHair 103 = .ok (.iconst 0, 1) := by decide +kernel
theorem dX8_takeHair_104 : decode cX8_takeHair 104 = .ok (.istore_n 2, 1) := by decide +kernel
theorem dX8_takeHair_105 : decode cX8_takeHair 105 = .ok (.iload_n 2, 1) := by decide +kernel
theorem dX8_takeHair_106 : decode cX8_takeHair 106 = .ok (.iconst 4, 1) := by decide +kernel
theorem dX8_takeHair_107 : decode cX8_takeHair 107 = .ok (.if_icmp .ge 30, 3) := by decide +kernel
theorem dX8_takeHair_110 : decode cX8_takeHair 110 = .ok (.aload_n 0, 1) := by decide +kernel
theorem dX8_takeHair_111 : decode cX8_takeHair 111 = .ok (.aload_n 0, 1) := by decide +kernel
theorem dX8_takeHair_112 : decode cX8_takeHair 112 = .ok (.getfield 24, 3) := by decide +kernel
theorem dX8_takeHair_115 : decode cX8_takeHair 115 = .ok (.iload_n 1, 1) := by decide +kernel
theorem dX8_takeHair_116 : decode cX8_takeHair 116 = .ok (.iaload, 1) := by decide +kernel
theorem dX8_takeHair_117 : decode cX8_takeHair 117 = .ok (.aload_n 0, 1) := by decide +kernel
theorem dX8_takeHair_118 : decode cX8_takeHair 118 = .ok (.aload_n 0, 1) := by decide +kernel
theorem dX8_takeHair_119 : decode cX8_takeHair 119 = .ok (.getfield 24, 3) := by decide +kernel
theorem dX8_takeHair_122 : decode cX8_takeHair 122 = .ok (.iload_n 1, 1) := by decide +kernel
theorem dX8_takeHair_123 : decode cX8_takeHair 123 = .ok (.iaload, 1) := by decide +kernel
theorem dX8_takeHair_124 : decode cX8_takeHair 124 = .ok (.iload_n 2, 1) := by decide +kernel
theorem dX8_takeHair_125 : decode cX8_takeHair 125 = .ok (.invokevirtual 78, 3) := by decide +kernel
theorem dX8_takeHair_128 : decode cX8_takeHair 128 = .ok (.invokevirtual 91, 3) := by decide +kernel
theorem dX8_takeHair_131 : decode cX8_takeHair 131 = .ok (.iinc 2 1, 3) := by decide +kernel
theorem dX8_takeHair_134 : decode cX8_takeHair 134 = .ok (.goto (-29), 3) := by decide +kernel
theorem dX8_takeHair_137 : decode cX8_takeHair 137 = .ok (.iinc 1 1, 3) := by decide +kernel
theorem dX8_takeHair_140 : decode cX8_takeHair 140 = .ok (.goto (-52), 3) := by decide +kernel
theorem dX8_takeHair_143 : decode cX8_takeHair 143 = .ok (.return_, 1) := by decide +kernel
theorem dX8_spreadTaker_0 : decode cX8_spreadTaker 0 = .ok (.iload_n 1, 1) := by decide +kernel
theorem dX8_spreadTaker_1 : decode cX8_spreadTaker 1 = .ok (.invokestatic 39, 3) := by decide +kernel
theorem dX8_spreadTaker_4 : decode cX8_spreadTaker 4 = .ok (.ifCond .eq 10, 3) := by decide +kernel
theorem dX8_spreadTaker_7 : decode cX8_spreadTaker 7 = .ok (.iload_n 2, 1) := by decide +kernel
theorem dX8_spreadTaker_8 : decode cX8_spreadTaker 8 = .ok (.invokestatic 39, 3) := by decide +kernel
theorem dX8_spreadTaker_11 : decode cX8_spreadTaker 11 = .ok (.ifCond .ne 4, 3) := by decide +kernel
theorem dX8_spreadTaker_14 : decode cX8_spreadTaker 14 = .ok (.return_, 1) := by decide +kernel
theorem dX8_spreadTaker_15 : decode cX8_spreadTaker 15 = .ok (.aload_n 0, 1) := by decide +kernel
theorem dX8_spreadTaker_16 : decode cX8_spreadTaker 16 = .ok (.getfield 18, 3) := by decide +kernel
theorem dX8_spreadTaker_19 : decode cX8_spreadTaker 19 = .ok (.iload_n 2, 1) := by decide +kernel
theorem dX8_spreadTaker_20 : decode cX8_spreadTaker 20 = .ok (.iaload, 1) := by decide +kernel
theorem dX8_spreadTaker_21 : decode cX8_spreadTaker 21 = .ok (.iconst (-1), 1) := by decide +kernel
theorem dX8_spreadTaker_22 : decode cX8_spreadTaker 22 = .ok (.if_icmp .ne 37, 3) := by decide +kernel
theorem dX8_spreadTaker_25 : decode cX8_spreadTaker 25 = .ok (.aload_n 0, 1) := by decide +kernel
theorem dX8_spreadTaker_26 : decode cX8_spreadTaker 26 = .ok (.getfield 18, 3) := by decide +kernel
theorem dX8_spreadTaker_29 : decode cX8_spreadTaker 29 = .ok (.iload_n 2, 1) := by decide +kernel
theorem dX8_spreadTaker_30 : decode cX8_spreadTaker 30 = .ok (.aload_n 0, 1) := by decide +kernel
theorem dX8_spreadTaker_31 : decode cX8_spreadTaker 31 = .ok (.getfield 18, 3) := by decide +kernel
theorem dX8_spreadTaker_34 : decode cX8_spreadTaker 34 = .ok (.iload_n 1, 1) := by decide +kernel
theorem dX8_spreadTaker_35 : decode cX8_spreadTaker 35 = .ok (.iaload, 1) := by decide +kernel
theorem dX8_spreadTaker_36 : decode cX8_spreadTaker 36 = .ok (.iconst 1, 1) := by decide +kernel
theorem dX8_spreadTaker_37 : decode cX8_spreadTaker 37 = .ok (.iadd, 1) := by decide +kernel
theorem dX8_spreadTaker_38 : decode cX8_spreadTaker 38 = .ok (.iastore, 1) := by decide +kernel
theorem dX8_spreadTaker_39 : decode cX8_spreadTaker 39 = .ok (.aload_n 0, 1) := by decide +kernel
theorem dX8_spreadTaker_40 : decode cX8_spreadTaker 40 = .ok (.getfield 15, 3) := by decide +kernel
theorem dX8_spreadTaker_43 : decode cX8_spreadTaker 43 = .ok (.iload_n 2, 1) := by decide +kernel
theorem dX8_spreadTaker_44 : decode cX8_spreadTaker 44 = .ok (.aload_n 0, 1) := by decide +kernel
theorem dX8_spreadTaker_45 : decode cX8_spreadTaker 45 = .ok (.getfield 15, 3) := by decide +kernel
theorem dX8_spreadTaker_48 : decode cX8_spreadTaker 48 = .ok (.iload_n 1, 1) := by decide +kernel
theorem dX8_spreadTaker_49 : decode cX8_spreadTaker 49 = .ok (.iaload, 1) := by decide +kernel
theorem dX8_spreadTaker_50 : decode cX8_spreadTaker 50 = .ok (.iastore, 1) := by decide +kernel
theorem dX8_spreadTaker_51 : decode cX8_spreadTaker 51 = .ok (.aload_n 0, 1) := by decide +kernel
theorem dX8_spreadTaker_52 : decode cX8_spreadTaker 52 = .ok (.iload_n 2, 1) := by decide +kernel
theorem dX8_spreadTaker_53 : decode cX8_spreadTaker 53 = .ok (.invokevirtual 82, 3) := by decide +kernel
theorem dX8_spreadTaker_56 : decode cX8_spreadTaker 56 = .ok (.goto 47, 3) := by decide +kernel
theorem dX8_spreadTaker_59 : decode cX8_spreadTaker 59 = .ok (.aload_n 0, 1) := by decide +kernel
theorem dX8_spreadTaker_60 : decode cX8_spreadTaker 60 = .ok (.getfield 18, 3) := by decide +kernel
theorem dX8_spreadTaker_63 : decode cX8_spreadTaker 63 = .ok (.iload_n 2, 1) := by decide +kernel
theorem dX8_spreadTaker_64 : decode cX8_spreadTaker 64 = .ok (.iaload, 1) := by decide +kernel
theorem dX8_spreadTaker_65 : decode cX8_spreadTaker 65 = .ok (.aload_n 0, 1) := by decide +kernel
theorem dX8_spreadTaker_66 : decode cX8_spreadTaker 66 = .ok (.getfield 18, 3) := by decide +kernel
theorem dX8_spreadTaker_69 : decode cX8_spreadTaker 69 = .ok (.iload_n 1, 1) := by decide +kernel
theorem dX8_spreadTaker_70 : decode cX8_spreadTaker 70 = .ok (.iaload, 1) := by decide +kernel
theorem dX8_spreadTaker_71 : decode cX8_spreadTaker 71 = .ok (.iconst 1, 1) := by decide +kernel
theorem dX8_spreadTaker_72 : decode cX8_spreadTaker 72 = .ok (.iadd, 1) := by decide +kernel
theorem dX8_spreadTaker_73 : decode cX8_spreadTaker 73 = .ok (.if_icmp .ne 30, 3) := by decide +kernel
theorem dX8_spreadTaker_76 : decode cX8_spreadTaker 76 = .ok (.aload_n 0, 1) := by decide +kernel
theorem dX8_spreadTaker_77 : decode cX8_spreadTaker 77 = .ok (.getfield 15, 3) := by decide +kernel
theorem dX8_spreadTaker_80 : decode cX8_spreadTaker 80 = .ok (.iload_n 1, 1) := by decide +kernel
theorem dX8_spreadTaker_81 : decode cX8_spreadTaker 81 = .ok (.iaload, 1) := by decide +kernel
theorem dX8_spreadTaker_82 : decode cX8_spreadTaker 82 = .ok (.aload_n 0, 1) := by decide +kernel
theorem dX8_spreadTaker_83 : decode cX8_spreadTaker 83 = .ok (.getfield 15, 3) := by decide +kernel
theorem dX8_spreadTaker_86 : decode cX8_spreadTaker 86 = .ok (.iload_n 2, 1) := by decide +kernel
theorem dX8_spreadTaker_87 : decode cX8_spreadTaker 87 = .ok (.iaload, 1) := by decide +kernel
theorem dX8_spreadTaker_88 : decode cX8_spreadTaker 88 = .ok (.if_icmp .ge 15, 3) := by decide +kernel
theorem dX8_spreadTaker_91 : decode cX8_spreadTaker 91 = .ok (.aload_n 0, 1) := by decide +kernel
theorem dX8_spreadTaker_92 : decode cX8_spreadTaker 92 = .ok (.getfield 15, 3) := by decide +kernel
theorem dX8_spreadTaker_95 : decode cX8_spreadTaker 95 = .ok (.iload_n 2, 1) := by decide +kernel
theorem dX8_spreadTaker_96 : decode cX8_spreadTaker 96 = .ok (.aload_n 0, 1) := by decide +kernel
theorem dX8_spreadTaker_97 : decode cX8_spreadTaker 97 = .ok (.getfield 15, 3) := by decide +kernel
theorem dX8_spreadTaker_100 : decode cX8_spreadTaker 100 = .ok (.iload_n 1, 1) := by decide +kernel
theorem dX8_spreadTaker_101 : decode cX8_spreadTaker 101 = .ok (.iaload, 1) := by decide +kernel
theorem dX8_spreadTaker_102 : decode cX8_spreadTaker 102 = .ok (.iastore, 1) := by decide +kernel
theorem dX8_spreadTaker_103 : decode cX8_spreadTaker 103 = .ok (.return_, 1) := by decide +kernel
theorem dX8_sumHair_0 : decode cX8_sumHair 0 = .ok (.aload_n 0, 1) := by decide +kernel
theorem dX8_sumHair_1 : decode cX8_sumHair 1 = .ok (.getfield 21, 3) := by decide +kernel
theorem dX8_sumHair_4 : decode cX8_sumHair 4 = .ok (.iconst 0, 1) := by decide +kernel
theorem dX8_sumHair_5 : decode cX8_sumHair 5 = .ok (.invokestatic 52, 3) := by decide +kernel
theorem dX8_sumHair_8 : decode cX8_sumHair 8 = .ok (.aload_n 0, 1) := by decide +kernel
theorem dX8_sumHair_9 : decode cX8_sumHair 9 = .ok (.iconst 0, 1) := by decide +kernel
theorem dX8_sumHair_10 : decode cX8_sumHair 10 = .ok (.putfield 94, 3) := by decide +kernel
theorem dX8_sumHair_13 : decode cX8_sumHair 13 = .ok (.iconst 0, 1) := by decide +kernel
theorem dX8_sumHair_14 : decode cX8_sumHair 14 = .ok (.istore_n 1, 1) := by decide +kernel
theorem dX8_sumHair_15 : decode cX8_sumHair 15 = .ok (.iload_n 1, 1) := by decide +kernel
theorem dX8_sumHair_16 : decode cX8_sumHair 16 = .ok (.sipush 192, 3) := by decide +kernel
theorem dX8_sumHair_19 : decode cX8_sumHair 19 = .ok (.if_icmp .ge 61, 3) := by decide +kernel
theorem dX8_sumHair_22 : decode cX8_sumHair 22 = .ok (.aload_n 0, 1) := by decide +kernel
theorem dX8_sumHair_23 : decode cX8_sumHair 23 = .ok (.getfield 15, 3) := by decide +kernel
theorem dX8_sumHair_26 : decode cX8_sumHair 26 = .ok (.iload_n 1, 1) := by decide +kernel
theorem dX8_sumHair_27 : decode cX8_sumHair 27 = .ok (.iaload, 1) := by decide +kernel
theorem dX8_sumHair_28 : decode cX8_sumHair 28 = .ok (.bipush (-2), 2) := by decide +kernel
theorem dX8_sumHair_30 : decode cX8_sumHair 30 = .ok (.if_icmp .ne 16, 3) := by decide +kernel
theorem dX8_sumHair_33 : decode cX8_sumHair 33 = .ok (.aload_n 0, 1) := by decide +kernel
theorem dX8_sumHair_34 : decode cX8_sumHair 34 = .ok (.dup, 1) := by decide +kernel
theorem dX8_sumHair_35 : decode cX8_sumHair 35 = .ok (.getfield 94, 3) := by decide +kernel
theorem dX8_sumHair_38 : decode cX8_sumHair 38 = .ok (.iconst 1, 1) := by decide +kernel
theorem dX8_sumHair_39 : decode cX8_sumHair 39 = .ok (.iadd, 1) := by decide +kernel
theorem dX8_sumHair_40 : decode cX8_sumHair 40 = .ok (.putfield 94, 3) := by decide +kernel
theorem dX8_sumHair_43 : decode cX8_sumHair 43 = .ok (.goto 31, 3) := by decide +kernel
theorem dX8_sumHair_46 : decode cX8_sumHair 46 = .ok (.aload_n 0, 1) := by decide +kernel
theorem dX8_sumHair_47 : decode cX8_sumHair 47 = .ok (.getfield 15, 3) := by decide +kernel
theorem dX8_sumHair_50 : decode cX8_sumHair 50 = .ok (.iload_n 1, 1) := by decide +kernel
theorem dX8_sumHair_51 : decode cX8_sumHair 51 = .ok (.iaload, 1) := by decide +kernel
theorem dX8_sumHair_52 : decode cX8_sumHair 52 = .ok (.iconst (-1), 1) := by decide +kernel
theorem dX8_sumHair_53 : decode cX8_sumHair 53 = .ok (.if_icmp .eq 21, 3) := by decide +kernel
theorem dX8_sumHair_56 : decode cX8_sumHair 56 = .ok (.aload_n 0, 1) := by decide +kernel
theorem dX8_sumHair_57 : decode cX8_sumHair 57 = .ok (.aload_n 0, 1) := by decide +kernel
theorem dX8_sumHair_58 : decode cX8_sumHair 58 = .ok (.getfield 15, 3) := by decide +kernel
theorem dX8_sumHair_61 : decode cX8_sumHair 61 = .ok (.iload_n 1, 1) := by decide +kernel
theorem dX8_sumHair_62 : decode cX8_sumHair 62 = .ok (.iaload, 1) := by decide +kernel
theorem dX8_sumHair_63 : decode cX8_sumHair 63 = .ok (.aload_n 0, 1) := by decide +kernel
theorem dX8_sumHair_64 : decode cX8_sumHair 64 = .ok (.getfield 27, 3) := by decide +kernel
theorem dX8_sumHair_67 : decode cX8_sumHair 67 = .ok (.iload_n 1, 1) := by decide +kernel
theorem dX8_sumHair_68 : decode cX8_sumHair 68 = .ok (.invokevirtual 97, 3) := by decide +kernel
theorem dX8_sumHair_71 : decode cX8_sumHair 71 = .ok (.invokevirtual 100, 3) := by decide +kernel
theorem dX8_sumHair_74 : decode cX8_sumHair 74 = .ok (.iinc 1 1, 3) := by decide +kernel
theorem dX8_sumHair_77 : decode cX8_sumHair 77 = .ok (.goto (-62), 3) := by decide +kernel
theorem dX8_sumHair_80 : decode cX8_sumHair 80 = .ok (.return_, 1) := by decide +kernel
theorem dX8_addHair_0 : decode cX8_addHair 0 = .ok (.aload_n 0, 1) := by decide +kernel
theorem dX8_addHair_1 : decode cX8_addHair 1 = .ok (.getfield 35, 3) := by decide +kernel
theorem dX8_addHair_4 : decode cX8_addHair 4 = .ok (.iload_n 1, 1) := by decide +kernel
theorem dX8_addHair_5 : decode cX8_addHair 5 = .ok (.sipush 200, 3) := by decide +kernel
theorem dX8_addHair_8 : decode cX8_addHair 8 = .ok (.idiv, 1) := by decide +kernel
theorem dX8_addHair_9 : decode cX8_addHair 9 = .ok (.iload_n 1, 1) := by decide +kernel
theorem dX8_addHair_10 : decode cX8_addHair 10 = .ok (.sipush 200, 3) := by decide +kernel
theorem dX8_addHair_13 : decode cX8_addHair 13 = .ok (.irem, 1) := by decide +kernel
theorem dX8_addHair_14 : decode cX8_addHair 14 = .ok (.invokevirtual 103, 3) := by decide +kernel
theorem dX8_addHair_17 : decode cX8_addHair 17 = .ok (.istore_n 3, 1) := by decide +kernel
theorem dX8_addHair_18 : decode cX8_addHair 18 = .ok (.iload_n 3, 1) := by decide +kernel
theorem dX8_addHair_19 : decode cX8_addHair 19 = .ok (.invokestatic 39, 3) := by decide +kernel
theorem dX8_addHair_22 : decode cX8_addHair 22 = .ok (.ifCond .eq 13, 3) := by decide +kernel
theorem dX8_addHair_25 : decode cX8_addHair 25 = .ok (.aload_n 0, 1) := by decide +kernel
theorem dX8_addHair_26 : decode cX8_addHair 26 = .ok (.getfield 21, 3) := by decide +kernel
theorem dX8_addHair_29 : decode cX8_addHair 29 = .ok (.iload_n 3, 1) := by decide +kernel
theorem dX8_addHair_30 : decode cX8_addHair 30 = .ok (.dup2, 1) := by decide +kernel
theorem dX8_addHair_31 : decode cX8_addHair 31 = .ok (.iaload, 1) := by decide +kernel
theorem dX8_addHair_32 : decode cX8_addHair 32 = .ok (.iload_n 2, 1) := by decide +kernel
theorem dX8_addHair_33 : decode cX8_addHair 33 = .ok (.iadd, 1) := by decide +kernel
theorem dX8_addHair_34 : decode cX8_addHair 34 = .ok (.iastore, 1) := by decide +kernel
theorem dX8_addHair_35 : decode cX8_addHair 35 = .ok (.return_, 1) := by decide +kernel
theorem dX8_openBeside_0 : decode cX8_openBeside 0 = .ok (.iload_n 1, 1) := by decide +kernel
theorem dX8_openBeside_1 : decode cX8_openBeside 1 = .ok (.iload_n 2, 1) := by decide +kernel
theorem dX8_openBeside_2 : decode cX8_openBeside 2 = .ok (.invokestatic 106, 3) := by decide +kernel
theorem dX8_openBeside_5 : decode cX8_openBeside 5 = .ok (.istore_n 3, 1) := by decide +kernel
theorem dX8_openBeside_6 : decode cX8_openBeside 6 = .ok (.aload_n 0, 1) := by decide +kernel
theorem dX8_openBeside_7 : decode cX8_openBeside 7 = .ok (.getfield 27, 3) := by decide +kernel
theorem dX8_openBeside_10 : decode cX8_openBeside 10 = .ok (.iload_n 3, 1) := by decide +kernel
theorem dX8_openBeside_11 : decode cX8_openBeside 11 = .ok (.invokevirtual 62, 3) := by decide +kernel
theorem dX8_openBeside_14 : decode cX8_openBeside 14 = .ok (.ifCond .eq 19, 3) := by decide +kernel
theorem dX8_openBeside_17 : decode cX8_openBeside 17 = .ok (.aload_n 0, 1) := by decide +kernel
theorem dX8_openBeside_18 : decode cX8_openBeside 18 = .ok (.getfield 31, 3) := by decide +kernel
theorem dX8_openBeside_21 : decode cX8_openBeside 21 = .ok (.iload_n 1, 1) := by decide +kernel
theorem dX8_openBeside_22 : decode cX8_openBeside 22 = .ok (.iload_n 2, 1) := by decide +kernel
theorem dX8_openBeside_23 : decode cX8_openBeside 23 = .ok (.invokevirtual 109, 3) := by decide +kernel
theorem dX8_openBeside_26 : decode cX8_openBeside 26 = .ok (.ifCond .ne 7, 3) := by decide +kernel
theorem dX8_openBeside_29 : decode cX8_openBeside 29 = .ok (.iload_n 3, 1) := by decide +kernel
theorem dX8_openBeside_30 : decode cX8_openBeside 30 = .ok (.goto 4, 3) := by decide +kernel
theorem dX8_openBeside_33 : decode cX8_openBeside 33 = .ok (.iconst (-1), 1) := by decide +kernel
theorem dX8_openBeside_34 : decode cX8_openBeside 34 = .ok (.ireturn, 1) := by decide +kernel
theorem dX8_push_0 : decode cX8_push 0 = .ok (.aload_n 0, 1) := by decide +kernel
theorem dX8_push_1 : decode cX8_push 1 = .ok (.getfield 71, 3) := by decide +kernel
theorem dX8_push_4 : decode cX8_push 4 = .ok (.sipush 192, 3) := by decide +kernel
theorem dX8_push_7 : decode cX8_push 7 = .ok (.if_icmp .ge 23, 3) := by decide +kernel
theorem dX8_push_10 : decode cX8_push 10 = .ok (.aload_n 0, 1) := by decide +kernel
theorem dX8_push_11 : decode cX8_push 11 = .ok (.getfield 24, 3) := by decide +kernel
theorem dX8_push_14 : decode cX8_push 14 = .ok (.aload_n 0, 1) := by decide +kernel
theorem dX8_push_15 : decode cX8_push 15 = .ok (.getfield 71, 3) := by decide +kernel
theorem dX8_push_18 : decode cX8_push 18 = .ok (.iload_n 1, 1) := by decide +kernel
theorem dX8_push_19 : decode cX8_push 19 = .ok (.iastore, 1) := by decide +kernel
theorem dX8_push_20 : decode cX8_push 20 = .ok (.aload_n 0, 1) := by decide +kernel
theorem dX8_push_21 : decode cX8_push 21 = .ok (.dup, 1) := by decide +kernel
theorem dX8_push_22 : decode cX8_push 22 = .ok (.getfield 71, 3) := by decide +kernel
theorem dX8_push_25 : decode cX8_push 25 = .ok (.iconst 1, 1) := by decide +kernel
theorem dX8_push_26 : decode cX8_push 26 = .ok (.iadd, 1) := by decide +kernel
theorem dX8_push_27 : decode cX8_push 27 = .ok (.putfield 71, 3) := by decide +kernel
theorem dX8_push_30 : decode cX8_push 30 = .ok (.return_, 1) := by decide +kernel
theorem dX9_init_0 : decode cX9_init 0 = .ok (.aload_n 0, 1) := by decide +kernel
theorem dX9_init_1 : decode cX9_init 1 = .ok (.invokespecial 3, 3) := by decide +kernel
theorem dX9_init_4 : decode cX9_init 4 = .ok (.aload_n 0, 1) := by decide +kernel
theorem dX9_init_5 : decode cX9_init 5 = .ok (.sipush 1000, 3) := by decide +kernel
theorem dX9_init_8 : decode cX9_init 8 = .ok (.newarray .char, 2) := by decide +kernel
theorem dX9_init_10 : decode cX9_init 10 = .ok (.putfield 9, 3) := by decide +kernel
theorem dX9_init_13 : decode cX9_init 13 = .ok (.aload_n 0, 1) := by decide +kernel
theorem dX9_init_14 : decode cX9_init 14 = .ok (.iconst 0, 1) := by decide +kernel
theorem dX9_init_15 : decode cX9_init 15 = .ok (.putfield 15, 3) := by decide +kernel
theorem dX9_init_18 : decode cX9_init 18 = .ok (.return_, 1) := by decide +kernel
theorem dX9_clear_0 : decode cX9_clear 0 = .ok (.aload_n 0, 1) := by decide +kernel
theorem dX9_clear_1 : decode cX9_clear 1 = .ok (.iconst 0, 1) := by decide +kernel
theorem dX9_clear_2 : decode cX9_clear 2 = .ok (.putfield 15, 3) := by decide +kernel
theorem dX9_clear_5 : decode cX9_clear 5 = .ok (.return_, 1) := by decide +kernel
theorem dX9_putSigns_0 : decode cX9_putSigns 0 = .ok (.bipush 56, 2) := by decide +kernel
theorem dX9_putSigns_2 : decode cX9_putSigns 2 = .ok (.istore_n 3, 1) := by decide +kernel
theorem dX9_putSigns_3 : decode cX9_putSigns 3 = .ok (.iload_n 3, 1) := by decide +kernel
theorem dX9_putSigns_4 : decode cX9_putSigns 4 = .ok (.ifCond .lt 84, 3) := by decide +kernel
theorem dX9_putSigns_7 : decode cX9_putSigns 7 = .ok (.lload_n 1, 1) := by decide +kernel
theorem dX9_putSigns_8 : decode cX9_putSigns 8 = .ok (.iload_n 3, 1) := by decide +kernel
theorem dX9_putSigns_9 : decode cX9_putSigns 9 = .ok (.lushr, 1) := by decide +kernel
theorem dX9_putSigns_10 : decode cX9_putSigns 10 = .ok (.l2i, 1) := by decide +kernel
theorem dX9_putSigns_11 : decode cX9_putSigns 11 = .ok (.sipush 255, 3) := by decide +kernel
theorem dX9_putSigns_14 : decode cX9_putSigns 14 = .ok (.iand, 1) := by decide +kernel
theorem dX9_putSigns_15 : decode cX9_putSigns 15 = .ok (.istore 4, 2) := by decide +kernel
theorem dX9_putSigns_17 : decode cX9_putSigns 17 = .ok (.iload 4, 2) := by decide +kernel
theorem dX9_putSigns_19 : decode cX9_putSigns 19 = .ok (.bipush 10, 2) := by decide +kernel
theorem dX9_putSigns_21 : decode cX9_putSigns 21 = .ok (.if_icmp .eq 17, 3) := by decide +kernel
theorem dX9_putSigns_24 : decode cX9_putSigns 24 = .ok (.iload 4, 2) := by decide +kernel
theorem dX9_putSigns_26 : decode cX9_putSigns 26 = .ok (.bipush 32, 2) := by decide +kernel
theorem dX9_putSigns_28 : decode cX9_putSigns 28 = .ok (.if_icmp .lt 14, 3) := by decide +kernel
theorem dX9_putSigns_31 : decode cX9_putSigns 31 = .ok (.iload 4, 2) := by decide +kernel
theorem dX9_putSigns_33 : decode cX9_putSigns 33 = .ok (.bipush 126, 2) := by decide +kernel
theorem dX9_putSigns_35 : decode cX9_putSigns 35 = .ok (.if_icmp .gt 7, 3) := by decide +kernel
theorem dX9_putSigns_38 : decode cX9_putSigns 38 = .ok (.iconst 1, 1) := by decide +kernel
theorem dX9_putSigns_39 : decode cX9_putSigns 39 = .ok (.goto 4, 3) := by decide +kernel
theorem dX9_putSigns_42 : decode cX9_putSigns 42 = .ok (.iconst 0, 1) := by decide +kernel
theorem dX9_putSigns_43 : decode cX9_putSigns 43 = .ok (.istore 5, 2) := by decide +kernel
theorem dX9_putSigns_45 : decode cX9_putSigns 45 = .ok (.iload 5, 2) := by decide +kernel
theorem dX9_putSigns_47 : decode cX9_putSigns 47 = .ok (.ifCond .eq 35, 3) := by decide +kernel
theorem dX9_putSigns_50 : decode cX9_putSigns 50 = .ok (.aload_n 0, 1) := by decide +kernel
theorem dX9_putSigns_51 : decode cX9_putSigns 51 = .ok (.getfield 15, 3) := by decide +kernel
theorem dX9_putSigns_54 : decode cX9_putSigns 54 = .ok (.sipush 1000, 3) := by decide +kernel
theorem dX9_putSigns_57 : decode cX9_putSigns 57 = .ok (.if_icmp .ge 25, 3) := by decide +kernel
theorem dX9_putSigns_60 : decode cX9_putSigns 60 = .ok (.aload_n 0, 1) := by decide +kernel
theorem dX9_putSigns_61 : decode cX9_putSigns 61 = .ok (.getfield 9, 3) := by decide +kernel
theorem dX9_putSigns_64 : decode cX9_putSigns 64 = .ok (.aload_n 0, 1) := by decide +kernel
theorem dX9_putSigns_65 : decode cX9_putSigns 65 = .ok (.getfield 15, 3) := by decide +kernel
theorem dX9_putSigns_68 : decode cX9_putSigns 68 = .ok (.iload 4, 2) := by decide +kernel
theorem dX9_putSigns_70 : decode cX9_putSigns 70 = .ok (.i2c, 1) := by decide +kernel
theorem dX9_putSigns_71 : decode cX9_putSigns 71 = .ok (.castore, 1) := by decide +kernel
theorem dX9_putSigns_72 : decode cX9_putSigns 72 = .ok (.aload_n 0, 1) := by decide +kernel
theorem dX9_putSigns_73 : decode cX9_putSigns 73 = .ok (.dup, 1) := by decide +kernel
theorem dX9_putSigns_74 : decode cX9_putSigns 74 = .ok (.getfield 15, 3) := by decide +kernel
theorem dX9_putSigns_77 : decode cX9_putSigns 77 = .ok (.iconst 1, 1) := by decide +kernel
theorem dX9_putSigns_78 : decode cX9_putSigns 78 = .ok (.iadd, 1) := by decide +kernel
theorem dX9_putSigns_79 : decode cX9_putSigns 79 = .ok (.putfield 15, 3) := by decide +kernel
theorem dX9_putSigns_82 : decode cX9_putSigns 82 = .ok (.iinc 3 (-8), 3) := by decide +kernel
theorem dX9_putSigns_85 : decode cX9_putSigns 85 = .ok (.goto (-82), 3) := by decide +kernel
theorem dX9_putSigns_88 : decode cX9_putSigns 88 = .ok (.return_, 1) := by decide +kernel
theorem dX9_rewind_0 : decode cX9_rewind 0 = .ok (.aload_n 0, 1) := by decide +kernel
theorem dX9_rewind_1 : decode cX9_rewind 1 = .ok (.iconst 0, 1) := by decide +kernel
theorem dX9_rewind_2 : decode cX9_rewind 2 = .ok (.putfield 19, 3) := by decide +kernel
theorem dX9_rewind_5 : decode cX9_rewind 5 = .ok (.aload_n 0, 1) := by decide +kernel
theorem dX9_rewind_6 : decode cX9_rewind 6 = .ok (.invokevirtual 22, 3) := by decide +kernel
theorem dX9_rewind_9 : decode cX9_rewind 9 = .ok (.return_, 1) := by decide +kernel
theorem dX9_next_0 : decode cX9_next 0 = .ok (.aload_n 0, 1) := by decide +kernel
theorem dX9_next_1 : decode cX9_next 1 = .ok (.getfield 19, 3) := by decide +kernel
theorem dX9_next_4 : decode cX9_next 4 = .ok (.aload_n 0, 1) := by decide +kernel
theorem dX9_next_5 : decode cX9_next 5 = .ok (.getfield 15, 3) := by decide +kernel
theorem dX9_next_8 : decode cX9_next 8 = .ok (.if_icmp .ge 30, 3) := by decide +kernel
theorem dX9_next_11 : decode cX9_next 11 = .ok (.aload_n 0, 1) := by decide +kernel
theorem dX9_next_12 : decode cX9_next 12 = .ok (.aload_n 0, 1) := by decide +kernel
theorem dX9_next_13 : decode cX9_next 13 = .ok (.getfield 19, 3) := by decide +kernel
theorem dX9_next_16 : decode cX9_next 16 = .ok (.invokevirtual 25, 3) := by decide +kernel
theorem dX9_next_19 : decode cX9_next 19 = .ok (.invokestatic 29, 3) := by decide +kernel
theorem dX9_next_22 : decode cX9_next 22 = .ok (.ifCond .eq 16, 3) := by decide +kernel
theorem dX9_next_25 : decode cX9_next 25 = .ok (.aload_n 0, 1) := by decide +kernel
theorem dX9_next_26 : decode cX9_next 26 = .ok (.dup, 1) := by decide +kernel
theorem dX9_next_27 : decode cX9_next 27 = .ok (.getfield 19, 3) := by decide +kernel
theorem dX9_next_30 : decode cX9_next 30 = .ok (.iconst 1, 1) := by decide +kernel
theorem dX9_next_31 : decode cX9_next 31 = .ok (.iadd, 1) := by decide +kernel
theorem dX9_next_32 : decode cX9_next 32 = .ok (.putfield 19, 3) := by decide +kernel
theorem dX9_next_35 : decode cX9_next 35 = .ok (.goto (-35), 3) := by decide +kernel
theorem dX9_next_38 : decode cX9_next 38 = .ok (.aload_n 0, 1) := by decide +kernel
theorem dX9_next_39 : decode cX9_next 39 = .ok (.aload_n 0, 1) := by decide +kernel
theorem dX9_next_40 : decode cX9_next 40 = .ok (.getfield 19, 3) := by decide +kernel
theorem dX9_next_43 : decode cX9_next 43 = .ok (.putfield 33, 3) := by decide +kernel
theorem dX9_next_46 : decode cX9_next 46 = .ok (.aload_n 0, 1) := by decide +kernel
theorem dX9_next_47 : decode cX9_next 47 = .ok (.aload_n 0, 1) := by decide +kernel
theorem dX9_next_48 : decode cX9_next 48 = .ok (.getfield 19, 3) := by decide +kernel
theorem dX9_next_51 : decode cX9_next 51 = .ok (.invokevirtual 25, 3) := by decide +kernel
theorem dX9_next_54 : decode cX9_next 54 = .ok (.istore_n 1, 1) := by decide +kernel
theorem dX9_next_55 : decode cX9_next 55 = .ok (.aload_n 0, 1) := by decide +kernel
theorem dX9_next_56 : decode cX9_next 56 = .ok (.getfield 19, 3) := by decide +kernel
theorem dX9_next_59 : decode cX9_next 59 = .ok (.aload_n 0, 1) := by decide +kernel
theorem dX9_next_60 : decode cX9_next 60 = .ok (.getfield 15, 3) := by decide +kernel
theorem dX9_next_63 : decode cX9_next 63 = .ok (.if_icmp .lt 12, 3) := by decide +kernel
theorem dX9_next_66 : decode cX9_next 66 = .ok (.aload_n 0, 1) := by decide +kernel
theorem dX9_next_67 : decode cX9_next 67 = .ok (.bipush 12, 2) := by decide +kernel
theorem dX9_next_69 : decode cX9_next 69 = .ok (.putfield 36, 3) := by decide +kernel
theorem dX9_next_72 : decode cX9_next 72 = .ok (.goto 80, 3) := by decide +kernel
theorem dX9_next_75 : decode cX9_next 75 = .ok (.iload_n 1, 1) := by decide +kernel
theorem dX9_next_76 : decode cX9_next 76 = .ok (.invokestatic 39, 3) := by decide +kernel
theorem dX9_next_79 : decode cX9_next 79 = .ok (.ifCond .eq 10, 3) := by decide +kernel
theorem dX9_next_82 : decode cX9_next 82 = .ok (.aload_n 0, 1) := by decide +kernel
theorem dX9_next_83 : decode cX9_next 83 = .ok (.invokevirtual 42, 3) := by decide +kernel
theorem dX9_next_86 : decode cX9_next 86 = .ok (.goto 66, 3) := by decide +kernel
theorem dX9_next_89 : decode cX9_next 89 = .ok (.iload_n 1, 1) := by decide +kernel
theorem dX9_next_90 : decode cX9_next 90 = .ok (.invokestatic 45, 3) := by decide +kernel
theorem dX9_next_93 : decode cX9_next 93 = .ok (.ifCond .eq 10, 3) := by decide +kernel
theorem dX9_next_96 : decode cX9_next 96 = .ok (.aload_n 0, 1) := by decide +kernel
theorem dX9_next_97 : decode cX9_next 97 = .ok (.invokevirtual 48, 3) := by decide +kernel
theorem dX9_next_100 : decode cX9_next 100 = .ok (.goto 52, 3) := by decide +kernel
theorem dX9_next_103 : decode cX9_next 103 = .ok (.aload_n 0, 1) := by decide +kernel
theorem dX9_next_104 : decode cX9_next 104 = .ok (.dup, 1) := by decide +kernel
theorem dX9_next_105 : decode cX9_next 105 = .ok (.getfield 19, 3) := by decide +kernel
theorem dX9_next_108 : decode cX9_next 108 = .ok (.iconst 1, 1) := by decide +kernel
theorem dX9_next_109 : decode cX9_next 109 = .ok (.iadd, 1) := by decide +kernel
theorem dX9_next_110 : decode cX9_next 110 = .ok (.putfield 19, 3) := by decide +kernel
theorem dX9_next_113 : decode cX9_next 113 = .ok (.aload_n 0, 1) := by decide +kernel
theorem dX9_next_114 : decode cX9_next 114 = .ok (.iload_n 1, 1) := by decide +kernel
theorem dX9_next_115 : decode cX9_next 115 = .ok (.bipush 40, 2) := by decide +kernel
theorem dX9_next_117 : decode cX9_next 117 = .ok (.if_icmp .ne 8, 3) := by decide +kernel
theorem dX9_next_120 : decode cX9_next 120 = .ok (.bipush 9, 2) := by decide +kernel
theorem dX9_next_122 : decode cX9_next 122 = .ok (.goto 27, 3) := by decide +kernel
theorem dX9_next_125 : decode cX9_next 125 = .ok (.iload_n 1, 1) := by decide +kernel
theorem dX9_next_126 : decode cX9_next 126 = .ok (.bipush 41, 2) := by decide +kernel
theorem dX9_next_128 : decode cX9_next 128 = .ok (.if_icmp .ne 8, 3) := by decide +kernel
theorem dX9_next_131 : decode cX9_next 131 = .ok (.bipush 10, 2) := by decide +kernel
theorem dX9_next_133 : decode cX9_next 133 = .ok (.goto 16, 3) := by decide +kernel
theorem dX9_next_136 : decode cX9_next 136 = .ok (.iload_n 1, 1) := by decide +kernel
theorem dX9_next_137 : decode cX9_next 137 = .ok (.bipush 59, 2) := by decide +kernel
theorem dX9_next_139 : decode cX9_next 139 = .ok (.if_icmp .ne 8, 3) := by decide +kernel
theorem dX9_next_142 : decode cX9_next 142 = .ok (.bipush 11, 2) := by decide +kernel
theorem dX9_next_144 : decode cX9_next 144 = .ok (.goto 5, 3) := by decide +kernel
theorem dX9_next_147 : decode cX9_next 147 = .ok (.bipush 13, 2) := by decide +kernel
theorem dX9_next_149 : decode cX9_next 149 = .ok (.putfield 36, 3) := by decide +kernel
theorem dX9_next_152 : decode cX9_next 152 = .ok (.return_, 1) := by decide +kernel
theorem dX9_readNumber_0 : decode cX9_readNumber 0 = .ok (.aload_n 0, 1) := by decide +kernel
theorem dX9_readNumber_1 : decode cX9_readNumber 1 = .ok (.iconst 0, 1) := by decide +kernel
theorem dX9_readNumber_2 : decode cX9_readNumber 2 = .ok (.putfield 51, 3) := by decide +kernel
theorem dX9_readNumber_5 : decode cX9_readNumber 5 = .ok (.aload_n 0, 1) := by decide +kernel
theorem dX9_readNumber_6 : decode cX9_readNumber 6 = .ok (.getfield 19, 3) := by decide +kernel
theorem dX9_readNumber_9 : decode cX9_readNumber 9 = .ok (.aload_n 0, 1) := by decide +kernel
theorem dX9_readNumber_10 : decode cX9_readNumber 10 = .ok (.getfield 15, 3) := by decide +kernel
theorem dX9_readNumber_13 : decode cX9_readNumber 13 = .ok (.if_icmp .ge 53, 3) := by decide +kernel
theorem dX9_readNumber_16 : decode cX9_readNumber 16 = .ok (.aload_n 0, 1) := by decide +kernel
theorem dX9_readNumber_17 : decode cX9_readNumber 17 = .ok (.aload_n 0, 1) := by decide +kernel
theorem dX9_readNumber_18 : decode cX9_readNumber 18 = .ok (.getfield 19, 3) := by decide +kernel
theorem dX9_readNumber_21 : decode cX9_readNumber 21 = .ok (.invokevirtual 25, 3) := by decide +kernel
theorem dX9_readNumber_24 : decode cX9_readNumber 24 = .ok (.invokestatic 45, 3) := by decide +kernel
theorem dX9_readNumber_27 : decode cX9_readNumber 27 = .ok (.ifCond .eq 39, 3) := by decide +kernel
theorem dX9_readNumber_30 : decode cX9_readNumber 30 = .ok (.aload_n 0, 1) := by decide +kernel
theorem dX9_readNumber_31 : decode cX9_readNumber 31 = .ok (.bipush 10, 2) := by decide +kernel
theorem dX9_readNumber_33 : decode cX9_readNumber 33 = .ok (.aload_n 0, 1) := by decide +kernel
theorem dX9_readNumber_34 : decode cX9_readNumber 34 = .ok (.getfield 51, 3) := by decide +kernel
theorem dX9_readNumber_37 : decode cX9_readNumber 37 = .ok (.imul, 1) := by decide +kernel
theorem dX9_readNumber_38 : decode cX9_readNumber 38 = .ok (.aload_n 0, 1) := by decide +kernel
theorem dX9_readNumber_39 : decode cX9_readNumber 39 = .ok (.aload_n 0, 1) := by decide +kernel
theorem dX9_readNumber_40 : decode cX9_readNumber 40 = .ok (.getfield 19, 3) := by decide +kernel
theorem dX9_readNumber_43 : decode cX9_readNumber 43 = .ok (.invokevirtual 25, 3) := by decide +kernel
theorem dX9_readNumber_46 : decode cX9_readNumber 46 = .ok (.iadd, 1) := by decide +kernel
theorem dX9_readNumber_47 : decode cX9_readNumber 47 = .ok (.bipush 48, 2) := by decide +kernel
theorem dX9_readNumber_49 : decode cX9_readNumber 49 = .ok (.isub, 1) := by decide +kernel
theorem dX9_readNumber_50 : decode cX9_readNumber 50 = .ok (.putfield 51, 3) := by decide +kernel
theorem dX9_readNumber_53 : decode cX9_readNumber 53 = .ok (.aload_n 0, 1) := by decide +kernel
theorem dX9_readNumber_54 : decode cX9_readNumber 54 = .ok (.dup, 1) := by decide +kernel
theorem dX9_readNumber_55 : decode cX9_readNumber 55 = .ok (.getfield 19, 3) := by decide +kernel
theorem dX9_readNumber_58 : decode cX9_readNumber 58 = .ok (.iconst 1, 1) := by decide +kernel
theorem dX9_readNumber_59 : decode cX9_readNumber 59 = .ok (.iadd, 1) := by decide +kernel
theorem dX9_readNumber_60 : decode cX9_readNumber 60 = .ok (.putfield 19, 3) := by decide +kernel
theorem dX9_readNumber_63 : decode cX9_readNumber 63 = .ok (.goto (-58), 3) := by decide +kernel
theorem dX9_readNumber_66 : decode cX9_readNumber 66 = .ok (.aload_n 0, 1) := by decide +kernel
theorem dX9_readNumber_67 : decode cX9_readNumber 67 = .ok (.aload_n 0, 1) := by decide +kernel
theorem dX9_readNumber_68 : decode cX9_readNumber 68 = .ok (.getfield 19, 3) := by decide +kernel
theorem dX9_readNumber_71 : decode cX9_readNumber 71 = .ok (.aload_n 0, 1) := by decide +kernel
theorem dX9_readNumber_72 : decode cX9_readNumber 72 = .ok (.getfield 33, 3) := by decide +kernel
theorem dX9_readNumber_75 : decode cX9_readNumber 75 = .ok (.isub, 1) := by decide +kernel
theorem dX9_readNumber_76 : decode cX9_readNumber 76 = .ok (.iconst 2, 1) := by decide +kernel
theorem dX9_readNumber_77 : decode cX9_readNumber 77 = .ok (.if_icmp .le 8, 3) := by decide +kernel
theorem dX9_readNumber_80 : decode cX9_readNumber 80 = .ok (.bipush 13, 2) := by decide +kernel
theorem dX9_readNumber_82 : decode cX9_readNumber 82 = .ok (.goto 5, 3) := by decide +kernel
theorem dX9_readNumber_85 : decode cX9_readNumber 85 = .ok (.bipush 8, 2) := by decide +kernel
theorem dX9_readNumber_87 : decode cX9_readNumber 87 = .ok (.putfield 36, 3) := by decide +kernel
theorem dX9_readNumber_90 : decode cX9_readNumber 90 = .ok (.return_, 1) := by decide +kernel
theorem dX9_readWord_0 : decode cX9_readWord 0 = .ok (.aload_n 0, 1) := by decide +kernel
theorem dX9_readWord_1 : decode cX9_readWord 1 = .ok (.getfield 19, 3) := by decide +kernel
theorem dX9_readWord_4 : decode cX9_readWord 4 = .ok (.aload_n 0, 1) := by decide +kernel
theorem dX9_readWord_5 : decode cX9_readWord 5 = .ok (.getfield 15, 3) := by decide +kernel
theorem dX9_readWord_8 : decode cX9_readWord 8 = .ok (.if_icmp .ge 30, 3) := by decide +kernel
theorem dX9_readWord_11 : decode cX9_readWord 11 = .ok (.aload_n 0, 1) := by decide +kernel
theorem dX9_readWord_12 : decode cX9_readWord 12 = .ok (.aload_n 0, 1) := by decide +kernel
theorem dX9_readWord_13 : decode cX9_readWord 13 = .ok (.getfield 19, 3) := by decide +kernel
theorem dX9_readWord_16 : decode cX9_readWord 16 = .ok (.invokevirtual 25, 3) := by decide +kernel
theorem dX9_readWord_19 : decode cX9_readWord 19 = .ok (.invokestatic 39, 3) := by decide +kernel
theorem dX9_readWord_22 : decode cX9_readWord 22 = .ok (.ifCond .eq 16, 3) := by decide +kernel
theorem dX9_readWord_25 : decode cX9_readWord 25 = .ok (.aload_n 0, 1) := by decide +kernel
theorem dX9_readWord_26 : decode cX9_readWord 26 = .ok (.dup, 1) := by decide +kernel
theorem dX9_readWord_27 : decode cX9_readWord 27 = .ok (.getfield 19, 3) := by decide +kernel
theorem dX9_readWord_30 : decode cX9_readWord 30 = .ok (.iconst 1, 1) := by decide +kernel
theorem dX9_readWord_31 : decode cX9_readWord 31 = .ok (.iadd, 1) := by decide +kernel
theorem dX9_readWord_32 : decode cX9_readWord 32 = .ok (.putfield 19, 3) := by decide +kernel
theorem dX9_readWord_35 : decode cX9_readWord 35 = .ok (.goto (-35), 3) := by decide +kernel
theorem dX9_readWord_38 : decode cX9_readWord 38 = .ok (.aload_n 0, 1) := by decide +kernel
theorem dX9_readWord_39 : decode cX9_readWord 39 = .ok (.ldc 54, 2) := by decide +kernel
theorem dX9_readWord_41 : decode cX9_readWord 41 = .ok (.invokevirtual 56, 3) := by decide +kernel
theorem dX9_readWord_44 : decode cX9_readWord 44 = .ok (.ifCond .eq 11, 3) := by decide +kernel
theorem dX9_readWord_47 : decode cX9_readWord 47 = .ok (.aload_n 0, 1) := by decide +kernel
theorem dX9_readWord_48 : decode cX9_readWord 48 = .ok (.iconst 0, 1) := by decide +kernel
theorem dX9_readWord_49 : decode cX9_readWord 49 = .ok (.putfield 36, 3) := by decide +kernel
theorem dX9_readWord_52 : decode cX9_readWord 52 = .ok (.goto 126, 3) := by decide +kernel
theorem dX9_readWord_55 : decode cX9_readWord 55 = .ok (.aload_n 0, 1) := by decide +kernel
theorem dX9_readWord_56 : decode cX9_readWord 56 = .ok (.ldc 60, 2) := by decide +kernel
theorem dX9_readWord_58 : decode cX9_readWord 58 = .ok (.invokevirtual 56, 3) := by decide +kernel
theorem dX9_readWord_61 : decode cX9_readWord 61 = .ok (.ifCond .eq 11, 3) := by decide +kernel
theorem dX9_readWord_64 : decode cX9_readWord 64 = .ok (.aload_n 0, 1) := by decide +kernel
theorem dX9_readWord_65 : decode cX9_readWord 65 = .ok (.iconst 1, 1) := by decide +kernel
theorem dX9_readWord_66 : decode cX9_readWord 66 = .ok (.putfield 36, 3) := by decide +kernel
theorem dX9_readWord_69 : decode cX9_readWord 69 = .ok (.goto 109, 3) := by decide +kernel
theorem dX9_readWord_72 : decode cX9_readWord 72 = .ok (.aload_n 0, 1) := by decide +kernel
theorem dX9_readWord_73 : decode cX9_readWord 73 = .ok (.ldc 62, 2) := by decide +kernel
theorem dX9_readWord_75 : decode cX9_readWord 75 = .ok (.invokevirtual 56, 3) := by decide +kernel
theorem dX9_readWord_78 : decode cX9_readWord 78 = .ok (.ifCond .eq 11, 3) := by decide +kernel
theorem dX9_readWord_81 : decode cX9_readWord 81 = .ok (.aload_n 0, 1) := by decide +kernel
theorem dX9_readWord_82 : decode cX9_readWord 82 = .ok (.iconst 2, 1) := by decide +kernel
theorem dX9_readWord_83 : decode cX9_readWord 83 = .ok (.putfield 36, 3) := by decide +kernel
theorem dX9_readWord_86 : decode cX9_readWord 86 = .ok (.goto 92, 3) := by decide +kernel
theorem dX9_readWord_89 : decode cX9_readWord 89 = .ok (.aload_n 0, 1) := by decide +kernel
theorem dX9_readWord_90 : decode cX9_readWord 90 = .ok (.ldc 64, 2) := by decide +kernel
theorem dX9_readWord_92 : decode cX9_readWord 92 = .ok (.invokevirtual 56, 3) := by decide +kernel
theorem dX9_readWord_95 : decode cX9_readWord 95 = .ok (.ifCond .eq 11, 3) := by decide +kernel
theorem dX9_readWord_98 : decode cX9_readWord 98 = .ok (.aload_n 0, 1) := by decide +kernel
theorem dX9_readWord_99 : decode cX9_readWord 99 = .ok (.iconst 3, 1) := by decide +kernel
theorem dX9_readWord_100 : decode cX9_readWord 100 = .ok (.putfield 36, 3) := by decide +kernel
theorem dX9_readWord_103 : decode cX9_readWord 103 = .ok (.goto 75, 3) := by decide +kernel
theorem dX9_readWord_106 : decode cX9_readWord 106 = .ok (.aload_n 0, 1) := by decide +kernel
theorem dX9_readWord_107 : decode cX9_readWord 107 = .ok (.ldc 66, 2) := by decide +kernel
theorem dX9_readWord_109 : decode cX9_readWord 109 = .ok (.invokevirtual 56, 3) := by decide +kernel
theorem dX9_readWord_112 : decode cX9_readWord 112 = .ok (.ifCond .eq 11, 3) := by decide +kernel
theorem dX9_readWord_115 : decode cX9_readWord 115 = .ok (.aload_n 0, 1) := by decide +kernel
theorem dX9_readWord_116 : decode cX9_readWord 116 = .ok (.iconst 4, 1) := by decide +kernel
theorem dX9_readWord_117 : decode cX9_readWord 117 = .ok (.putfield 36, 3) := by decide +kernel
theorem dX9_readWord_120 : decode cX9_readWord 120 = .ok (.goto 58, 3) := by decide +kernel
theorem dX9_readWord_123 : decode cX9_readWord 123 = .ok (.aload_n 0, 1) := by decide +kernel
theorem dX9_readWord_124 : decode cX9_readWord 124 = .ok (.ldc 68, 2) := by decide +kernel
theorem dX9_readWord_126 : decode cX9_readWord 126 = .ok (.invokevirtual 56, 3) := by decide +kernel
theorem dX9_readWord_129 : decode cX9_readWord 129 = .ok (.ifCond .eq 11, 3) := by decide +kernel
theorem dX9_readWord_132 : decode cX9_readWord 132 = .ok (.aload_n 0, 1) := by decide +kernel
theorem dX9_readWord_133 : decode cX9_readWord 133 = .ok (.iconst 5, 1) := by decide +kernel
theorem dX9_readWord_134 : decode cX9_readWord 134 = .ok (.putfield 36, 3) := by decide +kernel
theorem dX9_readWord_137 : decode cX9_readWord 137 = .ok (.goto 41, 3) := by decide +kernel
theorem dX9_readWord_140 : decode cX9_readWord 140 = .ok (.aload_n 0, 1) := by decide +kernel
theorem dX9_readWord_141 : decode cX9_readWord 141 = .ok (.ldc 70, 2) := by decide +kernel
theorem dX9_readWord_143 : decode cX9_readWord 143 = .ok (.invokevirtual 56, 3) := by decide +kernel
theorem dX9_readWord_146 : decode cX9_readWord 146 = .ok (.ifCond .eq 12, 3) := by decide +kernel
theorem dX9_readWord_149 : decode cX9_readWord 149 = .ok (.aload_n 0, 1) := by decide +kernel
theorem dX9_readWord_150 : decode cX9_readWord 150 = .ok (.bipush 6, 2) := by decide +kernel
theorem dX9_readWord_152 : decode cX9_readWord 152 = .ok (.putfield 36, 3) := by decide +kernel
theorem dX9_readWord_155 : decode cX9_readWord 155 = .ok (.goto 23, 3) := by decide +kernel
theorem dX9_readWord_158 : decode cX9_readWord 158 = .ok (.aload_n 0, 1) := by decide +kernel
theorem dX9_readWord_159 : decode cX9_readWord 159 = .ok (.aload_n 0, 1) := by decide +kernel
theorem dX9_readWord_160 : decode cX9_readWord 160 = .ok (.ldc 72, 2) := by decide +kernel
theorem dX9_readWord_162 : decode cX9_readWord 162 = .ok (.invokevirtual 56, 3) := by decide +kernel
theorem dX9_readWord_165 : decode cX9_readWord 165 = .ok (.ifCond .eq 8, 3) := by decide +kernel
theorem dX9_readWord_168 : decode cX9_readWord 168 = .ok (.bipush 7, 2) := by decide +kernel
theorem dX9_readWord_170 : decode cX9_readWord 170 = .ok (.goto 5, 3) := by decide +kernel
theorem dX9_readWord_173 : decode cX9_readWord 173 = .ok (.bipush 13, 2) := by decide +kernel
theorem dX9_readWord_175 : decode cX9_readWord 175 = .ok (.putfield 36, 3) := by decide +kernel
theorem dX9_readWord_178 : decode cX9_readWord 178 = .ok (.return_, 1) := by decide +kernel
theorem dX9_isWord_0 : decode cX9_isWord 0 = .ok (.aload_n 1, 1) := by decide +kernel
theorem dX9_isWord_1 : decode cX9_isWord 1 = .ok (.invokevirtual 74, 3) := by decide +kernel
theorem dX9_isWord_4 : decode cX9_isWord 4 = .ok (.istore_n 2, 1) := by decide +kernel
theorem dX9_isWord_5 : decode cX9_isWord 5 = .ok (.iload_n 2, 1) := by decide +kernel
theorem dX9_isWord_6 : decode cX9_isWord 6 = .ok (.aload_n 0, 1) := by decide +kernel
theorem dX9_isWord_7 : decode cX9_isWord 7 = .ok (.getfield 19, 3) := by decide +kernel
theorem dX9_isWord_10 : decode cX9_isWord 10 = .ok (.aload_n 0, 1) := by decide +kernel
theorem dX9_isWord_11 : decode cX9_isWord 11 = .ok (.getfield 33, 3) := by decide +kernel
theorem dX9_isWord_14 : decode cX9_isWord 14 = .ok (.isub, 1) := by decide +kernel
theorem dX9_isWord_15 : decode cX9_isWord 15 = .ok (.if_icmp .ne 13, 3) := by decide +kernel
theorem dX9_isWord_18 : decode cX9_isWord 18 = .ok (.aload_n 0, 1) := by decide +kernel
theorem dX9_isWord_19 : decode cX9_isWord 19 = .ok (.getfield 19, 3) := by decide +kernel
theorem dX9_isWord_22 : decode cX9_isWord 22 = .ok (.sipush 1000, 3) := by decide +kernel
theorem dX9_isWord_25 : decode cX9_isWord 25 = .ok (.if_icmp .le 5, 3) := by decide +kernel
theorem dX9_isWord_28 : decode cX9_isWord 28 = .ok (.iconst 0, 1) := by decide +kernel
theorem dX9_isWord_29 : decode cX9_isWord 29 = .ok (.ireturn, 1) := by decide +kernel
theorem dX9_isWord_30 : decode cX9_isWord 30 = .ok (.iconst 0, 1) := by decide +kernel
theorem dX9_isWord_31 : decode cX9_isWord 31 = .ok (.istore_n 3, 1) := by decide +kernel
theorem dX9_isWord_32 : decode cX9_isWord 32 = .ok (.iload_n 3, 1) := by decide +kernel
theorem dX9_isWord_33 : decode cX9_isWord 33 = .ok (.iload_n 2, 1) := by decide +kernel
theorem dX9_isWord_34 : decode cX9_isWord 34 = .ok (.if_icmp .ge 30, 3) := by decide +kernel
theorem dX9_isWord_37 : decode cX9_isWord 37 = .ok (.aload_n 1, 1) := by decide +kernel
theorem dX9_isWord_38 : decode cX9_isWord 38 = .ok (.iload_n 3, 1) := by decide +kernel
theorem dX9_isWord_39 : decode cX9_isWord 39 = .ok (.invokevirtual 80, 3) := by decide +kernel
theorem dX9_isWord_42 : decode cX9_isWord 42 = .ok (.aload_n 0, 1) := by decide +kernel
theorem dX9_isWord_43 : decode cX9_isWord 43 = .ok (.getfield 9, 3) := by decide +kernel
theorem dX9_isWord_46 : decode cX9_isWord 46 = .ok (.aload_n 0, 1) := by decide +kernel
theorem dX9_isWord_47 : decode cX9_isWord 47 = .ok (.getfield 33, 3) := by decide +kernel
theorem dX9_isWord_50 : decode cX9_isWord 50 = .ok (.iload_n 3, 1) := by decide +kernel
theorem dX9_isWord_51 : decode cX9_isWord 51 = .ok (.iadd, 1) := by decide +kernel
theorem dX9_isWord_52 : decode cX9_isWord 52 = .ok (.caload, 1) := by decide +kernel
theorem dX9_isWord_53 : decode cX9_isWord 53 = .ok (.if_icmp .eq 5, 3) := by decide +kernel
theorem dX9_isWord_56 : decode cX9_isWord 56 = .ok (.iconst 0, 1) := by decide +kernel
theorem dX9_isWord_57 : decode cX9_isWord 57 = .ok (.ireturn, 1) := by decide +kernel
theorem dX9_isWord_58 : decode cX9_isWord 58 = .ok (.iinc 3 1, 3) := by decide +kernel
theorem dX9_isWord_61 : decode cX9_isWord 61 = .ok (.goto (-29), 3) := by decide +kernel
theorem dX9_isWord_64 : decode cX9_isWord 64 = .ok (.iconst 1, 1) := by decide +kernel
theorem dX9_isWord_65 : decode cX9_isWord 65 = .ok (.ireturn, 1) := by decide +kernel
theorem dX9_signAt_0 : decode cX9_signAt 0 = .ok (.iload_n 1, 1) := by decide +kernel
theorem dX9_signAt_1 : decode cX9_signAt 1 = .ok (.ifCond .lt 27, 3) := by decide +kernel
theorem dX9_signAt_4 : decode cX9_signAt 4 = .ok (.iload_n 1, 1) := by decide +kernel
theorem dX9_signAt_5 : decode cX9_signAt 5 = .ok (.aload_n 0, 1) := by decide +kernel
theorem dX9_signAt_6 : decode cX9_signAt 6 = .ok (.getfield 15, 3) := by decide +kernel
theorem dX9_signAt_9 : decode cX9_signAt 9 = .ok (.if_icmp .ge 19, 3) := by decide +kernel
theorem dX9_signAt_12 : decode cX9_signAt 12 = .ok (.iload_n 1, 1) := by decide +kernel
theorem dX9_signAt_13 : decode cX9_signAt 13 = .ok (.sipush 1000, 3) := by decide +kernel
theorem dX9_signAt_16 : decode cX9_signAt 16 = .ok (.if_icmp .ge 12, 3) := by decide +kernel
theorem dX9_signAt_19 : decode cX9_signAt 19 = .ok (.aload_n 0, 1) := by decide +kernel
theorem dX9_signAt_20 : decode cX9_signAt 20 = .ok (.getfield 9, 3) := by decide +kernel
theorem dX9_signAt_23 : decode cX9_signAt 23 = .ok (.iload_n 1, 1) := by decide +kernel
theorem dX9_signAt_24 : decode cX9_signAt 24 = .ok (.caload, 1) := by decide +kernel
theorem dX9_signAt_25 : decode cX9_signAt 25 = .ok (.goto 5, 3) := by decide +kernel
theorem dX9_signAt_28 : decode cX9_signAt 28 = .ok (.bipush 32, 2) := by decide +kernel
theorem dX9_signAt_30 : decode cX9_signAt 30 = .ok (.ireturn, 1) := by decide +kernel
theorem dX9_isBlank_0 : decode cX9_isBlank 0 = .ok (.iload_n 0, 1) := by decide +kernel
theorem dX9_isBlank_1 : decode cX9_isBlank 1 = .ok (.bipush 10, 2) := by decide +kernel
theorem dX9_isBlank_3 : decode cX9_isBlank 3 = .ok (.if_icmp .eq 9, 3) := by decide +kernel
theorem dX9_isBlank_6 : decode cX9_isBlank 6 = .ok (.iload_n 0, 1) := by decide +kernel
theorem dX9_isBlank_7 : decode cX9_isBlank 7 = .ok (.bipush 32, 2) := by decide +kernel
theorem dX9_isBlank_9 : decode cX9_isBlank 9 = .ok (.if_icmp .ne 7, 3) := by decide +kernel
theorem dX9_isBlank_12 : decode cX9_isBlank 12 = .ok (.iconst 1, 1) := by decide +kernel
theorem dX9_isBlank_13 : decode cX9_isBlank 13 = .ok (.goto 4, 3) := by decide +kernel
theorem dX9_isBlank_16 : decode cX9_isBlank 16 = .ok (.iconst 0, 1) := by decide +kernel
theorem dX9_isBlank_17 : decode cX9_isBlank 17 = .ok (.ireturn, 1) := by decide +kernel
theorem dX9_isLetter_0 : decode cX9_isLetter 0 = .ok (.iload_n 0, 1) := by decide +kernel
theorem dX9_isLetter_1 : decode cX9_isLetter 1 = .ok (.bipush 97, 2) := by decide +kernel
theorem dX9_isLetter_3 : decode cX9_isLetter 3 = .ok (.if_icmp .lt 13, 3) := by decide +kernel
theorem dX9_isLetter_6 : decode cX9_isLetter 6 = .ok (.iload_n 0, 1) := by decide +kernel
theorem dX9_isLetter_7 : decode cX9_isLetter 7 = .ok (.bipush 122, 2) := by decide +kernel
theorem dX9_isLetter_9 : decode cX9_isLetter 9 = .ok (.if_icmp .gt 7, 3) := by decide +kernel
theorem dX9_isLetter_12 : decode cX9_isLetter 12 = .ok (.iconst 1, 1) := by decide +kernel
theorem dX9_isLetter_13 : decode cX9_isLetter 13 = .ok (.goto 4, 3) := by decide +kernel
theorem dX9_isLetter_16 : decode cX9_isLetter 16 = .ok (.iconst 0, 1) := by decide +kernel
theorem dX9_isLetter_17 : decode cX9_isLetter 17 = .ok (.ireturn, 1) := by decide +kernel
theorem dX9_isDigit_0 : decode cX9_isDigit 0 = .ok (.iload_n 0, 1) := by decide +kernel
theorem dX9_isDigit_1 : decode cX9_isDigit 1 = .ok (.bipush 48, 2) := by decide +kernel
theorem dX9_isDigit_3 : decode cX9_isDigit 3 = .ok (.if_icmp .lt 13, 3) := by decide +kernel
theorem dX9_isDigit_6 : decode cX9_isDigit 6 = .ok (.iload_n 0, 1) := by decide +kernel
theorem dX9_isDigit_7 : decode cX9_isDigit 7 = .ok (.bipush 57, 2) := by decide +kernel
theorem dX9_isDigit_9 : decode cX9_isDigit 9 = .ok (.if_icmp .gt 7, 3) := by decide +kernel
theorem dX9_isDigit_12 : decode cX9_isDigit 12 = .ok (.iconst 1, 1) := by decide +kernel
theorem dX9_isDigit_13 : decode cX9_isDigit 13 = .ok (.goto 4, 3) := by decide +kernel
theorem dX9_isDigit_16 : decode cX9_isDigit 16 = .ok (.iconst 0, 1) := by decide +kernel
theorem dX9_isDigit_17 : decode cX9_isDigit 17 = .ok (.ireturn, 1) := by decide +kernel
theorem dX10_init_0 : decode cX10_init 0 = .ok (.aload_n 0, 1) := by decide +kernel
theorem dX10_init_1 : decode cX10_init 1 = .ok (.invokespecial 3, 3) := by decide +kernel
theorem dX10_init_4 : decode cX10_init 4 = .ok (.aload_n 0, 1) := by decide +kernel
theorem dX10_init_5 : decode cX10_init 5 = .ok (.sipush 413, 3) := by decide +kernel
theorem dX10_init_8 : decode cX10_init 8 = .ok (.newarray .int, 2) := by decide +kernel
theorem dX10_init_10 : decode cX10_init 10 = .ok (.putfield 9, 3) := by decide +kernel
theorem dX10_init_13 : decode cX10_init 13 = .ok (.aload_n 0, 1) := by decide +kernel
theorem dX10_init_14 : decode cX10_init 14 = .ok (.sipush 413, 3) := by decide +kernel
theorem dX10_init_17 : decode cX10_init 17 = .ok (.newarray .int, 2) := by decide +kernel
theorem dX10_init_19 : decode cX10_init 19 = .ok (.putfield 15, 3) := by decide +kernel
theorem dX10_init_22 : decode cX10_init 22 = .ok (.return_, 1) := by decide +kernel
theorem dX10_begin_0 : decode cX10_begin 0 = .ok (.aload_n 0, 1) := by decide +kernel
theorem dX10_begin_1 : decode cX10_begin 1 = .ok (.iload_n 1, 1) := by decide +kernel
theorem dX10_begin_2 : decode cX10_begin 2 = .ok (.ifCond .eq 8, 3) := by decide +kernel
theorem dX10_begin_5 : decode cX10_begin 5 = .ok (.bipush 16, 2) := by decide +kernel
theorem dX10_begin_7 : decode cX10_begin 7 = .ok (.goto 5, 3) := by decide +kernel
theorem dX10_begin_10 : decode cX10_begin 10 = .ok (.bipush 17, 2) := by decide +kernel
theorem dX10_begin_12 : decode cX10_begin 12 = .ok (.putfield 18, 3) := by decide +kernel
theorem dX10_begin_15 : decode cX10_begin 15 = .ok (.aload_n 0, 1) := by decide +kernel
theorem dX10_begin_16 : decode cX10_begin 16 = .ok (.iload_n 1, 1) := by decide +kernel
theorem dX10_begin_17 : decode cX10_begin 17 = .ok (.ifCond .eq 8, 3) := by decide +kernel
theorem dX10_begin_20 : decode cX10_begin 20 = .ok (.bipush 12, 2) := by decide +kernel
theorem dX10_begin_22 : decode cX10_begin 22 = .ok (.goto 5, 3) := by decide +kernel
theorem dX10_begin_25 : decode cX10_begin 25 = .ok (.bipush 13, 2) := by decide +kernel
theorem dX10_begin_27 : decode cX10_begin 27 = .ok (.putfield 22, 3) := by decide +kernel
theorem dX10_begin_30 : decode cX10_begin 30 = .ok (.aload_n 0, 1) := by decide +kernel
theorem dX10_begin_31 : decode cX10_begin 31 = .ok (.iload_n 2, 1) := by decide +kernel
theorem dX10_begin_32 : decode cX10_begin 32 = .ok (.putfield 25, 3) := by decide +kernel
theorem dX10_begin_35 : decode cX10_begin 35 = .ok (.aload_n 0, 1) := by decide +kernel
theorem dX10_begin_36 : decode cX10_begin 36 = .ok (.iload_n 3, 1) := by decide +kernel
theorem dX10_begin_37 : decode cX10_begin 37 = .ok (.putfield 28, 3) := by decide +kernel
theorem dX10_begin_40 : decode cX10_begin 40 = .ok (.aload_n 0, 1) := by decide +kernel
theorem dX10_begin_41 : decode cX10_begin 41 = .ok (.iconst 0, 1) := by decide +kernel
theorem dX10_begin_42 : decode cX10_begin 42 = .ok (.putfield 31, 3) := by decide +kernel
theorem dX10_begin_45 : decode cX10_begin 45 = .ok (.aload_n 0, 1) := by decide +kernel
theorem dX10_begin_46 : decode cX10_begin 46 = .ok (.iconst 0, 1) := by decide +kernel
theorem dX10_begin_47 : decode cX10_begin 47 = .ok (.putfield 34, 3) := by decide +kernel
theorem dX10_begin_50 : decode cX10_begin 50 = .ok (.aload_n 0, 1) := by decide +kernel
theorem dX10_begin_51 : decode cX10_begin 51 = .ok (.iconst 0, 1) := by decide +kernel
theorem dX10_begin_52 : decode cX10_begin 52 = .ok (.putfield 37, 3) := by decide +kernel
theorem dX10_begin_55 : decode cX10_begin 55 = .ok (.aload_n 0, 1) := by decide +kernel
theorem dX10_begin_56 : decode cX10_begin 56 = .ok (.iconst (-1), 1) := by decide +kernel
theorem dX10_begin_57 : decode cX10_begin 57 = .ok (.invokevirtual 41, 3) := by decide +kernel
theorem dX10_begin_60 : decode cX10_begin 60 = .ok (.return_, 1) := by decide +kernel
theorem dX10_go_0 : decode cX10_go 0 = .ok (.iconst 0, 1) := by decide +kernel
theorem dX10_go_1 : decode cX10_go 1 = .ok (.istore_n 3, 1) := by decide +kernel
theorem dX10_go_2 : decode cX10_go 2 = .ok (.iload_n 3, 1) := by decide +kernel
theorem dX10_go_3 : decode cX10_go 3 = .ok (.iload_n 2, 1) := by decide +kernel
theorem dX10_go_4 : decode cX10_go 4 = .ok (.if_icmp .ge 47, 3) := by decide +kernel
theorem dX10_go_7 : decode cX10_go 7 = .ok (.aload_n 0, 1) := by decide +kernel
theorem dX10_go_8 : decode cX10_go 8 = .ok (.getfield 37, 3) := by decide +kernel
theorem dX10_go_11 : decode cX10_go 11 = .ok (.ifCond .ne 40, 3) := by decide +kernel
theorem dX10_go_14 : decode cX10_go 14 = .ok (.aload_n 0, 1) := by decide +kernel
theorem dX10_go_15 : decode cX10_go 15 = .ok (.dup, 1) := by decide +kernel
theorem dX10_go_16 : decode cX10_go 16 = .ok (.getfield 25, 3) := by decide +kernel
theorem dX10_go_19 : decode cX10_go 19 = .ok (.iload_n 1, 1) := by decide +kernel
theorem dX10_go_20 : decode cX10_go 20 = .ok (.invokestatic 45, 3) := by decide +kernel
theorem dX10_go_23 : decode cX10_go 23 = .ok (.iadd, 1) := by decide +kernel
theorem dX10_go_24 : decode cX10_go 24 = .ok (.putfield 25, 3) := by decide +kernel
theorem dX10_go_27 : decode cX10_go 27 = .ok (.aload_n 0, 1) := by decide +kernel
theorem dX10_go_28 : decode cX10_go 28 = .ok (.dup, 1) := by decide +kernel
theorem dX10_go_29 : decode cX10_go 29 = .ok (.getfield 28, 3) := by decide +kernel
theorem dX10_go_32 : decode cX10_go 32 = .ok (.iload_n 1, 1) := by decide +kernel
theorem dX10_go_33 : decode cX10_go 33 = .ok (.invokestatic 49, 3) := by decide +kernel
theorem dX10_go_36 : decode cX10_go 36 = .ok (.iadd, 1) := by decide +kernel
theorem dX10_go_37 : decode cX10_go 37 = .ok (.putfield 28, 3) := by decide +kernel
theorem dX10_go_40 : decode cX10_go 40 = .ok (.aload_n 0, 1) := by decide +kernel
theorem dX10_go_41 : decode cX10_go 41 = .ok (.iload_n 1, 1) := by decide +kernel
theorem dX10_go_42 : decode cX10_go 42 = .ok (.invokevirtual 41, 3) := by decide +kernel
theorem dX10_go_45 : decode cX10_go 45 = .ok (.iinc 3 1, 3) := by decide +kernel
theorem dX10_go_48 : decode cX10_go 48 = .ok (.goto (-46), 3) := by decide +kernel
theorem dX10_go_51 : decode cX10_go 51 = .ok (.return_, 1) := by decide +kernel
theorem dX10_arrive_0 : decode cX10_arrive 0 = .ok (.aload_n 0, 1) := by decide +kernel
theorem dX10_arrive_1 : decode cX10_arrive 1 = .ok (.aload_n 0, 1) := by decide +kernel
theorem dX10_arrive_2 : decode cX10_arrive 2 = .ok (.getfield 25, 3) := by decide +kernel
theorem dX10_arrive_5 : decode cX10_arrive 5 = .ok (.ifCond .lt 32, 3) := by decide +kernel
theorem dX10_arrive_8 : decode cX10_arrive 8 = .ok (.aload_n 0, 1) := by decide +kernel
theorem dX10_arrive_9 : decode cX10_arrive 9 = .ok (.getfield 25, 3) := by decide +kernel
theorem dX10_arrive_12 : decode cX10_arrive 12 = .ok (.aload_n 0, 1) := by decide +kernel
theorem dX10_arrive_13 : decode cX10_arrive 13 = .ok (.getfield 18, 3) := by decide +kernel
theorem dX10_arrive_16 : decode cX10_arrive 16 = .ok (.if_icmp .ge 21, 3) := by decide +kernel
theorem dX10_arrive_19 : decode cX10_arrive 19 = .ok (.aload_n 0, 1) := by decide +kernel
theorem dX10_arrive_20 : decode cX10_arrive 20 = .ok (.getfield 28, 3) := by decide +kernel
theorem dX10_arrive_23 : decode cX10_arrive 23 = .ok (.ifCond .lt 14, 3) := by decide +kernel
theorem dX10_arrive_26 : decode cX10_arrive 26 = .ok (.aload_n 0, 1) := by decide +kernel
theorem dX10_arrive_27 : decode cX10_arrive 27 = .ok (.getfield 28, 3) := by decide +kernel
theorem dX10_arrive_30 : decode cX10_arrive 30 = .ok (.aload_n 0, 1) := by decide +kernel
theorem dX10_arrive_31 : decode cX10_arrive 31 = .ok (.getfield 22, 3) := by decide +kernel
theorem dX10_arrive_34 : decode cX10_arrive 34 = .ok (.if_icmp .lt 7, 3) := by decide +kernel
theorem dX10_arrive_37 : decode cX10_arrive 37 = .ok (.iconst 1, 1) := by decide +kernel
theorem dX10_arrive_38 : decode cX10_arrive 38 = .ok (.goto 4, 3) := by decide +kernel
theorem dX10_arrive_41 : decode cX10_arrive 41 = .ok (.iconst 0, 1) := by decide +kernel
theorem dX10_arrive_42 : decode cX10_arrive 42 = .ok (.putfield 37, 3) := by decide +kernel
theorem dX10_arrive_45 : decode cX10_arrive 45 = .ok (.aload_n 0, 1) := by decide +kernel
theorem dX10_arrive_46 : decode cX10_arrive 46 = .ok (.getfield 37, 3) := by decide +kernel
theorem dX10_arrive_49 : decode cX10_arrive 49 = .ok (.ifCond .eq 4, 3) := by decide +kernel
theorem dX10_arrive_52 : decode cX10_arrive 52 = .ok (.return_, 1) := by decide +kernel
theorem dX10_arrive_53 : decode cX10_arrive 53 = .ok (.aload_n 0, 1) := by decide +kernel
theorem dX10_arrive_54 : decode cX10_arrive 54 = .ok (.dup, 1) := by decide +kernel
theorem dX10_arrive_55 : decode cX10_arrive 55 = .ok (.getfield 31, 3) := by decide +kernel
theorem dX10_arrive_58 : decode cX10_arrive 58 = .ok (.iconst 1, 1) := by decide +kernel
theorem dX10_arrive_59 : decode cX10_arrive 59 = .ok (.iadd, 1) := by decide +kernel
theorem dX10_arrive_60 : decode cX10_arrive 60 = .ok (.putfield 31, 3) := by decide +kernel
theorem dX10_arrive_63 : decode cX10_arrive 63 = .ok (.aload_n 0, 1) := by decide +kernel
theorem dX10_arrive_64 : decode cX10_arrive 64 = .ok (.getfield 34, 3) := by decide +kernel
theorem dX10_arrive_67 : decode cX10_arrive 67 = .ok (.aload_n 0, 1) := by decide +kernel
theorem dX10_arrive_68 : decode cX10_arrive 68 = .ok (.getfield 9, 3) := by decide +kernel
theorem dX10_arrive_71 : decode cX10_arrive 71 = .ok (.arraylength, 1) := by decide +kernel
theorem dX10_arrive_72 : decode cX10_arrive 72 = .ok (.if_icmp .ge 46, 3) := by decide +kernel
theorem dX10_arrive_75 : decode cX10_arrive 75 = .ok (.aload_n 0, 1) := by decide +kernel
theorem dX10_arrive_76 : decode cX10_arrive 76 = .ok (.getfield 9, 3) := by decide +kernel
theorem dX10_arrive_79 : decode cX10_arrive 79 = .ok (.aload_n 0, 1) := by decide +kernel
theorem dX10_arrive_80 : decode cX10_arrive 80 = .ok (.getfield 34, 3) := by decide +kernel
theorem dX10_arrive_83 : decode cX10_arrive 83 = .ok (.aload_n 0, 1) := by decide +kernel
theorem dX10_arrive_84 : decode cX10_arrive 84 = .ok (.getfield 18, 3) := by decide +kernel
theorem dX10_arrive_87 : decode cX10_arrive 87 = .ok (.aload_n 0, 1) := by decide +kernel
theorem dX10_arrive_88 : decode cX10_arrive 88 = .ok (.getfield 28, 3) := by decide +kernel
theorem dX10_arrive_91 : decode cX10_arrive 91 = .ok (.imul, 1) := by decide +kernel
theorem dX10_arrive_92 : decode cX10_arrive 92 = .ok (.aload_n 0, 1) := by decide +kernel
theorem dX10_arrive_93 : decode cX10_arrive 93 = .ok (.getfield 25, 3) := by decide +kernel
theorem dX10_arrive_96 : decode cX10_arrive 96 = .ok (.iadd, 1) := by decide +kernel
theorem dX10_arrive_97 : decode cX10_arrive 97 = .ok (.iastore, 1) := by decide +kernel
theorem dX10_arrive_98 : decode cX10_arrive 98 = .ok (.aload_n 0, 1) := by decide +kernel
theorem dX10_arrive_99 : decode cX10_arrive 99 = .ok (.getfield 15, 3) := by decide +kernel
theorem dX10_arrive_102 : decode cX10_arrive 102 = .ok (.aload_n 0, 1) := by decide +kernel
theorem dX10_arrive_103 : decode cX10_arrive 103 = .ok (.getfield 34, 3) := by decide +kernel
theorem dX10_arrive_106 : decode cX10_arrive 106 = .ok (.iload_n 1, 1) := by decide +kernel
theorem dX10_arrive_107 : decode cX10_arrive 107 = .ok (.iastore, 1) := by decide +kernel
theorem dX10_arrive_108 : decode cX10_arrive 108 = .ok (.aload_n 0, 1) := by decide +kernel
theorem dX10_arrive_109 : decode cX10_arrive 109 = .ok (.dup, 1) := by decide +kernel
theorem dX10_arrive_110 : decode cX10_arrive 110 = .ok (.getfield 34, 3) := by decide +kernel
theorem dX10_arrive_113 : decode cX10_arrive 113 = .ok (.iconst 1, 1) := by decide +kernel
theorem dX10_arrive_114 : decode cX10_arrive 114 = .ok (.iadd, 1) := by decide +kernel
theorem dX10_arrive_115 : decode cX10_arrive 115 = .ok (.putfield 34, 3) := by decide +kernel
theorem dX10_arrive_118 : decode cX10_arrive 118 = .ok (.return_, 1) := by decide +kernel
theorem dX10_pointAt_0 : decode cX10_pointAt 0 = .ok (.iload_n 1, 1) := by decide +kernel
theorem dX10_pointAt_1 : decode cX10_pointAt 1 = .ok (.ifCond .lt 29, 3) := by decide +kernel
theorem dX10_pointAt_4 : decode cX10_pointAt 4 = .ok (.iload_n 1, 1) := by decide +kernel
theorem dX10_pointAt_5 : decode cX10_pointAt 5 = .ok (.aload_n 0, 1) := by decide +kernel
theorem dX10_pointAt_6 : decode cX10_pointAt 6 = .ok (.getfield 34, 3) := by decide +kernel
theorem dX10_pointAt_9 : decode cX10_pointAt 9 = .ok (.if_icmp .ge 21, 3) := by decide +kernel
theorem dX10_pointAt_12 : decode cX10_pointAt 12 = .ok (.iload_n 1, 1) := by decide +kernel
theorem dX10_pointAt_13 : decode cX10_pointAt 13 = .ok (.aload_n 0, 1) := by decide +kernel
theorem dX10_pointAt_14 : decode cX10_pointAt 14 = .ok (.getfield 9, 3) := by decide +kernel
theorem dX10_pointAt_17 : decode cX10_pointAt 17 = .ok (.arraylength, 1) := by decide +kernel
theorem dX10_pointAt_18 : decode cX10_pointAt 18 = .ok (.if_icmp .ge 12, 3) := by decide +kernel
theorem dX10_pointAt_21 : decode cX10_pointAt 21 = .ok (.aload_n 0, 1) := by decide +kernel
theorem dX10_pointAt_22 : decode cX10_pointAt 22 = .ok (.getfield 9, 3) := by decide +kernel
theorem dX10_pointAt_25 : decode cX10_pointAt 25 = .ok (.iload_n 1, 1) := by decide +kernel
theorem dX10_pointAt_26 : decode cX10_pointAt 26 = .ok (.iaload, 1) := by decide +kernel
theorem dX10_pointAt_27 : decode cX10_pointAt 27 = .ok (.goto 4, 3) := by decide +kernel
theorem dX10_pointAt_30 : decode cX10_pointAt 30 = .ok (.iconst (-1), 1) := by decide +kernel
theorem dX10_pointAt_31 : decode cX10_pointAt 31 = .ok (.ireturn, 1) := by decide +kernel
theorem dX10_wayAt_0 : decode cX10_wayAt 0 = .ok (.iload_n 1, 1) := by decide +kernel
theorem dX10_wayAt_1 : decode cX10_wayAt 1 = .ok (.ifCond .lt 29, 3) := by decide +kernel
theorem dX10_wayAt_4 : decode cX10_wayAt 4 = .ok (.iload_n 1, 1) := by decide +kernel
theorem dX10_wayAt_5 : decode cX10_wayAt 5 = .ok (.aload_n 0, 1) := by decide +kernel
theorem dX10_wayAt_6 : decode cX10_wayAt 6 = .ok (.getfield 34, 3) := by decide +kernel
theorem dX10_wayAt_9 : decode cX10_wayAt 9 = .ok (.if_icmp .ge 21, 3) := by decide +kernel
theorem dX10_wayAt_12 : decode cX10_wayAt 12 = .ok (.iload_n 1, 1) := by decide +kernel
theorem dX10_wayAt_13 : decode cX10_wayAt 13 = .ok (.aload_n 0, 1) := by decide +kernel
theorem dX10_wayAt_14 : decode cX10_wayAt 14 = .ok (.getfield 15, 3) := by decide +kernel
theorem dX10_wayAt_17 : decode cX10_wayAt 17 = .ok (.arraylength, 1) := by decide +kernel
theorem dX10_wayAt_18 : decode cX10_wayAt 18 = .ok (.if_icmp .ge 12, 3) := by decide +kernel
theorem dX10_wayAt_21 : decode cX10_wayAt 21 = .ok (.aload_n 0, 1) := by decide +kernel
theorem dX10_wayAt_22 : decode cX10_wayAt 22 = .ok (.getfield 15, 3) := by decide +kernel
theorem dX10_wayAt_25 : decode cX10_wayAt 25 = .ok (.iload_n 1, 1) := by decide +kernel
theorem dX10_wayAt_26 : decode cX10_wayAt 26 = .ok (.iaload, 1) := by decide +kernel
theorem dX10_wayAt_27 : decode cX10_wayAt 27 = .ok (.goto 4, 3) := by decide +kernel
theorem dX10_wayAt_30 : decode cX10_wayAt 30 = .ok (.iconst (-1), 1) := by decide +kernel
theorem dX10_wayAt_31 : decode cX10_wayAt 31 = .ok (.ireturn, 1) := by decide +kernel
theorem dX11_init_0 : decode cX11_init 0 = .ok (.aload_n 0, 1) := by decide +kernel
theorem dX11_init_1 : decode cX11_init 1 = .ok (.invokespecial 3, 3) := by decide +kernel
theorem dX11_init_4 : decode cX11_init 4 = .ok (.aload_n 0, 1) := by decide +kernel
theorem dX11_init_5 : decode cX11_init 5 = .ok (.new 9, 3) := by decide +kernel
theorem dX11_init_8 : decode cX11_init 8 = .ok (.dup, 1) := by decide +kernel
theorem dX11_init_9 : decode cX11_init 9 = .ok (.invokespecial 11, 3) := by decide +kernel
theorem dX11_init_12 : decode cX11_init 12 = .ok (.putfield 12, 3) := by decide +kernel
theorem dX11_init_15 : decode cX11_init 15 = .ok (.aload_n 0, 1) := by decide +kernel
theorem dX11_init_16 : decode cX11_init 16 = .ok (.new 16, 3) := by decide +kernel
theorem dX11_init_19 : decode cX11_init 19 = .ok (.dup, 1) := by decide +kernel
theorem dX11_init_20 : decode cX11_init 20 = .ok (.invokespecial 18, 3) := by decide +kernel
theorem dX11_init_23 : decode cX11_init 23 = .ok (.putfield 19, 3) := by decide +kernel
theorem dX11_init_26 : decode cX11_init 26 = .ok (.aload_n 0, 1) := by decide +kernel
theorem dX11_init_27 : decode cX11_init 27 = .ok (.new 23, 3) := by decide +kernel
theorem dX11_init_30 : decode cX11_init 30 = .ok (.dup, 1) := by decide +kernel
theorem dX11_init_31 : decode cX11_init 31 = .ok (.aload_n 0, 1) := by decide +kernel
theorem dX11_init_32 : decode cX11_init 32 = .ok (.getfield 12, 3) := by decide +kernel
theorem dX11_init_35 : decode cX11_init 35 = .ok (.aload_n 0, 1) := by decide +kernel
theorem dX11_init_36 : decode cX11_init 36 = .ok (.getfield 19, 3) := by decide +kernel
theorem dX11_init_39 : decode cX11_init 39 = .ok (.invokespecial 25, 3) := by decide +kernel
theorem dX11_init_42 : decode cX11_init 42 = .ok (.putfield 28, 3) := by decide +kernel
theorem dX11_init_45 : decode cX11_init 45 = .ok (.aload_n 0, 1) := by decide +kernel
theorem dX11_init_46 : decode cX11_init 46 = .ok (.new 32, 3) := by decide +kernel
theorem dX11_init_49 : decode cX11_init 49 = .ok (.dup, 1) := by decide +kernel
theorem dX11_init_50 : decode cX11_init 50 = .ok (.aload_n 0, 1) := by decide +kernel
theorem dX11_init_51 : decode cX11_init 51 = .ok (.getfield 12, 3) := by decide +kernel
theorem dX11_init_54 : decode cX11_init 54 = .ok (.aload_n 0, 1) := by decide +kernel
theorem dX11_init_55 : decode cX11_init 55 = .ok (.getfield 19, 3) := by decide +kernel
theorem dX11_init_58 : decode cX11_init 58 = .ok (.aload_n 0, 1) := by decide +kernel
theorem dX11_init_59 : decode cX11_init 59 = .ok (.getfield 28, 3) := by decide +kernel
theorem dX11_init_62 : decode cX11_init 62 = .ok (.invokespecial 34, 3) := by decide +kernel
theorem dX11_init_65 : decode cX11_init 65 = .ok (.putfield 37, 3) := by decide +kernel
theorem dX11_init_68 : decode cX11_init 68 = .ok (.aload_n 0, 1) := by decide +kernel
theorem dX11_init_69 : decode cX11_init 69 = .ok (.new 41, 3) := by decide +kernel
theorem dX11_init_72 : decode cX11_init 72 = .ok (.dup, 1) := by decide +kernel
theorem dX11_init_73 : decode cX11_init 73 = .ok (.invokespecial 43, 3) := by decide +kernel
theorem dX11_init_76 : decode cX11_init 76 = .ok (.putfield 44, 3) := by decide +kernel
theorem dX11_init_79 : decode cX11_init 79 = .ok (.aload_n 0, 1) := by decide +kernel
theorem dX11_init_80 : decode cX11_init 80 = .ok (.new 48, 3) := by decide +kernel
theorem dX11_init_83 : decode cX11_init 83 = .ok (.dup, 1) := by decide +kernel
theorem dX11_init_84 : decode cX11_init 84 = .ok (.aload_n 0, 1) := by decide +kernel
theorem dX11_init_85 : decode cX11_init 85 = .ok (.getfield 12, 3) := by decide +kernel
theorem dX11_init_88 : decode cX11_init 88 = .ok (.aload_n 0, 1) := by decide +kernel
theorem dX11_init_89 : decode cX11_init 89 = .ok (.getfield 28, 3) := by decide +kernel
theorem dX11_init_92 : decode cX11_init 92 = .ok (.aload_n 0, 1) := by decide +kernel
theorem dX11_init_93 : decode cX11_init 93 = .ok (.getfield 37, 3) := by decide +kernel
theorem dX11_init_96 : decode cX11_init 96 = .ok (.aload_n 0, 1) := by decide +kernel
theorem dX11_init_97 : decode cX11_init 97 = .ok (.getfield 44, 3) := by decide +kernel
theorem dX11_init_100 : decode cX11_init 100 = .ok (.invokespecial 50, 3) := by decide +kernel
theorem dX11_init_103 : decode cX11_init 103 = .ok (.putfield 53, 3) := by decide +kernel
theorem dX11_init_106 : decode cX11_init 106 = .ok (.aload_n 0, 1) := by decide +kernel
theorem dX11_init_107 : decode cX11_init 107 = .ok (.new 57, 3) := by decide +kernel
theorem dX11_init_110 : decode cX11_init 110 = .ok (.dup, 1) := by decide +kernel
theorem dX11_init_111 : decode cX11_init 111 = .ok (.invokespecial 59, 3) := by decide +kernel
theorem dX11_init_114 : decode cX11_init 114 = .ok (.putfield 60, 3) := by decide +kernel
theorem dX11_init_117 : decode cX11_init 117 = .ok (.aload_n 0, 1) := by decide +kernel
theorem dX11_init_118 : decode cX11_init 118 = .ok (.new 64, 3) := by decide +kernel
theorem dX11_init_121 : decode cX11_init 121 = .ok (.dup, 1) := by decide +kernel
theorem dX11_init_122 : decode cX11_init 122 = .ok (.invokespecial 66, 3) := by decide +kernel
theorem dX11_init_125 : decode cX11_init 125 = .ok (.putfield 67, 3) := by decide +kernel
theorem dX11_init_128 : decode cX11_init 128 = .ok (.aload_n 0, 1) := by decide +kernel
theorem dX11_init_129 : decode cX11_init 129 = .ok (.new 71, 3) := by decide +kernel
theorem dX11_init_132 : decode cX11_init 132 = .ok (.dup, 1) := by decide +kernel
theorem dX11_init_133 : decode cX11_init 133 = .ok (.aload_n 0, 1) := by decide +kernel
theorem dX11_init_134 : decode cX11_init 134 = .ok (.getfield 67, 3) := by decide +kernel
theorem dX11_init_137 : decode cX11_init 137 = .ok (.invokespecial 73, 3) := by decide +kernel
theorem dX11_init_140 : decode cX11_init 140 = .ok (.putfield 76, 3) := by decide +kernel
theorem dX11_init_143 : decode cX11_init 143 = .ok (.aload_n 0, 1) := by decide +kernel
theorem dX11_init_144 : decode cX11_init 144 = .ok (.new 80, 3) := by decide +kernel
theorem dX11_init_147 : decode cX11_init 147 = .ok (.dup, 1) := by decide +kernel
theorem dX11_init_148 : decode cX11_init 148 = .ok (.aload_n 0, 1) := by decide +kernel
theorem dX11_init_149 : decode cX11_init 149 = .ok (.getfield 76, 3) := by decide +kernel
theorem dX11_init_152 : decode cX11_init 152 = .ok (.aload_n 0, 1) := by decide +kernel
theorem dX11_init_153 : decode cX11_init 153 = .ok (.getfield 19, 3) := by decide +kernel
theorem dX11_init_156 : decode cX11_init 156 = .ok (.aload_n 0, 1) := by decide +kernel
theorem dX11_init_157 : decode cX11_init 157 = .ok (.getfield 28, 3) := by decide +kernel
theorem dX11_init_160 : decode cX11_init 160 = .ok (.invokespecial 82, 3) := by decide +kernel
theorem dX11_init_163 : decode cX11_init 163 = .ok (.putfield 85, 3) := by decide +kernel
theorem dX11_init_166 : decode cX11_init 166 = .ok (.aload_n 0, 1) := by decide +kernel
theorem dX11_init_167 : decode cX11_init 167 = .ok (.getfield 37, 3) := by decide +kernel
theorem dX11_init_170 : decode cX11_init 170 = .ok (.invokevirtual 89, 3) := by decide +kernel
theorem dX11_init_173 : decode cX11_init 173 = .ok (.return_, 1) := by decide +kernel
theorem dX11_cell_0 : decode cX11_cell 0 = .ok (.iload_n 1, 1) := by decide +kernel
theorem dX11_cell_1 : decode cX11_cell 1 = .ok (.iload_n 2, 1) := by decide +kernel
theorem dX11_cell_2 : decode cX11_cell 2 = .ok (.invokestatic 92, 3) := by decide +kernel
theorem dX11_cell_5 : decode cX11_cell 5 = .ok (.istore 4, 2) := by decide +kernel
theorem dX11_cell_7 : decode cX11_cell 7 = .ok (.iload 4, 2) := by decide +kernel
theorem dX11_cell_9 : decode cX11_cell 9 = .ok (.iconst (-1), 1) := by decide +kernel
theorem dX11_cell_10 : decode cX11_cell 10 = .ok (.if_icmp .eq 21, 3) := by decide +kernel
theorem dX11_cell_13 : decode cX11_cell 13 = .ok (.iload_n 3, 1) := by decide +kernel
theorem dX11_cell_14 : decode cX11_cell 14 = .ok (.iconst (-1), 1) := by decide +kernel
theorem dX11_cell_15 : decode cX11_cell 15 = .ok (.if_icmp .lt 16, 3) := by decide +kernel
theorem dX11_cell_18 : decode cX11_cell 18 = .ok (.iload_n 3, 1) := by decide +kernel
theorem dX11_cell_19 : decode cX11_cell 19 = .ok (.bipush 99, 2) := by decide +kernel
theorem dX11_cell_21 : decode cX11_cell 21 = .ok (.if_icmp .gt 10, 3) := by decide +kernel
theorem dX11_cell_24 : decode cX11_cell 24 = .ok (.aload_n 0, 1) := by decide +kernel
theorem dX11_cell_25 : decode cX11_cell 25 = .ok (.invokevirtual 96, 3) := by decide +kernel
theorem dX11_cell_28 : decode cX11_cell 28 = .ok (.ifCond .ne 5, 3) := by decide +kernel
theorem dX11_cell_31 : decode cX11_cell 31 = .ok (.iconst 0, 1) := by decide +kernel
theorem dX11_cell_32 : decode cX11_cell 32 = .ok (.ireturn, 1) := by decide +kernel
theorem dX11_cell_33 : decode cX11_cell 33 = .ok (.aload_n 0, 1) := by decide +kernel
theorem dX11_cell_34 : decode cX11_cell 34 = .ok (.getfield 12, 3) := by decide +kernel
theorem dX11_cell_37 : decode cX11_cell 37 = .ok (.iload 4, 2) := by decide +kernel
theorem dX11_cell_39 : decode cX11_cell 39 = .ok (.iload_n 3, 1) := by decide +kernel
theorem dX11_cell_40 : decode cX11_cell 40 = .ok (.invokevirtual 100, 3) := by decide +kernel
theorem dX11_cell_43 : decode cX11_cell 43 = .ok (.aload_n 0, 1) := by decide +kernel
theorem dX11_cell_44 : decode cX11_cell 44 = .ok (.invokevirtual 104, 3) := by decide +kernel
theorem dX11_cell_47 : decode cX11_cell 47 = .ok (.iconst 1, 1) := by decide +kernel
theorem dX11_cell_48 : decode cX11_cell 48 = .ok (.ireturn, 1) := by decide +kernel
theorem dX11_length_0 : decode cX11_length 0 = .ok (.iload_n 1, 1) := by decide +kernel
theorem dX11_length_1 : decode cX11_length 1 = .ok (.invokestatic 105, 3) := by decide +kernel
theorem dX11_length_4 : decode cX11_length 4 = .ok (.ifCond .eq 10, 3) := by decide +kernel
theorem dX11_length_7 : decode cX11_length 7 = .ok (.aload_n 0, 1) := by decide +kernel
theorem dX11_length_8 : decode cX11_length 8 = .ok (.invokevirtual 96, 3) := by decide +kernel
theorem dX11_length_11 : decode cX11_length 11 = .ok (.ifCond .ne 5, 3) := by decide +kernel
theorem dX11_length_14 : decode cX11_length 14 = .ok (.iconst 0, 1) := by decide +kernel
theorem dX11_length_15 : decode cX11_length 15 = .ok (.ireturn, 1) := by decide +kernel
theorem dX11_length_16 : decode cX11_length 16 = .ok (.aload_n 0, 1) := by decide +kernel
theorem dX11_length_17 : decode cX11_length 17 = .ok (.getfield 12, 3) := by decide +kernel
theorem dX11_length_20 : decode cX11_length 20 = .ok (.iload_n 1, 1) := by decide +kernel
theorem dX11_length_21 : decode cX11_length 21 = .ok (.putfield 109, 3) := by decide +kernel
theorem dX11_length_24 : decode cX11_length 24 = .ok (.iconst 1, 1) := by decide +kernel
theorem dX11_length_25 : decode cX11_length 25 = .ok (.ireturn, 1) := by decide +kernel
theorem dX11_feed_0 : decode cX11_feed 0 = .ok (.aload_n 0, 1) := by decide +kernel
theorem dX11_feed_1 : decode cX11_feed 1 = .ok (.getfield 67, 3) := by decide +kernel
theorem dX11_feed_4 : decode cX11_feed 4 = .ok (.lload_n 1, 1) := by decide +kernel
theorem dX11_feed_5 : decode cX11_feed 5 = .ok (.invokevirtual 113, 3) := by decide +kernel
theorem dX11_feed_8 : decode cX11_feed 8 = .ok (.aload_n 0, 1) := by decide +kernel
theorem dX11_feed_9 : decode cX11_feed 9 = .ok (.getfield 67, 3) := by decide +kernel
theorem dX11_feed_12 : decode cX11_feed 12 = .ok (.lload_n 3, 1) := by decide +kernel
theorem dX11_feed_13 : decode cX11_feed 13 = .ok (.invokevirtual 113, 3) := by decide +kernel
theorem dX11_feed_16 : decode cX11_feed 16 = .ok (.aload_n 0, 1) := by decide +kernel
theorem dX11_feed_17 : decode cX11_feed 17 = .ok (.getfield 67, 3) := by decide +kernel
theorem dX11_feed_20 : decode cX11_feed 20 = .ok (.lload 5, 2) := by decide +kernel
theorem dX11_feed_22 : decode cX11_feed 22 = .ok (.invokevirtual 113, 3) := by decide +kernel
theorem dX11_feed_25 : decode cX11_feed 25 = .ok (.aload_n 0, 1) := by decide +kernel
theorem dX11_feed_26 : decode cX11_feed 26 = .ok (.getfield 67, 3) := by decide +kernel
theorem dX11_feed_29 : decode cX11_feed 29 = .ok (.getfield 117, 3) := by decide +kernel
theorem dX11_feed_32 : decode cX11_feed 32 = .ok (.ireturn, 1) := by decide +kernel
theorem dX11_draw_0 : decode cX11_draw 0 = .ok (.aload_n 0, 1) := by decide +kernel
theorem dX11_draw_1 : decode cX11_draw 1 = .ok (.getfield 76, 3) := by decide +kernel
theorem dX11_draw_4 : decode cX11_draw 4 = .ok (.invokevirtual 120, 3) := by decide +kernel
theorem dX11_draw_7 : decode cX11_draw 7 = .ok (.istore_n 1, 1) := by decide +kernel
theorem dX11_draw_8 : decode cX11_draw 8 = .ok (.aload_n 0, 1) := by decide +kernel
theorem dX11_draw_9 : decode cX11_draw 9 = .ok (.getfield 67, 3) := by decide +kernel
theorem dX11_draw_12 : decode cX11_draw 12 = .ok (.invokevirtual 124, 3) := by decide +kernel
theorem dX11_draw_15 : decode cX11_draw 15 = .ok (.iload_n 1, 1) := by decide +kernel
theorem dX11_draw_16 : decode cX11_draw 16 = .ok (.ifCond .eq 5, 3) := by decide +kernel
theorem dX11_draw_19 : decode cX11_draw 19 = .ok (.iload_n 1, 1) := by decide +kernel
theorem dX11_draw_20 : decode cX11_draw 20 = .ok (.ireturn, 1) := by decide +kernel
theorem dX11_draw_21 : decode cX11_draw 21 = .ok (.aload_n 0, 1) := by decide +kernel
theorem dX11_draw_22 : decode cX11_draw 22 = .ok (.getfield 85, 3) := by decide +kernel
theorem dX11_draw_25 : decode cX11_draw 25 = .ok (.invokevirtual 127, 3) := by decide +kernel
theorem dX11_draw_28 : decode cX11_draw 28 = .ok (.istore_n 2, 1) := by decide +kernel
theorem dX11_draw_29 : decode cX11_draw 29 = .ok (.iload_n 2, 1) := by decide +kernel
theorem dX11_draw_30 : decode cX11_draw 30 = .ok (.iconst (-1), 1) := by decide +kernel
theorem dX11_draw_31 : decode cX11_draw 31 = .ok (.if_icmp .eq 7, 3) := by decide +kernel
theorem dX11_draw_34 : decode cX11_draw 34 = .ok (.iconst (-1), 1) := by decide +kernel
theorem dX11_draw_35 : decode cX11_draw 35 = .ok (.iload_n 2, 1) := by decide +kernel
theorem dX11_draw_36 : decode cX11_draw 36 = .ok (.isub, 1) := by decide +kernel
theorem dX11_draw_37 : decode cX11_draw 37 = .ok (.ireturn, 1) := by decide +kernel
theorem dX11_draw_38 : decode cX11_draw 38 = .ok (.aload_n 0, 1) := by decide +kernel
theorem dX11_draw_39 : decode cX11_draw 39 = .ok (.invokevirtual 104, 3) := by decide +kernel
theorem dX11_draw_42 : decode cX11_draw 42 = .ok (.iconst 0, 1) := by decide +kernel
theorem dX11_draw_43 : decode cX11_draw 43 = .ok (.ireturn, 1) := by decide +kernel
theorem dX11_takeBack_0 : decode cX11_takeBack 0 = .ok (.aload_n 0, 1) := by decide +kernel
theorem dX11_takeBack_1 : decode cX11_takeBack 1 = .ok (.getfield 85, 3) := by decide +kernel
theorem dX11_takeBack_4 : decode cX11_takeBack 4 = .ok (.invokevirtual 130, 3) := by decide +kernel
theorem dX11_takeBack_7 : decode cX11_takeBack 7 = .ok (.istore_n 1, 1) := by decide +kernel
theorem dX11_takeBack_8 : decode cX11_takeBack 8 = .ok (.iload_n 1, 1) := by decide +kernel
theorem dX11_takeBack_9 : decode cX11_takeBack 9 = .ok (.iconst (-1), 1) := by decide +kernel
theorem dX11_takeBack_10 : decode cX11_takeBack 10 = .ok (.if_icmp .eq 7, 3) := by decide +kernel
theorem dX11_takeBack_13 : decode cX11_takeBack 13 = .ok (.aload_n 0, 1) := by decide +kernel
theorem dX11_takeBack_14 : decode cX11_takeBack 14 = .ok (.invokevirtual 104, 3) := by decide +kernel
theorem dX11_takeBack_17 : decode cX11_takeBack 17 = .ok (.iload_n 1, 1) := by decide +kernel
theorem dX11_takeBack_18 : decode cX11_takeBack 18 = .ok (.ireturn, 1) := by decide +kernel
theorem dX11_region_0 : decode cX11_region 0 = .ok (.aload_n 0, 1) := by decide +kernel
theorem dX11_region_1 : decode cX11_region 1 = .ok (.getfield 37, 3) := by decide +kernel
theorem dX11_region_4 : decode cX11_region 4 = .ok (.iload_n 1, 1) := by decide +kernel
theorem dX11_region_5 : decode cX11_region 5 = .ok (.iload_n 2, 1) := by decide +kernel
theorem dX11_region_6 : decode cX11_region 6 = .ok (.invokestatic 92, 3) := by decide +kernel
theorem dX11_region_9 : decode cX11_region 9 = .ok (.invokevirtual 133, 3) := by decide +kernel
theorem dX11_region_12 : decode cX11_region 12 = .ok (.ireturn, 1) := by decide +kernel
theorem dX11_taken_0 : decode cX11_taken 0 = .ok (.aload_n 0, 1) := by decide +kernel
theorem dX11_taken_1 : decode cX11_taken 1 = .ok (.getfield 37, 3) := by decide +kernel
theorem dX11_taken_4 : decode cX11_taken 4 = .ok (.iload_n 1, 1) := by decide +kernel
theorem dX11_taken_5 : decode cX11_taken 5 = .ok (.iload_n 2, 1) := by decide +kernel
theorem dX11_taken_6 : decode cX11_taken 6 = .ok (.invokestatic 92, 3) := by decide +kernel
theorem dX11_taken_9 : decode cX11_taken 9 = .ok (.invokevirtual 137, 3) := by decide +kernel
theorem dX11_taken_12 : decode cX11_taken 12 = .ok (.ireturn, 1) := by decide +kernel
theorem dX11_side_0 : decode cX11_side 0 = .ok (.iload_n 1, 1) := by decide +kernel
theorem dX11_side_1 : decode cX11_side 1 = .ok (.iload_n 2, 1) := by decide +kernel
theorem dX11_side_2 : decode cX11_side 2 = .ok (.invokestatic 92, 3) := by decide +kernel
theorem dX11_side_5 : decode cX11_side 5 = .ok (.istore 4, 2) := by decide +kernel
theorem dX11_side_7 : decode cX11_side 7 = .ok (.iload 4, 2) := by decide +kernel
theorem dX11_side_9 : decode cX11_side 9 = .ok (.iconst (-1), 1) := by decide +kernel
theorem dX11_side_10 : decode cX11_side 10 = .ok (.if_icmp .eq 12, 3) := by decide +kernel
theorem dX11_side_13 : decode cX11_side 13 = .ok (.iload_n 3, 1) := by decide +kernel
theorem dX11_side_14 : decode cX11_side 14 = .ok (.ifCond .lt 8, 3) := by decide +kernel
theorem dX11_side_17 : decode cX11_side 17 = .ok (.iload_n 3, 1) := by decide +kernel
theorem dX11_side_18 : decode cX11_side 18 = .ok (.iconst 4, 1) := by decide +kernel
theorem dX11_side_19 : decode cX11_side 19 = .ok (.if_icmp .lt 5, 3) := by decide +kernel
theorem dX11_side_22 : decode cX11_side 22 = .ok (.iconst (-1), 1) := by decide +kernel
theorem dX11_side_23 : decode cX11_side 23 = .ok (.ireturn, 1) := by decide +kernel
theorem dX11_side_24 : decode cX11_side 24 = .ok (.aload_n 0, 1) := by decide +kernel
theorem dX11_side_25 : decode cX11_side 25 = .ok (.getfield 19, 3) := by decide +kernel
theorem dX11_side_28 : decode cX11_side 28 = .ok (.iload 4, 2) := by decide +kernel
theorem dX11_side_30 : decode cX11_side 30 = .ok (.iload_n 3, 1) := by decide +kernel
theorem dX11_side_31 : decode cX11_side 31 = .ok (.invokevirtual 140, 3) := by decide +kernel
theorem dX11_side_34 : decode cX11_side 34 = .ok (.ifCond .eq 7, 3) := by decide +kernel
theorem dX11_side_37 : decode cX11_side 37 = .ok (.iconst 1, 1) := by decide +kernel
theorem dX11_side_38 : decode cX11_side 38 = .ok (.goto 4, 3) := by decide +kernel
theorem dX11_side_41 : decode cX11_side 41 = .ok (.iconst 0, 1) := by decide +kernel
theorem dX11_side_42 : decode cX11_side 42 = .ok (.ireturn, 1) := by decide +kernel
theorem dX11_row_0 : decode cX11_row 0 = .ok (.aload_n 0, 1) := by decide +kernel
theorem dX11_row_1 : decode cX11_row 1 = .ok (.getfield 28, 3) := by decide +kernel
theorem dX11_row_4 : decode cX11_row 4 = .ok (.iload_n 1, 1) := by decide +kernel
theorem dX11_row_5 : decode cX11_row 5 = .ok (.iload_n 2, 1) := by decide +kernel
theorem dX11_row_6 : decode cX11_row 6 = .ok (.invokevirtual 144, 3) := by decide +kernel
theorem dX11_row_9 : decode cX11_row 9 = .ok (.ireturn, 1) := by decide +kernel
theorem dX11_strand_0 : decode cX11_strand 0 = .ok (.aload_n 0, 1) := by decide +kernel
theorem dX11_strand_1 : decode cX11_strand 1 = .ok (.getfield 28, 3) := by decide +kernel
theorem dX11_strand_4 : decode cX11_strand 4 = .ok (.iload_n 1, 1) := by decide +kernel
theorem dX11_strand_5 : decode cX11_strand 5 = .ok (.iload_n 2, 1) := by decide +kernel
theorem dX11_strand_6 : decode cX11_strand 6 = .ok (.invokevirtual 144, 3) := by decide +kernel
theorem dX11_strand_9 : decode cX11_strand 9 = .ok (.istore 4, 2) := by decide +kernel
theorem dX11_strand_11 : decode cX11_strand 11 = .ok (.iload 4, 2) := by decide +kernel
theorem dX11_strand_13 : decode cX11_strand 13 = .ok (.iconst (-1), 1) := by decide +kernel
theorem dX11_strand_14 : decode cX11_strand 14 = .ok (.if_icmp .eq 12, 3) := by decide +kernel
theorem dX11_strand_17 : decode cX11_strand 17 = .ok (.iload_n 3, 1) := by decide +kernel
theorem dX11_strand_18 : decode cX11_strand 18 = .ok (.ifCond .lt 8, 3) := by decide +kernel
theorem dX11_strand_21 : decode cX11_strand 21 = .ok (.iload_n 3, 1) := by decide +kernel
theorem dX11_strand_22 : decode cX11_strand 22 = .ok (.iconst 5, 1) := by decide +kernel
theorem dX11_strand_23 : decode cX11_strand 23 = .ok (.if_icmp .le 11, 3) := by decide +kernel
theorem dX11_strand_26 : decode cX11_strand 26 = .ok (.new 147, 3) := by decide +kernel
theorem dX11_strand_29 : decode cX11_strand 29 = .ok (.dup, 1) := by decide +kernel
theorem dX11_strand_30 : decode cX11_strand 30 = .ok (.invokespecial 149, 3) := by decide +kernel
theorem dX11_strand_33 : decode cX11_strand 33 = .ok (.athrow, 1) := by decide +kernel
theorem dX11_strand_34 : decode cX11_strand 34 = .ok (.iload_n 3, 1) := by decide +kernel
theorem dX11_strand_35 : decode cX11_strand 35 = .ok (.iconst 3, 1) := by decide +kernel
theorem dX11_strand_36 : decode cX11_strand 36 = .ok (.if_icmp .ge 14, 3) := by decide +kernel
theorem dX11_strand_39 : decode cX11_strand 39 = .ok (.aload_n 0, 1) := by decide +kernel
theorem dX11_strand_40 : decode cX11_strand 40 = .ok (.getfield 53, 3) := by decide +kernel
theorem dX11_strand_43 : decode cX11_strand 43 = .ok (.iload 4, 2) := by decide +kernel
theorem dX11_strand_45 : decode cX11_strand 45 = .ok (.iload_n 3, 1) := by decide +kernel
theorem dX11_strand_46 : decode cX11_strand 46 = .ok (.invokevirtual 150, 3) := by decide +kernel
theorem dX11_strand_49 : decode cX11_strand 49 = .ok (.ireturn, 1) := by decide +kernel
theorem dX11_strand_50 : decode cX11_strand 50 = .ok (.iload_n 3, 1) := by decide +kernel
theorem dX11_strand_51 : decode cX11_strand 51 = .ok (.iconst 3, 1) := by decide +kernel
theorem dX11_strand_52 : decode cX11_strand 52 = .ok (.if_icmp .ne 13, 3) := by decide +kernel
theorem dX11_strand_55 : decode cX11_strand 55 = .ok (.aload_n 0, 1) := by decide +kernel
theorem dX11_strand_56 : decode cX11_strand 56 = .ok (.getfield 37, 3) := by decide +kernel
theorem dX11_strand_59 : decode cX11_strand 59 = .ok (.iload 4, 2) := by decide +kernel
theorem dX11_strand_61 : decode cX11_strand 61 = .ok (.invokevirtual 153, 3) := by decide +kernel
theorem dX11_strand_64 : decode cX11_strand 64 = .ok (.ireturn, 1) := by decide +kernel
theorem dX11_strand_65 : decode cX11_strand 65 = .ok (.iload_n 3, 1) := by decide +kernel
theorem dX11_strand_66 : decode cX11_strand 66 = .ok (.iconst 4, 1) := by decide +kernel
theorem dX11_strand_67 : decode cX11_strand 67 = .ok (.if_icmp .ne 13, 3) := by decide +kernel
theorem dX11_strand_70 : decode cX11_strand 70 = .ok (.aload_n 0, 1) := by decide +kernel
theorem dX11_strand_71 : decode cX11_strand 71 = .ok (.getfield 53, 3) := by decide +kernel
theorem dX11_strand_74 : decode cX11_strand 74 = .ok (.iload 4, 2) := by decide +kernel
theorem dX11_strand_76 : decode cX11_strand 76 = .ok (.invokevirtual 156, 3) := by decide +kernel
theorem dX11_strand_79 : decode cX11_strand 79 = .ok (.ireturn, 1) := by decide +kernel
theorem dX11_strand_80 : decode cX11_strand 80 = .ok (.aload_n 0, 1) := by decide +kernel
theorem dX11_strand_81 : decode cX11_strand 81 = .ok (.getfield 12, 3) := by decide +kernel
theorem dX11_strand_84 : decode cX11_strand 84 = .ok (.iload 4, 2) := by decide +kernel
theorem dX11_strand_86 : decode cX11_strand 86 = .ok (.invokevirtual 159, 3) := by decide +kernel
theorem dX11_strand_89 : decode cX11_strand 89 = .ok (.ifCond .eq 7, 3) := by decide +kernel
theorem dX11_strand_92 : decode cX11_strand 92 = .ok (.iconst 1, 1) := by decide +kernel
theorem dX11_strand_93 : decode cX11_strand 93 = .ok (.goto 4, 3) := by decide +kernel
theorem dX11_strand_96 : decode cX11_strand 96 = .ok (.iconst 0, 1) := by decide +kernel
theorem dX11_strand_97 : decode cX11_strand 97 = .ok (.ireturn, 1) := by decide +kernel
theorem dX11_added_0 : decode cX11_added 0 = .ok (.iload_n 3, 1) := by decide +kernel
theorem dX11_added_1 : decode cX11_added 1 = .ok (.iconst 1, 1) := by decide +kernel
theorem dX11_added_2 : decode cX11_added 2 = .ok (.if_icmp .lt 21, 3) := by decide +kernel
theorem dX11_added_5 : decode cX11_added 5 = .ok (.iload_n 3, 1) := by decide +kernel
theorem dX11_added_6 : decode cX11_added 6 = .ok (.bipush 99, 2) := by decide +kernel
theorem dX11_added_8 : decode cX11_added 8 = .ok (.if_icmp .gt 15, 3) := by decide +kernel
theorem dX11_added_11 : decode cX11_added 11 = .ok (.iload 4, 2) := by decide +kernel
theorem dX11_added_13 : decode cX11_added 13 = .ok (.invokestatic 105, 3) := by decide +kernel
theorem dX11_added_16 : decode cX11_added 16 = .ok (.ifCond .eq 7, 3) := by decide +kernel
theorem dX11_added_19 : decode cX11_added 19 = .ok (.iconst 1, 1) := by decide +kernel
theorem dX11_added_20 : decode cX11_added 20 = .ok (.goto 4, 3) := by decide +kernel
theorem dX11_added_23 : decode cX11_added 23 = .ok (.iconst 0, 1) := by decide +kernel
theorem dX11_added_24 : decode cX11_added 24 = .ok (.istore 5, 2) := by decide +kernel
theorem dX11_added_26 : decode cX11_added 26 = .ok (.aload_n 0, 1) := by decide +kernel
theorem dX11_added_27 : decode cX11_added 27 = .ok (.getfield 28, 3) := by decide +kernel
theorem dX11_added_30 : decode cX11_added 30 = .ok (.iload_n 1, 1) := by decide +kernel
theorem dX11_added_31 : decode cX11_added 31 = .ok (.iload_n 2, 1) := by decide +kernel
theorem dX11_added_32 : decode cX11_added 32 = .ok (.invokevirtual 144, 3) := by decide +kernel
theorem dX11_added_35 : decode cX11_added 35 = .ok (.istore 6, 2) := by decide +kernel
theorem dX11_added_37 : decode cX11_added 37 = .ok (.iload 6, 2) := by decide +kernel
theorem dX11_added_39 : decode cX11_added 39 = .ok (.iconst (-1), 1) := by decide +kernel
theorem dX11_added_40 : decode cX11_added 40 = .ok (.if_icmp .eq 20, 3) := by decide +kernel
theorem dX11_added_43 : decode cX11_added 43 = .ok (.iload 5, 2) := by decide +kernel
theorem dX11_added_45 : decode cX11_added 45 = .ok (.ifCond .eq 15, 3) := by decide +kernel
theorem dX11_added_48 : decode cX11_added 48 = .ok (.aload_n 0, 1) := by decide +kernel
theorem dX11_added_49 : decode cX11_added 49 = .ok (.getfield 44, 3) := by decide +kernel
theorem dX11_added_52 : decode cX11_added 52 = .ok (.getfield 162, 3) := by decide +kernel
theorem dX11_added_55 : decode cX11_added 55 = .ok (.bipush 60, 2) := by decide +kernel
theorem dX11_added_57 : decode cX11_added 57 = .ok (.if_icmp .lt 5, 3) := by decide +kernel
theorem dX11_added_60 : decode cX11_added 60 = .ok (.iconst (-1), 1) := by decide +kernel
theorem dX11_added_61 : decode cX11_added 61 = .ok (.ireturn, 1) := by decide +kernel
theorem dX11_added_62 : decode cX11_added 62 = .ok (.aload_n 0, 1) := by decide +kernel
theorem dX11_added_63 : decode cX11_added 63 = .ok (.getfield 44, 3) := by decide +kernel
theorem dX11_added_66 : decode cX11_added 66 = .ok (.iload_n 1, 1) := by decide +kernel
theorem dX11_added_67 : decode cX11_added 67 = .ok (.iload_n 2, 1) := by decide +kernel
theorem dX11_added_68 : decode cX11_added 68 = .ok (.iload_n 3, 1) := by decide +kernel
theorem dX11_added_69 : decode cX11_added 69 = .ok (.iload 4, 2) := by decide +kernel
theorem dX11_added_71 : decode cX11_added 71 = .ok (.invokevirtual 163, 3) := by decide +kernel
theorem dX11_added_74 : decode cX11_added 74 = .ok (.aload_n 0, 1) := by decide +kernel
theorem dX11_added_75 : decode cX11_added 75 = .ok (.getfield 28, 3) := by decide +kernel
theorem dX11_added_78 : decode cX11_added 78 = .ok (.iload_n 1, 1) := by decide +kernel
theorem dX11_added_79 : decode cX11_added 79 = .ok (.iload 6, 2) := by decide +kernel
theorem dX11_added_81 : decode cX11_added 81 = .ok (.iload_n 3, 1) := by decide +kernel
theorem dX11_added_82 : decode cX11_added 82 = .ok (.invokevirtual 167, 3) := by decide +kernel
theorem dX11_added_85 : decode cX11_added 85 = .ok (.aload_n 0, 1) := by decide +kernel
theorem dX11_added_86 : decode cX11_added 86 = .ok (.getfield 53, 3) := by decide +kernel
theorem dX11_added_89 : decode cX11_added 89 = .ok (.invokevirtual 171, 3) := by decide +kernel
theorem dX11_added_92 : decode cX11_added 92 = .ok (.aload_n 0, 1) := by decide +kernel
theorem dX11_added_93 : decode cX11_added 93 = .ok (.getfield 44, 3) := by decide +kernel
theorem dX11_added_96 : decode cX11_added 96 = .ok (.getfield 162, 3) := by decide +kernel
theorem dX11_added_99 : decode cX11_added 99 = .ok (.ireturn, 1) := by decide +kernel
theorem dX11_pull_0 : decode cX11_pull 0 = .ok (.aload_n 0, 1) := by decide +kernel
theorem dX11_pull_1 : decode cX11_pull 1 = .ok (.getfield 28, 3) := by decide +kernel
theorem dX11_pull_4 : decode cX11_pull 4 = .ok (.iload_n 1, 1) := by decide +kernel
theorem dX11_pull_5 : decode cX11_pull 5 = .ok (.invokevirtual 172, 3) := by decide +kernel
theorem dX11_pull_8 : decode cX11_pull 8 = .ok (.ifCond .eq 14, 3) := by decide +kernel
theorem dX11_pull_11 : decode cX11_pull 11 = .ok (.aload_n 0, 1) := by decide +kernel
theorem dX11_pull_12 : decode cX11_pull 12 = .ok (.getfield 53, 3) := by decide +kernel
theorem dX11_pull_15 : decode cX11_pull 15 = .ok (.iload_n 1, 1) := by decide +kernel
theorem dX11_pull_16 : decode cX11_pull 16 = .ok (.invokevirtual 175, 3) := by decide +kernel
theorem dX11_pull_19 : decode cX11_pull 19 = .ok (.goto 4, 3) := by decide +kernel
theorem dX11_pull_22 : decode cX11_pull 22 = .ok (.iconst (-1), 1) := by decide +kernel
theorem dX11_pull_23 : decode cX11_pull 23 = .ok (.ireturn, 1) := by decide +kernel
theorem dX11_even_0 : decode cX11_even 0 = .ok (.aload_n 0, 1) := by decide +kernel
theorem dX11_even_1 : decode cX11_even 1 = .ok (.getfield 28, 3) := by decide +kernel
theorem dX11_even_4 : decode cX11_even 4 = .ok (.iload_n 1, 1) := by decide +kernel
theorem dX11_even_5 : decode cX11_even 5 = .ok (.invokevirtual 172, 3) := by decide +kernel
theorem dX11_even_8 : decode cX11_even 8 = .ok (.ifCond .eq 14, 3) := by decide +kernel
theorem dX11_even_11 : decode cX11_even 11 = .ok (.aload_n 0, 1) := by decide +kernel
theorem dX11_even_12 : decode cX11_even 12 = .ok (.getfield 53, 3) := by decide +kernel
theorem dX11_even_15 : decode cX11_even 15 = .ok (.iload_n 1, 1) := by decide +kernel
theorem dX11_even_16 : decode cX11_even 16 = .ok (.invokevirtual 178, 3) := by decide +kernel
theorem dX11_even_19 : decode cX11_even 19 = .ok (.goto 4, 3) := by decide +kernel
theorem dX11_even_22 : decode cX11_even 22 = .ok (.iconst (-1), 1) := by decide +kernel
theorem dX11_even_23 : decode cX11_even 23 = .ok (.ireturn, 1) := by decide +kernel
theorem dX11_hangs_0 : decode cX11_hangs 0 = .ok (.aload_n 0, 1) := by decide +kernel
theorem dX11_hangs_1 : decode cX11_hangs 1 = .ok (.getfield 28, 3) := by decide +kernel
theorem dX11_hangs_4 : decode cX11_hangs 4 = .ok (.iload_n 1, 1) := by decide +kernel
theorem dX11_hangs_5 : decode cX11_hangs 5 = .ok (.invokevirtual 172, 3) := by decide +kernel
theorem dX11_hangs_8 : decode cX11_hangs 8 = .ok (.ifCond .eq 14, 3) := by decide +kernel
theorem dX11_hangs_11 : decode cX11_hangs 11 = .ok (.aload_n 0, 1) := by decide +kernel
theorem dX11_hangs_12 : decode cX11_hangs 12 = .ok (.getfield 53, 3) := by decide +kernel
theorem dX11_hangs_15 : decode cX11_hangs 15 = .ok (.iload_n 1, 1) := by decide +kernel
theorem dX11_hangs_16 : decode cX11_hangs 16 = .ok (.invokevirtual 181, 3) := by decide +kernel
theorem dX11_hangs_19 : decode cX11_hangs 19 = .ok (.goto 4, 3) := by decide +kernel
theorem dX11_hangs_22 : decode cX11_hangs 22 = .ok (.iconst (-1), 1) := by decide +kernel
theorem dX11_hangs_23 : decode cX11_hangs 23 = .ok (.ireturn, 1) := by decide +kernel
theorem dX11_join_0 : decode cX11_join 0 = .ok (.aload_n 0, 1) := by decide +kernel
theorem dX11_join_1 : decode cX11_join 1 = .ok (.getfield 28, 3) := by decide +kernel
theorem dX11_join_4 : decode cX11_join 4 = .ok (.iload_n 1, 1) := by decide +kernel
theorem dX11_join_5 : decode cX11_join 5 = .ok (.iload_n 2, 1) := by decide +kernel
theorem dX11_join_6 : decode cX11_join 6 = .ok (.iload_n 3, 1) := by decide +kernel
theorem dX11_join_7 : decode cX11_join 7 = .ok (.invokevirtual 184, 3) := by decide +kernel
theorem dX11_join_10 : decode cX11_join 10 = .ok (.ifCond .ne 5, 3) := by decide +kernel
theorem dX11_join_13 : decode cX11_join 13 = .ok (.iconst (-1), 1) := by decide +kernel
theorem dX11_join_14 : decode cX11_join 14 = .ok (.ireturn, 1) := by decide +kernel
theorem dX11_join_15 : decode cX11_join 15 = .ok (.aload_n 0, 1) := by decide +kernel
theorem dX11_join_16 : decode cX11_join 16 = .ok (.getfield 28, 3) := by decide +kernel
theorem dX11_join_19 : decode cX11_join 19 = .ok (.iload_n 1, 1) := by decide +kernel
theorem dX11_join_20 : decode cX11_join 20 = .ok (.iload_n 2, 1) := by decide +kernel
theorem dX11_join_21 : decode cX11_join 21 = .ok (.iload_n 3, 1) := by decide +kernel
theorem dX11_join_22 : decode cX11_join 22 = .ok (.invokevirtual 188, 3) := by decide +kernel
theorem dX11_join_25 : decode cX11_join 25 = .ok (.ireturn, 1) := by decide +kernel
theorem dX11_look_0 : decode cX11_look 0 = .ok (.iload_n 1, 1) := by decide +kernel
theorem dX11_look_1 : decode cX11_look 1 = .ok (.iload_n 2, 1) := by decide +kernel
theorem dX11_look_2 : decode cX11_look 2 = .ok (.invokestatic 92, 3) := by decide +kernel
theorem dX11_look_5 : decode cX11_look 5 = .ok (.istore 4, 2) := by decide +kernel
theorem dX11_look_7 : decode cX11_look 7 = .ok (.iload 4, 2) := by decide +kernel
theorem dX11_look_9 : decode cX11_look 9 = .ok (.iconst (-1), 1) := by decide +kernel
theorem dX11_look_10 : decode cX11_look 10 = .ok (.if_icmp .eq 12, 3) := by decide +kernel
theorem dX11_look_13 : decode cX11_look 13 = .ok (.iload_n 3, 1) := by decide +kernel
theorem dX11_look_14 : decode cX11_look 14 = .ok (.ifCond .lt 8, 3) := by decide +kernel
theorem dX11_look_17 : decode cX11_look 17 = .ok (.iload_n 3, 1) := by decide +kernel
theorem dX11_look_18 : decode cX11_look 18 = .ok (.iconst 2, 1) := by decide +kernel
theorem dX11_look_19 : decode cX11_look 19 = .ok (.if_icmp .le 11, 3) := by decide +kernel
theorem dX11_look_22 : decode cX11_look 22 = .ok (.new 147, 3) := by decide +kernel
theorem dX11_look_25 : decode cX11_look 25 = .ok (.dup, 1) := by decide +kernel
theorem dX11_look_26 : decode cX11_look 26 = .ok (.invokespecial 149, 3) := by decide +kernel
theorem dX11_look_29 : decode cX11_look 29 = .ok (.athrow, 1) := by decide +kernel
theorem dX11_look_30 : decode cX11_look 30 = .ok (.iload_n 3, 1) := by decide +kernel
theorem dX11_look_31 : decode cX11_look 31 = .ok (.ifCond .ne 13, 3) := by decide +kernel
theorem dX11_look_34 : decode cX11_look 34 = .ok (.aload_n 0, 1) := by decide +kernel
theorem dX11_look_35 : decode cX11_look 35 = .ok (.getfield 12, 3) := by decide +kernel
theorem dX11_look_38 : decode cX11_look 38 = .ok (.iload 4, 2) := by decide +kernel
theorem dX11_look_40 : decode cX11_look 40 = .ok (.invokevirtual 192, 3) := by decide +kernel
theorem dX11_look_43 : decode cX11_look 43 = .ok (.ireturn, 1) := by decide +kernel
theorem dX11_look_44 : decode cX11_look 44 = .ok (.iload_n 3, 1) := by decide +kernel
theorem dX11_look_45 : decode cX11_look 45 = .ok (.iconst 1, 1) := by decide +kernel
theorem dX11_look_46 : decode cX11_look 46 = .ok (.if_icmp .ne 18, 3) := by decide +kernel
theorem dX11_look_49 : decode cX11_look 49 = .ok (.aload_n 0, 1) := by decide +kernel
theorem dX11_look_50 : decode cX11_look 50 = .ok (.iload 4, 2) := by decide +kernel
theorem dX11_look_52 : decode cX11_look 52 = .ok (.invokevirtual 195, 3) := by decide +kernel
theorem dX11_look_55 : decode cX11_look 55 = .ok (.ifCond .eq 7, 3) := by decide +kernel
theorem dX11_look_58 : decode cX11_look 58 = .ok (.iconst 1, 1) := by decide +kernel
theorem dX11_look_59 : decode cX11_look 59 = .ok (.goto 4, 3) := by decide +kernel
theorem dX11_look_62 : decode cX11_look 62 = .ok (.iconst 0, 1) := by decide +kernel
theorem dX11_look_63 : decode cX11_look 63 = .ok (.ireturn, 1) := by decide +kernel
theorem dX11_look_64 : decode cX11_look 64 = .ok (.aload_n 0, 1) := by decide +kernel
theorem dX11_look_65 : decode cX11_look 65 = .ok (.getfield 28, 3) := by decide +kernel
theorem dX11_look_68 : decode cX11_look 68 = .ok (.iload 4, 2) := by decide +kernel
theorem dX11_look_70 : decode cX11_look 70 = .ok (.invokevirtual 198, 3) := by decide +kernel
theorem dX11_look_73 : decode cX11_look 73 = .ok (.istore 5, 2) := by decide +kernel
theorem dX11_look_75 : decode cX11_look 75 = .ok (.iload 5, 2) := by decide +kernel
theorem dX11_look_77 : decode cX11_look 77 = .ok (.iconst (-1), 1) := by decide +kernel
theorem dX11_look_78 : decode cX11_look 78 = .ok (.if_icmp .ne 7, 3) := by decide +kernel
theorem dX11_look_81 : decode cX11_look 81 = .ok (.iconst (-1), 1) := by decide +kernel
theorem dX11_look_82 : decode cX11_look 82 = .ok (.goto 9, 3) := by decide +kernel
theorem dX11_look_85 : decode cX11_look 85 = .ok (.iload 5, 2) := by decide +kernel
theorem dX11_look_87 : decode cX11_look 87 = .ok (.sipush 200, 3) := by decide +kernel
theorem dX11_look_90 : decode cX11_look 90 = .ok (.idiv, 1) := by decide +kernel
theorem dX11_look_91 : decode cX11_look 91 = .ok (.ireturn, 1) := by decide +kernel
theorem dX11_work_0 : decode cX11_work 0 = .ok (.aload_n 0, 1) := by decide +kernel
theorem dX11_work_1 : decode cX11_work 1 = .ok (.getfield 28, 3) := by decide +kernel
theorem dX11_work_4 : decode cX11_work 4 = .ok (.iload_n 1, 1) := by decide +kernel
theorem dX11_work_5 : decode cX11_work 5 = .ok (.invokevirtual 172, 3) := by decide +kernel
theorem dX11_work_8 : decode cX11_work 8 = .ok (.ifCond .eq 14, 3) := by decide +kernel
theorem dX11_work_11 : decode cX11_work 11 = .ok (.aload_n 0, 1) := by decide +kernel
theorem dX11_work_12 : decode cX11_work 12 = .ok (.getfield 53, 3) := by decide +kernel
theorem dX11_work_15 : decode cX11_work 15 = .ok (.iload_n 1, 1) := by decide +kernel
theorem dX11_work_16 : decode cX11_work 16 = .ok (.invokevirtual 201, 3) := by decide +kernel
theorem dX11_work_19 : decode cX11_work 19 = .ok (.goto 4, 3) := by decide +kernel
theorem dX11_work_22 : decode cX11_work 22 = .ok (.iconst (-1), 1) := by decide +kernel
theorem dX11_work_23 : decode cX11_work 23 = .ok (.ireturn, 1) := by decide +kernel
theorem dX11_hands_0 : decode cX11_hands 0 = .ok (.iload_n 1, 1) := by decide +kernel
theorem dX11_hands_1 : decode cX11_hands 1 = .ok (.ifCond .eq 24, 3) := by decide +kernel
theorem dX11_hands_4 : decode cX11_hands 4 = .ok (.iload_n 1, 1) := by decide +kernel
theorem dX11_hands_5 : decode cX11_hands 5 = .ok (.invokestatic 204, 3) := by decide +kernel
theorem dX11_hands_8 : decode cX11_hands 8 = .ok (.ifCond .eq 17, 3) := by decide +kernel
theorem dX11_hands_11 : decode cX11_hands 11 = .ok (.iload_n 2, 1) := by decide +kernel
theorem dX11_hands_12 : decode cX11_hands 12 = .ok (.invokestatic 204, 3) := by decide +kernel
theorem dX11_hands_15 : decode cX11_hands 15 = .ok (.ifCond .eq 10, 3) := by decide +kernel
theorem dX11_hands_18 : decode cX11_hands 18 = .ok (.iload_n 3, 1) := by decide +kernel
theorem dX11_hands_19 : decode cX11_hands 19 = .ok (.invokestatic 204, 3) := by decide +kernel
theorem dX11_hands_22 : decode cX11_hands 22 = .ok (.ifCond .ne 5, 3) := by decide +kernel
theorem dX11_hands_25 : decode cX11_hands 25 = .ok (.iconst 0, 1) := by decide +kernel
theorem dX11_hands_26 : decode cX11_hands 26 = .ok (.ireturn, 1) := by decide +kernel
theorem dX11_hands_27 : decode cX11_hands 27 = .ok (.aload_n 0, 1) := by decide +kernel
theorem dX11_hands_28 : decode cX11_hands 28 = .ok (.getfield 60, 3) := by decide +kernel
theorem dX11_hands_31 : decode cX11_hands 31 = .ok (.iload_n 1, 1) := by decide +kernel
theorem dX11_hands_32 : decode cX11_hands 32 = .ok (.iload_n 2, 1) := by decide +kernel
theorem dX11_hands_33 : decode cX11_hands 33 = .ok (.iload_n 3, 1) := by decide +kernel
theorem dX11_hands_34 : decode cX11_hands 34 = .ok (.invokevirtual 207, 3) := by decide +kernel
theorem dX11_hands_37 : decode cX11_hands 37 = .ok (.iconst 1, 1) := by decide +kernel
theorem dX11_hands_38 : decode cX11_hands 38 = .ok (.ireturn, 1) := by decide +kernel
theorem dX11_plan_0 : decode cX11_plan 0 = .ok (.iload_n 1, 1) := by decide +kernel
theorem dX11_plan_1 : decode cX11_plan 1 = .ok (.ifCond .lt 8, 3) := by decide +kernel
theorem dX11_plan_4 : decode cX11_plan 4 = .ok (.iload_n 1, 1) := by decide +kernel
theorem dX11_plan_5 : decode cX11_plan 5 = .ok (.iconst 2, 1) := by decide +kernel
theorem dX11_plan_6 : decode cX11_plan 6 = .ok (.if_icmp .le 5, 3) := by decide +kernel
theorem dX11_plan_9 : decode cX11_plan 9 = .ok (.iconst (-1), 1) := by decide +kernel
theorem dX11_plan_10 : decode cX11_plan 10 = .ok (.ireturn, 1) := by decide +kernel
theorem dX11_plan_11 : decode cX11_plan 11 = .ok (.aload_n 0, 1) := by decide +kernel
theorem dX11_plan_12 : decode cX11_plan 12 = .ok (.invokevirtual 210, 3) := by decide +kernel
theorem dX11_plan_15 : decode cX11_plan 15 = .ok (.iload_n 1, 1) := by decide +kernel
theorem dX11_plan_16 : decode cX11_plan 16 = .ok (.ifCond .ne 11, 3) := by decide +kernel
theorem dX11_plan_19 : decode cX11_plan 19 = .ok (.aload_n 0, 1) := by decide +kernel
theorem dX11_plan_20 : decode cX11_plan 20 = .ok (.getfield 60, 3) := by decide +kernel
theorem dX11_plan_23 : decode cX11_plan 23 = .ok (.getfield 213, 3) := by decide +kernel
theorem dX11_plan_26 : decode cX11_plan 26 = .ok (.ireturn, 1) := by decide +kernel
theorem dX11_plan_27 : decode cX11_plan 27 = .ok (.iload_n 1, 1) := by decide +kernel
theorem dX11_plan_28 : decode cX11_plan 28 = .ok (.iconst 1, 1) := by decide +kernel
theorem dX11_plan_29 : decode cX11_plan 29 = .ok (.if_icmp .ne 13, 3) := by decide +kernel
theorem dX11_plan_32 : decode cX11_plan 32 = .ok (.aload_n 0, 1) := by decide +kernel
theorem dX11_plan_33 : decode cX11_plan 33 = .ok (.getfield 60, 3) := by decide +kernel
theorem dX11_plan_36 : decode cX11_plan 36 = .ok (.invokevirtual 216, 3) := by decide +kernel
theorem dX11_plan_39 : decode cX11_plan 39 = .ok (.goto 10, 3) := by decide +kernel
theorem dX11_plan_42 : decode cX11_plan 42 = .ok (.aload_n 0, 1) := by decide +kernel
theorem dX11_plan_43 : decode cX11_plan 43 = .ok (.getfield 60, 3) := by decide +kernel
theorem dX11_plan_46 : decode cX11_plan 46 = .ok (.getfield 219, 3) := by decide +kernel
theorem dX11_plan_49 : decode cX11_plan 49 = .ok (.ireturn, 1) := by decide +kernel
theorem dX11_planned_0 : decode cX11_planned 0 = .ok (.aload_n 0, 1) := by decide +kernel
theorem dX11_planned_1 : decode cX11_planned 1 = .ok (.invokevirtual 210, 3) := by decide +kernel
theorem dX11_planned_4 : decode cX11_planned 4 = .ok (.aload_n 0, 1) := by decide +kernel
theorem dX11_planned_5 : decode cX11_planned 5 = .ok (.getfield 60, 3) := by decide +kernel
theorem dX11_planned_8 : decode cX11_planned 8 = .ok (.iload_n 1, 1) := by decide +kernel
theorem dX11_planned_9 : decode cX11_planned 9 = .ok (.invokevirtual 220, 3) := by decide +kernel
theorem dX11_planned_12 : decode cX11_planned 12 = .ok (.ireturn, 1) := by decide +kernel
theorem dX11_done_0 : decode cX11_done 0 = .ok (.iconst 0, 1) := by decide +kernel
theorem dX11_done_1 : decode cX11_done 1 = .ok (.istore_n 1, 1) := by decide +kernel
theorem dX11_done_2 : decode cX11_done 2 = .ok (.iload_n 1, 1) := by decide +kernel
theorem dX11_done_3 : decode cX11_done 3 = .ok (.aload_n 0, 1) := by decide +kernel
theorem dX11_done_4 : decode cX11_done 4 = .ok (.getfield 28, 3) := by decide +kernel
theorem dX11_done_7 : decode cX11_done 7 = .ok (.getfield 223, 3) := by decide +kernel
theorem dX11_done_10 : decode cX11_done 10 = .ok (.if_icmp .ge 24, 3) := by decide +kernel
theorem dX11_done_13 : decode cX11_done 13 = .ok (.aload_n 0, 1) := by decide +kernel
theorem dX11_done_14 : decode cX11_done 14 = .ok (.getfield 28, 3) := by decide +kernel
theorem dX11_done_17 : decode cX11_done 17 = .ok (.iload_n 1, 1) := by decide +kernel
theorem dX11_done_18 : decode cX11_done 18 = .ok (.aload_n 0, 1) := by decide +kernel
theorem dX11_done_19 : decode cX11_done 19 = .ok (.getfield 12, 3) := by decide +kernel
theorem dX11_done_22 : decode cX11_done 22 = .ok (.getfield 224, 3) := by decide +kernel
theorem dX11_done_25 : decode cX11_done 25 = .ok (.invokevirtual 227, 3) := by decide +kernel
theorem dX11_done_28 : decode cX11_done 28 = .ok (.iinc 1 1, 3) := by decide +kernel
theorem dX11_done_31 : decode cX11_done 31 = .ok (.goto (-29), 3) := by decide +kernel
theorem dX11_done_34 : decode cX11_done 34 = .ok (.aload_n 0, 1) := by decide +kernel
theorem dX11_done_35 : decode cX11_done 35 = .ok (.getfield 28, 3) := by decide +kernel
theorem dX11_done_38 : decode cX11_done 38 = .ok (.getfield 223, 3) := by decide +kernel
theorem dX11_done_41 : decode cX11_done 41 = .ok (.ireturn, 1) := by decide +kernel
theorem dX11_weeks_0 : decode cX11_weeks 0 = .ok (.iload_n 1, 1) := by decide +kernel
theorem dX11_weeks_1 : decode cX11_weeks 1 = .ok (.ifCond .lt 23, 3) := by decide +kernel
theorem dX11_weeks_4 : decode cX11_weeks 4 = .ok (.iload_n 1, 1) := by decide +kernel
theorem dX11_weeks_5 : decode cX11_weeks 5 = .ok (.bipush 20, 2) := by decide +kernel
theorem dX11_weeks_7 : decode cX11_weeks 7 = .ok (.if_icmp .gt 17, 3) := by decide +kernel
theorem dX11_weeks_10 : decode cX11_weeks 10 = .ok (.aload_n 0, 1) := by decide +kernel
theorem dX11_weeks_11 : decode cX11_weeks 11 = .ok (.getfield 12, 3) := by decide +kernel
theorem dX11_weeks_14 : decode cX11_weeks 14 = .ok (.getfield 224, 3) := by decide +kernel
theorem dX11_weeks_17 : decode cX11_weeks 17 = .ok (.iload_n 1, 1) := by decide +kernel
theorem dX11_weeks_18 : decode cX11_weeks 18 = .ok (.iadd, 1) := by decide +kernel
theorem dX11_weeks_19 : decode cX11_weeks 19 = .ok (.bipush 99, 2) := by decide +kernel
theorem dX11_weeks_21 : decode cX11_weeks 21 = .ok (.if_icmp .le 5, 3) := by decide +kernel
theorem dX11_weeks_24 : decode cX11_weeks 24 = .ok (.iconst (-1), 1) := by decide +kernel
theorem dX11_weeks_25 : decode cX11_weeks 25 = .ok (.ireturn, 1) := by decide +kernel
theorem dX11_weeks_26 : decode cX11_weeks 26 = .ok (.aload_n 0, 1) := by decide +kernel
theorem dX11_weeks_27 : decode cX11_weeks 27 = .ok (.getfield 12, 3) := by decide +kernel
theorem dX11_weeks_30 : decode cX11_weeks 30 = .ok (.iload_n 1, 1) := by decide +kernel
theorem dX11_weeks_31 : decode cX11_weeks 31 = .ok (.invokevirtual 230, 3) := by decide +kernel
theorem dX11_weeks_34 : decode cX11_weeks 34 = .ok (.aload_n 0, 1) := by decide +kernel
theorem dX11_weeks_35 : decode cX11_weeks 35 = .ok (.getfield 12, 3) := by decide +kernel
theorem dX11_weeks_38 : decode cX11_weeks 38 = .ok (.getfield 224, 3) := by decide +kernel
theorem dX11_weeks_41 : decode cX11_weeks 41 = .ok (.ireturn, 1) := by decide +kernel
theorem dX11_holds_0 : decode cX11_holds 0 = .ok (.aload_n 0, 1) := by decide +kernel
theorem dX11_holds_1 : decode cX11_holds 1 = .ok (.getfield 28, 3) := by decide +kernel
theorem dX11_holds_4 : decode cX11_holds 4 = .ok (.iload_n 1, 1) := by decide +kernel
theorem dX11_holds_5 : decode cX11_holds 5 = .ok (.invokevirtual 172, 3) := by decide +kernel
theorem dX11_holds_8 : decode cX11_holds 8 = .ok (.ifCond .eq 14, 3) := by decide +kernel
theorem dX11_holds_11 : decode cX11_holds 11 = .ok (.aload_n 0, 1) := by decide +kernel
theorem dX11_holds_12 : decode cX11_holds 12 = .ok (.getfield 53, 3) := by decide +kernel
theorem dX11_holds_15 : decode cX11_holds 15 = .ok (.iload_n 1, 1) := by decide +kernel
theorem dX11_holds_16 : decode cX11_holds 16 = .ok (.invokevirtual 234, 3) := by decide +kernel
theorem dX11_holds_19 : decode cX11_holds 19 = .ok (.goto 4, 3) := by decide +kernel
theorem dX11_holds_22 : decode cX11_holds 22 = .ok (.iconst (-1), 1) := by decide +kernel
theorem dX11_holds_23 : decode cX11_holds 23 = .ok (.ireturn, 1) := by decide +kernel
theorem dX11_isOut_0 : decode cX11_isOut 0 = .ok (.aload_n 0, 1) := by decide +kernel
theorem dX11_isOut_1 : decode cX11_isOut 1 = .ok (.getfield 28, 3) := by decide +kernel
theorem dX11_isOut_4 : decode cX11_isOut 4 = .ok (.iload_n 1, 1) := by decide +kernel
theorem dX11_isOut_5 : decode cX11_isOut 5 = .ok (.invokevirtual 172, 3) := by decide +kernel
theorem dX11_isOut_8 : decode cX11_isOut 8 = .ok (.ifCond .ne 5, 3) := by decide +kernel
theorem dX11_isOut_11 : decode cX11_isOut 11 = .ok (.iconst (-1), 1) := by decide +kernel
theorem dX11_isOut_12 : decode cX11_isOut 12 = .ok (.ireturn, 1) := by decide +kernel
theorem dX11_isOut_13 : decode cX11_isOut 13 = .ok (.aload_n 0, 1) := by decide +kernel
theorem dX11_isOut_14 : decode cX11_isOut 14 = .ok (.iload_n 1, 1) := by decide +kernel
theorem dX11_isOut_15 : decode cX11_isOut 15 = .ok (.invokevirtual 237, 3) := by decide +kernel
theorem dX11_isOut_18 : decode cX11_isOut 18 = .ok (.ifCond .eq 7, 3) := by decide +kernel
theorem dX11_isOut_21 : decode cX11_isOut 21 = .ok (.iconst 1, 1) := by decide +kernel
theorem dX11_isOut_22 : decode cX11_isOut 22 = .ok (.goto 4, 3) := by decide +kernel
theorem dX11_isOut_25 : decode cX11_isOut 25 = .ok (.iconst 0, 1) := by decide +kernel
theorem dX11_isOut_26 : decode cX11_isOut 26 = .ok (.ireturn, 1) := by decide +kernel
theorem dX11_redo_0 : decode cX11_redo 0 = .ok (.aload_n 0, 1) := by decide +kernel
theorem dX11_redo_1 : decode cX11_redo 1 = .ok (.getfield 28, 3) := by decide +kernel
theorem dX11_redo_4 : decode cX11_redo 4 = .ok (.iload_n 1, 1) := by decide +kernel
theorem dX11_redo_5 : decode cX11_redo 5 = .ok (.invokevirtual 172, 3) := by decide +kernel
theorem dX11_redo_8 : decode cX11_redo 8 = .ok (.ifCond .eq 22, 3) := by decide +kernel
theorem dX11_redo_11 : decode cX11_redo 11 = .ok (.aload_n 0, 1) := by decide +kernel
theorem dX11_redo_12 : decode cX11_redo 12 = .ok (.iload_n 1, 1) := by decide +kernel
theorem dX11_redo_13 : decode cX11_redo 13 = .ok (.invokevirtual 237, 3) := by decide +kernel
theorem dX11_redo_16 : decode cX11_redo 16 = .ok (.ifCond .eq 14, 3) := by decide +kernel
theorem dX11_redo_19 : decode cX11_redo 19 = .ok (.aload_n 0, 1) := by decide +kernel
theorem dX11_redo_20 : decode cX11_redo 20 = .ok (.getfield 28, 3) := by decide +kernel
theorem dX11_redo_23 : decode cX11_redo 23 = .ok (.iload_n 1, 1) := by decide +kernel
theorem dX11_redo_24 : decode cX11_redo 24 = .ok (.invokevirtual 240, 3) := by decide +kernel
theorem dX11_redo_27 : decode cX11_redo 27 = .ok (.ifCond .eq 5, 3) := by decide +kernel
theorem dX11_redo_30 : decode cX11_redo 30 = .ok (.iconst 0, 1) := by decide +kernel
theorem dX11_redo_31 : decode cX11_redo 31 = .ok (.ireturn, 1) := by decide +kernel
theorem dX11_redo_32 : decode cX11_redo 32 = .ok (.aload_n 0, 1) := by decide +kernel
theorem dX11_redo_33 : decode cX11_redo 33 = .ok (.getfield 28, 3) := by decide +kernel
theorem dX11_redo_36 : decode cX11_redo 36 = .ok (.iload_n 1, 1) := by decide +kernel
theorem dX11_redo_37 : decode cX11_redo 37 = .ok (.aload_n 0, 1) := by decide +kernel
theorem dX11_redo_38 : decode cX11_redo 38 = .ok (.getfield 12, 3) := by decide +kernel
theorem dX11_redo_41 : decode cX11_redo 41 = .ok (.getfield 224, 3) := by decide +kernel
theorem dX11_redo_44 : decode cX11_redo 44 = .ok (.invokevirtual 227, 3) := by decide +kernel
theorem dX11_redo_47 : decode cX11_redo 47 = .ok (.iconst 1, 1) := by decide +kernel
theorem dX11_redo_48 : decode cX11_redo 48 = .ok (.ireturn, 1) := by decide +kernel
theorem dX11_count_0 : decode cX11_count 0 = .ok (.iload_n 1, 1) := by decide +kernel
theorem dX11_count_1 : decode cX11_count 1 = .ok (.tableswitch 168 0 12 #[67, 75, 83, 91, 99, 104, 112, 120, 128, 136, 144, 152, 160], 67) := by decide +kernel
theorem dX11_count_68 : decode cX11_count 68 = .ok (.aload_n 0, 1) := by decide +kernel
theorem dX11_count_69 : decode cX11_count 69 = .ok (.getfield 19, 3) := by decide +kernel
theorem dX11_count_72 : decode cX11_count 72 = .ok (.getfield 243, 3) := by decide +kernel
theorem dX11_count_75 : decode cX11_count 75 = .ok (.ireturn, 1) := by decide +kernel
theorem dX11_count_76 : decode cX11_count 76 = .ok (.aload_n 0, 1) := by decide +kernel
theorem dX11_count_77 : decode cX11_count 77 = .ok (.getfield 28, 3) := by decide +kernel
theorem dX11_count_80 : decode cX11_count 80 = .ok (.getfield 223, 3) := by decide +kernel
theorem dX11_count_83 : decode cX11_count 83 = .ok (.ireturn, 1) := by decide +kernel
theorem dX11_count_84 : decode cX11_count 84 = .ok (.aload_n 0, 1) := by decide +kernel
theorem dX11_count_85 : decode cX11_count 85 = .ok (.getfield 37, 3) := by decide +kernel
theorem dX11_count_88 : decode cX11_count 88 = .ok (.getfield 244, 3) := by decide +kernel
theorem dX11_count_91 : decode cX11_count 91 = .ok (.ireturn, 1) := by decide +kernel
theorem dX11_count_92 : decode cX11_count 92 = .ok (.aload_n 0, 1) := by decide +kernel
theorem dX11_count_93 : decode cX11_count 93 = .ok (.getfield 37, 3) := by decide +kernel
theorem dX11_count_96 : decode cX11_count 96 = .ok (.getfield 247, 3) := by decide +kernel
theorem dX11_count_99 : decode cX11_count 99 = .ok (.ireturn, 1) := by decide +kernel
theorem dX11_count_100 : decode cX11_count 100 = .ok (.aload_n 0, 1) := by decide +kernel
theorem dX11_count_101 : decode cX11_count 101 = .ok (.invokevirtual 250, 3) := by decide +kernel
theorem dX11_count_104 : decode cX11_count 104 = .ok (.ireturn, 1) := by decide +kernel
theorem dX11_count_105 : decode cX11_count 105 = .ok (.aload_n 0, 1) := by decide +kernel
theorem dX11_count_106 : decode cX11_count 106 = .ok (.getfield 12, 3) := by decide +kernel
theorem dX11_count_109 : decode cX11_count 109 = .ok (.invokevirtual 253, 3) := by decide +kernel
theorem dX11_count_112 : decode cX11_count 112 = .ok (.ireturn, 1) := by decide +kernel
theorem dX11_count_113 : decode cX11_count 113 = .ok (.aload_n 0, 1) := by decide +kernel
theorem dX11_count_114 : decode cX11_count 114 = .ok (.getfield 53, 3) := by decide +kernel
theorem dX11_count_117 : decode cX11_count 117 = .ok (.invokevirtual 256, 3) := by decide +kernel
theorem dX11_count_120 : decode cX11_count 120 = .ok (.ireturn, 1) := by decide +kernel
theorem dX11_count_121 : decode cX11_count 121 = .ok (.aload_n 0, 1) := by decide +kernel
theorem dX11_count_122 : decode cX11_count 122 = .ok (.getfield 28, 3) := by decide +kernel
theorem dX11_count_125 : decode cX11_count 125 = .ok (.getfield 259, 3) := by decide +kernel
theorem dX11_count_128 : decode cX11_count 128 = .ok (.ireturn, 1) := by decide +kernel
theorem dX11_count_129 : decode cX11_count 129 = .ok (.aload_n 0, 1) := by decide +kernel
theorem dX11_count_130 : decode cX11_count 130 = .ok (.getfield 85, 3) := by decide +kernel
theorem dX11_count_133 : decode cX11_count 133 = .ok (.getfield 262, 3) := by decide +kernel
theorem dX11_count_136 : decode cX11_count 136 = .ok (.ireturn, 1) := by decide +kernel
theorem dX11_count_137 : decode cX11_count 137 = .ok (.aload_n 0, 1) := by decide +kernel
theorem dX11_count_138 : decode cX11_count 138 = .ok (.getfield 12, 3) := by decide +kernel
theorem dX11_count_141 : decode cX11_count 141 = .ok (.getfield 224, 3) := by decide +kernel
theorem dX11_count_144 : decode cX11_count 144 = .ok (.ireturn, 1) := by decide +kernel
theorem dX11_count_145 : decode cX11_count 145 = .ok (.aload_n 0, 1) := by decide +kernel
theorem dX11_count_146 : decode cX11_count 146 = .ok (.getfield 12, 3) := by decide +kernel
theorem dX11_count_149 : decode cX11_count 149 = .ok (.getfield 109, 3) := by decide +kernel
theorem dX11_count_152 : decode cX11_count 152 = .ok (.ireturn, 1) := by decide +kernel
theorem dX11_count_153 : decode cX11_count 153 = .ok (.aload_n 0, 1) := by decide +kernel
theorem dX11_count_154 : decode cX11_count 154 = .ok (.getfield 67, 3) := by decide +kernel
theorem dX11_count_157 : decode cX11_count 157 = .ok (.getfield 117, 3) := by decide +kernel
theorem dX11_count_160 : decode cX11_count 160 = .ok (.ireturn, 1) := by decide +kernel
theorem dX11_count_161 : decode cX11_count 161 = .ok (.aload_n 0, 1) := by decide +kernel
theorem dX11_count_162 : decode cX11_count 162 = .ok (.getfield 44, 3) := by decide +kernel
theorem dX11_count_165 : decode cX11_count 165 = .ok (.getfield 162, 3) := by decide +kernel
theorem dX11_count_168 : decode cX11_count 168 = .ok (.ireturn, 1) := by decide +kernel
theorem dX11_count_169 : decode cX11_count 169 = .ok (.iconst (-1), 1) := by decide +kernel
theorem dX11_count_170 : decode cX11_count 170 = .ok (.ireturn, 1) := by decide +kernel
theorem dX11_isUntouched_0 : decode cX11_isUntouched 0 = .ok (.aload_n 0, 1) := by decide +kernel
theorem dX11_isUntouched_1 : decode cX11_isUntouched 1 = .ok (.getfield 19, 3) := by decide +kernel
theorem dX11_isUntouched_4 : decode cX11_isUntouched 4 = .ok (.getfield 243, 3) := by decide +kernel
theorem dX11_isUntouched_7 : decode cX11_isUntouched 7 = .ok (.ifCond .ne 27, 3) := by decide +kernel
theorem dX11_isUntouched_10 : decode cX11_isUntouched 10 = .ok (.aload_n 0, 1) := by decide +kernel
theorem dX11_isUntouched_11 : decode cX11_isUntouched 11 = .ok (.getfield 28, 3) := by decide +kernel
theorem dX11_isUntouched_14 : decode cX11_isUntouched 14 = .ok (.getfield 223, 3) := by decide +kernel
theorem dX11_isUntouched_17 : decode cX11_isUntouched 17 = .ok (.ifCond .ne 17, 3) := by decide +kernel
theorem dX11_isUntouched_20 : decode cX11_isUntouched 20 = .ok (.aload_n 0, 1) := by decide +kernel
theorem dX11_isUntouched_21 : decode cX11_isUntouched 21 = .ok (.getfield 12, 3) := by decide +kernel
theorem dX11_isUntouched_24 : decode cX11_isUntouched 24 = .ok (.getfield 224, 3) := by decide +kernel
theorem dX11_isUntouched_27 : decode cX11_isUntouched 27 = .ok (.ifCond .ne 7, 3) := by decide +kernel
theorem dX11_isUntouched_30 : decode cX11_isUntouched 30 = .ok (.iconst 1, 1) := by decide +kernel
theorem dX11_isUntouched_31 : decode cX11_isUntouched 31 = .ok (.goto 4, 3) := by decide +kernel
theorem dX11_isUntouched_34 : decode cX11_isUntouched 34 = .ok (.iconst 0, 1) := by decide +kernel
theorem dX11_isUntouched_35 : decode cX11_isUntouched 35 = .ok (.ireturn, 1) := by decide +kernel
theorem dX11_settle_0 : decode cX11_settle 0 = .ok (.aload_n 0, 1) := by decide +kernel
theorem dX11_settle_1 : decode cX11_settle 1 = .ok (.getfield 37, 3) := by decide +kernel
theorem dX11_settle_4 : decode cX11_settle 4 = .ok (.invokevirtual 89, 3) := by decide +kernel
theorem dX11_settle_7 : decode cX11_settle 7 = .ok (.aload_n 0, 1) := by decide +kernel
theorem dX11_settle_8 : decode cX11_settle 8 = .ok (.getfield 53, 3) := by decide +kernel
theorem dX11_settle_11 : decode cX11_settle 11 = .ok (.invokevirtual 171, 3) := by decide +kernel
theorem dX11_settle_14 : decode cX11_settle 14 = .ok (.return_, 1) := by decide +kernel
theorem dX11_isUnlike_0 : decode cX11_isUnlike 0 = .ok (.iload_n 1, 1) := by decide +kernel
theorem dX11_isUnlike_1 : decode cX11_isUnlike 1 = .ok (.iconst 2, 1) := by decide +kernel
theorem dX11_isUnlike_2 : decode cX11_isUnlike 2 = .ok (.iload_n 1, 1) := by decide +kernel
theorem dX11_isUnlike_3 : decode cX11_isUnlike 3 = .ok (.bipush 16, 2) := by decide +kernel
theorem dX11_isUnlike_5 : decode cX11_isUnlike 5 = .ok (.irem, 1) := by decide +kernel
theorem dX11_isUnlike_6 : decode cX11_isUnlike 6 = .ok (.imul, 1) := by decide +kernel
theorem dX11_isUnlike_7 : decode cX11_isUnlike 7 = .ok (.isub, 1) := by decide +kernel
theorem dX11_isUnlike_8 : decode cX11_isUnlike 8 = .ok (.bipush 16, 2) := by decide +kernel
theorem dX11_isUnlike_10 : decode cX11_isUnlike 10 = .ok (.iadd, 1) := by decide +kernel
theorem dX11_isUnlike_11 : decode cX11_isUnlike 11 = .ok (.iconst 1, 1) := by decide +kernel
theorem dX11_isUnlike_12 : decode cX11_isUnlike 12 = .ok (.isub, 1) := by decide +kernel
theorem dX11_isUnlike_13 : decode cX11_isUnlike 13 = .ok (.istore_n 2, 1) := by decide +kernel
theorem dX11_isUnlike_14 : decode cX11_isUnlike 14 = .ok (.aload_n 0, 1) := by decide +kernel
theorem dX11_isUnlike_15 : decode cX11_isUnlike 15 = .ok (.getfield 12, 3) := by decide +kernel
theorem dX11_isUnlike_18 : decode cX11_isUnlike 18 = .ok (.iload_n 1, 1) := by decide +kernel
theorem dX11_isUnlike_19 : decode cX11_isUnlike 19 = .ok (.invokevirtual 265, 3) := by decide +kernel
theorem dX11_isUnlike_22 : decode cX11_isUnlike 22 = .ok (.aload_n 0, 1) := by decide +kernel
theorem dX11_isUnlike_23 : decode cX11_isUnlike 23 = .ok (.getfield 12, 3) := by decide +kernel
theorem dX11_isUnlike_26 : decode cX11_isUnlike 26 = .ok (.iload_n 2, 1) := by decide +kernel
theorem dX11_isUnlike_27 : decode cX11_isUnlike 27 = .ok (.invokevirtual 265, 3) := by decide +kernel
theorem dX11_isUnlike_30 : decode cX11_isUnlike 30 = .ok (.if_icmp .ne 79, 3) := by decide +kernel
theorem dX11_isUnlike_33 : decode cX11_isUnlike 33 = .ok (.aload_n 0, 1) := by decide +kernel
theorem dX11_isUnlike_34 : decode cX11_isUnlike 34 = .ok (.getfield 28, 3) := by decide +kernel
theorem dX11_isUnlike_37 : decode cX11_isUnlike 37 = .ok (.iload_n 1, 1) := by decide +kernel
theorem dX11_isUnlike_38 : decode cX11_isUnlike 38 = .ok (.invokevirtual 198, 3) := by decide +kernel
theorem dX11_isUnlike_41 : decode cX11_isUnlike 41 = .ok (.iconst (-1), 1) := by decide +kernel
theorem dX11_isUnlike_42 : decode cX11_isUnlike 42 = .ok (.if_icmp .ne 7, 3) := by decide +kernel
theorem dX11_isUnlike_45 : decode cX11_isUnlike 45 = .ok (.iconst 1, 1) := by decide +kernel
theorem dX11_isUnlike_46 : decode cX11_isUnlike 46 = .ok (.goto 4, 3) := by decide +kernel
theorem dX11_isUnlike_49 : decode cX11_isUnlike 49 = .ok (.iconst 0, 1) := by decide +kernel
theorem dX11_isUnlike_50 : decode cX11_isUnlike 50 = .ok (.aload_n 0, 1) := by decide +kernel
theorem dX11_isUnlike_51 : decode cX11_isUnlike 51 = .ok (.getfield 28, 3) := by decide +kernel
theorem dX11_isUnlike_54 : decode cX11_isUnlike 54 = .ok (.iload_n 2, 1) := by decide +kernel
theorem dX11_isUnlike_55 : decode cX11_isUnlike 55 = .ok (.invokevirtual 198, 3) := by decide +kernel
theorem dX11_isUnlike_58 : decode cX11_isUnlike 58 = .ok (.iconst (-1), 1) := by decide +kernel
theorem dX11_isUnlike_59 : decode cX11_isUnlike 59 = .ok (.if_icmp .ne 7, 3) := by decide +kernel
theorem dX11_isUnlike_62 : decode cX11_isUnlike 62 = .ok (.iconst 1, 1) := by decide +kernel
theorem dX11_isUnlike_63 : decode cX11_isUnlike 63 = .ok (.goto 4, 3) := by decide +kernel
theorem dX11_isUnlike_66 : decode cX11_isUnlike 66 = .ok (.iconst 0, 1) := by decide +kernel
theorem dX11_isUnlike_67 : decode cX11_isUnlike 67 = .ok (.if_icmp .ne 42, 3) := by decide +kernel
theorem dX11_isUnlike_70 : decode cX11_isUnlike 70 = .ok (.aload_n 0, 1) := by decide +kernel
theorem dX11_isUnlike_71 : decode cX11_isUnlike 71 = .ok (.getfield 37, 3) := by decide +kernel
theorem dX11_isUnlike_74 : decode cX11_isUnlike 74 = .ok (.iload_n 1, 1) := by decide +kernel
theorem dX11_isUnlike_75 : decode cX11_isUnlike 75 = .ok (.invokevirtual 137, 3) := by decide +kernel
theorem dX11_isUnlike_78 : decode cX11_isUnlike 78 = .ok (.bipush (-2), 2) := by decide +kernel
theorem dX11_isUnlike_80 : decode cX11_isUnlike 80 = .ok (.if_icmp .ne 7, 3) := by decide +kernel
theorem dX11_isUnlike_83 : decode cX11_isUnlike 83 = .ok (.iconst 1, 1) := by decide +kernel
theorem dX11_isUnlike_84 : decode cX11_isUnlike 84 = .ok (.goto 4, 3) := by decide +kernel
theorem dX11_isUnlike_87 : decode cX11_isUnlike 87 = .ok (.iconst 0, 1) := by decide +kernel
theorem dX11_isUnlike_88 : decode cX11_isUnlike 88 = .ok (.aload_n 0, 1) := by decide +kernel
theorem dX11_isUnlike_89 : decode cX11_isUnlike 89 = .ok (.getfield 37, 3) := by decide +kernel
theorem dX11_isUnlike_92 : decode cX11_isUnlike 92 = .ok (.iload_n 2, 1) := by decide +kernel
theorem dX11_isUnlike_93 : decode cX11_isUnlike 93 = .ok (.invokevirtual 137, 3) := by decide +kernel
theorem dX11_isUnlike_96 : decode cX11_isUnlike 96 = .ok (.bipush (-2), 2) := by decide +kernel
theorem dX11_isUnlike_98 : decode cX11_isUnlike 98 = .ok (.if_icmp .ne 7, 3) := by decide +kernel
theorem dX11_isUnlike_101 : decode cX11_isUnlike 101 = .ok (.iconst 1, 1) := by decide +kernel
theorem dX11_isUnlike_102 : decode cX11_isUnlike 102 = .ok (.goto 4, 3) := by decide +kernel
theorem dX11_isUnlike_105 : decode cX11_isUnlike 105 = .ok (.iconst 0, 1) := by decide +kernel
theorem dX11_isUnlike_106 : decode cX11_isUnlike 106 = .ok (.if_icmp .eq 7, 3) := by decide +kernel
theorem dX11_isUnlike_109 : decode cX11_isUnlike 109 = .ok (.iconst 1, 1) := by decide +kernel
theorem dX11_isUnlike_110 : decode cX11_isUnlike 110 = .ok (.goto 4, 3) := by decide +kernel
theorem dX11_isUnlike_113 : decode cX11_isUnlike 113 = .ok (.iconst 0, 1) := by decide +kernel
theorem dX11_isUnlike_114 : decode cX11_isUnlike 114 = .ok (.ireturn, 1) := by decide +kernel
theorem dX11_unlikePairs_0 : decode cX11_unlikePairs 0 = .ok (.iconst 0, 1) := by decide +kernel
theorem dX11_unlikePairs_1 : decode cX11_unlikePairs 1 = .ok (.istore_n 1, 1) := by decide +kernel
theorem dX11_unlikePairs_2 : decode cX11_unlikePairs 2 = .ok (.iconst 0, 1) := by decide +kernel
theorem dX11_unlikePairs_3 : decode cX11_unlikePairs 3 = .ok (.istore_n 2, 1) := by decide +kernel
theorem dX11_unlikePairs_4 : decode cX11_unlikePairs 4 = .ok (.iload_n 2, 1) := by decide +kernel
theorem dX11_unlikePairs_5 : decode cX11_unlikePairs 5 = .ok (.sipush 192, 3) := by decide +kernel
theorem dX11_unlikePairs_8 : decode cX11_unlikePairs 8 = .ok (.if_icmp .ge 29, 3) := by decide +kernel
theorem dX11_unlikePairs_11 : decode cX11_unlikePairs 11 = .ok (.iload_n 2, 1) := by decide +kernel
theorem dX11_unlikePairs_12 : decode cX11_unlikePairs 12 = .ok (.bipush 16, 2) := by decide +kernel
theorem dX11_unlikePairs_14 : decode cX11_unlikePairs 14 = .ok (.irem, 1) := by decide +kernel
theorem dX11_unlikePairs_15 : decode cX11_unlikePairs 15 = .ok (.bipush 8, 2) := by decide +kernel
theorem dX11_unlikePairs_17 : decode cX11_unlikePairs 17 = .ok (.if_icmp .ge 14, 3) := by decide +kernel
theorem dX11_unlikePairs_20 : decode cX11_unlikePairs 20 = .ok (.aload_n 0, 1) := by decide +kernel
theorem dX11_unlikePairs_21 : decode cX11_unlikePairs 21 = .ok (.iload_n 2, 1) := by decide +kernel
theorem dX11_unlikePairs_22 : decode cX11_unlikePairs 22 = .ok (.invokevirtual 195, 3) := by decide +kernel
theorem dX11_unlikePairs_25 : decode cX11_unlikePairs 25 = .ok (.ifCond .eq 6, 3) := by decide +kernel
theorem dX11_unlikePairs_28 : decode cX11_unlikePairs 28 = .ok (.iinc 1 1, 3) := by decide +kernel
theorem dX11_unlikePairs_31 : decode cX11_unlikePairs 31 = .ok (.iinc 2 1, 3) := by decide +kernel
theorem dX11_unlikePairs_34 : decode cX11_unlikePairs 34 = .ok (.goto (-30), 3) := by decide +kernel
theorem dX11_unlikePairs_37 : decode cX11_unlikePairs 37 = .ok (.iload_n 1, 1) := by decide +kernel
theorem dX11_unlikePairs_38 : decode cX11_unlikePairs 38 = .ok (.ireturn, 1) := by decide +kernel
theorem dX11_isGrownOut_0 : decode cX11_isGrownOut 0 = .ok (.aload_n 0, 1) := by decide +kernel
theorem dX11_isGrownOut_1 : decode cX11_isGrownOut 1 = .ok (.getfield 28, 3) := by decide +kernel
theorem dX11_isGrownOut_4 : decode cX11_isGrownOut 4 = .ok (.iload_n 1, 1) := by decide +kernel
theorem dX11_isGrownOut_5 : decode cX11_isGrownOut 5 = .ok (.invokevirtual 268, 3) := by decide +kernel
theorem dX11_isGrownOut_8 : decode cX11_isGrownOut 8 = .ok (.istore_n 2, 1) := by decide +kernel
theorem dX11_isGrownOut_9 : decode cX11_isGrownOut 9 = .ok (.iload_n 2, 1) := by decide +kernel
theorem dX11_isGrownOut_10 : decode cX11_isGrownOut 10 = .ok (.iconst (-1), 1) := by decide +kernel
theorem dX11_isGrownOut_11 : decode cX11_isGrownOut 11 = .ok (.if_icmp .eq 27, 3) := by decide +kernel
theorem dX11_isGrownOut_14 : decode cX11_isGrownOut 14 = .ok (.aload_n 0, 1) := by decide +kernel
theorem dX11_isGrownOut_15 : decode cX11_isGrownOut 15 = .ok (.getfield 12, 3) := by decide +kernel
theorem dX11_isGrownOut_18 : decode cX11_isGrownOut 18 = .ok (.getfield 224, 3) := by decide +kernel
theorem dX11_isGrownOut_21 : decode cX11_isGrownOut 21 = .ok (.iload_n 2, 1) := by decide +kernel
theorem dX11_isGrownOut_22 : decode cX11_isGrownOut 22 = .ok (.isub, 1) := by decide +kernel
theorem dX11_isGrownOut_23 : decode cX11_isGrownOut 23 = .ok (.aload_n 0, 1) := by decide +kernel
theorem dX11_isGrownOut_24 : decode cX11_isGrownOut 24 = .ok (.getfield 53, 3) := by decide +kernel
theorem dX11_isGrownOut_27 : decode cX11_isGrownOut 27 = .ok (.iload_n 1, 1) := by decide +kernel
theorem dX11_isGrownOut_28 : decode cX11_isGrownOut 28 = .ok (.invokevirtual 234, 3) := by decide +kernel
theorem dX11_isGrownOut_31 : decode cX11_isGrownOut 31 = .ok (.if_icmp .lt 7, 3) := by decide +kernel
theorem dX11_isGrownOut_34 : decode cX11_isGrownOut 34 = .ok (.iconst 1, 1) := by decide +kernel
theorem dX11_isGrownOut_35 : decode cX11_isGrownOut 35 = .ok (.goto 4, 3) := by decide +kernel
theorem dX11_isGrownOut_38 : decode cX11_isGrownOut 38 = .ok (.iconst 0, 1) := by decide +kernel
theorem dX11_isGrownOut_39 : decode cX11_isGrownOut 39 = .ok (.ireturn, 1) := by decide +kernel
theorem dX11_makePlan_0 : decode cX11_makePlan 0 = .ok (.aload_n 0, 1) := by decide +kernel
theorem dX11_makePlan_1 : decode cX11_makePlan 1 = .ok (.getfield 60, 3) := by decide +kernel
theorem dX11_makePlan_4 : decode cX11_makePlan 4 = .ok (.invokevirtual 271, 3) := by decide +kernel
theorem dX11_makePlan_7 : decode cX11_makePlan 7 = .ok (.iconst 0, 1) := by decide +kernel
theorem dX11_makePlan_8 : decode cX11_makePlan 8 = .ok (.istore_n 1, 1) := by decide +kernel
theorem dX11_makePlan_9 : decode cX11_makePlan 9 = .ok (.iload_n 1, 1) := by decide +kernel
theorem dX11_makePlan_10 : decode cX11_makePlan 10 = .ok (.aload_n 0, 1) := by decide +kernel
theorem dX11_makePlan_11 : decode cX11_makePlan 11 = .ok (.getfield 28, 3) := by decide +kernel
theorem dX11_makePlan_14 : decode cX11_makePlan 14 = .ok (.getfield 223, 3) := by decide +kernel
theorem dX11_makePlan_17 : decode cX11_makePlan 17 = .ok (.if_icmp .ge 45, 3) := by decide +kernel
theorem dX11_makePlan_20 : decode cX11_makePlan 20 = .ok (.aload_n 0, 1) := by decide +kernel
theorem dX11_makePlan_21 : decode cX11_makePlan 21 = .ok (.getfield 28, 3) := by decide +kernel
theorem dX11_makePlan_24 : decode cX11_makePlan 24 = .ok (.iload_n 1, 1) := by decide +kernel
theorem dX11_makePlan_25 : decode cX11_makePlan 25 = .ok (.invokevirtual 268, 3) := by decide +kernel
theorem dX11_makePlan_28 : decode cX11_makePlan 28 = .ok (.iconst (-1), 1) := by decide +kernel
theorem dX11_makePlan_29 : decode cX11_makePlan 29 = .ok (.if_icmp .eq 11, 3) := by decide +kernel
theorem dX11_makePlan_32 : decode cX11_makePlan 32 = .ok (.aload_n 0, 1) := by decide +kernel
theorem dX11_makePlan_33 : decode cX11_makePlan 33 = .ok (.iload_n 1, 1) := by decide +kernel
theorem dX11_makePlan_34 : decode cX11_makePlan 34 = .ok (.invokevirtual 237, 3) := by decide +kernel
theorem dX11_makePlan_37 : decode cX11_makePlan 37 = .ok (.ifCond .eq 19, 3) := by decide +kernel
theorem dX11_makePlan_40 : decode cX11_makePlan 40 = .ok (.aload_n 0, 1) := by decide +kernel
theorem dX11_makePlan_41 : decode cX11_makePlan 41 = .ok (.getfield 60, 3) := by decide +kernel
theorem dX11_makePlan_44 : decode cX11_makePlan 44 = .ok (.iload_n 1, 1) := by decide +kernel
theorem dX11_makePlan_45 : decode cX11_makePlan 45 = .ok (.aload_n 0, 1) := by decide +kernel
theorem dX11_makePlan_46 : decode cX11_makePlan 46 = .ok (.getfield 53, 3) := by decide +kernel
theorem dX11_makePlan_49 : decode cX11_makePlan 49 = .ok (.iload_n 1, 1) := by decide +kernel
theorem dX11_makePlan_50 : decode cX11_makePlan 50 = .ok (.invokevirtual 201, 3) := by decide +kernel
theorem dX11_makePlan_53 : decode cX11_makePlan 53 = .ok (.invokevirtual 272, 3) := by decide +kernel
theorem dX11_makePlan_56 : decode cX11_makePlan 56 = .ok (.iinc 1 1, 3) := by decide +kernel
theorem dX11_makePlan_59 : decode cX11_makePlan 59 = .ok (.goto (-50), 3) := by decide +kernel
theorem dX11_makePlan_62 : decode cX11_makePlan 62 = .ok (.aload_n 0, 1) := by decide +kernel
theorem dX11_makePlan_63 : decode cX11_makePlan 63 = .ok (.getfield 60, 3) := by decide +kernel
theorem dX11_makePlan_66 : decode cX11_makePlan 66 = .ok (.invokevirtual 274, 3) := by decide +kernel
theorem dX11_makePlan_69 : decode cX11_makePlan 69 = .ok (.return_, 1) := by decide +kernel
theorem dX11_isLength_0 : decode cX11_isLength 0 = .ok (.iload_n 0, 1) := by decide +kernel
theorem dX11_isLength_1 : decode cX11_isLength 1 = .ok (.bipush 20, 2) := by decide +kernel
theorem dX11_isLength_3 : decode cX11_isLength 3 = .ok (.if_icmp .lt 14, 3) := by decide +kernel
theorem dX11_isLength_6 : decode cX11_isLength 6 = .ok (.iload_n 0, 1) := by decide +kernel
theorem dX11_isLength_7 : decode cX11_isLength 7 = .ok (.sipush 2000, 3) := by decide +kernel
theorem dX11_isLength_10 : decode cX11_isLength 10 = .ok (.if_icmp .gt 7, 3) := by decide +kernel
theorem dX11_isLength_13 : decode cX11_isLength 13 = .ok (.iconst 1, 1) := by decide +kernel
theorem dX11_isLength_14 : decode cX11_isLength 14 = .ok (.goto 4, 3) := by decide +kernel
theorem dX11_isLength_17 : decode cX11_isLength 17 = .ok (.iconst 0, 1) := by decide +kernel
theorem dX11_isLength_18 : decode cX11_isLength 18 = .ok (.ireturn, 1) := by decide +kernel
theorem dX11_isSpeed_0 : decode cX11_isSpeed 0 = .ok (.iload_n 0, 1) := by decide +kernel
theorem dX11_isSpeed_1 : decode cX11_isSpeed 1 = .ok (.ifCond .lt 12, 3) := by decide +kernel
theorem dX11_isSpeed_4 : decode cX11_isSpeed 4 = .ok (.iload_n 0, 1) := by decide +kernel
theorem dX11_isSpeed_5 : decode cX11_isSpeed 5 = .ok (.iconst 3, 1) := by decide +kernel
theorem dX11_isSpeed_6 : decode cX11_isSpeed 6 = .ok (.if_icmp .gt 7, 3) := by decide +kernel
theorem dX11_isSpeed_9 : decode cX11_isSpeed 9 = .ok (.iconst 1, 1) := by decide +kernel
theorem dX11_isSpeed_10 : decode cX11_isSpeed 10 = .ok (.goto 4, 3) := by decide +kernel
theorem dX11_isSpeed_13 : decode cX11_isSpeed 13 = .ok (.iconst 0, 1) := by decide +kernel
theorem dX11_isSpeed_14 : decode cX11_isSpeed 14 = .ok (.ireturn, 1) := by decide +kernel
theorem dX11_isCell_0 : decode cX11_isCell 0 = .ok (.iload_n 0, 1) := by decide +kernel
theorem dX11_isCell_1 : decode cX11_isCell 1 = .ok (.ifCond .lt 14, 3) := by decide +kernel
theorem dX11_isCell_4 : decode cX11_isCell 4 = .ok (.iload_n 0, 1) := by decide +kernel
theorem dX11_isCell_5 : decode cX11_isCell 5 = .ok (.sipush 192, 3) := by decide +kernel
theorem dX11_isCell_8 : decode cX11_isCell 8 = .ok (.if_icmp .ge 7, 3) := by decide +kernel
theorem dX11_isCell_11 : decode cX11_isCell 11 = .ok (.iconst 1, 1) := by decide +kernel
theorem dX11_isCell_12 : decode cX11_isCell 12 = .ok (.goto 4, 3) := by decide +kernel
theorem dX11_isCell_15 : decode cX11_isCell 15 = .ok (.iconst 0, 1) := by decide +kernel
theorem dX11_isCell_16 : decode cX11_isCell 16 = .ok (.ireturn, 1) := by decide +kernel
theorem dX11_cellAt_0 : decode cX11_cellAt 0 = .ok (.iload_n 0, 1) := by decide +kernel
theorem dX11_cellAt_1 : decode cX11_cellAt 1 = .ok (.ifCond .lt 23, 3) := by decide +kernel
theorem dX11_cellAt_4 : decode cX11_cellAt 4 = .ok (.iload_n 0, 1) := by decide +kernel
theorem dX11_cellAt_5 : decode cX11_cellAt 5 = .ok (.bipush 16, 2) := by decide +kernel
theorem dX11_cellAt_7 : decode cX11_cellAt 7 = .ok (.if_icmp .ge 17, 3) := by decide +kernel
theorem dX11_cellAt_10 : decode cX11_cellAt 10 = .ok (.iload_n 1, 1) := by decide +kernel
theorem dX11_cellAt_11 : decode cX11_cellAt 11 = .ok (.ifCond .lt 13, 3) := by decide +kernel
theorem dX11_cellAt_14 : decode cX11_cellAt 14 = .ok (.iload_n 1, 1) := by decide +kernel
theorem dX11_cellAt_15 : decode cX11_cellAt 15 = .ok (.bipush 12, 2) := by decide +kernel
theorem dX11_cellAt_17 : decode cX11_cellAt 17 = .ok (.if_icmp .ge 7, 3) := by decide +kernel
theorem dX11_cellAt_20 : decode cX11_cellAt 20 = .ok (.iconst 1, 1) := by decide +kernel
theorem dX11_cellAt_21 : decode cX11_cellAt 21 = .ok (.goto 4, 3) := by decide +kernel
theorem dX11_cellAt_24 : decode cX11_cellAt 24 = .ok (.iconst 0, 1) := by decide +kernel
theorem dX11_cellAt_25 : decode cX11_cellAt 25 = .ok (.istore_n 2, 1) := by decide +kernel
theorem dX11_cellAt_26 : decode cX11_cellAt 26 = .ok (.iload_n 2, 1) := by decide +kernel
theorem dX11_cellAt_27 : decode cX11_cellAt 27 = .ok (.ifCond .eq 12, 3) := by decide +kernel
theorem dX11_cellAt_30 : decode cX11_cellAt 30 = .ok (.bipush 16, 2) := by decide +kernel
theorem dX11_cellAt_32 : decode cX11_cellAt 32 = .ok (.iload_n 1, 1) := by decide +kernel
theorem dX11_cellAt_33 : decode cX11_cellAt 33 = .ok (.imul, 1) := by decide +kernel
theorem dX11_cellAt_34 : decode cX11_cellAt 34 = .ok (.iload_n 0, 1) := by decide +kernel
theorem dX11_cellAt_35 : decode cX11_cellAt 35 = .ok (.iadd, 1) := by decide +kernel
theorem dX11_cellAt_36 : decode cX11_cellAt 36 = .ok (.goto 4, 3) := by decide +kernel
theorem dX11_cellAt_39 : decode cX11_cellAt 39 = .ok (.iconst (-1), 1) := by decide +kernel
theorem dX11_cellAt_40 : decode cX11_cellAt 40 = .ok (.ireturn, 1) := by decide +kernel
theorem dX11_cellBeside_0 : decode cX11_cellBeside 0 = .ok (.iload_n 0, 1) := by decide +kernel
theorem dX11_cellBeside_1 : decode cX11_cellBeside 1 = .ok (.bipush 16, 2) := by decide +kernel
theorem dX11_cellBeside_3 : decode cX11_cellBeside 3 = .ok (.irem, 1) := by decide +kernel
theorem dX11_cellBeside_4 : decode cX11_cellBeside 4 = .ok (.iload_n 1, 1) := by decide +kernel
theorem dX11_cellBeside_5 : decode cX11_cellBeside 5 = .ok (.invokestatic 275, 3) := by decide +kernel
theorem dX11_cellBeside_8 : decode cX11_cellBeside 8 = .ok (.iadd, 1) := by decide +kernel
theorem dX11_cellBeside_9 : decode cX11_cellBeside 9 = .ok (.iload_n 0, 1) := by decide +kernel
theorem dX11_cellBeside_10 : decode cX11_cellBeside 10 = .ok (.bipush 16, 2) := by decide +kernel
theorem dX11_cellBeside_12 : decode cX11_cellBeside 12 = .ok (.idiv, 1) := by decide +kernel
theorem dX11_cellBeside_13 : decode cX11_cellBeside 13 = .ok (.iload_n 1, 1) := by decide +kernel
theorem dX11_cellBeside_14 : decode cX11_cellBeside 14 = .ok (.invokestatic 278, 3) := by decide +kernel
theorem dX11_cellBeside_17 : decode cX11_cellBeside 17 = .ok (.iadd, 1) := by decide +kernel
theorem dX11_cellBeside_18 : decode cX11_cellBeside 18 = .ok (.invokestatic 92, 3) := by decide +kernel
theorem dX11_cellBeside_21 : decode cX11_cellBeside 21 = .ok (.ireturn, 1) := by decide +kernel
theorem dX11_acrossBy_0 : decode cX11_acrossBy 0 = .ok (.iload_n 0, 1) := by decide +kernel
theorem dX11_acrossBy_1 : decode cX11_acrossBy 1 = .ok (.iconst 2, 1) := by decide +kernel
theorem dX11_acrossBy_2 : decode cX11_acrossBy 2 = .ok (.if_icmp .ne 7, 3) := by decide +kernel
theorem dX11_acrossBy_5 : decode cX11_acrossBy 5 = .ok (.iconst (-1), 1) := by decide +kernel
theorem dX11_acrossBy_6 : decode cX11_acrossBy 6 = .ok (.goto 13, 3) := by decide +kernel
theorem dX11_acrossBy_9 : decode cX11_acrossBy 9 = .ok (.iload_n 0, 1) := by decide +kernel
theorem dX11_acrossBy_10 : decode cX11_acrossBy 10 = .ok (.iconst 3, 1) := by decide +kernel
theorem dX11_acrossBy_11 : decode cX11_acrossBy 11 = .ok (.if_icmp .ne 7, 3) := by decide +kernel
theorem dX11_acrossBy_14 : decode cX11_acrossBy 14 = .ok (.iconst 1, 1) := by decide +kernel
theorem dX11_acrossBy_15 : decode cX11_acrossBy 15 = .ok (.goto 4, 3) := by decide +kernel
theorem dX11_acrossBy_18 : decode cX11_acrossBy 18 = .ok (.iconst 0, 1) := by decide +kernel
theorem dX11_acrossBy_19 : decode cX11_acrossBy 19 = .ok (.ireturn, 1) := by decide +kernel
theorem dX11_downBy_0 : decode cX11_downBy 0 = .ok (.iload_n 0, 1) := by decide +kernel
theorem dX11_downBy_1 : decode cX11_downBy 1 = .ok (.ifCond .ne 7, 3) := by decide +kernel
theorem dX11_downBy_4 : decode cX11_downBy 4 = .ok (.iconst (-1), 1) := by decide +kernel
theorem dX11_downBy_5 : decode cX11_downBy 5 = .ok (.goto 13, 3) := by decide +kernel
theorem dX11_downBy_8 : decode cX11_downBy 8 = .ok (.iload_n 0, 1) := by decide +kernel
theorem dX11_downBy_9 : decode cX11_downBy 9 = .ok (.iconst 1, 1) := by decide +kernel
theorem dX11_downBy_10 : decode cX11_downBy 10 = .ok (.if_icmp .ne 7, 3) := by decide +kernel
theorem dX11_downBy_13 : decode cX11_downBy 13 = .ok (.iconst 1, 1) := by decide +kernel
theorem dX11_downBy_14 : decode cX11_downBy 14 = .ok (.goto 4, 3) := by decide +kernel
theorem dX11_downBy_17 : decode cX11_downBy 17 = .ok (.iconst 0, 1) := by decide +kernel
theorem dX11_downBy_18 : decode cX11_downBy 18 = .ok (.ireturn, 1) := by decide +kernel
