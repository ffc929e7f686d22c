theorem dX6_settle_81 : decode cX6_settle 81 = .ok (.aload_n 0, 1) := by decide +kernel
theorem dX6_settle_82 : decode cX6_settle 82 = .ok (.aload_n 0, 1) := by decide +kernel
theorem dX6_settle_83 : decode cX6_settle 83 = .ok (.iconst (-1), 1) := by decide +kernel
theorem dX6_settle_84 : decode cX6_settle 84 = .ok (.iconst (-1), 1) := by decide +kernel
theorem dX6_settle_85 : decode cX6_settle 85 = .ok (.invokevirtual 41, 3) := by decide +kernel
theorem dX6_settle_88 : decode cX6_settle 88 = .ok (.putfield 44, 3) := by decide +kernel
theorem dX6_settle_91 : decode cX6_settle 91 = .ok (.aload_n 0, 1) := by decide +kernel
theorem dX6_settle_92 : decode cX6_settle 92 = .ok (.invokevirtual 47, 3) := by decide +kernel
theorem dX6_settle_95 : decode cX6_settle 95 = .ok (.return_, 1) := by decide +kernel
theorem dX6_spot_0 : decode cX6_spot 0 = .ok (.iload_n 0, 1) := by decide +kernel
theorem dX6_spot_1 : decode cX6_spot 1 = .ok (.iconst 1, 1) := by decide +kernel
theorem dX6_spot_2 : decode cX6_spot 2 = .ok (.iadd, 1) := by decide +kernel
theorem dX6_spot_3 : decode cX6_spot 3 = .ok (.bipush 101, 2) := by decide +kernel
theorem dX6_spot_5 : decode cX6_spot 5 = .ok (.imul, 1) := by decide +kernel
theorem dX6_spot_6 : decode cX6_spot 6 = .ok (.iload_n 1, 1) := by decide +kernel
theorem dX6_spot_7 : decode cX6_spot 7 = .ok (.iadd, 1) := by decide +kernel
theorem dX6_spot_8 : decode cX6_spot 8 = .ok (.iconst 1, 1) := by decide +kernel
theorem dX6_spot_9 : decode cX6_spot 9 = .ok (.iadd, 1) := by decide +kernel
theorem dX6_spot_10 : decode cX6_spot 10 = .ok (.ireturn, 1) := by decide +kernel
theorem dX6_leastRest_0 : decode cX6_leastRest 0 = .ok (.iload_n 1, 1) := by decide +kernel
theorem dX6_leastRest_1 : decode cX6_leastRest 1 = .ok (.iload_n 2, 1) := by decide +kernel
theorem dX6_leastRest_2 : decode cX6_leastRest 2 = .ok (.invokestatic 50, 3) := by decide +kernel
theorem dX6_leastRest_5 : decode cX6_leastRest 5 = .ok (.iconst 1, 1) := by decide +kernel
theorem dX6_leastRest_6 : decode cX6_leastRest 6 = .ok (.iadd, 1) := by decide +kernel
theorem dX6_leastRest_7 : decode cX6_leastRest 7 = .ok (.istore_n 3, 1) := by decide +kernel
theorem dX6_leastRest_8 : decode cX6_leastRest 8 = .ok (.aload_n 0, 1) := by decide +kernel
theorem dX6_leastRest_9 : decode cX6_leastRest 9 = .ok (.getfield 21, 3) := by decide +kernel
theorem dX6_leastRest_12 : decode cX6_leastRest 12 = .ok (.getfield 32, 3) := by decide +kernel
theorem dX6_leastRest_15 : decode cX6_leastRest 15 = .ok (.iload_n 3, 1) := by decide +kernel
theorem dX6_leastRest_16 : decode cX6_leastRest 16 = .ok (.isub, 1) := by decide +kernel
theorem dX6_leastRest_17 : decode cX6_leastRest 17 = .ok (.aload_n 0, 1) := by decide +kernel
theorem dX6_leastRest_18 : decode cX6_leastRest 18 = .ok (.getfield 29, 3) := by decide +kernel
theorem dX6_leastRest_21 : decode cX6_leastRest 21 = .ok (.imul, 1) := by decide +kernel
theorem dX6_leastRest_22 : decode cX6_leastRest 22 = .ok (.istore 4, 2) := by decide +kernel
theorem dX6_leastRest_24 : decode cX6_leastRest 24 = .ok (.iconst 0, 1) := by decide +kernel
theorem dX6_leastRest_25 : decode cX6_leastRest 25 = .ok (.istore 5, 2) := by decide +kernel
theorem dX6_leastRest_27 : decode cX6_leastRest 27 = .ok (.iload_n 3, 1) := by decide +kernel
theorem dX6_leastRest_28 : decode cX6_leastRest 28 = .ok (.istore 6, 2) := by decide +kernel
theorem dX6_leastRest_30 : decode cX6_leastRest 30 = .ok (.iload 6, 2) := by decide +kernel
theorem dX6_leastRest_32 : decode cX6_leastRest 32 = .ok (.aload_n 0, 1) := by decide +kernel
theorem dX6_leastRest_33 : decode cX6_leastRest 33 = .ok (.getfield 21, 3) := by decide +kernel
theorem dX6_leastRest_36 : decode cX6_leastRest 36 = .ok (.getfield 32, 3) := by decide +kernel
theorem dX6_leastRest_39 : decode cX6_leastRest 39 = .ok (.if_icmp .ge 83, 3) := by decide +kernel
theorem dX6_leastRest_42 : decode cX6_leastRest 42 = .ok (.iload 5, 2) := by decide +kernel
theorem dX6_leastRest_44 : decode cX6_leastRest 44 = .ok (.iload 4, 2) := by decide +kernel
theorem dX6_leastRest_46 : decode cX6_leastRest 46 = .ok (.if_icmp .ge 76, 3) := by decide +kernel
theorem dX6_leastRest_49 : decode cX6_leastRest 49 = .ok (.aload_n 0, 1) := by decide +kernel
theorem dX6_leastRest_50 : decode cX6_leastRest 50 = .ok (.iconst 0, 1) := by decide +kernel
theorem dX6_leastRest_51 : decode cX6_leastRest 51 = .ok (.iload_n 1, 1) := by decide +kernel
theorem dX6_leastRest_52 : decode cX6_leastRest 52 = .ok (.iload_n 2, 1) := by decide +kernel
theorem dX6_leastRest_53 : decode cX6_leastRest 53 = .ok (.iload 6, 2) := by decide +kernel
theorem dX6_leastRest_55 : decode cX6_leastRest 55 = .ok (.invokevirtual 55, 3) := by decide +kernel
theorem dX6_leastRest_58 : decode cX6_leastRest 58 = .ok (.istore 7, 2) := by decide +kernel
theorem dX6_leastRest_60 : decode cX6_leastRest 60 = .ok (.iload 7, 2) := by decide +kernel
theorem dX6_leastRest_62 : decode cX6_leastRest 62 = .ok (.iconst (-1), 1) := by decide +kernel
theorem dX6_leastRest_63 : decode cX6_leastRest 63 = .ok (.if_icmp .eq 15, 3) := by decide +kernel
theorem dX6_leastRest_66 : decode cX6_leastRest 66 = .ok (.iload 4, 2) := by decide +kernel
theorem dX6_leastRest_68 : decode cX6_leastRest 68 = .ok (.iload 5, 2) := by decide +kernel
theorem dX6_leastRest_70 : decode cX6_leastRest 70 = .ok (.iload 7, 2) := by decide +kernel
theorem dX6_leastRest_72 : decode cX6_leastRest 72 = .ok (.iadd, 1) := by decide +kernel
theorem dX6_leastRest_73 : decode cX6_leastRest 73 = .ok (.invokestatic 59, 3) := by decide +kernel
theorem dX6_leastRest_76 : decode cX6_leastRest 76 = .ok (.istore 4, 2) := by decide +kernel
theorem dX6_leastRest_78 : decode cX6_leastRest 78 = .ok (.aload_n 0, 1) := by decide +kernel
theorem dX6_leastRest_79 : decode cX6_leastRest 79 = .ok (.iconst 1, 1) := by decide +kernel
theorem dX6_leastRest_80 : decode cX6_leastRest 80 = .ok (.iload_n 1, 1) := by decide +kernel
theorem dX6_leastRest_81 : decode cX6_leastRest 81 = .ok (.iload_n 2, 1) := by decide +kernel
theorem dX6_leastRest_82 : decode cX6_leastRest 82 = .ok (.iload 6, 2) := by decide +kernel
theorem dX6_leastRest_84 : decode cX6_leastRest 84 = .ok (.invokevirtual 55, 3) := by decide +kernel
theorem dX6_leastRest_87 : decode cX6_leastRest 87 = .ok (.istore 8, 2) := by decide +kernel
theorem dX6_leastRest_89 : decode cX6_leastRest 89 = .ok (.iload 8, 2) := by decide +kernel
theorem dX6_leastRest_91 : decode cX6_leastRest 91 = .ok (.iconst (-1), 1) := by decide +kernel
theorem dX6_leastRest_92 : decode cX6_leastRest 92 = .ok (.if_icmp .eq 15, 3) := by decide +kernel
theorem dX6_leastRest_95 : decode cX6_leastRest 95 = .ok (.iload 4, 2) := by decide +kernel
theorem dX6_leastRest_97 : decode cX6_leastRest 97 = .ok (.iload 5, 2) := by decide +kernel
theorem dX6_leastRest_99 : decode cX6_leastRest 99 = .ok (.iload 8, 2) := by decide +kernel
theorem dX6_leastRest_101 : decode cX6_leastRest 101 = .ok (.iadd, 1) := by decide +kernel
theorem dX6_leastRest_102 : decode cX6_leastRest 102 = .ok (.invokestatic 59, 3) := by decide +kernel
theorem dX6_leastRest_105 : decode cX6_leastRest 105 = .ok (.istore 4, 2) := by decide +kernel
theorem dX6_leastRest_107 : decode cX6_leastRest 107 = .ok (.iload 5, 2) := by decide +kernel
theorem dX6_leastRest_109 : decode cX6_leastRest 109 = .ok (.aload_n 0, 1) := by decide +kernel
theorem dX6_leastRest_110 : decode cX6_leastRest 110 = .ok (.getfield 29, 3) := by decide +kernel
theorem dX6_leastRest_113 : decode cX6_leastRest 113 = .ok (.iadd, 1) := by decide +kernel
theorem dX6_leastRest_114 : decode cX6_leastRest 114 = .ok (.istore 5, 2) := by decide +kernel
theorem dX6_leastRest_116 : decode cX6_leastRest 116 = .ok (.iinc 6 1, 3) := by decide +kernel
theorem dX6_leastRest_119 : decode cX6_leastRest 119 = .ok (.goto (-89), 3) := by decide +kernel
theorem dX6_leastRest_122 : decode cX6_leastRest 122 = .ok (.iload 4, 2) := by decide +kernel
theorem dX6_leastRest_124 : decode cX6_leastRest 124 = .ok (.ireturn, 1) := by decide +kernel
theorem dX6_costBy_0 : decode cX6_costBy 0 = .ok (.iload_n 1, 1) := by decide +kernel
theorem dX6_costBy_1 : decode cX6_costBy 1 = .ok (.ifCond .ne 80, 3) := by decide +kernel
theorem dX6_costBy_4 : decode cX6_costBy 4 = .ok (.iload_n 3, 1) := by decide +kernel
theorem dX6_costBy_5 : decode cX6_costBy 5 = .ok (.iconst (-1), 1) := by decide +kernel
theorem dX6_costBy_6 : decode cX6_costBy 6 = .ok (.if_icmp .eq 29, 3) := by decide +kernel
theorem dX6_costBy_9 : decode cX6_costBy 9 = .ok (.aload_n 0, 1) := by decide +kernel
theorem dX6_costBy_10 : decode cX6_costBy 10 = .ok (.getfield 21, 3) := by decide +kernel
theorem dX6_costBy_13 : decode cX6_costBy 13 = .ok (.getfield 62, 3) := by decide +kernel
theorem dX6_costBy_16 : decode cX6_costBy 16 = .ok (.iload_n 3, 1) := by decide +kernel
theorem dX6_costBy_17 : decode cX6_costBy 17 = .ok (.iaload, 1) := by decide +kernel
theorem dX6_costBy_18 : decode cX6_costBy 18 = .ok (.aload_n 0, 1) := by decide +kernel
theorem dX6_costBy_19 : decode cX6_costBy 19 = .ok (.getfield 21, 3) := by decide +kernel
theorem dX6_costBy_22 : decode cX6_costBy 22 = .ok (.getfield 62, 3) := by decide +kernel
theorem dX6_costBy_25 : decode cX6_costBy 25 = .ok (.iload 4, 2) := by decide +kernel
theorem dX6_costBy_27 : decode cX6_costBy 27 = .ok (.iaload, 1) := by decide +kernel
theorem dX6_costBy_28 : decode cX6_costBy 28 = .ok (.if_icmp .ne 7, 3) := by decide +kernel
theorem dX6_costBy_31 : decode cX6_costBy 31 = .ok (.iconst 1, 1) := by decide +kernel
theorem dX6_costBy_32 : decode cX6_costBy 32 = .ok (.goto 4, 3) := by decide +kernel
theorem dX6_costBy_35 : decode cX6_costBy 35 = .ok (.iconst 0, 1) := by decide +kernel
theorem dX6_costBy_36 : decode cX6_costBy 36 = .ok (.istore 5, 2) := by decide +kernel
theorem dX6_costBy_38 : decode cX6_costBy 38 = .ok (.iload 5, 2) := by decide +kernel
theorem dX6_costBy_40 : decode cX6_costBy 40 = .ok (.ifCond .eq 7, 3) := by decide +kernel
theorem dX6_costBy_43 : decode cX6_costBy 43 = .ok (.iconst (-1), 1) := by decide +kernel
theorem dX6_costBy_44 : decode cX6_costBy 44 = .ok (.goto 10, 3) := by decide +kernel
theorem dX6_costBy_47 : decode cX6_costBy 47 = .ok (.aload_n 0, 1) := by decide +kernel
theorem dX6_costBy_48 : decode cX6_costBy 48 = .ok (.iload_n 2, 1) := by decide +kernel
theorem dX6_costBy_49 : decode cX6_costBy 49 = .ok (.iload 4, 2) := by decide +kernel
theorem dX6_costBy_51 : decode cX6_costBy 51 = .ok (.invokevirtual 65, 3) := by decide +kernel
theorem dX6_costBy_54 : decode cX6_costBy 54 = .ok (.istore 6, 2) := by decide +kernel
theorem dX6_costBy_56 : decode cX6_costBy 56 = .ok (.iload 6, 2) := by decide +kernel
theorem dX6_costBy_58 : decode cX6_costBy 58 = .ok (.iconst (-1), 1) := by decide +kernel
theorem dX6_costBy_59 : decode cX6_costBy 59 = .ok (.if_icmp .ne 7, 3) := by decide +kernel
theorem dX6_costBy_62 : decode cX6_costBy 62 = .ok (.iconst (-1), 1) := by decide +kernel
theorem dX6_costBy_63 : decode cX6_costBy 63 = .ok (.goto 17, 3) := by decide +kernel
theorem dX6_costBy_66 : decode cX6_costBy 66 = .ok (.iload 6, 2) := by decide +kernel
theorem dX6_costBy_68 : decode cX6_costBy 68 = .ok (.aload_n 0, 1) := by decide +kernel
theorem dX6_costBy_69 : decode cX6_costBy 69 = .ok (.getfield 18, 3) := by decide +kernel
theorem dX6_costBy_72 : decode cX6_costBy 72 = .ok (.iload 4, 2) := by decide +kernel
theorem dX6_costBy_74 : decode cX6_costBy 74 = .ok (.iload_n 3, 1) := by decide +kernel
theorem dX6_costBy_75 : decode cX6_costBy 75 = .ok (.invokestatic 37, 3) := by decide +kernel
theorem dX6_costBy_78 : decode cX6_costBy 78 = .ok (.iaload, 1) := by decide +kernel
theorem dX6_costBy_79 : decode cX6_costBy 79 = .ok (.iadd, 1) := by decide +kernel
theorem dX6_costBy_80 : decode cX6_costBy 80 = .ok (.ireturn, 1) := by decide +kernel
theorem dX6_costBy_81 : decode cX6_costBy 81 = .ok (.aload_n 0, 1) := by decide +kernel
theorem dX6_costBy_82 : decode cX6_costBy 82 = .ok (.iload_n 3, 1) := by decide +kernel
theorem dX6_costBy_83 : decode cX6_costBy 83 = .ok (.iload 4, 2) := by decide +kernel
theorem dX6_costBy_85 : decode cX6_costBy 85 = .ok (.invokevirtual 65, 3) := by decide +kernel
theorem dX6_costBy_88 : decode cX6_costBy 88 = .ok (.istore 5, 2) := by decide +kernel
theorem dX6_costBy_90 : decode cX6_costBy 90 = .ok (.iload 5, 2) := by decide +kernel
theorem dX6_costBy_92 : decode cX6_costBy 92 = .ok (.iconst (-1), 1) := by decide +kernel
theorem dX6_costBy_93 : decode cX6_costBy 93 = .ok (.if_icmp .ne 7, 3) := by decide +kernel
theorem dX6_costBy_96 : decode cX6_costBy 96 = .ok (.iconst (-1), 1) := by decide +kernel
theorem dX6_costBy_97 : decode cX6_costBy 97 = .ok (.goto 17, 3) := by decide +kernel
theorem dX6_costBy_100 : decode cX6_costBy 100 = .ok (.iload 5, 2) := by decide +kernel
theorem dX6_costBy_102 : decode cX6_costBy 102 = .ok (.aload_n 0, 1) := by decide +kernel
theorem dX6_costBy_103 : decode cX6_costBy 103 = .ok (.getfield 18, 3) := by decide +kernel
theorem dX6_costBy_106 : decode cX6_costBy 106 = .ok (.iload_n 2, 1) := by decide +kernel
theorem dX6_costBy_107 : decode cX6_costBy 107 = .ok (.iload 4, 2) := by decide +kernel
theorem dX6_costBy_109 : decode cX6_costBy 109 = .ok (.invokestatic 37, 3) := by decide +kernel
theorem dX6_costBy_112 : decode cX6_costBy 112 = .ok (.iaload, 1) := by decide +kernel
theorem dX6_costBy_113 : decode cX6_costBy 113 = .ok (.iadd, 1) := by decide +kernel
theorem dX6_costBy_114 : decode cX6_costBy 114 = .ok (.ireturn, 1) := by decide +kernel
theorem dX6_moveTo_0 : decode cX6_moveTo 0 = .ok (.iload_n 1, 1) := by decide +kernel
theorem dX6_moveTo_1 : decode cX6_moveTo 1 = .ok (.iconst (-1), 1) := by decide +kernel
theorem dX6_moveTo_2 : decode cX6_moveTo 2 = .ok (.if_icmp .ne 5, 3) := by decide +kernel
theorem dX6_moveTo_5 : decode cX6_moveTo 5 = .ok (.iconst 0, 1) := by decide +kernel
theorem dX6_moveTo_6 : decode cX6_moveTo 6 = .ok (.ireturn, 1) := by decide +kernel
theorem dX6_moveTo_7 : decode cX6_moveTo 7 = .ok (.aload_n 0, 1) := by decide +kernel
theorem dX6_moveTo_8 : decode cX6_moveTo 8 = .ok (.getfield 21, 3) := by decide +kernel
theorem dX6_moveTo_11 : decode cX6_moveTo 11 = .ok (.getfield 62, 3) := by decide +kernel
theorem dX6_moveTo_14 : decode cX6_moveTo 14 = .ok (.iload_n 2, 1) := by decide +kernel
theorem dX6_moveTo_15 : decode cX6_moveTo 15 = .ok (.iaload, 1) := by decide +kernel
theorem dX6_moveTo_16 : decode cX6_moveTo 16 = .ok (.aload_n 0, 1) := by decide +kernel
theorem dX6_moveTo_17 : decode cX6_moveTo 17 = .ok (.getfield 21, 3) := by decide +kernel
theorem dX6_moveTo_20 : decode cX6_moveTo 20 = .ok (.getfield 62, 3) := by decide +kernel
theorem dX6_moveTo_23 : decode cX6_moveTo 23 = .ok (.iload_n 1, 1) := by decide +kernel
theorem dX6_moveTo_24 : decode cX6_moveTo 24 = .ok (.iaload, 1) := by decide +kernel
theorem dX6_moveTo_25 : decode cX6_moveTo 25 = .ok (.isub, 1) := by decide +kernel
theorem dX6_moveTo_26 : decode cX6_moveTo 26 = .ok (.istore_n 3, 1) := by decide +kernel
theorem dX6_moveTo_27 : decode cX6_moveTo 27 = .ok (.aload_n 0, 1) := by decide +kernel
theorem dX6_moveTo_28 : decode cX6_moveTo 28 = .ok (.getfield 21, 3) := by decide +kernel
theorem dX6_moveTo_31 : decode cX6_moveTo 31 = .ok (.iload_n 1, 1) := by decide +kernel
theorem dX6_moveTo_32 : decode cX6_moveTo 32 = .ok (.iload_n 2, 1) := by decide +kernel
theorem dX6_moveTo_33 : decode cX6_moveTo 33 = .ok (.invokevirtual 68, 3) := by decide +kernel
theorem dX6_moveTo_36 : decode cX6_moveTo 36 = .ok (.istore 4, 2) := by decide +kernel
theorem dX6_moveTo_38 : decode cX6_moveTo 38 = .ok (.iload_n 3, 1) := by decide +kernel
theorem dX6_moveTo_39 : decode cX6_moveTo 39 = .ok (.iconst 1, 1) := by decide +kernel
theorem dX6_moveTo_40 : decode cX6_moveTo 40 = .ok (.if_icmp .lt 14, 3) := by decide +kernel
theorem dX6_moveTo_43 : decode cX6_moveTo 43 = .ok (.iload 4, 2) := by decide +kernel
theorem dX6_moveTo_45 : decode cX6_moveTo 45 = .ok (.aload_n 0, 1) := by decide +kernel
theorem dX6_moveTo_46 : decode cX6_moveTo 46 = .ok (.getfield 25, 3) := by decide +kernel
theorem dX6_moveTo_49 : decode cX6_moveTo 49 = .ok (.iload_n 3, 1) := by decide +kernel
theorem dX6_moveTo_50 : decode cX6_moveTo 50 = .ok (.imul, 1) := by decide +kernel
theorem dX6_moveTo_51 : decode cX6_moveTo 51 = .ok (.if_icmp .le 7, 3) := by decide +kernel
theorem dX6_moveTo_54 : decode cX6_moveTo 54 = .ok (.iconst (-1), 1) := by decide +kernel
theorem dX6_moveTo_55 : decode cX6_moveTo 55 = .ok (.goto 5, 3) := by decide +kernel
theorem dX6_moveTo_58 : decode cX6_moveTo 58 = .ok (.iload 4, 2) := by decide +kernel
theorem dX6_moveTo_60 : decode cX6_moveTo 60 = .ok (.ireturn, 1) := by decide +kernel
theorem dX6_walk_0 : decode cX6_walk 0 = .ok (.iconst (-1), 1) := by decide +kernel
theorem dX6_walk_1 : decode cX6_walk 1 = .ok (.istore_n 1, 1) := by decide +kernel
theorem dX6_walk_2 : decode cX6_walk 2 = .ok (.iconst (-1), 1) := by decide +kernel
theorem dX6_walk_3 : decode cX6_walk 3 = .ok (.istore_n 2, 1) := by decide +kernel
theorem dX6_walk_4 : decode cX6_walk 4 = .ok (.aload_n 0, 1) := by decide +kernel
theorem dX6_walk_5 : decode cX6_walk 5 = .ok (.getfield 44, 3) := by decide +kernel
theorem dX6_walk_8 : decode cX6_walk 8 = .ok (.istore_n 3, 1) := by decide +kernel
theorem dX6_walk_9 : decode cX6_walk 9 = .ok (.aload_n 0, 1) := by decide +kernel
theorem dX6_walk_10 : decode cX6_walk 10 = .ok (.getfield 15, 3) := by decide +kernel
theorem dX6_walk_13 : decode cX6_walk 13 = .ok (.iconst 0, 1) := by decide +kernel
theorem dX6_walk_14 : decode cX6_walk 14 = .ok (.iconst 0, 1) := by decide +kernel
theorem dX6_walk_15 : decode cX6_walk 15 = .ok (.iastore, 1) := by decide +kernel
theorem dX6_walk_16 : decode cX6_walk 16 = .ok (.aload_n 0, 1) := by decide +kernel
theorem dX6_walk_17 : decode cX6_walk 17 = .ok (.getfield 15, 3) := by decide +kernel
theorem dX6_walk_20 : decode cX6_walk 20 = .ok (.iconst 1, 1) := by decide +kernel
theorem dX6_walk_21 : decode cX6_walk 21 = .ok (.iconst 0, 1) := by decide +kernel
theorem dX6_walk_22 : decode cX6_walk 22 = .ok (.iastore, 1) := by decide +kernel
theorem dX6_walk_23 : decode cX6_walk 23 = .ok (.aload_n 0, 1) := by decide +kernel
theorem dX6_walk_24 : decode cX6_walk 24 = .ok (.iconst 0, 1) := by decide +kernel
theorem dX6_walk_25 : decode cX6_walk 25 = .ok (.putfield 71, 3) := by decide +kernel
theorem dX6_walk_28 : decode cX6_walk 28 = .ok (.iconst 0, 1) := by decide +kernel
theorem dX6_walk_29 : decode cX6_walk 29 = .ok (.istore 4, 2) := by decide +kernel
theorem dX6_walk_31 : decode cX6_walk 31 = .ok (.iload 4, 2) := by decide +kernel
theorem dX6_walk_33 : decode cX6_walk 33 = .ok (.aload_n 0, 1) := by decide +kernel
theorem dX6_walk_34 : decode cX6_walk 34 = .ok (.getfield 21, 3) := by decide +kernel
theorem dX6_walk_37 : decode cX6_walk 37 = .ok (.getfield 32, 3) := by decide +kernel
theorem dX6_walk_40 : decode cX6_walk 40 = .ok (.if_icmp .ge 142, 3) := by decide +kernel
theorem dX6_walk_43 : decode cX6_walk 43 = .ok (.aload_n 0, 1) := by decide +kernel
theorem dX6_walk_44 : decode cX6_walk 44 = .ok (.iconst 0, 1) := by decide +kernel
theorem dX6_walk_45 : decode cX6_walk 45 = .ok (.iload_n 1, 1) := by decide +kernel
theorem dX6_walk_46 : decode cX6_walk 46 = .ok (.iload_n 2, 1) := by decide +kernel
theorem dX6_walk_47 : decode cX6_walk 47 = .ok (.iload 4, 2) := by decide +kernel
theorem dX6_walk_49 : decode cX6_walk 49 = .ok (.invokevirtual 55, 3) := by decide +kernel
theorem dX6_walk_52 : decode cX6_walk 52 = .ok (.iload_n 3, 1) := by decide +kernel
theorem dX6_walk_53 : decode cX6_walk 53 = .ok (.if_icmp .ne 44, 3) := by decide +kernel
theorem dX6_walk_56 : decode cX6_walk 56 = .ok (.aload_n 0, 1) := by decide +kernel
theorem dX6_walk_57 : decode cX6_walk 57 = .ok (.getfield 9, 3) := by decide +kernel
theorem dX6_walk_60 : decode cX6_walk 60 = .ok (.iload 4, 2) := by decide +kernel
theorem dX6_walk_62 : decode cX6_walk 62 = .ok (.iconst 0, 1) := by decide +kernel
theorem dX6_walk_63 : decode cX6_walk 63 = .ok (.iastore, 1) := by decide +kernel
theorem dX6_walk_64 : decode cX6_walk 64 = .ok (.aload_n 0, 1) := by decide +kernel
theorem dX6_walk_65 : decode cX6_walk 65 = .ok (.getfield 15, 3) := by decide +kernel
theorem dX6_walk_68 : decode cX6_walk 68 = .ok (.iconst 0, 1) := by decide +kernel
theorem dX6_walk_69 : decode cX6_walk 69 = .ok (.dup2, 1) := by decide +kernel
theorem dX6_walk_70 : decode cX6_walk 70 = .ok (.iaload, 1) := by decide +kernel
theorem dX6_walk_71 : decode cX6_walk 71 = .ok (.aload_n 0, 1) := by decide +kernel
theorem dX6_walk_72 : decode cX6_walk 72 = .ok (.iload_n 1, 1) := by decide +kernel
theorem dX6_walk_73 : decode cX6_walk 73 = .ok (.iload 4, 2) := by decide +kernel
theorem dX6_walk_75 : decode cX6_walk 75 = .ok (.invokevirtual 65, 3) := by decide +kernel
theorem dX6_walk_78 : decode cX6_walk 78 = .ok (.iadd, 1) := by decide +kernel
theorem dX6_walk_79 : decode cX6_walk 79 = .ok (.iastore, 1) := by decide +kernel
theorem dX6_walk_80 : decode cX6_walk 80 = .ok (.iload 4, 2) := by decide +kernel
theorem dX6_walk_82 : decode cX6_walk 82 = .ok (.istore_n 1, 1) := by decide +kernel
theorem dX6_walk_83 : decode cX6_walk 83 = .ok (.aload_n 0, 1) := by decide +kernel
theorem dX6_walk_84 : decode cX6_walk 84 = .ok (.getfield 18, 3) := by decide +kernel
theorem dX6_walk_87 : decode cX6_walk 87 = .ok (.iload_n 1, 1) := by decide +kernel
theorem dX6_walk_88 : decode cX6_walk 88 = .ok (.iload_n 2, 1) := by decide +kernel
theorem dX6_walk_89 : decode cX6_walk 89 = .ok (.invokestatic 37, 3) := by decide +kernel
theorem dX6_walk_92 : decode cX6_walk 92 = .ok (.iaload, 1) := by decide +kernel
theorem dX6_walk_93 : decode cX6_walk 93 = .ok (.istore_n 3, 1) := by decide +kernel
theorem dX6_walk_94 : decode cX6_walk 94 = .ok (.goto 82, 3) := by decide +kernel
theorem dX6_walk_97 : decode cX6_walk 97 = .ok (.aload_n 0, 1) := by decide +kernel
theorem dX6_walk_98 : decode cX6_walk 98 = .ok (.iconst 1, 1) := by decide +kernel
theorem dX6_walk_99 : decode cX6_walk 99 = .ok (.iload_n 1, 1) := by decide +kernel
theorem dX6_walk_100 : decode cX6_walk 100 = .ok (.iload_n 2, 1) := by decide +kernel
theorem dX6_walk_101 : decode cX6_walk 101 = .ok (.iload 4, 2) := by decide +kernel
theorem dX6_walk_103 : decode cX6_walk 103 = .ok (.invokevirtual 55, 3) := by decide +kernel
theorem dX6_walk_106 : decode cX6_walk 106 = .ok (.iload_n 3, 1) := by decide +kernel
theorem dX6_walk_107 : decode cX6_walk 107 = .ok (.if_icmp .ne 44, 3) := by decide +kernel
theorem dX6_walk_110 : decode cX6_walk 110 = .ok (.aload_n 0, 1) := by decide +kernel
theorem dX6_walk_111 : decode cX6_walk 111 = .ok (.getfield 9, 3) := by decide +kernel
theorem dX6_walk_114 : decode cX6_walk 114 = .ok (.iload 4, 2) := by decide +kernel
theorem dX6_walk_116 : decode cX6_walk 116 = .ok (.iconst 1, 1) := by decide +kernel
theorem dX6_walk_117 : decode cX6_walk 117 = .ok (.iastore, 1) := by decide +kernel
theorem dX6_walk_118 : decode cX6_walk 118 = .ok (.aload_n 0, 1) := by decide +kernel
theorem dX6_walk_119 : decode cX6_walk 119 = .ok (.getfield 15, 3) := by decide +kernel
theorem dX6_walk_122 : decode cX6_walk 122 = .ok (.iconst 1, 1) := by decide +kernel
theorem dX6_walk_123 : decode cX6_walk 123 = .ok (.dup2, 1) := by decide +kernel
theorem dX6_walk_124 : decode cX6_walk 124 = .ok (.iaload, 1) := by decide +kernel
theorem dX6_walk_125 : decode cX6_walk 125 = .ok (.aload_n 0, 1) := by decide +kernel
theorem dX6_walk_126 : decode cX6_walk 126 = .ok (.iload_n 2, 1) := by decide +kernel
theorem dX6_walk_127 : decode cX6_walk 127 = .ok (.iload 4, 2) := by decide +kernel
theorem dX6_walk_129 : decode cX6_walk 129 = .ok (.invokevirtual 65, 3) := by decide +kernel
theorem dX6_walk_132 : decode cX6_walk 132 = .ok (.iadd, 1) := by decide +kernel
theorem dX6_walk_133 : decode cX6_walk 133 = .ok (.iastore, 1) := by decide +kernel
theorem dX6_walk_134 : decode cX6_walk 134 = .ok (.iload 4, 2) := by decide +kernel
theorem dX6_walk_136 : decode cX6_walk 136 = .ok (.istore_n 2, 1) := by decide +kernel
theorem dX6_walk_137 : decode cX6_walk 137 = .ok (.aload_n 0, 1) := by decide +kernel
theorem dX6_walk_138 : decode cX6_walk 138 = .ok (.getfield 18, 3) := by decide +kernel
theorem dX6_walk_141 : decode cX6_walk 141 = .ok (.iload_n 1, 1) := by decide +kernel
theorem dX6_walk_142 : decode cX6_walk 142 = .ok (.iload_n 2, 1) := by decide +kernel
theorem dX6_walk_143 : decode cX6_walk 143 = .ok (.invokestatic 37, 3) := by decide +kernel
theorem dX6_walk_146 : decode cX6_walk 146 = .ok (.iaload, 1) := by decide +kernel
theorem dX6_walk_147 : decode cX6_walk 147 = .ok (.istore_n 3, 1) := by decide +kernel
theorem dX6_walk_148 : decode cX6_walk 148 = .ok (.goto 28, 3) := by decide +kernel
theorem dX6_walk_151 : decode cX6_walk 151 = .ok (.aload_n 0, 1) := by decide +kernel
theorem dX6_walk_152 : decode cX6_walk 152 = .ok (.getfield 9, 3) := by decide +kernel
theorem dX6_walk_155 : decode cX6_walk 155 = .ok (.iload 4, 2) := by decide +kernel
theorem dX6_walk_157 : decode cX6_walk 157 = .ok (.iconst 2, 1) := by decide +kernel
theorem dX6_walk_158 : decode cX6_walk 158 = .ok (.iastore, 1) := by decide +kernel
theorem dX6_walk_159 : decode cX6_walk 159 = .ok (.aload_n 0, 1) := by decide +kernel
theorem dX6_walk_160 : decode cX6_walk 160 = .ok (.dup, 1) := by decide +kernel
theorem dX6_walk_161 : decode cX6_walk 161 = .ok (.getfield 71, 3) := by decide +kernel
theorem dX6_walk_164 : decode cX6_walk 164 = .ok (.iconst 1, 1) := by decide +kernel
theorem dX6_walk_165 : decode cX6_walk 165 = .ok (.iadd, 1) := by decide +kernel
theorem dX6_walk_166 : decode cX6_walk 166 = .ok (.putfield 71, 3) := by decide +kernel
theorem dX6_walk_169 : decode cX6_walk 169 = .ok (.iload_n 3, 1) := by decide +kernel
theorem dX6_walk_170 : decode cX6_walk 170 = .ok (.aload_n 0, 1) := by decide +kernel
theorem dX6_walk_171 : decode cX6_walk 171 = .ok (.getfield 29, 3) := by decide +kernel
theorem dX6_walk_174 : decode cX6_walk 174 = .ok (.isub, 1) := by decide +kernel
theorem dX6_walk_175 : decode cX6_walk 175 = .ok (.istore_n 3, 1) := by decide +kernel
theorem dX6_walk_176 : decode cX6_walk 176 = .ok (.iinc 4 1, 3) := by decide +kernel
theorem dX6_walk_179 : decode cX6_walk 179 = .ok (.goto (-148), 3) := by decide +kernel
theorem dX6_walk_182 : decode cX6_walk 182 = .ok (.return_, 1) := by decide +kernel
theorem dX7_init_0 : decode cX7_init 0 = .ok (.aload_n 0, 1) := by decide +kernel
theorem dX7_init_1 : decode cX7_init 1 = .ok (.invokespecial 3, 3) := by decide +kernel
theorem dX7_init_4 : decode cX7_init 4 = .ok (.aload_n 0, 1) := by decide +kernel
theorem dX7_init_5 : decode cX7_init 5 = .ok (.sipush 1000, 3) := by decide +kernel
theorem dX7_init_8 : decode cX7_init 8 = .ok (.newarray .byte, 2) := by decide +kernel
theorem dX7_init_10 : decode cX7_init 10 = .ok (.putfield 9, 3) := by decide +kernel
theorem dX7_init_13 : decode cX7_init 13 = .ok (.aload_n 0, 1) := by decide +kernel
theorem dX7_init_14 : decode cX7_init 14 = .ok (.iconst 0, 1) := by decide +kernel
theorem dX7_init_15 : decode cX7_init 15 = .ok (.putfield 15, 3) := by decide +kernel
theorem dX7_init_18 : decode cX7_init 18 = .ok (.return_, 1) := by decide +kernel
theorem dX7_hasRoom_0 : decode cX7_hasRoom 0 = .ok (.aload_n 0, 1) := by decide +kernel
theorem dX7_hasRoom_1 : decode cX7_hasRoom 1 = .ok (.getfield 15, 3) := by decide +kernel
theorem dX7_hasRoom_4 : decode cX7_hasRoom 4 = .ok (.bipush 20, 2) := by decide +kernel
theorem dX7_hasRoom_6 : decode cX7_hasRoom 6 = .ok (.iadd, 1) := by decide +kernel
theorem dX7_hasRoom_7 : decode cX7_hasRoom 7 = .ok (.sipush 1000, 3) := by decide +kernel
theorem dX7_hasRoom_10 : decode cX7_hasRoom 10 = .ok (.if_icmp .gt 7, 3) := by decide +kernel
theorem dX7_hasRoom_13 : decode cX7_hasRoom 13 = .ok (.iconst 1, 1) := by decide +kernel
theorem dX7_hasRoom_14 : decode cX7_hasRoom 14 = .ok (.goto 4, 3) := by decide +kernel
theorem dX7_hasRoom_17 : decode cX7_hasRoom 17 = .ok (.iconst 0, 1) := by decide +kernel
theorem dX7_hasRoom_18 : decode cX7_hasRoom 18 = .ok (.ireturn, 1) := by decide +kernel
theorem dX7_addNumber_0 : decode cX7_addNumber 0 = .ok (.bipush 24, 2) := by decide +kernel
theorem dX7_addNumber_2 : decode cX7_addNumber 2 = .ok (.istore_n 2, 1) := by decide +kernel
theorem dX7_addNumber_3 : decode cX7_addNumber 3 = .ok (.iload_n 2, 1) := by decide +kernel
theorem dX7_addNumber_4 : decode cX7_addNumber 4 = .ok (.ifCond .lt 42, 3) := by decide +kernel
theorem dX7_addNumber_7 : decode cX7_addNumber 7 = .ok (.aload_n 0, 1) := by decide +kernel
theorem dX7_addNumber_8 : decode cX7_addNumber 8 = .ok (.getfield 15, 3) := by decide +kernel
theorem dX7_addNumber_11 : decode cX7_addNumber 11 = .ok (.sipush 1000, 3) := by decide +kernel
theorem dX7_addNumber_14 : decode cX7_addNumber 14 = .ok (.if_icmp .ge 32, 3) := by decide +kernel
theorem dX7_addNumber_17 : decode cX7_addNumber 17 = .ok (.aload_n 0, 1) := by decide +kernel
theorem dX7_addNumber_18 : decode cX7_addNumber 18 = .ok (.getfield 9, 3) := by decide +kernel
theorem dX7_addNumber_21 : decode cX7_addNumber 21 = .ok (.aload_n 0, 1) := by decide +kernel
theorem dX7_addNumber_22 : decode cX7_addNumber 22 = .ok (.getfield 15, 3) := by decide +kernel
theorem dX7_addNumber_25 : decode cX7_addNumber 25 = .ok (.iload_n 1, 1) := by decide +kernel
theorem dX7_addNumber_26 : decode cX7_addNumber 26 = .ok (.iload_n 2, 1) := by decide +kernel
theorem dX7_addNumber_27 : decode cX7_addNumber 27 = .ok (.ishr, 1) := by decide +kernel
theorem dX7_addNumber_28 : decode cX7_addNumber 28 = .ok (.i2b, 1) := by decide +kernel
theorem dX7_addNumber_29 : decode cX7_addNumber 29 = .ok (.bastore, 1) := by decide +kernel
theorem dX7_addNumber_30 : decode cX7_addNumber 30 = .ok (.aload_n 0, 1) := by decide +kernel
theorem dX7_addNumber_31 : decode cX7_addNumber 31 = .ok (.dup, 1) := by decide +kernel
theorem dX7_addNumber_32 : decode cX7_addNumber 32 = .ok (.getfield 15, 3) := by decide +kernel
theorem dX7_addNumber_35 : decode cX7_addNumber 35 = .ok (.iconst 1, 1) := by decide +kernel
theorem dX7_addNumber_36 : decode cX7_addNumber 36 = .ok (.iadd, 1) := by decide +kernel
theorem dX7_addNumber_37 : decode cX7_addNumber 37 = .ok (.putfield 15, 3) := by decide +kernel
theorem dX7_addNumber_40 : decode cX7_addNumber 40 = .ok (.iinc 2 (-8), 3) := by decide +kernel
theorem dX7_addNumber_43 : decode cX7_addNumber 43 = .ok (.goto (-40), 3) := by decide +kernel
theorem dX7_addNumber_46 : decode cX7_addNumber 46 = .ok (.return_, 1) := by decide +kernel
theorem dX8_init_0 : decode cX8_init 0 = .ok (.aload_n 0, 1) := by decide +kernel
theorem dX8_init_1 : decode cX8_init 1 = .ok (.invokespecial 3, 3) := by decide +kernel
theorem dX8_init_4 : decode cX8_init 4 = .ok (.aload_n 0, 1) := by decide +kernel
theorem dX8_init_5 : decode cX8_init 5 = .ok (.bipush 24, 2) := by decide +kernel
theorem dX8_init_7 : decode cX8_init 7 = .ok (.newarray .int, 2) := by decide +kernel
theorem dX8_init_9 : decode cX8_init 9 = .ok (.putfield 9, 3) := by decide +kernel
theorem dX8_init_12 : decode cX8_init 12 = .ok (.aload_n 0, 1) := by decide +kernel
theorem dX8_init_13 : decode cX8_init 13 = .ok (.sipush 3142, 3) := by decide +kernel
theorem dX8_init_16 : decode cX8_init 16 = .ok (.putfield 15, 3) := by decide +kernel
theorem dX8_init_19 : decode cX8_init 19 = .ok (.aload_n 0, 1) := by decide +kernel
theorem dX8_init_20 : decode cX8_init 20 = .ok (.bipush 100, 2) := by decide +kernel
theorem dX8_init_22 : decode cX8_init 22 = .ok (.newarray .int, 2) := by decide +kernel
theorem dX8_init_24 : decode cX8_init 24 = .ok (.putfield 19, 3) := by decide +kernel
theorem dX8_init_27 : decode cX8_init 27 = .ok (.iconst 0, 1) := by decide +kernel
theorem dX8_init_28 : decode cX8_init 28 = .ok (.istore_n 1, 1) := by decide +kernel
theorem dX8_init_29 : decode cX8_init 29 = .ok (.iload_n 1, 1) := by decide +kernel
theorem dX8_init_30 : decode cX8_init 30 = .ok (.bipush 24, 2) := by decide +kernel
theorem dX8_init_32 : decode cX8_init 32 = .ok (.if_icmp .ge 17, 3) := by decide +kernel
theorem dX8_init_35 : decode cX8_init 35 = .ok (.aload_n 0, 1) := by decide +kernel
theorem dX8_init_36 : decode cX8_init 36 = .ok (.getfield 9, 3) := by decide +kernel
theorem dX8_init_39 : decode cX8_init 39 = .ok (.iload_n 1, 1) := by decide +kernel
theorem dX8_init_40 : decode cX8_init 40 = .ok (.bipush 8, 2) := by decide +kernel
theorem dX8_init_42 : decode cX8_init 42 = .ok (.iastore, 1) := by decide +kernel
theorem dX8_init_43 : decode cX8_init 43 = .ok (.iinc 1 1, 3) := by decide +kernel
theorem dX8_init_46 : decode cX8_init 46 = .ok (.goto (-17), 3) := by decide +kernel
theorem dX8_init_49 : decode cX8_init 49 = .ok (.return_, 1) := by decide +kernel
theorem dX8_soundLength_0 : decode cX8_soundLength 0 = .ok (.aload_n 0, 1) := by decide +kernel
theorem dX8_soundLength_1 : decode cX8_soundLength 1 = .ok (.getfield 9, 3) := by decide +kernel
theorem dX8_soundLength_4 : decode cX8_soundLength 4 = .ok (.aload_n 1, 1) := by decide +kernel
theorem dX8_soundLength_5 : decode cX8_soundLength 5 = .ok (.getfield 22, 3) := by decide +kernel
theorem dX8_soundLength_8 : decode cX8_soundLength 8 = .ok (.iload_n 2, 1) := by decide +kernel
theorem dX8_soundLength_9 : decode cX8_soundLength 9 = .ok (.iaload, 1) := by decide +kernel
theorem dX8_soundLength_10 : decode cX8_soundLength 10 = .ok (.iaload, 1) := by decide +kernel
theorem dX8_soundLength_11 : decode cX8_soundLength 11 = .ok (.istore_n 3, 1) := by decide +kernel
theorem dX8_soundLength_12 : decode cX8_soundLength 12 = .ok (.iload_n 2, 1) := by decide +kernel
theorem dX8_soundLength_13 : decode cX8_soundLength 13 = .ok (.iconst 1, 1) := by decide +kernel
theorem dX8_soundLength_14 : decode cX8_soundLength 14 = .ok (.iadd, 1) := by decide +kernel
theorem dX8_soundLength_15 : decode cX8_soundLength 15 = .ok (.istore 4, 2) := by decide +kernel
theorem dX8_soundLength_17 : decode cX8_soundLength 17 = .ok (.iload 4, 2) := by decide +kernel
theorem dX8_soundLength_19 : decode cX8_soundLength 19 = .ok (.aload_n 1, 1) := by decide +kernel
theorem dX8_soundLength_20 : decode cX8_soundLength 20 = .ok (.getfield 27, 3) := by decide +kernel
theorem dX8_soundLength_23 : decode cX8_soundLength 23 = .ok (.if_icmp .ge 44, 3) := by decide +kernel
theorem dX8_soundLength_26 : decode cX8_soundLength 26 = .ok (.aload_n 1, 1) := by decide +kernel
theorem dX8_soundLength_27 : decode cX8_soundLength 27 = .ok (.getfield 22, 3) := by decide +kernel
theorem dX8_soundLength_30 : decode cX8_soundLength 30 = .ok (.iload 4, 2) := by decide +kernel
theorem dX8_soundLength_32 : decode cX8_soundLength 32 = .ok (.iaload, 1) := by decide +kernel
theorem dX8_soundLength_33 : decode cX8_soundLength 33 = .ok (.aload_n 1, 1) := by decide +kernel
theorem dX8_soundLength_34 : decode cX8_soundLength 34 = .ok (.getfield 22, 3) := by decide +kernel
theorem dX8_soundLength_37 : decode cX8_soundLength 37 = .ok (.iload_n 2, 1) := by decide +kernel
theorem dX8_soundLength_38 : decode cX8_soundLength 38 = .ok (.iaload, 1) := by decide +kernel
theorem dX8_soundLength_39 : decode cX8_soundLength 39 = .ok (.if_icmp .ne 22, 3) := by decide +kernel
theorem dX8_soundLength_42 : decode cX8_soundLength 42 = .ok (.iload_n 3, 1) := by decide +kernel
theorem dX8_soundLength_43 : decode cX8_soundLength 43 = .ok (.aload_n 1, 1) := by decide +kernel
theorem dX8_soundLength_44 : decode cX8_soundLength 44 = .ok (.getfield 30, 3) := by decide +kernel
theorem dX8_soundLength_47 : decode cX8_soundLength 47 = .ok (.iload 4, 2) := by decide +kernel
theorem dX8_soundLength_49 : decode cX8_soundLength 49 = .ok (.iaload, 1) := by decide +kernel
theorem dX8_soundLength_50 : decode cX8_soundLength 50 = .ok (.aload_n 1, 1) := by decide +kernel
theorem dX8_soundLength_51 : decode cX8_soundLength 51 = .ok (.getfield 30, 3) := by decide +kernel
theorem dX8_soundLength_54 : decode cX8_soundLength 54 = .ok (.iload_n 2, 1) := by decide +kernel
theorem dX8_soundLength_55 : decode cX8_soundLength 55 = .ok (.iaload, 1) := by decide +kernel
theorem dX8_soundLength_56 : decode cX8_soundLength 56 = .ok (.isub, 1) := by decide +kernel
theorem dX8_soundLength_57 : decode cX8_soundLength 57 = .ok (.invokestatic 33, 3) := by decide +kernel
theorem dX8_soundLength_60 : decode cX8_soundLength 60 = .ok (.ireturn, 1) := by decide +kernel
theorem dX8_soundLength_61 : decode cX8_soundLength 61 = .ok (.iinc 4 1, 3) := by decide +kernel
theorem dX8_soundLength_64 : decode cX8_soundLength 64 = .ok (.goto (-47), 3) := by decide +kernel
theorem dX8_soundLength_67 : decode cX8_soundLength 67 = .ok (.iload_n 3, 1) := by decide +kernel
theorem dX8_soundLength_68 : decode cX8_soundLength 68 = .ok (.ireturn, 1) := by decide +kernel
theorem dX8_quarrelTicks_0 : decode cX8_quarrelTicks 0 = .ok (.iconst 0, 1) := by decide +kernel
theorem dX8_quarrelTicks_1 : decode cX8_quarrelTicks 1 = .ok (.istore_n 2, 1) := by decide +kernel
theorem dX8_quarrelTicks_2 : decode cX8_quarrelTicks 2 = .ok (.iload_n 2, 1) := by decide +kernel
theorem dX8_quarrelTicks_3 : decode cX8_quarrelTicks 3 = .ok (.aload_n 1, 1) := by decide +kernel
theorem dX8_quarrelTicks_4 : decode cX8_quarrelTicks 4 = .ok (.getfield 27, 3) := by decide +kernel
theorem dX8_quarrelTicks_7 : decode cX8_quarrelTicks 7 = .ok (.if_icmp .ge 21, 3) := by decide +kernel
theorem dX8_quarrelTicks_10 : decode cX8_quarrelTicks 10 = .ok (.aload_n 0, 1) := by decide +kernel
theorem dX8_quarrelTicks_11 : decode cX8_quarrelTicks 11 = .ok (.getfield 19, 3) := by decide +kernel
theorem dX8_quarrelTicks_14 : decode cX8_quarrelTicks 14 = .ok (.iload_n 2, 1) := by decide +kernel
theorem dX8_quarrelTicks_15 : decode cX8_quarrelTicks 15 = .ok (.aload_n 0, 1) := by decide +kernel
theorem dX8_quarrelTicks_16 : decode cX8_quarrelTicks 16 = .ok (.aload_n 1, 1) := by decide +kernel
theorem dX8_quarrelTicks_17 : decode cX8_quarrelTicks 17 = .ok (.iload_n 2, 1) := by decide +kernel
theorem dX8_quarrelTicks_18 : decode cX8_quarrelTicks 18 = .ok (.invokevirtual 39, 3) := by decide +kernel
theorem dX8_quarrelTicks_21 : decode cX8_quarrelTicks 21 = .ok (.iastore, 1) := by decide +kernel
theorem dX8_quarrelTicks_22 : decode cX8_quarrelTicks 22 = .ok (.iinc 2 1, 3) := by decide +kernel
theorem dX8_quarrelTicks_25 : decode cX8_quarrelTicks 25 = .ok (.goto (-23), 3) := by decide +kernel
theorem dX8_quarrelTicks_28 : decode cX8_quarrelTicks 28 = .ok (.iconst 0, 1) := by decide +kernel
theorem dX8_quarrelTicks_29 : decode cX8_quarrelTicks 29 = .ok (.istore_n 2, 1) := by decide +kernel
theorem dX8_quarrelTicks_30 : decode cX8_quarrelTicks 30 = .ok (.iconst 0, 1) := by decide +kernel
theorem dX8_quarrelTicks_31 : decode cX8_quarrelTicks 31 = .ok (.istore_n 3, 1) := by decide +kernel
theorem dX8_quarrelTicks_32 : decode cX8_quarrelTicks 32 = .ok (.iload_n 3, 1) := by decide +kernel
theorem dX8_quarrelTicks_33 : decode cX8_quarrelTicks 33 = .ok (.aload_n 1, 1) := by decide +kernel
theorem dX8_quarrelTicks_34 : decode cX8_quarrelTicks 34 = .ok (.getfield 27, 3) := by decide +kernel
theorem dX8_quarrelTicks_37 : decode cX8_quarrelTicks 37 = .ok (.if_icmp .ge 51, 3) := by decide +kernel
theorem dX8_quarrelTicks_40 : decode cX8_quarrelTicks 40 = .ok (.iload_n 3, 1) := by decide +kernel
theorem dX8_quarrelTicks_41 : decode cX8_quarrelTicks 41 = .ok (.iconst 1, 1) := by decide +kernel
theorem dX8_quarrelTicks_42 : decode cX8_quarrelTicks 42 = .ok (.iadd, 1) := by decide +kernel
theorem dX8_quarrelTicks_43 : decode cX8_quarrelTicks 43 = .ok (.istore 4, 2) := by decide +kernel
theorem dX8_quarrelTicks_45 : decode cX8_quarrelTicks 45 = .ok (.iload 4, 2) := by decide +kernel
theorem dX8_quarrelTicks_47 : decode cX8_quarrelTicks 47 = .ok (.aload_n 1, 1) := by decide +kernel
theorem dX8_quarrelTicks_48 : decode cX8_quarrelTicks 48 = .ok (.getfield 27, 3) := by decide +kernel
theorem dX8_quarrelTicks_51 : decode cX8_quarrelTicks 51 = .ok (.if_icmp .ge 31, 3) := by decide +kernel
theorem dX8_quarrelTicks_54 : decode cX8_quarrelTicks 54 = .ok (.aload_n 0, 1) := by decide +kernel
theorem dX8_quarrelTicks_55 : decode cX8_quarrelTicks 55 = .ok (.aload_n 1, 1) := by decide +kernel
theorem dX8_quarrelTicks_56 : decode cX8_quarrelTicks 56 = .ok (.iload_n 3, 1) := by decide +kernel
theorem dX8_quarrelTicks_57 : decode cX8_quarrelTicks 57 = .ok (.iload 4, 2) := by decide +kernel
theorem dX8_quarrelTicks_59 : decode cX8_quarrelTicks 59 = .ok (.invokevirtual 43, 3) := by decide +kernel
theorem dX8_quarrelTicks_62 : decode cX8_quarrelTicks 62 = .ok (.ifCond .eq 14, 3) := by decide +kernel
theorem dX8_quarrelTicks_65 : decode cX8_quarrelTicks 65 = .ok (.iload_n 2, 1) := by decide +kernel
theorem dX8_quarrelTicks_66 : decode cX8_quarrelTicks 66 = .ok (.aload_n 0, 1) := by decide +kernel
theorem dX8_quarrelTicks_67 : decode cX8_quarrelTicks 67 = .ok (.aload_n 1, 1) := by decide +kernel
theorem dX8_quarrelTicks_68 : decode cX8_quarrelTicks 68 = .ok (.iload_n 3, 1) := by decide +kernel
theorem dX8_quarrelTicks_69 : decode cX8_quarrelTicks 69 = .ok (.iload 4, 2) := by decide +kernel
theorem dX8_quarrelTicks_71 : decode cX8_quarrelTicks 71 = .ok (.invokevirtual 47, 3) := by decide +kernel
theorem dX8_quarrelTicks_74 : decode cX8_quarrelTicks 74 = .ok (.iadd, 1) := by decide +kernel
theorem dX8_quarrelTicks_75 : decode cX8_quarrelTicks 75 = .ok (.istore_n 2, 1) := by decide +kernel
theorem dX8_quarrelTicks_76 : decode cX8_quarrelTicks 76 = .ok (.iinc 4 1, 3) := by decide +kernel
theorem dX8_quarrelTicks_79 : decode cX8_quarrelTicks 79 = .ok (.goto (-34), 3) := by decide +kernel
theorem dX8_quarrelTicks_82 : decode cX8_quarrelTicks 82 = .ok (.iinc 3 1, 3) := by decide +kernel
theorem dX8_quarrelTicks_85 : decode cX8_quarrelTicks 85 = .ok (.goto (-53), 3) := by decide +kernel
theorem dX8_quarrelTicks_88 : decode cX8_quarrelTicks 88 = .ok (.iload_n 2, 1) := by decide +kernel
theorem dX8_quarrelTicks_89 : decode cX8_quarrelTicks 89 = .ok (.ireturn, 1) := by decide +kernel
theorem dX8_canQuarrel_0 : decode cX8_canQuarrel 0 = .ok (.aload_n 1, 1) := by decide +kernel
theorem dX8_canQuarrel_1 : decode cX8_canQuarrel 1 = .ok (.iload_n 2, 1) := by decide +kernel
theorem dX8_canQuarrel_2 : decode cX8_canQuarrel 2 = .ok (.iload_n 3, 1) := by decide +kernel
theorem dX8_canQuarrel_3 : decode cX8_canQuarrel 3 = .ok (.invokevirtual 51, 3) := by decide +kernel
theorem dX8_canQuarrel_6 : decode cX8_canQuarrel 6 = .ok (.istore 4, 2) := by decide +kernel
theorem dX8_canQuarrel_8 : decode cX8_canQuarrel 8 = .ok (.iload 4, 2) := by decide +kernel
theorem dX8_canQuarrel_10 : decode cX8_canQuarrel 10 = .ok (.ifCond .eq 22, 3) := by decide +kernel
theorem dX8_canQuarrel_13 : decode cX8_canQuarrel 13 = .ok (.aload_n 0, 1) := by decide +kernel
theorem dX8_canQuarrel_14 : decode cX8_canQuarrel 14 = .ok (.getfield 15, 3) := by decide +kernel
theorem dX8_canQuarrel_17 : decode cX8_canQuarrel 17 = .ok (.iload 4, 2) := by decide +kernel
theorem dX8_canQuarrel_19 : decode cX8_canQuarrel 19 = .ok (.bipush 12, 2) := by decide +kernel
theorem dX8_canQuarrel_21 : decode cX8_canQuarrel 21 = .ok (.irem, 1) := by decide +kernel
theorem dX8_canQuarrel_22 : decode cX8_canQuarrel 22 = .ok (.ishr, 1) := by decide +kernel
theorem dX8_canQuarrel_23 : decode cX8_canQuarrel 23 = .ok (.iconst 1, 1) := by decide +kernel
theorem dX8_canQuarrel_24 : decode cX8_canQuarrel 24 = .ok (.iand, 1) := by decide +kernel
theorem dX8_canQuarrel_25 : decode cX8_canQuarrel 25 = .ok (.ifCond .eq 7, 3) := by decide +kernel
theorem dX8_canQuarrel_28 : decode cX8_canQuarrel 28 = .ok (.iconst 1, 1) := by decide +kernel
theorem dX8_canQuarrel_29 : decode cX8_canQuarrel 29 = .ok (.goto 4, 3) := by decide +kernel
theorem dX8_canQuarrel_32 : decode cX8_canQuarrel 32 = .ok (.iconst 0, 1) := by decide +kernel
theorem dX8_canQuarrel_33 : decode cX8_canQuarrel 33 = .ok (.ireturn, 1) := by decide +kernel
theorem dX8_ticksTogether_0 : decode cX8_ticksTogether 0 = .ok (.aload_n 1, 1) := by decide +kernel
theorem dX8_ticksTogether_1 : decode cX8_ticksTogether 1 = .ok (.getfield 30, 3) := by decide +kernel
theorem dX8_ticksTogether_4 : decode cX8_ticksTogether 4 = .ok (.iload_n 2, 1) := by decide +kernel
theorem dX8_ticksTogether_5 : decode cX8_ticksTogether 5 = .ok (.iaload, 1) := by decide +kernel
theorem dX8_ticksTogether_6 : decode cX8_ticksTogether 6 = .ok (.aload_n 0, 1) := by decide +kernel
theorem dX8_ticksTogether_7 : decode cX8_ticksTogether 7 = .ok (.getfield 19, 3) := by decide +kernel
theorem dX8_ticksTogether_10 : decode cX8_ticksTogether 10 = .ok (.iload_n 2, 1) := by decide +kernel
theorem dX8_ticksTogether_11 : decode cX8_ticksTogether 11 = .ok (.iaload, 1) := by decide +kernel
theorem dX8_ticksTogether_12 : decode cX8_ticksTogether 12 = .ok (.iadd, 1) := by decide +kernel
theorem dX8_ticksTogether_13 : decode cX8_ticksTogether 13 = .ok (.istore 4, 2) := by decide +kernel
theorem dX8_ticksTogether_15 : decode cX8_ticksTogether 15 = .ok (.aload_n 1, 1) := by decide +kernel
theorem dX8_ticksTogether_16 : decode cX8_ticksTogether 16 = .ok (.getfield 30, 3) := by decide +kernel
theorem dX8_ticksTogether_19 : decode cX8_ticksTogether 19 = .ok (.iload_n 3, 1) := by decide +kernel
theorem dX8_ticksTogether_20 : decode cX8_ticksTogether 20 = .ok (.iaload, 1) := by decide +kernel
theorem dX8_ticksTogether_21 : decode cX8_ticksTogether 21 = .ok (.aload_n 0, 1) := by decide +kernel
theorem dX8_ticksTogether_22 : decode cX8_ticksTogether 22 = .ok (.getfield 19, 3) := by decide +kernel
theorem dX8_ticksTogether_25 : decode cX8_ticksTogether 25 = .ok (.iload_n 3, 1) := by decide +kernel
theorem dX8_ticksTogether_26 : decode cX8_ticksTogether 26 = .ok (.iaload, 1) := by decide +kernel
theorem dX8_ticksTogether_27 : decode cX8_ticksTogether 27 = .ok (.iadd, 1) := by decide +kernel
theorem dX8_ticksTogether_28 : decode cX8_ticksTogether 28 = .ok (.istore 5, 2) := by decide +kernel
theorem dX8_ticksTogether_30 : decode cX8_ticksTogether 30 = .ok (.iconst 0, 1) := by decide +kernel
theorem dX8_ticksTogether_31 : decode cX8_ticksTogether 31 = .ok (.iload 4, 2) := by decide +kernel
theorem dX8_ticksTogether_33 : decode cX8_ticksTogether 33 = .ok (.iload 5, 2) := by decide +kernel
theorem dX8_ticksTogether_35 : decode cX8_ticksTogether 35 = .ok (.invokestatic 33, 3) := by decide +kernel
theorem dX8_ticksTogether_38 : decode cX8_ticksTogether 38 = .ok (.aload_n 1, 1) := by decide +kernel
theorem dX8_ticksTogether_39 : decode cX8_ticksTogether 39 = .ok (.getfield 30, 3) := by decide +kernel
theorem dX8_ticksTogether_42 : decode cX8_ticksTogether 42 = .ok (.iload_n 3, 1) := by decide +kernel
theorem dX8_ticksTogether_43 : decode cX8_ticksTogether 43 = .ok (.iaload, 1) := by decide +kernel
theorem dX8_ticksTogether_44 : decode cX8_ticksTogether 44 = .ok (.isub, 1) := by decide +kernel
theorem dX8_ticksTogether_45 : decode cX8_ticksTogether 45 = .ok (.invokestatic 54, 3) := by decide +kernel
theorem dX8_ticksTogether_48 : decode cX8_ticksTogether 48 = .ok (.ireturn, 1) := by decide +kernel
theorem dX8_copyFrom_0 : decode cX8_copyFrom 0 = .ok (.aload_n 1, 1) := by decide +kernel
theorem dX8_copyFrom_1 : decode cX8_copyFrom 1 = .ok (.getfield 9, 3) := by decide +kernel
theorem dX8_copyFrom_4 : decode cX8_copyFrom 4 = .ok (.iconst 0, 1) := by decide +kernel
theorem dX8_copyFrom_5 : decode cX8_copyFrom 5 = .ok (.aload_n 0, 1) := by decide +kernel
theorem dX8_copyFrom_6 : decode cX8_copyFrom 6 = .ok (.getfield 9, 3) := by decide +kernel
theorem dX8_copyFrom_9 : decode cX8_copyFrom 9 = .ok (.iconst 0, 1) := by decide +kernel
theorem dX8_copyFrom_10 : decode cX8_copyFrom 10 = .ok (.bipush 24, 2) := by decide +kernel
theorem dX8_copyFrom_12 : decode cX8_copyFrom 12 = .ok (.invokestatic 57, 3) := by decide +kernel
theorem dX8_copyFrom_15 : decode cX8_copyFrom 15 = .ok (.aload_n 0, 1) := by decide +kernel
theorem dX8_copyFrom_16 : decode cX8_copyFrom 16 = .ok (.aload_n 1, 1) := by decide +kernel
theorem dX8_copyFrom_17 : decode cX8_copyFrom 17 = .ok (.getfield 15, 3) := by decide +kernel
theorem dX8_copyFrom_20 : decode cX8_copyFrom 20 = .ok (.putfield 15, 3) := by decide +kernel
theorem dX8_copyFrom_23 : decode cX8_copyFrom 23 = .ok (.return_, 1) := by decide +kernel
theorem dX9_init_0 : decode cX9_init 0 = .ok (.aload_n 0, 1) := by decide +kernel
theorem dX9_init_1 : decode cX9_init 1 = .ok (.invokespecial 3, 3) := by decide +kernel
theorem dX9_init_4 : decode cX9_init 4 = .ok (.aload_n 0, 1) := by decide +kernel
theorem dX9_init_5 : decode cX9_init 5 = .ok (.sipush 2063, 3) := by decide +kernel
theorem dX9_init_8 : decode cX9_init 8 = .ok (.newarray .int, 2) := by decide +kernel
theorem dX9_init_10 : decode cX9_init 10 = .ok (.putfield 9, 3) := by decide +kernel
theorem dX9_init_13 : decode cX9_init 13 = .ok (.return_, 1) := by decide +kernel
theorem dX9_find_0 : decode cX9_find 0 = .ok (.iconst 0, 1) := by decide +kernel
theorem dX9_find_1 : decode cX9_find 1 = .ok (.istore_n 3, 1) := by decide +kernel
theorem dX9_find_2 : decode cX9_find 2 = .ok (.iload_n 3, 1) := by decide +kernel
theorem dX9_find_3 : decode cX9_find 3 = .ok (.aload_n 1, 1) := by decide +kernel
theorem dX9_find_4 : decode cX9_find 4 = .ok (.getfield 15, 3) := by decide +kernel
theorem dX9_find_7 : decode cX9_find 7 = .ok (.if_icmp .ge 16, 3) := by decide +kernel
theorem dX9_find_10 : decode cX9_find 10 = .ok (.aload_n 0, 1) := by decide +kernel
theorem dX9_find_11 : decode cX9_find 11 = .ok (.getfield 9, 3) := by decide +kernel
theorem dX9_find_14 : decode cX9_find 14 = .ok (.iload_n 3, 1) := by decide +kernel
theorem dX9_find_15 : decode cX9_find 15 = .ok (.iconst 0, 1) := by decide +kernel
theorem dX9_find_16 : decode cX9_find 16 = .ok (.iastore, 1) := by decide +kernel
theorem dX9_find_17 : decode cX9_find 17 = .ok (.iinc 3 1, 3) := by decide +kernel
theorem dX9_find_20 : decode cX9_find 20 = .ok (.goto (-18), 3) := by decide +kernel
theorem dX9_find_23 : decode cX9_find 23 = .ok (.iconst 0, 1) := by decide +kernel
theorem dX9_find_24 : decode cX9_find 24 = .ok (.istore_n 3, 1) := by decide +kernel
theorem dX9_find_25 : decode cX9_find 25 = .ok (.iload_n 3, 1) := by decide +kernel
theorem dX9_find_26 : decode cX9_find 26 = .ok (.aload_n 1, 1) := by decide +kernel
theorem dX9_find_27 : decode cX9_find 27 = .ok (.getfield 21, 3) := by decide +kernel
theorem dX9_find_30 : decode cX9_find 30 = .ok (.if_icmp .ge 85, 3) := by decide +kernel
theorem dX9_find_33 : decode cX9_find 33 = .ok (.iconst 0, 1) := by decide +kernel
theorem dX9_find_34 : decode cX9_find 34 = .ok (.istore 4, 2) := by decide +kernel
theorem dX9_find_36 : decode cX9_find 36 = .ok (.iload 4, 2) := by decide +kernel
theorem dX9_find_38 : decode cX9_find 38 = .ok (.aload_n 2, 1) := by decide +kernel
theorem dX9_find_39 : decode cX9_find 39 = .ok (.getfield 24, 3) := by decide +kernel
theorem dX9_find_42 : decode cX9_find 42 = .ok (.if_icmp .ge 67, 3) := by decide +kernel
theorem dX9_find_45 : decode cX9_find 45 = .ok (.aload_n 2, 1) := by decide +kernel
theorem dX9_find_46 : decode cX9_find 46 = .ok (.getfield 27, 3) := by decide +kernel
theorem dX9_find_49 : decode cX9_find 49 = .ok (.iload 4, 2) := by decide +kernel
theorem dX9_find_51 : decode cX9_find 51 = .ok (.iaload, 1) := by decide +kernel
theorem dX9_find_52 : decode cX9_find 52 = .ok (.aload_n 1, 1) := by decide +kernel
theorem dX9_find_53 : decode cX9_find 53 = .ok (.getfield 30, 3) := by decide +kernel
theorem dX9_find_56 : decode cX9_find 56 = .ok (.iload_n 3, 1) := by decide +kernel
theorem dX9_find_57 : decode cX9_find 57 = .ok (.iaload, 1) := by decide +kernel
theorem dX9_find_58 : decode cX9_find 58 = .ok (.if_icmp .ne 45, 3) := by decide +kernel
theorem dX9_find_61 : decode cX9_find 61 = .ok (.aload_n 1, 1) := by decide +kernel
theorem dX9_find_62 : decode cX9_find 62 = .ok (.getfield 33, 3) := by decide +kernel
theorem dX9_find_65 : decode cX9_find 65 = .ok (.iload_n 3, 1) := by decide +kernel
theorem dX9_find_66 : decode cX9_find 66 = .ok (.iaload, 1) := by decide +kernel
theorem dX9_find_67 : decode cX9_find 67 = .ok (.aload_n 2, 1) := by decide +kernel
theorem dX9_find_68 : decode cX9_find 68 = .ok (.getfield 36, 3) := by decide +kernel
theorem dX9_find_71 : decode cX9_find 71 = .ok (.iload 4, 2) := by decide +kernel
theorem dX9_find_73 : decode cX9_find 73 = .ok (.iaload, 1) := by decide +kernel
theorem dX9_find_74 : decode cX9_find 74 = .ok (.isub, 1) := by decide +kernel
theorem dX9_find_75 : decode cX9_find 75 = .ok (.istore 5, 2) := by decide +kernel
theorem dX9_find_77 : decode cX9_find 77 = .ok (.aload_n 0, 1) := by decide +kernel
theorem dX9_find_78 : decode cX9_find 78 = .ok (.getfield 9, 3) := by decide +kernel
theorem dX9_find_81 : decode cX9_find 81 = .ok (.iload 5, 2) := by decide +kernel
theorem dX9_find_83 : decode cX9_find 83 = .ok (.ifCond .ge 13, 3) := by decide +kernel
theorem dX9_find_86 : decode cX9_find 86 = .ok (.iload 5, 2) := by decide +kernel
theorem dX9_find_88 : decode cX9_find 88 = .ok (.aload_n 1, 1) := by decide +kernel
theorem dX9_find_89 : decode cX9_find 89 = .ok (.getfield 15, 3) := by decide +kernel
theorem dX9_find_92 : decode cX9_find 92 = .ok (.iadd, 1) := by decide +kernel
theorem dX9_find_93 : decode cX9_find 93 = .ok (.goto 5, 3) := by decide +kernel
theorem dX9_find_96 : decode cX9_find 96 = .ok (.iload 5, 2) := by decide +kernel
theorem dX9_find_98 : decode cX9_find 98 = .ok (.dup2, 1) := by decide +kernel
theorem dX9_find_99 : decode cX9_find 99 = .ok (.iaload, 1) := by decide +kernel
theorem dX9_find_100 : decode cX9_find 100 = .ok (.iconst 1, 1) := by decide +kernel
theorem dX9_find_101 : decode cX9_find 101 = .ok (.iadd, 1) := by decide +kernel
theorem dX9_find_102 : decode cX9_find 102 = .ok (.iastore, 1) := by decide +kernel
theorem dX9_find_103 : decode cX9_find 103 = .ok (.iinc 4 1, 3) := by decide +kernel
theorem dX9_find_106 : decode cX9_find 106 = .ok (.goto (-70), 3) := by decide +kernel
theorem dX9_find_109 : decode cX9_find 109 = .ok (.iinc 3 1, 3) := by decide +kernel
theorem dX9_find_112 : decode cX9_find 112 = .ok (.goto (-87), 3) := by decide +kernel
theorem dX9_find_115 : decode cX9_find 115 = .ok (.aload_n 0, 1) := by decide +kernel
theorem dX9_find_116 : decode cX9_find 116 = .ok (.iconst 0, 1) := by decide +kernel
theorem dX9_find_117 : decode cX9_find 117 = .ok (.putfield 39, 3) := by decide +kernel
theorem dX9_find_120 : decode cX9_find 120 = .ok (.iconst 1, 1) := by decide +kernel
theorem dX9_find_121 : decode cX9_find 121 = .ok (.istore_n 3, 1) := by decide +kernel
theorem dX9_find_122 : decode cX9_find 122 = .ok (.iload_n 3, 1) := by decide +kernel
theorem dX9_find_123 : decode cX9_find 123 = .ok (.aload_n 1, 1) := by decide +kernel
theorem dX9_find_124 : decode cX9_find 124 = .ok (.getfield 15, 3) := by decide +kernel
theorem dX9_find_127 : decode cX9_find 127 = .ok (.if_icmp .ge 32, 3) := by decide +kernel
theorem dX9_find_130 : decode cX9_find 130 = .ok (.aload_n 0, 1) := by decide +kernel
theorem dX9_find_131 : decode cX9_find 131 = .ok (.getfield 9, 3) := by decide +kernel
theorem dX9_find_134 : decode cX9_find 134 = .ok (.iload_n 3, 1) := by decide +kernel
theorem dX9_find_135 : decode cX9_find 135 = .ok (.iaload, 1) := by decide +kernel
theorem dX9_find_136 : decode cX9_find 136 = .ok (.aload_n 0, 1) := by decide +kernel
theorem dX9_find_137 : decode cX9_find 137 = .ok (.getfield 9, 3) := by decide +kernel
theorem dX9_find_140 : decode cX9_find 140 = .ok (.aload_n 0, 1) := by decide +kernel
theorem dX9_find_141 : decode cX9_find 141 = .ok (.getfield 39, 3) := by decide +kernel
theorem dX9_find_144 : decode cX9_find 144 = .ok (.iaload, 1) := by decide +kernel
theorem dX9_find_145 : decode cX9_find 145 = .ok (.if_icmp .le 8, 3) := by decide +kernel
theorem dX9_find_148 : decode cX9_find 148 = .ok (.aload_n 0, 1) := by decide +kernel
theorem dX9_find_149 : decode cX9_find 149 = .ok (.iload_n 3, 1) := by decide +kernel
theorem dX9_find_150 : decode cX9_find 150 = .ok (.putfield 39, 3) := by decide +kernel
theorem dX9_find_153 : decode cX9_find 153 = .ok (.iinc 3 1, 3) := by decide +kernel
theorem dX9_find_156 : decode cX9_find 156 = .ok (.goto (-34), 3) := by decide +kernel
theorem dX9_find_159 : decode cX9_find 159 = .ok (.aload_n 0, 1) := by decide +kernel
theorem dX9_find_160 : decode cX9_find 160 = .ok (.aload_n 0, 1) := by decide +kernel
theorem dX9_find_161 : decode cX9_find 161 = .ok (.getfield 9, 3) := by decide +kernel
theorem dX9_find_164 : decode cX9_find 164 = .ok (.aload_n 0, 1) := by decide +kernel
theorem dX9_find_165 : decode cX9_find 165 = .ok (.getfield 39, 3) := by decide +kernel
theorem dX9_find_168 : decode cX9_find 168 = .ok (.iaload, 1) := by decide +kernel
theorem dX9_find_169 : decode cX9_find 169 = .ok (.putfield 42, 3) := by decide +kernel
theorem dX9_find_172 : decode cX9_find 172 = .ok (.return_, 1) := by decide +kernel
theorem dX10_init_0 : decode cX10_init 0 = .ok (.aload_n 0, 1) := by decide +kernel
theorem dX10_init_1 : decode cX10_init 1 = .ok (.invokespecial 1, 3) := by decide +kernel
theorem dX10_init_4 : decode cX10_init 4 = .ok (.aload_n 0, 1) := by decide +kernel
theorem dX10_init_5 : decode cX10_init 5 = .ok (.new 7, 3) := by decide +kernel
theorem dX10_init_8 : decode cX10_init 8 = .ok (.dup, 1) := by decide +kernel
theorem dX10_init_9 : decode cX10_init 9 = .ok (.invokespecial 9, 3) := by decide +kernel
theorem dX10_init_12 : decode cX10_init 12 = .ok (.putfield 10, 3) := by decide +kernel
theorem dX10_init_15 : decode cX10_init 15 = .ok (.aload_n 0, 1) := by decide +kernel
theorem dX10_init_16 : decode cX10_init 16 = .ok (.new 16, 3) := by decide +kernel
theorem dX10_init_19 : decode cX10_init 19 = .ok (.dup, 1) := by decide +kernel
theorem dX10_init_20 : decode cX10_init 20 = .ok (.aload_n 0, 1) := by decide +kernel
theorem dX10_init_21 : decode cX10_init 21 = .ok (.getfield 10, 3) := by decide +kernel
theorem dX10_init_24 : decode cX10_init 24 = .ok (.invokespecial 18, 3) := by decide +kernel
theorem dX10_init_27 : decode cX10_init 27 = .ok (.putfield 21, 3) := by decide +kernel
theorem dX10_init_30 : decode cX10_init 30 = .ok (.aload_n 0, 1) := by decide +kernel
theorem dX10_init_31 : decode cX10_init 31 = .ok (.new 25, 3) := by decide +kernel
theorem dX10_init_34 : decode cX10_init 34 = .ok (.dup, 1) := by decide +kernel
theorem dX10_init_35 : decode cX10_init 35 = .ok (.invokespecial 27, 3) := by decide +kernel
theorem dX10_init_38 : decode cX10_init 38 = .ok (.putfield 28, 3) := by decide +kernel
theorem dX10_init_41 : decode cX10_init 41 = .ok (.aload_n 0, 1) := by decide +kernel
theorem dX10_init_42 : decode cX10_init 42 = .ok (.iconst 2, 1) := by decide +kernel
theorem dX10_init_43 : decode cX10_init 43 = .ok (.anewarray 25, 3) := by decide +kernel
theorem dX10_init_46 : decode cX10_init 46 = .ok (.putfield 32, 3) := by decide +kernel
theorem dX10_init_49 : decode cX10_init 49 = .ok (.aload_n 0, 1) := by decide +kernel
theorem dX10_init_50 : decode cX10_init 50 = .ok (.new 36, 3) := by decide +kernel
theorem dX10_init_53 : decode cX10_init 53 = .ok (.dup, 1) := by decide +kernel
theorem dX10_init_54 : decode cX10_init 54 = .ok (.aload_n 0, 1) := by decide +kernel
theorem dX10_init_55 : decode cX10_init 55 = .ok (.getfield 28, 3) := by decide +kernel
theorem dX10_init_58 : decode cX10_init 58 = .ok (.getfield 38, 3) := by decide +kernel
theorem dX10_init_61 : decode cX10_init 61 = .ok (.invokespecial 42, 3) := by decide +kernel
theorem dX10_init_64 : decode cX10_init 64 = .ok (.putfield 45, 3) := by decide +kernel
theorem dX10_init_67 : decode cX10_init 67 = .ok (.aload_n 0, 1) := by decide +kernel
theorem dX10_init_68 : decode cX10_init 68 = .ok (.new 49, 3) := by decide +kernel
theorem dX10_init_71 : decode cX10_init 71 = .ok (.dup, 1) := by decide +kernel
theorem dX10_init_72 : decode cX10_init 72 = .ok (.aload_n 0, 1) := by decide +kernel
theorem dX10_init_73 : decode cX10_init 73 = .ok (.getfield 28, 3) := by decide +kernel
theorem dX10_init_76 : decode cX10_init 76 = .ok (.getfield 38, 3) := by decide +kernel
theorem dX10_init_79 : decode cX10_init 79 = .ok (.invokespecial 51, 3) := by decide +kernel
theorem dX10_init_82 : decode cX10_init 82 = .ok (.putfield 52, 3) := by decide +kernel
theorem dX10_init_85 : decode cX10_init 85 = .ok (.aload_n 0, 1) := by decide +kernel
theorem dX10_init_86 : decode cX10_init 86 = .ok (.new 56, 3) := by decide +kernel
theorem dX10_init_89 : decode cX10_init 89 = .ok (.dup, 1) := by decide +kernel
theorem dX10_init_90 : decode cX10_init 90 = .ok (.invokespecial 58, 3) := by decide +kernel
theorem dX10_init_93 : decode cX10_init 93 = .ok (.putfield 59, 3) := by decide +kernel
theorem dX10_init_96 : decode cX10_init 96 = .ok (.aload_n 0, 1) := by decide +kernel
theorem dX10_init_97 : decode cX10_init 97 = .ok (.iconst 0, 1) := by decide +kernel
theorem dX10_init_98 : decode cX10_init 98 = .ok (.putfield 63, 3) := by decide +kernel
theorem dX10_init_101 : decode cX10_init 101 = .ok (.return_, 1) := by decide +kernel
theorem dX10_feed_0 : decode cX10_feed 0 = .ok (.aload_n 0, 1) := by decide +kernel
theorem dX10_feed_1 : decode cX10_feed 1 = .ok (.getfield 10, 3) := by decide +kernel
theorem dX10_feed_4 : decode cX10_feed 4 = .ok (.invokevirtual 67, 3) := by decide +kernel
theorem dX10_feed_7 : decode cX10_feed 7 = .ok (.ifCond .ne 5, 3) := by decide +kernel
theorem dX10_feed_10 : decode cX10_feed 10 = .ok (.iconst (-1), 1) := by decide +kernel
theorem dX10_feed_11 : decode cX10_feed 11 = .ok (.ireturn, 1) := by decide +kernel
theorem dX10_feed_12 : decode cX10_feed 12 = .ok (.aload_n 0, 1) := by decide +kernel
theorem dX10_feed_13 : decode cX10_feed 13 = .ok (.getfield 10, 3) := by decide +kernel
theorem dX10_feed_16 : decode cX10_feed 16 = .ok (.iload_n 1, 1) := by decide +kernel
theorem dX10_feed_17 : decode cX10_feed 17 = .ok (.invokevirtual 71, 3) := by decide +kernel
theorem dX10_feed_20 : decode cX10_feed 20 = .ok (.aload_n 0, 1) := by decide +kernel
theorem dX10_feed_21 : decode cX10_feed 21 = .ok (.getfield 10, 3) := by decide +kernel
theorem dX10_feed_24 : decode cX10_feed 24 = .ok (.iload_n 2, 1) := by decide +kernel
theorem dX10_feed_25 : decode cX10_feed 25 = .ok (.invokevirtual 71, 3) := by decide +kernel
theorem dX10_feed_28 : decode cX10_feed 28 = .ok (.aload_n 0, 1) := by decide +kernel
theorem dX10_feed_29 : decode cX10_feed 29 = .ok (.getfield 10, 3) := by decide +kernel
theorem dX10_feed_32 : decode cX10_feed 32 = .ok (.iload_n 3, 1) := by decide +kernel
theorem dX10_feed_33 : decode cX10_feed 33 = .ok (.invokevirtual 71, 3) := by decide +kernel
theorem dX10_feed_36 : decode cX10_feed 36 = .ok (.aload_n 0, 1) := by decide +kernel
theorem dX10_feed_37 : decode cX10_feed 37 = .ok (.getfield 10, 3) := by decide +kernel
theorem dX10_feed_40 : decode cX10_feed 40 = .ok (.iload 4, 2) := by decide +kernel
theorem dX10_feed_42 : decode cX10_feed 42 = .ok (.invokevirtual 71, 3) := by decide +kernel
theorem dX10_feed_45 : decode cX10_feed 45 = .ok (.aload_n 0, 1) := by decide +kernel
theorem dX10_feed_46 : decode cX10_feed 46 = .ok (.getfield 10, 3) := by decide +kernel
theorem dX10_feed_49 : decode cX10_feed 49 = .ok (.iload 5, 2) := by decide +kernel
theorem dX10_feed_51 : decode cX10_feed 51 = .ok (.invokevirtual 71, 3) := by decide +kernel
theorem dX10_feed_54 : decode cX10_feed 54 = .ok (.aload_n 0, 1) := by decide +kernel
theorem dX10_feed_55 : decode cX10_feed 55 = .ok (.getfield 10, 3) := by decide +kernel
theorem dX10_feed_58 : decode cX10_feed 58 = .ok (.getfield 75, 3) := by decide +kernel
theorem dX10_feed_61 : decode cX10_feed 61 = .ok (.ireturn, 1) := by decide +kernel
theorem dX10_end_0 : decode cX10_end 0 = .ok (.iload_n 1, 1) := by decide +kernel
theorem dX10_end_1 : decode cX10_end 1 = .ok (.ifCond .lt 14, 3) := by decide +kernel
theorem dX10_end_4 : decode cX10_end 4 = .ok (.iload_n 1, 1) := by decide +kernel
theorem dX10_end_5 : decode cX10_end 5 = .ok (.aload_n 0, 1) := by decide +kernel
theorem dX10_end_6 : decode cX10_end 6 = .ok (.getfield 10, 3) := by decide +kernel
theorem dX10_end_9 : decode cX10_end 9 = .ok (.getfield 75, 3) := by decide +kernel
theorem dX10_end_12 : decode cX10_end 12 = .ok (.if_icmp .le 5, 3) := by decide +kernel
theorem dX10_end_15 : decode cX10_end 15 = .ok (.iconst 0, 1) := by decide +kernel
theorem dX10_end_16 : decode cX10_end 16 = .ok (.ireturn, 1) := by decide +kernel
theorem dX10_end_17 : decode cX10_end 17 = .ok (.aload_n 0, 1) := by decide +kernel
theorem dX10_end_18 : decode cX10_end 18 = .ok (.getfield 10, 3) := by decide +kernel
theorem dX10_end_21 : decode cX10_end 21 = .ok (.iload_n 1, 1) := by decide +kernel
theorem dX10_end_22 : decode cX10_end 22 = .ok (.putfield 75, 3) := by decide +kernel
theorem dX10_end_25 : decode cX10_end 25 = .ok (.iconst 1, 1) := by decide +kernel
theorem dX10_end_26 : decode cX10_end 26 = .ok (.ireturn, 1) := by decide +kernel
theorem dX10_score_0 : decode cX10_score 0 = .ok (.aload_n 0, 1) := by decide +kernel
theorem dX10_score_1 : decode cX10_score 1 = .ok (.getfield 21, 3) := by decide +kernel
theorem dX10_score_4 : decode cX10_score 4 = .ok (.invokevirtual 79, 3) := by decide +kernel
theorem dX10_score_7 : decode cX10_score 7 = .ok (.istore_n 1, 1) := by decide +kernel
theorem dX10_score_8 : decode cX10_score 8 = .ok (.aload_n 0, 1) := by decide +kernel
theorem dX10_score_9 : decode cX10_score 9 = .ok (.getfield 10, 3) := by decide +kernel
theorem dX10_score_12 : decode cX10_score 12 = .ok (.iconst 0, 1) := by decide +kernel
theorem dX10_score_13 : decode cX10_score 13 = .ok (.putfield 75, 3) := by decide +kernel
theorem dX10_score_16 : decode cX10_score 16 = .ok (.aload_n 0, 1) := by decide +kernel
theorem dX10_score_17 : decode cX10_score 17 = .ok (.getfield 28, 3) := by decide +kernel
theorem dX10_score_20 : decode cX10_score 20 = .ok (.aload_n 0, 1) := by decide +kernel
theorem dX10_score_21 : decode cX10_score 21 = .ok (.getfield 21, 3) := by decide +kernel
theorem dX10_score_24 : decode cX10_score 24 = .ok (.getfield 82, 3) := by decide +kernel
theorem dX10_score_27 : decode cX10_score 27 = .ok (.putfield 85, 3) := by decide +kernel
theorem dX10_score_30 : decode cX10_score 30 = .ok (.aload_n 0, 1) := by decide +kernel
theorem dX10_score_31 : decode cX10_score 31 = .ok (.getfield 28, 3) := by decide +kernel
theorem dX10_score_34 : decode cX10_score 34 = .ok (.aload_n 0, 1) := by decide +kernel
theorem dX10_score_35 : decode cX10_score 35 = .ok (.getfield 21, 3) := by decide +kernel
theorem dX10_score_38 : decode cX10_score 38 = .ok (.getfield 86, 3) := by decide +kernel
theorem dX10_score_41 : decode cX10_score 41 = .ok (.putfield 89, 3) := by decide +kernel
theorem dX10_score_44 : decode cX10_score 44 = .ok (.iload_n 1, 1) := by decide +kernel
theorem dX10_score_45 : decode cX10_score 45 = .ok (.ifCond .ne 5, 3) := by decide +kernel
theorem dX10_score_48 : decode cX10_score 48 = .ok (.iconst (-1), 1) := by decide +kernel
theorem dX10_score_49 : decode cX10_score 49 = .ok (.ireturn, 1) := by decide +kernel
theorem dX10_score_50 : decode cX10_score 50 = .ok (.aload_n 0, 1) := by decide +kernel
theorem dX10_score_51 : decode cX10_score 51 = .ok (.getfield 28, 3) := by decide +kernel
theorem dX10_score_54 : decode cX10_score 54 = .ok (.getfield 38, 3) := by decide +kernel
theorem dX10_score_57 : decode cX10_score 57 = .ok (.aload_n 0, 1) := by decide +kernel
theorem dX10_score_58 : decode cX10_score 58 = .ok (.getfield 21, 3) := by decide +kernel
theorem dX10_score_61 : decode cX10_score 61 = .ok (.getfield 90, 3) := by decide +kernel
theorem dX10_score_64 : decode cX10_score 64 = .ok (.invokevirtual 93, 3) := by decide +kernel
theorem dX10_score_67 : decode cX10_score 67 = .ok (.aload_n 0, 1) := by decide +kernel
theorem dX10_score_68 : decode cX10_score 68 = .ok (.iconst 0, 1) := by decide +kernel
theorem dX10_score_69 : decode cX10_score 69 = .ok (.putfield 63, 3) := by decide +kernel
theorem dX10_score_72 : decode cX10_score 72 = .ok (.aload_n 0, 1) := by decide +kernel
theorem dX10_score_73 : decode cX10_score 73 = .ok (.getfield 28, 3) := by decide +kernel
theorem dX10_score_76 : decode cX10_score 76 = .ok (.getfield 38, 3) := by decide +kernel
theorem dX10_score_79 : decode cX10_score 79 = .ok (.getfield 98, 3) := by decide +kernel
theorem dX10_score_82 : decode cX10_score 82 = .ok (.ireturn, 1) := by decide +kernel
theorem dX10_fault_0 : decode cX10_fault 0 = .ok (.iload_n 1, 1) := by decide +kernel
theorem dX10_fault_1 : decode cX10_fault 1 = .ok (.lookupswitch 43 #[(0, 27), (1, 35)], 27) := by decide +kernel
theorem dX10_fault_28 : decode cX10_fault 28 = .ok (.aload_n 0, 1) := by decide +kernel
theorem dX10_fault_29 : decode cX10_fault 29 = .ok (.getfield 28, 3) := by decide +kernel
theorem dX10_fault_32 : decode cX10_fault 32 = .ok (.getfield 85, 3) := by decide +kernel
theorem dX10_fault_35 : decode cX10_fault 35 = .ok (.ireturn, 1) := by decide +kernel
theorem dX10_fault_36 : decode cX10_fault 36 = .ok (.aload_n 0, 1) := by decide +kernel
theorem dX10_fault_37 : decode cX10_fault 37 = .ok (.getfield 28, 3) := by decide +kernel
theorem dX10_fault_40 : decode cX10_fault 40 = .ok (.getfield 89, 3) := by decide +kernel
theorem dX10_fault_43 : decode cX10_fault 43 = .ok (.ireturn, 1) := by decide +kernel
theorem dX10_fault_44 : decode cX10_fault 44 = .ok (.iconst (-1), 1) := by decide +kernel
theorem dX10_fault_45 : decode cX10_fault 45 = .ok (.ireturn, 1) := by decide +kernel
theorem dX10_strike_0 : decode cX10_strike 0 = .ok (.aload_n 0, 1) := by decide +kernel
theorem dX10_strike_1 : decode cX10_strike 1 = .ok (.getfield 28, 3) := by decide +kernel
theorem dX10_strike_4 : decode cX10_strike 4 = .ok (.getfield 38, 3) := by decide +kernel
theorem dX10_strike_7 : decode cX10_strike 7 = .ok (.iload_n 1, 1) := by decide +kernel
theorem dX10_strike_8 : decode cX10_strike 8 = .ok (.invokevirtual 99, 3) := by decide +kernel
theorem dX10_strike_11 : decode cX10_strike 11 = .ok (.ifCond .ne 5, 3) := by decide +kernel
theorem dX10_strike_14 : decode cX10_strike 14 = .ok (.iconst (-1), 1) := by decide +kernel
theorem dX10_strike_15 : decode cX10_strike 15 = .ok (.ireturn, 1) := by decide +kernel
theorem dX10_strike_16 : decode cX10_strike 16 = .ok (.iload_n 2, 1) := by decide +kernel
theorem dX10_strike_17 : decode cX10_strike 17 = .ok (.lookupswitch 53 #[(0, 27), (1, 40)], 27) := by decide +kernel
theorem dX10_strike_44 : decode cX10_strike 44 = .ok (.aload_n 0, 1) := by decide +kernel
theorem dX10_strike_45 : decode cX10_strike 45 = .ok (.getfield 28, 3) := by decide +kernel
theorem dX10_strike_48 : decode cX10_strike 48 = .ok (.getfield 38, 3) := by decide +kernel
theorem dX10_strike_51 : decode cX10_strike 51 = .ok (.getfield 103, 3) := by decide +kernel
theorem dX10_strike_54 : decode cX10_strike 54 = .ok (.iload_n 1, 1) := by decide +kernel
theorem dX10_strike_55 : decode cX10_strike 55 = .ok (.iaload, 1) := by decide +kernel
theorem dX10_strike_56 : decode cX10_strike 56 = .ok (.ireturn, 1) := by decide +kernel
theorem dX10_strike_57 : decode cX10_strike 57 = .ok (.aload_n 0, 1) := by decide +kernel
theorem dX10_strike_58 : decode cX10_strike 58 = .ok (.getfield 28, 3) := by decide +kernel
theorem dX10_strike_61 : decode cX10_strike 61 = .ok (.getfield 38, 3) := by decide +kernel
theorem dX10_strike_64 : decode cX10_strike 64 = .ok (.getfield 107, 3) := by decide +kernel
theorem dX10_strike_67 : decode cX10_strike 67 = .ok (.iload_n 1, 1) := by decide +kernel
theorem dX10_strike_68 : decode cX10_strike 68 = .ok (.iaload, 1) := by decide +kernel
theorem dX10_strike_69 : decode cX10_strike 69 = .ok (.ireturn, 1) := by decide +kernel
theorem dX10_strike_70 : decode cX10_strike 70 = .ok (.iconst (-1), 1) := by decide +kernel
theorem dX10_strike_71 : decode cX10_strike 71 = .ok (.ireturn, 1) := by decide +kernel
theorem dX10_count_0 : decode cX10_count 0 = .ok (.iload_n 1, 1) := by decide +kernel
theorem dX10_count_1 : decode cX10_count 1 = .ok (.tableswitch 57 0 2 #[27, 38, 49], 27) := by decide +kernel
theorem dX10_count_28 : decode cX10_count 28 = .ok (.aload_n 0, 1) := by decide +kernel
theorem dX10_count_29 : decode cX10_count 29 = .ok (.getfield 28, 3) := by decide +kernel
theorem dX10_count_32 : decode cX10_count 32 = .ok (.getfield 38, 3) := by decide +kernel
theorem dX10_count_35 : decode cX10_count 35 = .ok (.getfield 98, 3) := by decide +kernel
theorem dX10_count_38 : decode cX10_count 38 = .ok (.ireturn, 1) := by decide +kernel
theorem dX10_count_39 : decode cX10_count 39 = .ok (.aload_n 0, 1) := by decide +kernel
theorem dX10_count_40 : decode cX10_count 40 = .ok (.getfield 28, 3) := by decide +kernel
theorem dX10_count_43 : decode cX10_count 43 = .ok (.getfield 38, 3) := by decide +kernel
theorem dX10_count_46 : decode cX10_count 46 = .ok (.getfield 110, 3) := by decide +kernel
theorem dX10_count_49 : decode cX10_count 49 = .ok (.ireturn, 1) := by decide +kernel
theorem dX10_count_50 : decode cX10_count 50 = .ok (.aload_n 0, 1) := by decide +kernel
theorem dX10_count_51 : decode cX10_count 51 = .ok (.invokevirtual 113, 3) := by decide +kernel
theorem dX10_count_54 : decode cX10_count 54 = .ok (.getfield 117, 3) := by decide +kernel
theorem dX10_count_57 : decode cX10_count 57 = .ok (.ireturn, 1) := by decide +kernel
theorem dX10_count_58 : decode cX10_count 58 = .ok (.iconst (-1), 1) := by decide +kernel
theorem dX10_count_59 : decode cX10_count 59 = .ok (.ireturn, 1) := by decide +kernel
theorem dX10_fists_0 : decode cX10_fists 0 = .ok (.iload_n 1, 1) := by decide +kernel
theorem dX10_fists_1 : decode cX10_fists 1 = .ok (.iconst 1, 1) := by decide +kernel
theorem dX10_fists_2 : decode cX10_fists 2 = .ok (.if_icmp .lt 20, 3) := by decide +kernel
theorem dX10_fists_5 : decode cX10_fists 5 = .ok (.iload_n 1, 1) := by decide +kernel
theorem dX10_fists_6 : decode cX10_fists 6 = .ok (.bipush 24, 2) := by decide +kernel
theorem dX10_fists_8 : decode cX10_fists 8 = .ok (.if_icmp .gt 14, 3) := by decide +kernel
theorem dX10_fists_11 : decode cX10_fists 11 = .ok (.iload_n 2, 1) := by decide +kernel
theorem dX10_fists_12 : decode cX10_fists 12 = .ok (.ifCond .lt 10, 3) := by decide +kernel
theorem dX10_fists_15 : decode cX10_fists 15 = .ok (.iload_n 2, 1) := by decide +kernel
theorem dX10_fists_16 : decode cX10_fists 16 = .ok (.sipush 10000, 3) := by decide +kernel
theorem dX10_fists_19 : decode cX10_fists 19 = .ok (.if_icmp .le 5, 3) := by decide +kernel
theorem dX10_fists_22 : decode cX10_fists 22 = .ok (.iconst 0, 1) := by decide +kernel
theorem dX10_fists_23 : decode cX10_fists 23 = .ok (.ireturn, 1) := by decide +kernel
theorem dX10_fists_24 : decode cX10_fists 24 = .ok (.aload_n 0, 1) := by decide +kernel
theorem dX10_fists_25 : decode cX10_fists 25 = .ok (.getfield 28, 3) := by decide +kernel
theorem dX10_fists_28 : decode cX10_fists 28 = .ok (.iload_n 1, 1) := by decide +kernel
theorem dX10_fists_29 : decode cX10_fists 29 = .ok (.putfield 120, 3) := by decide +kernel
theorem dX10_fists_32 : decode cX10_fists 32 = .ok (.aload_n 0, 1) := by decide +kernel
theorem dX10_fists_33 : decode cX10_fists 33 = .ok (.getfield 28, 3) := by decide +kernel
theorem dX10_fists_36 : decode cX10_fists 36 = .ok (.iload_n 2, 1) := by decide +kernel
theorem dX10_fists_37 : decode cX10_fists 37 = .ok (.putfield 123, 3) := by decide +kernel
theorem dX10_fists_40 : decode cX10_fists 40 = .ok (.aload_n 0, 1) := by decide +kernel
theorem dX10_fists_41 : decode cX10_fists 41 = .ok (.iconst 0, 1) := by decide +kernel
theorem dX10_fists_42 : decode cX10_fists 42 = .ok (.putfield 63, 3) := by decide +kernel
theorem dX10_fists_45 : decode cX10_fists 45 = .ok (.iconst 1, 1) := by decide +kernel
theorem dX10_fists_46 : decode cX10_fists 46 = .ok (.ireturn, 1) := by decide +kernel
theorem dX10_cost_0 : decode cX10_cost 0 = .ok (.aload_n 0, 1) := by decide +kernel
theorem dX10_cost_1 : decode cX10_cost 1 = .ok (.invokevirtual 113, 3) := by decide +kernel
theorem dX10_cost_4 : decode cX10_cost 4 = .ok (.getfield 126, 3) := by decide +kernel
theorem dX10_cost_7 : decode cX10_cost 7 = .ok (.ireturn, 1) := by decide +kernel
theorem dX10_need_0 : decode cX10_need 0 = .ok (.aload_n 0, 1) := by decide +kernel
theorem dX10_need_1 : decode cX10_need 1 = .ok (.getfield 52, 3) := by decide +kernel
theorem dX10_need_4 : decode cX10_need 4 = .ok (.invokevirtual 129, 3) := by decide +kernel
theorem dX10_need_7 : decode cX10_need 7 = .ok (.ireturn, 1) := by decide +kernel
theorem dX10_by_0 : decode cX10_by 0 = .ok (.aload_n 0, 1) := by decide +kernel
theorem dX10_by_1 : decode cX10_by 1 = .ok (.getfield 28, 3) := by decide +kernel
theorem dX10_by_4 : decode cX10_by 4 = .ok (.getfield 38, 3) := by decide +kernel
theorem dX10_by_7 : decode cX10_by 7 = .ok (.iload_n 1, 1) := by decide +kernel
theorem dX10_by_8 : decode cX10_by 8 = .ok (.invokevirtual 99, 3) := by decide +kernel
theorem dX10_by_11 : decode cX10_by 11 = .ok (.ifCond .ne 5, 3) := by decide +kernel
theorem dX10_by_14 : decode cX10_by 14 = .ok (.iconst (-1), 1) := by decide +kernel
theorem dX10_by_15 : decode cX10_by 15 = .ok (.ireturn, 1) := by decide +kernel
theorem dX10_by_16 : decode cX10_by 16 = .ok (.aload_n 0, 1) := by decide +kernel
theorem dX10_by_17 : decode cX10_by 17 = .ok (.invokevirtual 113, 3) := by decide +kernel
theorem dX10_by_20 : decode cX10_by 20 = .ok (.getfield 133, 3) := by decide +kernel
theorem dX10_by_23 : decode cX10_by 23 = .ok (.iload_n 1, 1) := by decide +kernel
theorem dX10_by_24 : decode cX10_by 24 = .ok (.iaload, 1) := by decide +kernel
theorem dX10_by_25 : decode cX10_by 25 = .ok (.ireturn, 1) := by decide +kernel
theorem dX10_way_0 : decode cX10_way 0 = .ok (.iload_n 1, 1) := by decide +kernel
theorem dX10_way_1 : decode cX10_way 1 = .ok (.ifCond .eq 10, 3) := by decide +kernel
theorem dX10_way_4 : decode cX10_way 4 = .ok (.iload_n 1, 1) := by decide +kernel
theorem dX10_way_5 : decode cX10_way 5 = .ok (.iconst 1, 1) := by decide +kernel
theorem dX10_way_6 : decode cX10_way 6 = .ok (.if_icmp .eq 5, 3) := by decide +kernel
theorem dX10_way_9 : decode cX10_way 9 = .ok (.iconst (-1), 1) := by decide +kernel
theorem dX10_way_10 : decode cX10_way 10 = .ok (.ireturn, 1) := by decide +kernel
theorem dX10_way_11 : decode cX10_way 11 = .ok (.aload_n 0, 1) := by decide +kernel
theorem dX10_way_12 : decode cX10_way 12 = .ok (.invokevirtual 113, 3) := by decide +kernel
theorem dX10_way_15 : decode cX10_way 15 = .ok (.getfield 136, 3) := by decide +kernel
theorem dX10_way_18 : decode cX10_way 18 = .ok (.iload_n 1, 1) := by decide +kernel
theorem dX10_way_19 : decode cX10_way 19 = .ok (.iaload, 1) := by decide +kernel
theorem dX10_way_20 : decode cX10_way 20 = .ok (.ireturn, 1) := by decide +kernel
theorem dX10_tail_0 : decode cX10_tail 0 = .ok (.iload_n 1, 1) := by decide +kernel
theorem dX10_tail_1 : decode cX10_tail 1 = .ok (.invokestatic 139, 3) := by decide +kernel
theorem dX10_tail_4 : decode cX10_tail 4 = .ok (.ifCond .eq 14, 3) := by decide +kernel
theorem dX10_tail_7 : decode cX10_tail 7 = .ok (.iload_n 2, 1) := by decide +kernel
theorem dX10_tail_8 : decode cX10_tail 8 = .ok (.iconst 1, 1) := by decide +kernel
theorem dX10_tail_9 : decode cX10_tail 9 = .ok (.if_icmp .lt 9, 3) := by decide +kernel
theorem dX10_tail_12 : decode cX10_tail 12 = .ok (.iload_n 2, 1) := by decide +kernel
theorem dX10_tail_13 : decode cX10_tail 13 = .ok (.bipush 60, 2) := by decide +kernel
theorem dX10_tail_15 : decode cX10_tail 15 = .ok (.if_icmp .le 5, 3) := by decide +kernel
theorem dX10_tail_18 : decode cX10_tail 18 = .ok (.iconst (-1), 1) := by decide +kernel
theorem dX10_tail_19 : decode cX10_tail 19 = .ok (.ireturn, 1) := by decide +kernel
theorem dX10_tail_20 : decode cX10_tail 20 = .ok (.aload_n 0, 1) := by decide +kernel
theorem dX10_tail_21 : decode cX10_tail 21 = .ok (.getfield 28, 3) := by decide +kernel
theorem dX10_tail_24 : decode cX10_tail 24 = .ok (.getfield 142, 3) := by decide +kernel
theorem dX10_tail_27 : decode cX10_tail 27 = .ok (.getfield 146, 3) := by decide +kernel
theorem dX10_tail_30 : decode cX10_tail 30 = .ok (.iload_n 1, 1) := by decide +kernel
theorem dX10_tail_31 : decode cX10_tail 31 = .ok (.iaload, 1) := by decide +kernel
theorem dX10_tail_32 : decode cX10_tail 32 = .ok (.istore_n 3, 1) := by decide +kernel
theorem dX10_tail_33 : decode cX10_tail 33 = .ok (.aload_n 0, 1) := by decide +kernel
theorem dX10_tail_34 : decode cX10_tail 34 = .ok (.getfield 28, 3) := by decide +kernel
theorem dX10_tail_37 : decode cX10_tail 37 = .ok (.getfield 142, 3) := by decide +kernel
theorem dX10_tail_40 : decode cX10_tail 40 = .ok (.getfield 146, 3) := by decide +kernel
theorem dX10_tail_43 : decode cX10_tail 43 = .ok (.iload_n 1, 1) := by decide +kernel
theorem dX10_tail_44 : decode cX10_tail 44 = .ok (.iload_n 2, 1) := by decide +kernel
theorem dX10_tail_45 : decode cX10_tail 45 = .ok (.iastore, 1) := by decide +kernel
theorem dX10_tail_46 : decode cX10_tail 46 = .ok (.iload_n 3, 1) := by decide +kernel
theorem dX10_tail_47 : decode cX10_tail 47 = .ok (.ireturn, 1) := by decide +kernel
theorem dX10_quarrel_0 : decode cX10_quarrel 0 = .ok (.iload_n 1, 1) := by decide +kernel
theorem dX10_quarrel_1 : decode cX10_quarrel 1 = .ok (.ifCond .lt 10, 3) := by decide +kernel
theorem dX10_quarrel_4 : decode cX10_quarrel 4 = .ok (.iload_n 1, 1) := by decide +kernel
theorem dX10_quarrel_5 : decode cX10_quarrel 5 = .ok (.sipush 4095, 3) := by decide +kernel
theorem dX10_quarrel_8 : decode cX10_quarrel 8 = .ok (.if_icmp .le 5, 3) := by decide +kernel
theorem dX10_quarrel_11 : decode cX10_quarrel 11 = .ok (.iconst (-1), 1) := by decide +kernel
theorem dX10_quarrel_12 : decode cX10_quarrel 12 = .ok (.ireturn, 1) := by decide +kernel
theorem dX10_quarrel_13 : decode cX10_quarrel 13 = .ok (.aload_n 0, 1) := by decide +kernel
theorem dX10_quarrel_14 : decode cX10_quarrel 14 = .ok (.getfield 28, 3) := by decide +kernel
theorem dX10_quarrel_17 : decode cX10_quarrel 17 = .ok (.getfield 142, 3) := by decide +kernel
theorem dX10_quarrel_20 : decode cX10_quarrel 20 = .ok (.getfield 151, 3) := by decide +kernel
theorem dX10_quarrel_23 : decode cX10_quarrel 23 = .ok (.istore_n 2, 1) := by decide +kernel
theorem dX10_quarrel_24 : decode cX10_quarrel 24 = .ok (.aload_n 0, 1) := by decide +kernel
theorem dX10_quarrel_25 : decode cX10_quarrel 25 = .ok (.getfield 28, 3) := by decide +kernel
theorem dX10_quarrel_28 : decode cX10_quarrel 28 = .ok (.getfield 142, 3) := by decide +kernel
theorem dX10_quarrel_31 : decode cX10_quarrel 31 = .ok (.iload_n 1, 1) := by decide +kernel
theorem dX10_quarrel_32 : decode cX10_quarrel 32 = .ok (.putfield 151, 3) := by decide +kernel
theorem dX10_quarrel_35 : decode cX10_quarrel 35 = .ok (.iload_n 2, 1) := by decide +kernel
theorem dX10_quarrel_36 : decode cX10_quarrel 36 = .ok (.ireturn, 1) := by decide +kernel
theorem dX10_quarrels_0 : decode cX10_quarrels 0 = .ok (.aload_n 0, 1) := by decide +kernel
theorem dX10_quarrels_1 : decode cX10_quarrels 1 = .ok (.getfield 28, 3) := by decide +kernel
theorem dX10_quarrels_4 : decode cX10_quarrels 4 = .ok (.getfield 142, 3) := by decide +kernel
theorem dX10_quarrels_7 : decode cX10_quarrels 7 = .ok (.aload_n 0, 1) := by decide +kernel
theorem dX10_quarrels_8 : decode cX10_quarrels 8 = .ok (.getfield 28, 3) := by decide +kernel
theorem dX10_quarrels_11 : decode cX10_quarrels 11 = .ok (.getfield 38, 3) := by decide +kernel
theorem dX10_quarrels_14 : decode cX10_quarrels 14 = .ok (.invokevirtual 154, 3) := by decide +kernel
theorem dX10_quarrels_17 : decode cX10_quarrels 17 = .ok (.ireturn, 1) := by decide +kernel
theorem dX10_sounds_0 : decode cX10_sounds 0 = .ok (.aload_n 0, 1) := by decide +kernel
theorem dX10_sounds_1 : decode cX10_sounds 1 = .ok (.getfield 28, 3) := by decide +kernel
theorem dX10_sounds_4 : decode cX10_sounds 4 = .ok (.getfield 38, 3) := by decide +kernel
theorem dX10_sounds_7 : decode cX10_sounds 7 = .ok (.iload_n 1, 1) := by decide +kernel
theorem dX10_sounds_8 : decode cX10_sounds 8 = .ok (.invokevirtual 99, 3) := by decide +kernel
theorem dX10_sounds_11 : decode cX10_sounds 11 = .ok (.ifCond .ne 5, 3) := by decide +kernel
theorem dX10_sounds_14 : decode cX10_sounds 14 = .ok (.iconst (-1), 1) := by decide +kernel
theorem dX10_sounds_15 : decode cX10_sounds 15 = .ok (.ireturn, 1) := by decide +kernel
theorem dX10_sounds_16 : decode cX10_sounds 16 = .ok (.aload_n 0, 1) := by decide +kernel
theorem dX10_sounds_17 : decode cX10_sounds 17 = .ok (.getfield 28, 3) := by decide +kernel
theorem dX10_sounds_20 : decode cX10_sounds 20 = .ok (.getfield 142, 3) := by decide +kernel
theorem dX10_sounds_23 : decode cX10_sounds 23 = .ok (.aload_n 0, 1) := by decide +kernel
theorem dX10_sounds_24 : decode cX10_sounds 24 = .ok (.getfield 28, 3) := by decide +kernel
theorem dX10_sounds_27 : decode cX10_sounds 27 = .ok (.getfield 38, 3) := by decide +kernel
theorem dX10_sounds_30 : decode cX10_sounds 30 = .ok (.iload_n 1, 1) := by decide +kernel
theorem dX10_sounds_31 : decode cX10_sounds 31 = .ok (.invokevirtual 158, 3) := by decide +kernel
theorem dX10_sounds_34 : decode cX10_sounds 34 = .ok (.ireturn, 1) := by decide +kernel
theorem dX10_drum_0 : decode cX10_drum 0 = .ok (.iload_n 1, 1) := by decide +kernel
theorem dX10_drum_1 : decode cX10_drum 1 = .ok (.iconst 1, 1) := by decide +kernel
theorem dX10_drum_2 : decode cX10_drum 2 = .ok (.if_icmp .lt 10, 3) := by decide +kernel
theorem dX10_drum_5 : decode cX10_drum 5 = .ok (.iload_n 1, 1) := by decide +kernel
theorem dX10_drum_6 : decode cX10_drum 6 = .ok (.sipush 2063, 3) := by decide +kernel
theorem dX10_drum_9 : decode cX10_drum 9 = .ok (.if_icmp .le 5, 3) := by decide +kernel
theorem dX10_drum_12 : decode cX10_drum 12 = .ok (.iconst 0, 1) := by decide +kernel
theorem dX10_drum_13 : decode cX10_drum 13 = .ok (.ireturn, 1) := by decide +kernel
theorem dX10_drum_14 : decode cX10_drum 14 = .ok (.aload_n 0, 1) := by decide +kernel
theorem dX10_drum_15 : decode cX10_drum 15 = .ok (.getfield 28, 3) := by decide +kernel
theorem dX10_drum_18 : decode cX10_drum 18 = .ok (.getfield 162, 3) := by decide +kernel
theorem dX10_drum_21 : decode cX10_drum 21 = .ok (.iload_n 1, 1) := by decide +kernel
theorem dX10_drum_22 : decode cX10_drum 22 = .ok (.invokevirtual 166, 3) := by decide +kernel
theorem dX10_drum_25 : decode cX10_drum 25 = .ok (.iconst 1, 1) := by decide +kernel
theorem dX10_drum_26 : decode cX10_drum 26 = .ok (.ireturn, 1) := by decide +kernel
theorem dX10_change_0 : decode cX10_change 0 = .ok (.aload_n 0, 1) := by decide +kernel
theorem dX10_change_1 : decode cX10_change 1 = .ok (.getfield 28, 3) := by decide +kernel
theorem dX10_change_4 : decode cX10_change 4 = .ok (.getfield 162, 3) := by decide +kernel
theorem dX10_change_7 : decode cX10_change 7 = .ok (.aload_n 0, 1) := by decide +kernel
theorem dX10_change_8 : decode cX10_change 8 = .ok (.getfield 28, 3) := by decide +kernel
theorem dX10_change_11 : decode cX10_change 11 = .ok (.getfield 38, 3) := by decide +kernel
theorem dX10_change_14 : decode cX10_change 14 = .ok (.invokevirtual 171, 3) := by decide +kernel
theorem dX10_change_17 : decode cX10_change 17 = .ok (.ifCond .ne 5, 3) := by decide +kernel
theorem dX10_change_20 : decode cX10_change 20 = .ok (.iconst (-1), 1) := by decide +kernel
theorem dX10_change_21 : decode cX10_change 21 = .ok (.ireturn, 1) := by decide +kernel
theorem dX10_change_22 : decode cX10_change 22 = .ok (.aload_n 0, 1) := by decide +kernel
theorem dX10_change_23 : decode cX10_change 23 = .ok (.getfield 59, 3) := by decide +kernel
theorem dX10_change_26 : decode cX10_change 26 = .ok (.aload_n 0, 1) := by decide +kernel
theorem dX10_change_27 : decode cX10_change 27 = .ok (.getfield 28, 3) := by decide +kernel
theorem dX10_change_30 : decode cX10_change 30 = .ok (.getfield 162, 3) := by decide +kernel
theorem dX10_change_33 : decode cX10_change 33 = .ok (.aload_n 0, 1) := by decide +kernel
theorem dX10_change_34 : decode cX10_change 34 = .ok (.getfield 28, 3) := by decide +kernel
theorem dX10_change_37 : decode cX10_change 37 = .ok (.getfield 38, 3) := by decide +kernel
theorem dX10_change_40 : decode cX10_change 40 = .ok (.invokevirtual 175, 3) := by decide +kernel
theorem dX10_change_43 : decode cX10_change 43 = .ok (.aload_n 0, 1) := by decide +kernel
theorem dX10_change_44 : decode cX10_change 44 = .ok (.getfield 28, 3) := by decide +kernel
theorem dX10_change_47 : decode cX10_change 47 = .ok (.getfield 162, 3) := by decide +kernel
theorem dX10_change_50 : decode cX10_change 50 = .ok (.aload_n 0, 1) := by decide +kernel
theorem dX10_change_51 : decode cX10_change 51 = .ok (.getfield 28, 3) := by decide +kernel
theorem dX10_change_54 : decode cX10_change 54 = .ok (.getfield 38, 3) := by decide +kernel
theorem dX10_change_57 : decode cX10_change 57 = .ok (.aload_n 0, 1) := by decide +kernel
theorem dX10_change_58 : decode cX10_change 58 = .ok (.getfield 59, 3) := by decide +kernel
theorem dX10_change_61 : decode cX10_change 61 = .ok (.getfield 179, 3) := by decide +kernel
theorem dX10_change_64 : decode cX10_change 64 = .ok (.invokevirtual 182, 3) := by decide +kernel
theorem dX10_change_67 : decode cX10_change 67 = .ok (.aload_n 0, 1) := by decide +kernel
theorem dX10_change_68 : decode cX10_change 68 = .ok (.getfield 28, 3) := by decide +kernel
theorem dX10_change_71 : decode cX10_change 71 = .ok (.getfield 38, 3) := by decide +kernel
theorem dX10_change_74 : decode cX10_change 74 = .ok (.getfield 98, 3) := by decide +kernel
theorem dX10_change_77 : decode cX10_change 77 = .ok (.aload_n 0, 1) := by decide +kernel
theorem dX10_change_78 : decode cX10_change 78 = .ok (.getfield 59, 3) := by decide +kernel
theorem dX10_change_81 : decode cX10_change 81 = .ok (.getfield 186, 3) := by decide +kernel
theorem dX10_change_84 : decode cX10_change 84 = .ok (.isub, 1) := by decide +kernel
theorem dX10_change_85 : decode cX10_change 85 = .ok (.ireturn, 1) := by decide +kernel
theorem dX10_turn_0 : decode cX10_turn 0 = .ok (.aload_n 0, 1) := by decide +kernel
theorem dX10_turn_1 : decode cX10_turn 1 = .ok (.getfield 28, 3) := by decide +kernel
theorem dX10_turn_4 : decode cX10_turn 4 = .ok (.getfield 162, 3) := by decide +kernel
theorem dX10_turn_7 : decode cX10_turn 7 = .ok (.getfield 189, 3) := by decide +kernel
theorem dX10_turn_10 : decode cX10_turn 10 = .ok (.ireturn, 1) := by decide +kernel
theorem dX10_pin_0 : decode cX10_pin 0 = .ok (.iload_n 1, 1) := by decide +kernel
theorem dX10_pin_1 : decode cX10_pin 1 = .ok (.ifCond .lt 24, 3) := by decide +kernel
theorem dX10_pin_4 : decode cX10_pin 4 = .ok (.iload_n 1, 1) := by decide +kernel
theorem dX10_pin_5 : decode cX10_pin 5 = .ok (.aload_n 0, 1) := by decide +kernel
theorem dX10_pin_6 : decode cX10_pin 6 = .ok (.getfield 28, 3) := by decide +kernel
theorem dX10_pin_9 : decode cX10_pin 9 = .ok (.getfield 162, 3) := by decide +kernel
theorem dX10_pin_12 : decode cX10_pin 12 = .ok (.getfield 192, 3) := by decide +kernel
theorem dX10_pin_15 : decode cX10_pin 15 = .ok (.if_icmp .ge 10, 3) := by decide +kernel
theorem dX10_pin_18 : decode cX10_pin 18 = .ok (.iload_n 2, 1) := by decide +kernel
theorem dX10_pin_19 : decode cX10_pin 19 = .ok (.invokestatic 139, 3) := by decide +kernel
theorem dX10_pin_22 : decode cX10_pin 22 = .ok (.ifCond .ne 5, 3) := by decide +kernel
theorem dX10_pin_25 : decode cX10_pin 25 = .ok (.iconst (-1), 1) := by decide +kernel
theorem dX10_pin_26 : decode cX10_pin 26 = .ok (.ireturn, 1) := by decide +kernel
theorem dX10_pin_27 : decode cX10_pin 27 = .ok (.aload_n 0, 1) := by decide +kernel
theorem dX10_pin_28 : decode cX10_pin 28 = .ok (.getfield 28, 3) := by decide +kernel
theorem dX10_pin_31 : decode cX10_pin 31 = .ok (.getfield 162, 3) := by decide +kernel
theorem dX10_pin_34 : decode cX10_pin 34 = .ok (.iload_n 1, 1) := by decide +kernel
theorem dX10_pin_35 : decode cX10_pin 35 = .ok (.iload_n 2, 1) := by decide +kernel
theorem dX10_pin_36 : decode cX10_pin 36 = .ok (.invokevirtual 195, 3) := by decide +kernel
theorem dX10_pin_39 : decode cX10_pin 39 = .ok (.ifCond .eq 7, 3) := by decide +kernel
theorem dX10_pin_42 : decode cX10_pin 42 = .ok (.iconst 1, 1) := by decide +kernel
theorem dX10_pin_43 : decode cX10_pin 43 = .ok (.goto 4, 3) := by decide +kernel
theorem dX10_pin_46 : decode cX10_pin 46 = .ok (.iconst 0, 1) := by decide +kernel
theorem dX10_pin_47 : decode cX10_pin 47 = .ok (.ireturn, 1) := by decide +kernel
theorem dX10_pins_0 : decode cX10_pins 0 = .ok (.aload_n 0, 1) := by decide +kernel
theorem dX10_pins_1 : decode cX10_pins 1 = .ok (.getfield 28, 3) := by decide +kernel
theorem dX10_pins_4 : decode cX10_pins 4 = .ok (.getfield 162, 3) := by decide +kernel
theorem dX10_pins_7 : decode cX10_pins 7 = .ok (.getfield 199, 3) := by decide +kernel
theorem dX10_pins_10 : decode cX10_pins 10 = .ok (.ireturn, 1) := by decide +kernel
theorem dX10_play_0 : decode cX10_play 0 = .ok (.iload_n 1, 1) := by decide +kernel
theorem dX10_play_1 : decode cX10_play 1 = .ok (.lookupswitch 67 #[(0, 27), (1, 49)], 27) := by decide +kernel
theorem dX10_play_28 : decode cX10_play 28 = .ok (.aload_n 0, 1) := by decide +kernel
theorem dX10_play_29 : decode cX10_play 29 = .ok (.getfield 28, 3) := by decide +kernel
theorem dX10_play_32 : decode cX10_play 32 = .ok (.getfield 200, 3) := by decide +kernel
theorem dX10_play_35 : decode cX10_play 35 = .ok (.aload_n 0, 1) := by decide +kernel
theorem dX10_play_36 : decode cX10_play 36 = .ok (.getfield 28, 3) := by decide +kernel
theorem dX10_play_39 : decode cX10_play 39 = .ok (.getfield 38, 3) := by decide +kernel
theorem dX10_play_42 : decode cX10_play 42 = .ok (.aload_n 0, 1) := by decide +kernel
theorem dX10_play_43 : decode cX10_play 43 = .ok (.invokevirtual 113, 3) := by decide +kernel
theorem dX10_play_46 : decode cX10_play 46 = .ok (.invokevirtual 204, 3) := by decide +kernel
theorem dX10_play_49 : decode cX10_play 49 = .ok (.ireturn, 1) := by decide +kernel
theorem dX10_play_50 : decode cX10_play 50 = .ok (.aload_n 0, 1) := by decide +kernel
theorem dX10_play_51 : decode cX10_play 51 = .ok (.getfield 28, 3) := by decide +kernel
theorem dX10_play_54 : decode cX10_play 54 = .ok (.getfield 200, 3) := by decide +kernel
theorem dX10_play_57 : decode cX10_play 57 = .ok (.aload_n 0, 1) := by decide +kernel
theorem dX10_play_58 : decode cX10_play 58 = .ok (.getfield 28, 3) := by decide +kernel
theorem dX10_play_61 : decode cX10_play 61 = .ok (.getfield 162, 3) := by decide +kernel
theorem dX10_play_64 : decode cX10_play 64 = .ok (.invokevirtual 210, 3) := by decide +kernel
theorem dX10_play_67 : decode cX10_play 67 = .ok (.ireturn, 1) := by decide +kernel
theorem dX10_play_68 : decode cX10_play 68 = .ok (.iconst (-1), 1) := by decide +kernel
theorem dX10_play_69 : decode cX10_play 69 = .ok (.ireturn, 1) := by decide +kernel
theorem dX10_strikes_0 : decode cX10_strikes 0 = .ok (.iload_n 1, 1) := by decide +kernel
theorem dX10_strikes_1 : decode cX10_strikes 1 = .ok (.invokestatic 139, 3) := by decide +kernel
theorem dX10_strikes_4 : decode cX10_strikes 4 = .ok (.ifCond .ne 7, 3) := by decide +kernel
theorem dX10_strikes_7 : decode cX10_strikes 7 = .ok (.ldc2_w 214, 3) := by decide +kernel
theorem dX10_strikes_10 : decode cX10_strikes 10 = .ok (.lreturn, 1) := by decide +kernel
theorem dX10_strikes_11 : decode cX10_strikes 11 = .ok (.aload_n 0, 1) := by decide +kernel
theorem dX10_strikes_12 : decode cX10_strikes 12 = .ok (.getfield 28, 3) := by decide +kernel
theorem dX10_strikes_15 : decode cX10_strikes 15 = .ok (.getfield 200, 3) := by decide +kernel
theorem dX10_strikes_18 : decode cX10_strikes 18 = .ok (.getfield 216, 3) := by decide +kernel
theorem dX10_strikes_21 : decode cX10_strikes 21 = .ok (.iload_n 1, 1) := by decide +kernel
theorem dX10_strikes_22 : decode cX10_strikes 22 = .ok (.laload, 1) := by decide +kernel
theorem dX10_strikes_23 : decode cX10_strikes 23 = .ok (.lreturn, 1) := by decide +kernel
theorem dX10_mend_0 : decode cX10_mend 0 = .ok (.iload_n 1, 1) := by decide +kernel
theorem dX10_mend_1 : decode cX10_mend 1 = .ok (.invokestatic 139, 3) := by decide +kernel
theorem dX10_mend_4 : decode cX10_mend 4 = .ok (.ifCond .ne 7, 3) := by decide +kernel
theorem dX10_mend_7 : decode cX10_mend 7 = .ok (.ldc2_w 214, 3) := by decide +kernel
theorem dX10_mend_10 : decode cX10_mend 10 = .ok (.lreturn, 1) := by decide +kernel
theorem dX10_mend_11 : decode cX10_mend 11 = .ok (.aload_n 0, 1) := by decide +kernel
theorem dX10_mend_12 : decode cX10_mend 12 = .ok (.getfield 28, 3) := by decide +kernel
theorem dX10_mend_15 : decode cX10_mend 15 = .ok (.getfield 200, 3) := by decide +kernel
theorem dX10_mend_18 : decode cX10_mend 18 = .ok (.getfield 216, 3) := by decide +kernel
theorem dX10_mend_21 : decode cX10_mend 21 = .ok (.iload_n 1, 1) := by decide +kernel
theorem dX10_mend_22 : decode cX10_mend 22 = .ok (.laload, 1) := by decide +kernel
theorem dX10_mend_23 : decode cX10_mend 23 = .ok (.lstore_n 2, 1) := by decide +kernel
theorem dX10_mend_24 : decode cX10_mend 24 = .ok (.aload_n 0, 1) := by decide +kernel
theorem dX10_mend_25 : decode cX10_mend 25 = .ok (.getfield 28, 3) := by decide +kernel
theorem dX10_mend_28 : decode cX10_mend 28 = .ok (.getfield 200, 3) := by decide +kernel
theorem dX10_mend_31 : decode cX10_mend 31 = .ok (.getfield 216, 3) := by decide +kernel
theorem dX10_mend_34 : decode cX10_mend 34 = .ok (.iload_n 1, 1) := by decide +kernel
theorem dX10_mend_35 : decode cX10_mend 35 = .ok (.lconst 0, 1) := by decide +kernel
theorem dX10_mend_36 : decode cX10_mend 36 = .ok (.lastore, 1) := by decide +kernel
theorem dX10_mend_37 : decode cX10_mend 37 = .ok (.lload_n 2, 1) := by decide +kernel
theorem dX10_mend_38 : decode cX10_mend 38 = .ok (.lreturn, 1) := by decide +kernel
theorem dX10_worn_0 : decode cX10_worn 0 = .ok (.iload_n 1, 1) := by decide +kernel
theorem dX10_worn_1 : decode cX10_worn 1 = .ok (.iconst 1, 1) := by decide +kernel
theorem dX10_worn_2 : decode cX10_worn 2 = .ok (.if_icmp .ge 5, 3) := by decide +kernel
theorem dX10_worn_5 : decode cX10_worn 5 = .ok (.iconst (-1), 1) := by decide +kernel
theorem dX10_worn_6 : decode cX10_worn 6 = .ok (.ireturn, 1) := by decide +kernel
theorem dX10_worn_7 : decode cX10_worn 7 = .ok (.aload_n 0, 1) := by decide +kernel
theorem dX10_worn_8 : decode cX10_worn 8 = .ok (.getfield 28, 3) := by decide +kernel
theorem dX10_worn_11 : decode cX10_worn 11 = .ok (.getfield 200, 3) := by decide +kernel
theorem dX10_worn_14 : decode cX10_worn 14 = .ok (.iload_n 1, 1) := by decide +kernel
theorem dX10_worn_15 : decode cX10_worn 15 = .ok (.invokevirtual 220, 3) := by decide +kernel
theorem dX10_worn_18 : decode cX10_worn 18 = .ok (.ireturn, 1) := by decide +kernel
theorem dX10_image_0 : decode cX10_image 0 = .ok (.iload_n 1, 1) := by decide +kernel
theorem dX10_image_1 : decode cX10_image 1 = .ok (.ifCond .lt 8, 3) := by decide +kernel
theorem dX10_image_4 : decode cX10_image 4 = .ok (.iload_n 1, 1) := by decide +kernel
theorem dX10_image_5 : decode cX10_image 5 = .ok (.iconst 2, 1) := by decide +kernel
theorem dX10_image_6 : decode cX10_image 6 = .ok (.if_icmp .lt 5, 3) := by decide +kernel
theorem dX10_image_9 : decode cX10_image 9 = .ok (.iconst 0, 1) := by decide +kernel
theorem dX10_image_10 : decode cX10_image 10 = .ok (.ireturn, 1) := by decide +kernel
theorem dX10_image_11 : decode cX10_image 11 = .ok (.aload_n 0, 1) := by decide +kernel
theorem dX10_image_12 : decode cX10_image 12 = .ok (.getfield 32, 3) := by decide +kernel
theorem dX10_image_15 : decode cX10_image 15 = .ok (.iload_n 1, 1) := by decide +kernel
theorem dX10_image_16 : decode cX10_image 16 = .ok (.aaload, 1) := by decide +kernel
theorem dX10_image_17 : decode cX10_image 17 = .ok (.astore_n 2, 1) := by decide +kernel
theorem dX10_image_18 : decode cX10_image 18 = .ok (.aload_n 2, 1) := by decide +kernel
theorem dX10_image_19 : decode cX10_image 19 = .ok (.ifnonnull 18, 3) := by decide +kernel
theorem dX10_image_22 : decode cX10_image 22 = .ok (.new 25, 3) := by decide +kernel
theorem dX10_image_25 : decode cX10_image 25 = .ok (.dup, 1) := by decide +kernel
theorem dX10_image_26 : decode cX10_image 26 = .ok (.invokespecial 27, 3) := by decide +kernel
theorem dX10_image_29 : decode cX10_image 29 = .ok (.astore_n 2, 1) := by decide +kernel
theorem dX10_image_30 : decode cX10_image 30 = .ok (.aload_n 0, 1) := by decide +kernel
theorem dX10_image_31 : decode cX10_image 31 = .ok (.getfield 32, 3) := by decide +kernel
theorem dX10_image_34 : decode cX10_image 34 = .ok (.iload_n 1, 1) := by decide +kernel
theorem dX10_image_35 : decode cX10_image 35 = .ok (.aload_n 2, 1) := by decide +kernel
theorem dX10_image_36 : decode cX10_image 36 = .ok (.aastore, 1) := by decide +kernel
theorem dX10_image_37 : decode cX10_image 37 = .ok (.aload_n 2, 1) := by decide +kernel
theorem dX10_image_38 : decode cX10_image 38 = .ok (.aload_n 0, 1) := by decide +kernel
theorem dX10_image_39 : decode cX10_image 39 = .ok (.getfield 28, 3) := by decide +kernel
theorem dX10_image_42 : decode cX10_image 42 = .ok (.invokevirtual 224, 3) := by decide +kernel
theorem dX10_image_45 : decode cX10_image 45 = .ok (.iconst 1, 1) := by decide +kernel
theorem dX10_image_46 : decode cX10_image 46 = .ok (.ireturn, 1) := by decide +kernel
theorem dX10_back_0 : decode cX10_back 0 = .ok (.iload_n 1, 1) := by decide +kernel
theorem dX10_back_1 : decode cX10_back 1 = .ok (.ifCond .lt 8, 3) := by decide +kernel
theorem dX10_back_4 : decode cX10_back 4 = .ok (.iload_n 1, 1) := by decide +kernel
theorem dX10_back_5 : decode cX10_back 5 = .ok (.iconst 2, 1) := by decide +kernel
theorem dX10_back_6 : decode cX10_back 6 = .ok (.if_icmp .lt 5, 3) := by decide +kernel
theorem dX10_back_9 : decode cX10_back 9 = .ok (.iconst 0, 1) := by decide +kernel
theorem dX10_back_10 : decode cX10_back 10 = .ok (.ireturn, 1) := by decide +kernel
theorem dX10_back_11 : decode cX10_back 11 = .ok (.aload_n 0, 1) := by decide +kernel
theorem dX10_back_12 : decode cX10_back 12 = .ok (.getfield 32, 3) := by decide +kernel
theorem dX10_back_15 : decode cX10_back 15 = .ok (.iload_n 1, 1) := by decide +kernel
theorem dX10_back_16 : decode cX10_back 16 = .ok (.aaload, 1) := by decide +kernel
theorem dX10_back_17 : decode cX10_back 17 = .ok (.astore_n 2, 1) := by decide +kernel
theorem dX10_back_18 : decode cX10_back 18 = .ok (.aload_n 2, 1) := by decide +kernel
theorem dX10_back_19 : decode cX10_back 19 = .ok (.ifnonnull 5, 3) := by decide +kernel
theorem dX10_back_22 : decode cX10_back 22 = .ok (.iconst 0, 1) := by decide +kernel
theorem dX10_back_23 : decode cX10_back 23 = .ok (.ireturn, 1) := by decide +kernel
theorem dX10_back_24 : decode cX10_back 24 = .ok (.aload_n 0, 1) := by decide +kernel
theorem dX10_back_25 : decode cX10_back 25 = .ok (.getfield 28, 3) := by decide +kernel
theorem dX10_back_28 : decode cX10_back 28 = .ok (.aload_n 2, 1) := by decide +kernel
theorem dX10_back_29 : decode cX10_back 29 = .ok (.invokevirtual 224, 3) := by decide +kernel
theorem dX10_back_32 : decode cX10_back 32 = .ok (.aload_n 0, 1) := by decide +kernel
theorem dX10_back_33 : decode cX10_back 33 = .ok (.iconst 0, 1) := by decide +kernel
theorem dX10_back_34 : decode cX10_back 34 = .ok (.putfield 63, 3) := by decide +kernel
theorem dX10_back_37 : decode cX10_back 37 = .ok (.iconst 1, 1) := by decide +kernel
theorem dX10_back_38 : decode cX10_back 38 = .ok (.ireturn, 1) := by decide +kernel
theorem dX10_isBell_0 : decode cX10_isBell 0 = .ok (.iload_n 0, 1) := by decide +kernel
theorem dX10_isBell_1 : decode cX10_isBell 1 = .ok (.ifCond .lt 13, 3) := by decide +kernel
theorem dX10_isBell_4 : decode cX10_isBell 4 = .ok (.iload_n 0, 1) := by decide +kernel
theorem dX10_isBell_5 : decode cX10_isBell 5 = .ok (.bipush 24, 2) := by decide +kernel
theorem dX10_isBell_7 : decode cX10_isBell 7 = .ok (.if_icmp .ge 7, 3) := by decide +kernel
theorem dX10_isBell_10 : decode cX10_isBell 10 = .ok (.iconst 1, 1) := by decide +kernel
theorem dX10_isBell_11 : decode cX10_isBell 11 = .ok (.goto 4, 3) := by decide +kernel
theorem dX10_isBell_14 : decode cX10_isBell 14 = .ok (.iconst 0, 1) := by decide +kernel
theorem dX10_isBell_15 : decode cX10_isBell 15 = .ok (.ireturn, 1) := by decide +kernel
theorem dX10_theSetting_0 : decode cX10_theSetting 0 = .ok (.aload_n 0, 1) := by decide +kernel
theorem dX10_theSetting_1 : decode cX10_theSetting 1 = .ok (.getfield 63, 3) := by decide +kernel
theorem dX10_theSetting_4 : decode cX10_theSetting 4 = .ok (.ifCond .ne 29, 3) := by decide +kernel
theorem dX10_theSetting_7 : decode cX10_theSetting 7 = .ok (.aload_n 0, 1) := by decide +kernel
theorem dX10_theSetting_8 : decode cX10_theSetting 8 = .ok (.getfield 45, 3) := by decide +kernel
theorem dX10_theSetting_11 : decode cX10_theSetting 11 = .ok (.aload_n 0, 1) := by decide +kernel
theorem dX10_theSetting_12 : decode cX10_theSetting 12 = .ok (.getfield 28, 3) := by decide +kernel
theorem dX10_theSetting_15 : decode cX10_theSetting 15 = .ok (.getfield 120, 3) := by decide +kernel
theorem dX10_theSetting_18 : decode cX10_theSetting 18 = .ok (.aload_n 0, 1) := by decide +kernel
theorem dX10_theSetting_19 : decode cX10_theSetting 19 = .ok (.getfield 28, 3) := by decide +kernel
theorem dX10_theSetting_22 : decode cX10_theSetting 22 = .ok (.getfield 123, 3) := by decide +kernel
theorem dX10_theSetting_25 : decode cX10_theSetting 25 = .ok (.invokevirtual 227, 3) := by decide +kernel
theorem dX10_theSetting_28 : decode cX10_theSetting 28 = .ok (.aload_n 0, 1) := by decide +kernel
theorem dX10_theSetting_29 : decode cX10_theSetting 29 = .ok (.iconst 1, 1) := by decide +kernel
theorem dX10_theSetting_30 : decode cX10_theSetting 30 = .ok (.putfield 63, 3) := by decide +kernel
theorem dX10_theSetting_33 : decode cX10_theSetting 33 = .ok (.aload_n 0, 1) := by decide +kernel
theorem dX10_theSetting_34 : decode cX10_theSetting 34 = .ok (.getfield 45, 3) := by decide +kernel
theorem dX10_theSetting_37 : decode cX10_theSetting 37 = .ok (.areturn, 1) := by decide +kernel
theorem dX11_init_0 : decode cX11_init 0 = .ok (.aload_n 0, 1) := by decide +kernel
theorem dX11_init_1 : decode cX11_init 1 = .ok (.invokespecial 1, 3) := by decide +kernel
theorem dX11_init_4 : decode cX11_init 4 = .ok (.aload_n 0, 1) := by decide +kernel
theorem dX11_init_5 : decode cX11_init 5 = .ok (.sipush 6888, 3) := by decide +kernel
theorem dX11_init_8 : decode cX11_init 8 = .ok (.newarray .int, 2) := by decide +kernel
theorem dX11_init_10 : decode cX11_init 10 = .ok (.putfield 7, 3) := by decide +kernel
theorem dX11_init_13 : decode cX11_init 13 = .ok (.aload_n 0, 1) := by decide +kernel
theorem dX11_init_14 : decode cX11_init 14 = .ok (.bipush 72, 2) := by decide +kernel
theorem dX11_init_16 : decode cX11_init 16 = .ok (.newarray .long, 2) := by decide +kernel
theorem dX11_init_18 : decode cX11_init 18 = .ok (.putfield 13, 3) := by decide +kernel
theorem dX11_init_21 : decode cX11_init 21 = .ok (.aload_n 0, 1) := by decide +kernel
theorem dX11_init_22 : decode cX11_init 22 = .ok (.iconst 2, 1) := by decide +kernel
theorem dX11_init_23 : decode cX11_init 23 = .ok (.newarray .boolean, 2) := by decide +kernel
theorem dX11_init_25 : decode cX11_init 25 = .ok (.putfield 17, 3) := by decide +kernel
theorem dX11_init_28 : decode cX11_init 28 = .ok (.aload_n 0, 1) := by decide +kernel
theorem dX11_init_29 : decode cX11_init 29 = .ok (.sipush 1000, 3) := by decide +kernel
theorem dX11_init_32 : decode cX11_init 32 = .ok (.newarray .int, 2) := by decide +kernel
theorem dX11_init_34 : decode cX11_init 34 = .ok (.putfield 21, 3) := by decide +kernel
theorem dX11_init_37 : decode cX11_init 37 = .ok (.aload_n 0, 1) := by decide +kernel
theorem dX11_init_38 : decode cX11_init 38 = .ok (.sipush 200, 3) := by decide +kernel
theorem dX11_init_41 : decode cX11_init 41 = .ok (.newarray .int, 2) := by decide +kernel
theorem dX11_init_43 : decode cX11_init 43 = .ok (.putfield 24, 3) := by decide +kernel
theorem dX11_init_46 : decode cX11_init 46 = .ok (.aload_n 0, 1) := by decide +kernel
theorem dX11_init_47 : decode cX11_init 47 = .ok (.sipush 200, 3) := by decide +kernel
theorem dX11_init_50 : decode cX11_init 50 = .ok (.newarray .int, 2) := by decide +kernel
theorem dX11_init_52 : decode cX11_init 52 = .ok (.putfield 27, 3) := by decide +kernel
theorem dX11_init_55 : decode cX11_init 55 = .ok (.aload_n 0, 1) := by decide +kernel
theorem dX11_init_56 : decode cX11_init 56 = .ok (.sipush 1001, 3) := by decide +kernel
theorem dX11_init_59 : decode cX11_init 59 = .ok (.newarray .int, 2) := by decide +kernel
theorem dX11_init_61 : decode cX11_init 61 = .ok (.putfield 30, 3) := by decide +kernel
theorem dX11_init_64 : decode cX11_init 64 = .ok (.aload_n 0, 1) := by decide +kernel
theorem dX11_init_65 : decode cX11_init 65 = .ok (.iconst 4, 1) := by decide +kernel
theorem dX11_init_66 : decode cX11_init 66 = .ok (.newarray .int, 2) := by decide +kernel
theorem dX11_init_68 : decode cX11_init 68 = .ok (.putfield 33, 3) := by decide +kernel
theorem dX11_init_71 : decode cX11_init 71 = .ok (.aload_n 0, 1) := by decide +kernel
theorem dX11_init_72 : decode cX11_init 72 = .ok (.iconst 4, 1) := by decide +kernel
theorem dX11_init_73 : decode cX11_init 73 = .ok (.newarray .int, 2) := by decide +kernel
theorem dX11_init_75 : decode cX11_init 75 = .ok (.putfield 36, 3) := by decide +kernel
theorem dX11_init_78 : decode cX11_init 78 = .ok (.aload_n 0, 1) := by decide +kernel
theorem dX11_init_79 : decode cX11_init 79 = .ok (.iconst 4, 1) := by decide +kernel
theorem dX11_init_80 : decode cX11_init 80 = .ok (.newarray .int, 2) := by decide +kernel
theorem dX11_init_82 : decode cX11_init 82 = .ok (.putfield 39, 3) := by decide +kernel
theorem dX11_init_85 : decode cX11_init 85 = .ok (.aload_n 0, 1) := by decide +kernel
theorem dX11_init_86 : decode cX11_init 86 = .ok (.ldc 42, 2) := by decide +kernel
theorem dX11_init_88 : decode cX11_init 88 = .ok (.newarray .int, 2) := by decide +kernel
theorem dX11_init_90 : decode cX11_init 90 = .ok (.putfield 43, 3) := by decide +kernel
theorem dX11_init_93 : decode cX11_init 93 = .ok (.aload_n 0, 1) := by decide +kernel
theorem dX11_init_94 : decode cX11_init 94 = .ok (.bipush 100, 2) := by decide +kernel
theorem dX11_init_96 : decode cX11_init 96 = .ok (.newarray .int, 2) := by decide +kernel
theorem dX11_init_98 : decode cX11_init 98 = .ok (.putfield 46, 3) := by decide +kernel
theorem dX11_init_101 : decode cX11_init 101 = .ok (.aload_n 0, 1) := by decide +kernel
theorem dX11_init_102 : decode cX11_init 102 = .ok (.iconst 2, 1) := by decide +kernel
theorem dX11_init_103 : decode cX11_init 103 = .ok (.newarray .int, 2) := by decide +kernel
theorem dX11_init_105 : decode cX11_init 105 = .ok (.putfield 49, 3) := by decide +kernel
theorem dX11_init_108 : decode cX11_init 108 = .ok (.aload_n 0, 1) := by decide +kernel
theorem dX11_init_109 : decode cX11_init 109 = .ok (.getfield 7, 3) := by decide +kernel
theorem dX11_init_112 : decode cX11_init 112 = .ok (.sipush 202, 3) := by decide +kernel
theorem dX11_init_115 : decode cX11_init 115 = .ok (.iconst 4, 1) := by decide +kernel
theorem dX11_init_116 : decode cX11_init 116 = .ok (.iastore, 1) := by decide +kernel
theorem dX11_init_117 : decode cX11_init 117 = .ok (.aload_n 0, 1) := by decide +kernel
theorem dX11_init_118 : decode cX11_init 118 = .ok (.getfield 7, 3) := by decide +kernel
theorem dX11_init_121 : decode cX11_init 121 = .ok (.sipush 203, 3) := by decide +kernel
theorem dX11_init_124 : decode cX11_init 124 = .ok (.bipush 100, 2) := by decide +kernel
theorem dX11_init_126 : decode cX11_init 126 = .ok (.iastore, 1) := by decide +kernel
theorem dX11_init_127 : decode cX11_init 127 = .ok (.iconst 0, 1) := by decide +kernel
theorem dX11_init_128 : decode cX11_init 128 = .ok (.istore_n 1, 1) := by decide +kernel
theorem dX11_init_129 : decode cX11_init 129 = .ok (.iload_n 1, 1) := by decide +kernel
theorem dX11_init_130 : decode cX11_init 130 = .ok (.bipush 24, 2) := by decide +kernel
theorem dX11_init_132 : decode cX11_init 132 = .ok (.if_icmp .ge 21, 3) := by decide +kernel
theorem dX11_init_135 : decode cX11_init 135 = .ok (.aload_n 0, 1) := by decide +kernel
theorem dX11_init_136 : decode cX11_init 136 = .ok (.getfield 7, 3) := by decide +kernel
theorem dX11_init_139 : decode cX11_init 139 = .ok (.sipush 204, 3) := by decide +kernel
theorem dX11_init_142 : decode cX11_init 142 = .ok (.iload_n 1, 1) := by decide +kernel
theorem dX11_init_143 : decode cX11_init 143 = .ok (.iadd, 1) := by decide +kernel
theorem dX11_init_144 : decode cX11_init 144 = .ok (.bipush 8, 2) := by decide +kernel
theorem dX11_init_146 : decode cX11_init 146 = .ok (.iastore, 1) := by decide +kernel
theorem dX11_init_147 : decode cX11_init 147 = .ok (.iinc 1 1, 3) := by decide +kernel
theorem dX11_init_150 : decode cX11_init 150 = .ok (.goto (-21), 3) := by decide +kernel
theorem dX11_init_153 : decode cX11_init 153 = .ok (.aload_n 0, 1) := by decide +kernel
theorem dX11_init_154 : decode cX11_init 154 = .ok (.getfield 7, 3) := by decide +kernel
theorem dX11_init_157 : decode cX11_init 157 = .ok (.sipush 228, 3) := by decide +kernel
theorem dX11_init_160 : decode cX11_init 160 = .ok (.sipush 3142, 3) := by decide +kernel
theorem dX11_init_163 : decode cX11_init 163 = .ok (.iastore, 1) := by decide +kernel
theorem dX11_init_164 : decode cX11_init 164 = .ok (.aload_n 0, 1) := by decide +kernel
theorem dX11_init_165 : decode cX11_init 165 = .ok (.getfield 7, 3) := by decide +kernel
theorem dX11_init_168 : decode cX11_init 168 = .ok (.sipush 229, 3) := by decide +kernel
theorem dX11_init_171 : decode cX11_init 171 = .ok (.bipush 64, 2) := by decide +kernel
theorem dX11_init_173 : decode cX11_init 173 = .ok (.iastore, 1) := by decide +kernel
theorem dX11_init_174 : decode cX11_init 174 = .ok (.aload_n 0, 1) := by decide +kernel
theorem dX11_init_175 : decode cX11_init 175 = .ok (.getfield 7, 3) := by decide +kernel
theorem dX11_init_178 : decode cX11_init 178 = .ok (.sipush 230, 3) := by decide +kernel
theorem dX11_init_181 : decode cX11_init 181 = .ok (.iconst (-1), 1) := by decide +kernel
theorem dX11_init_182 : decode cX11_init 182 = .ok (.iastore, 1) := by decide +kernel
theorem dX11_init_183 : decode cX11_init 183 = .ok (.aload_n 0, 1) := by decide +kernel
theorem dX11_init_184 : decode cX11_init 184 = .ok (.getfield 7, 3) := by decide +kernel
theorem dX11_init_187 : decode cX11_init 187 = .ok (.sipush 232, 3) := by decide +kernel
theorem dX11_init_190 : decode cX11_init 190 = .ok (.iconst (-1), 1) := by decide +kernel
theorem dX11_init_191 : decode cX11_init 191 = .ok (.iastore, 1) := by decide +kernel
theorem dX11_init_192 : decode cX11_init 192 = .ok (.return_, 1) := by decide +kernel
theorem dX11_image_0 : decode cX11_image 0 = .ok (.iload_n 1, 1) := by decide +kernel
theorem dX11_image_1 : decode cX11_image 1 = .ok (.ifCond .lt 8, 3) := by decide +kernel
theorem dX11_image_4 : decode cX11_image 4 = .ok (.iload_n 1, 1) := by decide +kernel
theorem dX11_image_5 : decode cX11_image 5 = .ok (.iconst 1, 1) := by decide +kernel
theorem dX11_image_6 : decode cX11_image 6 = .ok (.if_icmp .le 5, 3) := by decide +kernel
theorem dX11_image_9 : decode cX11_image 9 = .ok (.iconst 0, 1) := by decide +kernel
theorem dX11_image_10 : decode cX11_image 10 = .ok (.ireturn, 1) := by decide +kernel
theorem dX11_image_11 : decode cX11_image 11 = .ok (.iconst 0, 1) := by decide +kernel
theorem dX11_image_12 : decode cX11_image 12 = .ok (.istore_n 2, 1) := by decide +kernel
theorem dX11_image_13 : decode cX11_image 13 = .ok (.iload_n 2, 1) := by decide +kernel
theorem dX11_image_14 : decode cX11_image 14 = .ok (.sipush 2296, 3) := by decide +kernel
theorem dX11_image_17 : decode cX11_image 17 = .ok (.if_icmp .ge 29, 3) := by decide +kernel
theorem dX11_image_20 : decode cX11_image 20 = .ok (.aload_n 0, 1) := by decide +kernel
theorem dX11_image_21 : decode cX11_image 21 = .ok (.getfield 7, 3) := by decide +kernel
theorem dX11_image_24 : decode cX11_image 24 = .ok (.sipush 2296, 3) := by decide +kernel
theorem dX11_image_27 : decode cX11_image 27 = .ok (.iload_n 1, 1) := by decide +kernel
theorem dX11_image_28 : decode cX11_image 28 = .ok (.iconst 1, 1) := by decide +kernel
