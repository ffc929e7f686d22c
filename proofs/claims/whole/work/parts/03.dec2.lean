theorem dX11_image_29 : decode cX11_image 29 = .ok (.iadd, 1) := by decide +kernel
theorem dX11_image_30 : decode cX11_image 30 = .ok (.imul, 1) := by decide +kernel
theorem dX11_image_31 : decode cX11_image 31 = .ok (.iload_n 2, 1) := by decide +kernel
theorem dX11_image_32 : decode cX11_image 32 = .ok (.iadd, 1) := by decide +kernel
theorem dX11_image_33 : decode cX11_image 33 = .ok (.aload_n 0, 1) := by decide +kernel
theorem dX11_image_34 : decode cX11_image 34 = .ok (.getfield 7, 3) := by decide +kernel
theorem dX11_image_37 : decode cX11_image 37 = .ok (.iload_n 2, 1) := by decide +kernel
theorem dX11_image_38 : decode cX11_image 38 = .ok (.iaload, 1) := by decide +kernel
theorem dX11_image_39 : decode cX11_image 39 = .ok (.iastore, 1) := by decide +kernel
theorem dX11_image_40 : decode cX11_image 40 = .ok (.iinc 2 1, 3) := by decide +kernel
theorem dX11_image_43 : decode cX11_image 43 = .ok (.goto (-30), 3) := by decide +kernel
theorem dX11_image_46 : decode cX11_image 46 = .ok (.iconst 0, 1) := by decide +kernel
theorem dX11_image_47 : decode cX11_image 47 = .ok (.istore_n 2, 1) := by decide +kernel
theorem dX11_image_48 : decode cX11_image 48 = .ok (.iload_n 2, 1) := by decide +kernel
theorem dX11_image_49 : decode cX11_image 49 = .ok (.bipush 24, 2) := by decide +kernel
theorem dX11_image_51 : decode cX11_image 51 = .ok (.if_icmp .ge 28, 3) := by decide +kernel
theorem dX11_image_54 : decode cX11_image 54 = .ok (.aload_n 0, 1) := by decide +kernel
theorem dX11_image_55 : decode cX11_image 55 = .ok (.getfield 13, 3) := by decide +kernel
theorem dX11_image_58 : decode cX11_image 58 = .ok (.bipush 24, 2) := by decide +kernel
theorem dX11_image_60 : decode cX11_image 60 = .ok (.iload_n 1, 1) := by decide +kernel
theorem dX11_image_61 : decode cX11_image 61 = .ok (.iconst 1, 1) := by decide +kernel
theorem dX11_image_62 : decode cX11_image 62 = .ok (.iadd, 1) := by decide +kernel
theorem dX11_image_63 : decode cX11_image 63 = .ok (.imul, 1) := by decide +kernel
theorem dX11_image_64 : decode cX11_image 64 = .ok (.iload_n 2, 1) := by decide +kernel
theorem dX11_image_65 : decode cX11_image 65 = .ok (.iadd, 1) := by decide +kernel
theorem dX11_image_66 : decode cX11_image 66 = .ok (.aload_n 0, 1) := by decide +kernel
theorem dX11_image_67 : decode cX11_image 67 = .ok (.getfield 13, 3) := by decide +kernel
theorem dX11_image_70 : decode cX11_image 70 = .ok (.iload_n 2, 1) := by decide +kernel
theorem dX11_image_71 : decode cX11_image 71 = .ok (.laload, 1) := by decide +kernel
theorem dX11_image_72 : decode cX11_image 72 = .ok (.lastore, 1) := by decide +kernel
theorem dX11_image_73 : decode cX11_image 73 = .ok (.iinc 2 1, 3) := by decide +kernel
theorem dX11_image_76 : decode cX11_image 76 = .ok (.goto (-28), 3) := by decide +kernel
theorem dX11_image_79 : decode cX11_image 79 = .ok (.aload_n 0, 1) := by decide +kernel
theorem dX11_image_80 : decode cX11_image 80 = .ok (.getfield 17, 3) := by decide +kernel
theorem dX11_image_83 : decode cX11_image 83 = .ok (.iload_n 1, 1) := by decide +kernel
theorem dX11_image_84 : decode cX11_image 84 = .ok (.iconst 1, 1) := by decide +kernel
theorem dX11_image_85 : decode cX11_image 85 = .ok (.bastore, 1) := by decide +kernel
theorem dX11_image_86 : decode cX11_image 86 = .ok (.iconst 1, 1) := by decide +kernel
theorem dX11_image_87 : decode cX11_image 87 = .ok (.ireturn, 1) := by decide +kernel
theorem dX11_back_0 : decode cX11_back 0 = .ok (.iload_n 1, 1) := by decide +kernel
theorem dX11_back_1 : decode cX11_back 1 = .ok (.ifCond .lt 17, 3) := by decide +kernel
theorem dX11_back_4 : decode cX11_back 4 = .ok (.iload_n 1, 1) := by decide +kernel
theorem dX11_back_5 : decode cX11_back 5 = .ok (.iconst 1, 1) := by decide +kernel
theorem dX11_back_6 : decode cX11_back 6 = .ok (.if_icmp .gt 12, 3) := by decide +kernel
theorem dX11_back_9 : decode cX11_back 9 = .ok (.aload_n 0, 1) := by decide +kernel
theorem dX11_back_10 : decode cX11_back 10 = .ok (.getfield 17, 3) := by decide +kernel
theorem dX11_back_13 : decode cX11_back 13 = .ok (.iload_n 1, 1) := by decide +kernel
theorem dX11_back_14 : decode cX11_back 14 = .ok (.baload, 1) := by decide +kernel
theorem dX11_back_15 : decode cX11_back 15 = .ok (.ifCond .ne 5, 3) := by decide +kernel
theorem dX11_back_18 : decode cX11_back 18 = .ok (.iconst 0, 1) := by decide +kernel
theorem dX11_back_19 : decode cX11_back 19 = .ok (.ireturn, 1) := by decide +kernel
theorem dX11_back_20 : decode cX11_back 20 = .ok (.iconst 0, 1) := by decide +kernel
theorem dX11_back_21 : decode cX11_back 21 = .ok (.istore_n 2, 1) := by decide +kernel
theorem dX11_back_22 : decode cX11_back 22 = .ok (.iload_n 2, 1) := by decide +kernel
theorem dX11_back_23 : decode cX11_back 23 = .ok (.sipush 2296, 3) := by decide +kernel
theorem dX11_back_26 : decode cX11_back 26 = .ok (.if_icmp .ge 29, 3) := by decide +kernel
theorem dX11_back_29 : decode cX11_back 29 = .ok (.aload_n 0, 1) := by decide +kernel
theorem dX11_back_30 : decode cX11_back 30 = .ok (.getfield 7, 3) := by decide +kernel
theorem dX11_back_33 : decode cX11_back 33 = .ok (.iload_n 2, 1) := by decide +kernel
theorem dX11_back_34 : decode cX11_back 34 = .ok (.aload_n 0, 1) := by decide +kernel
theorem dX11_back_35 : decode cX11_back 35 = .ok (.getfield 7, 3) := by decide +kernel
theorem dX11_back_38 : decode cX11_back 38 = .ok (.sipush 2296, 3) := by decide +kernel
theorem dX11_back_41 : decode cX11_back 41 = .ok (.iload_n 1, 1) := by decide +kernel
theorem dX11_back_42 : decode cX11_back 42 = .ok (.iconst 1, 1) := by decide +kernel
theorem dX11_back_43 : decode cX11_back 43 = .ok (.iadd, 1) := by decide +kernel
theorem dX11_back_44 : decode cX11_back 44 = .ok (.imul, 1) := by decide +kernel
theorem dX11_back_45 : decode cX11_back 45 = .ok (.iload_n 2, 1) := by decide +kernel
theorem dX11_back_46 : decode cX11_back 46 = .ok (.iadd, 1) := by decide +kernel
theorem dX11_back_47 : decode cX11_back 47 = .ok (.iaload, 1) := by decide +kernel
theorem dX11_back_48 : decode cX11_back 48 = .ok (.iastore, 1) := by decide +kernel
theorem dX11_back_49 : decode cX11_back 49 = .ok (.iinc 2 1, 3) := by decide +kernel
theorem dX11_back_52 : decode cX11_back 52 = .ok (.goto (-30), 3) := by decide +kernel
theorem dX11_back_55 : decode cX11_back 55 = .ok (.iconst 0, 1) := by decide +kernel
theorem dX11_back_56 : decode cX11_back 56 = .ok (.istore_n 2, 1) := by decide +kernel
theorem dX11_back_57 : decode cX11_back 57 = .ok (.iload_n 2, 1) := by decide +kernel
theorem dX11_back_58 : decode cX11_back 58 = .ok (.bipush 24, 2) := by decide +kernel
theorem dX11_back_60 : decode cX11_back 60 = .ok (.if_icmp .ge 28, 3) := by decide +kernel
theorem dX11_back_63 : decode cX11_back 63 = .ok (.aload_n 0, 1) := by decide +kernel
theorem dX11_back_64 : decode cX11_back 64 = .ok (.getfield 13, 3) := by decide +kernel
theorem dX11_back_67 : decode cX11_back 67 = .ok (.iload_n 2, 1) := by decide +kernel
theorem dX11_back_68 : decode cX11_back 68 = .ok (.aload_n 0, 1) := by decide +kernel
theorem dX11_back_69 : decode cX11_back 69 = .ok (.getfield 13, 3) := by decide +kernel
theorem dX11_back_72 : decode cX11_back 72 = .ok (.bipush 24, 2) := by decide +kernel
theorem dX11_back_74 : decode cX11_back 74 = .ok (.iload_n 1, 1) := by decide +kernel
theorem dX11_back_75 : decode cX11_back 75 = .ok (.iconst 1, 1) := by decide +kernel
theorem dX11_back_76 : decode cX11_back 76 = .ok (.iadd, 1) := by decide +kernel
theorem dX11_back_77 : decode cX11_back 77 = .ok (.imul, 1) := by decide +kernel
theorem dX11_back_78 : decode cX11_back 78 = .ok (.iload_n 2, 1) := by decide +kernel
theorem dX11_back_79 : decode cX11_back 79 = .ok (.iadd, 1) := by decide +kernel
theorem dX11_back_80 : decode cX11_back 80 = .ok (.laload, 1) := by decide +kernel
theorem dX11_back_81 : decode cX11_back 81 = .ok (.lastore, 1) := by decide +kernel
theorem dX11_back_82 : decode cX11_back 82 = .ok (.iinc 2 1, 3) := by decide +kernel
theorem dX11_back_85 : decode cX11_back 85 = .ok (.goto (-28), 3) := by decide +kernel
theorem dX11_back_88 : decode cX11_back 88 = .ok (.iconst 1, 1) := by decide +kernel
theorem dX11_back_89 : decode cX11_back 89 = .ok (.ireturn, 1) := by decide +kernel
theorem dX11_feed_0 : decode cX11_feed 0 = .ok (.aload_n 0, 1) := by decide +kernel
theorem dX11_feed_1 : decode cX11_feed 1 = .ok (.getfield 52, 3) := by decide +kernel
theorem dX11_feed_4 : decode cX11_feed 4 = .ok (.bipush 20, 2) := by decide +kernel
theorem dX11_feed_6 : decode cX11_feed 6 = .ok (.iadd, 1) := by decide +kernel
theorem dX11_feed_7 : decode cX11_feed 7 = .ok (.sipush 1000, 3) := by decide +kernel
theorem dX11_feed_10 : decode cX11_feed 10 = .ok (.if_icmp .le 5, 3) := by decide +kernel
theorem dX11_feed_13 : decode cX11_feed 13 = .ok (.iconst (-1), 1) := by decide +kernel
theorem dX11_feed_14 : decode cX11_feed 14 = .ok (.ireturn, 1) := by decide +kernel
theorem dX11_feed_15 : decode cX11_feed 15 = .ok (.iconst 0, 1) := by decide +kernel
theorem dX11_feed_16 : decode cX11_feed 16 = .ok (.istore 6, 2) := by decide +kernel
theorem dX11_feed_18 : decode cX11_feed 18 = .ok (.iload 6, 2) := by decide +kernel
theorem dX11_feed_20 : decode cX11_feed 20 = .ok (.bipush 20, 2) := by decide +kernel
theorem dX11_feed_22 : decode cX11_feed 22 = .ok (.if_icmp .ge 92, 3) := by decide +kernel
theorem dX11_feed_25 : decode cX11_feed 25 = .ok (.iload 6, 2) := by decide +kernel
theorem dX11_feed_27 : decode cX11_feed 27 = .ok (.iconst 4, 1) := by decide +kernel
theorem dX11_feed_28 : decode cX11_feed 28 = .ok (.if_icmp .ge 7, 3) := by decide +kernel
theorem dX11_feed_31 : decode cX11_feed 31 = .ok (.iload_n 1, 1) := by decide +kernel
theorem dX11_feed_32 : decode cX11_feed 32 = .ok (.goto 39, 3) := by decide +kernel
theorem dX11_feed_35 : decode cX11_feed 35 = .ok (.iload 6, 2) := by decide +kernel
theorem dX11_feed_37 : decode cX11_feed 37 = .ok (.bipush 8, 2) := by decide +kernel
theorem dX11_feed_39 : decode cX11_feed 39 = .ok (.if_icmp .ge 7, 3) := by decide +kernel
theorem dX11_feed_42 : decode cX11_feed 42 = .ok (.iload_n 2, 1) := by decide +kernel
theorem dX11_feed_43 : decode cX11_feed 43 = .ok (.goto 28, 3) := by decide +kernel
theorem dX11_feed_46 : decode cX11_feed 46 = .ok (.iload 6, 2) := by decide +kernel
theorem dX11_feed_48 : decode cX11_feed 48 = .ok (.bipush 12, 2) := by decide +kernel
theorem dX11_feed_50 : decode cX11_feed 50 = .ok (.if_icmp .ge 7, 3) := by decide +kernel
theorem dX11_feed_53 : decode cX11_feed 53 = .ok (.iload_n 3, 1) := by decide +kernel
theorem dX11_feed_54 : decode cX11_feed 54 = .ok (.goto 17, 3) := by decide +kernel
theorem dX11_feed_57 : decode cX11_feed 57 = .ok (.iload 6, 2) := by decide +kernel
theorem dX11_feed_59 : decode cX11_feed 59 = .ok (.bipush 16, 2) := by decide +kernel
theorem dX11_feed_61 : decode cX11_feed 61 = .ok (.if_icmp .ge 8, 3) := by decide +kernel
theorem dX11_feed_64 : decode cX11_feed 64 = .ok (.iload 4, 2) := by decide +kernel
theorem dX11_feed_66 : decode cX11_feed 66 = .ok (.goto 5, 3) := by decide +kernel
theorem dX11_feed_69 : decode cX11_feed 69 = .ok (.iload 5, 2) := by decide +kernel
theorem dX11_feed_71 : decode cX11_feed 71 = .ok (.istore 7, 2) := by decide +kernel
theorem dX11_feed_73 : decode cX11_feed 73 = .ok (.aload_n 0, 1) := by decide +kernel
theorem dX11_feed_74 : decode cX11_feed 74 = .ok (.getfield 21, 3) := by decide +kernel
theorem dX11_feed_77 : decode cX11_feed 77 = .ok (.aload_n 0, 1) := by decide +kernel
theorem dX11_feed_78 : decode cX11_feed 78 = .ok (.getfield 52, 3) := by decide +kernel
theorem dX11_feed_81 : decode cX11_feed 81 = .ok (.iload 7, 2) := by decide +kernel
theorem dX11_feed_83 : decode cX11_feed 83 = .ok (.bipush 8, 2) := by decide +kernel
theorem dX11_feed_85 : decode cX11_feed 85 = .ok (.iconst 3, 1) := by decide +kernel
theorem dX11_feed_86 : decode cX11_feed 86 = .ok (.iload 6, 2) := by decide +kernel
theorem dX11_feed_88 : decode cX11_feed 88 = .ok (.iconst 4, 1) := by decide +kernel
theorem dX11_feed_89 : decode cX11_feed 89 = .ok (.irem, 1) := by decide +kernel
theorem dX11_feed_90 : decode cX11_feed 90 = .ok (.isub, 1) := by decide +kernel
theorem dX11_feed_91 : decode cX11_feed 91 = .ok (.imul, 1) := by decide +kernel
theorem dX11_feed_92 : decode cX11_feed 92 = .ok (.ishr, 1) := by decide +kernel
theorem dX11_feed_93 : decode cX11_feed 93 = .ok (.sipush 255, 3) := by decide +kernel
theorem dX11_feed_96 : decode cX11_feed 96 = .ok (.iand, 1) := by decide +kernel
theorem dX11_feed_97 : decode cX11_feed 97 = .ok (.iastore, 1) := by decide +kernel
theorem dX11_feed_98 : decode cX11_feed 98 = .ok (.aload_n 0, 1) := by decide +kernel
theorem dX11_feed_99 : decode cX11_feed 99 = .ok (.dup, 1) := by decide +kernel
theorem dX11_feed_100 : decode cX11_feed 100 = .ok (.getfield 52, 3) := by decide +kernel
theorem dX11_feed_103 : decode cX11_feed 103 = .ok (.iconst 1, 1) := by decide +kernel
theorem dX11_feed_104 : decode cX11_feed 104 = .ok (.iadd, 1) := by decide +kernel
theorem dX11_feed_105 : decode cX11_feed 105 = .ok (.putfield 52, 3) := by decide +kernel
theorem dX11_feed_108 : decode cX11_feed 108 = .ok (.iinc 6 1, 3) := by decide +kernel
theorem dX11_feed_111 : decode cX11_feed 111 = .ok (.goto (-93), 3) := by decide +kernel
theorem dX11_feed_114 : decode cX11_feed 114 = .ok (.aload_n 0, 1) := by decide +kernel
theorem dX11_feed_115 : decode cX11_feed 115 = .ok (.getfield 52, 3) := by decide +kernel
theorem dX11_feed_118 : decode cX11_feed 118 = .ok (.ireturn, 1) := by decide +kernel
theorem dX11_end_0 : decode cX11_end 0 = .ok (.iload_n 1, 1) := by decide +kernel
theorem dX11_end_1 : decode cX11_end 1 = .ok (.ifCond .lt 11, 3) := by decide +kernel
theorem dX11_end_4 : decode cX11_end 4 = .ok (.iload_n 1, 1) := by decide +kernel
theorem dX11_end_5 : decode cX11_end 5 = .ok (.aload_n 0, 1) := by decide +kernel
theorem dX11_end_6 : decode cX11_end 6 = .ok (.getfield 52, 3) := by decide +kernel
theorem dX11_end_9 : decode cX11_end 9 = .ok (.if_icmp .le 5, 3) := by decide +kernel
theorem dX11_end_12 : decode cX11_end 12 = .ok (.iconst 0, 1) := by decide +kernel
theorem dX11_end_13 : decode cX11_end 13 = .ok (.ireturn, 1) := by decide +kernel
theorem dX11_end_14 : decode cX11_end 14 = .ok (.aload_n 0, 1) := by decide +kernel
theorem dX11_end_15 : decode cX11_end 15 = .ok (.iload_n 1, 1) := by decide +kernel
theorem dX11_end_16 : decode cX11_end 16 = .ok (.putfield 52, 3) := by decide +kernel
theorem dX11_end_19 : decode cX11_end 19 = .ok (.iconst 1, 1) := by decide +kernel
theorem dX11_end_20 : decode cX11_end 20 = .ok (.ireturn, 1) := by decide +kernel
theorem dX11_fail_0 : decode cX11_fail 0 = .ok (.aload_n 0, 1) := by decide +kernel
theorem dX11_fail_1 : decode cX11_fail 1 = .ok (.getfield 56, 3) := by decide +kernel
theorem dX11_fail_4 : decode cX11_fail 4 = .ok (.ifCond .eq 4, 3) := by decide +kernel
theorem dX11_fail_7 : decode cX11_fail 7 = .ok (.return_, 1) := by decide +kernel
theorem dX11_fail_8 : decode cX11_fail 8 = .ok (.aload_n 0, 1) := by decide +kernel
theorem dX11_fail_9 : decode cX11_fail 9 = .ok (.iload_n 1, 1) := by decide +kernel
theorem dX11_fail_10 : decode cX11_fail 10 = .ok (.putfield 56, 3) := by decide +kernel
theorem dX11_fail_13 : decode cX11_fail 13 = .ok (.aload_n 0, 1) := by decide +kernel
theorem dX11_fail_14 : decode cX11_fail 14 = .ok (.iload_n 2, 1) := by decide +kernel
theorem dX11_fail_15 : decode cX11_fail 15 = .ok (.putfield 59, 3) := by decide +kernel
theorem dX11_fail_18 : decode cX11_fail 18 = .ok (.return_, 1) := by decide +kernel
theorem dX11_next_0 : decode cX11_next 0 = .ok (.aload_n 0, 1) := by decide +kernel
theorem dX11_next_1 : decode cX11_next 1 = .ok (.getfield 62, 3) := by decide +kernel
theorem dX11_next_4 : decode cX11_next 4 = .ok (.aload_n 0, 1) := by decide +kernel
theorem dX11_next_5 : decode cX11_next 5 = .ok (.getfield 65, 3) := by decide +kernel
theorem dX11_next_8 : decode cX11_next 8 = .ok (.if_icmp .ge 44, 3) := by decide +kernel
theorem dX11_next_11 : decode cX11_next 11 = .ok (.aload_n 0, 1) := by decide +kernel
theorem dX11_next_12 : decode cX11_next 12 = .ok (.getfield 21, 3) := by decide +kernel
theorem dX11_next_15 : decode cX11_next 15 = .ok (.aload_n 0, 1) := by decide +kernel
theorem dX11_next_16 : decode cX11_next 16 = .ok (.getfield 62, 3) := by decide +kernel
theorem dX11_next_19 : decode cX11_next 19 = .ok (.iaload, 1) := by decide +kernel
theorem dX11_next_20 : decode cX11_next 20 = .ok (.bipush 10, 2) := by decide +kernel
theorem dX11_next_22 : decode cX11_next 22 = .ok (.if_icmp .eq 17, 3) := by decide +kernel
theorem dX11_next_25 : decode cX11_next 25 = .ok (.aload_n 0, 1) := by decide +kernel
theorem dX11_next_26 : decode cX11_next 26 = .ok (.getfield 21, 3) := by decide +kernel
theorem dX11_next_29 : decode cX11_next 29 = .ok (.aload_n 0, 1) := by decide +kernel
theorem dX11_next_30 : decode cX11_next 30 = .ok (.getfield 62, 3) := by decide +kernel
theorem dX11_next_33 : decode cX11_next 33 = .ok (.iaload, 1) := by decide +kernel
theorem dX11_next_34 : decode cX11_next 34 = .ok (.bipush 32, 2) := by decide +kernel
theorem dX11_next_36 : decode cX11_next 36 = .ok (.if_icmp .ne 16, 3) := by decide +kernel
theorem dX11_next_39 : decode cX11_next 39 = .ok (.aload_n 0, 1) := by decide +kernel
theorem dX11_next_40 : decode cX11_next 40 = .ok (.dup, 1) := by decide +kernel
theorem dX11_next_41 : decode cX11_next 41 = .ok (.getfield 62, 3) := by decide +kernel
theorem dX11_next_44 : decode cX11_next 44 = .ok (.iconst 1, 1) := by decide +kernel
theorem dX11_next_45 : decode cX11_next 45 = .ok (.iadd, 1) := by decide +kernel
theorem dX11_next_46 : decode cX11_next 46 = .ok (.putfield 62, 3) := by decide +kernel
theorem dX11_next_49 : decode cX11_next 49 = .ok (.goto (-49), 3) := by decide +kernel
theorem dX11_next_52 : decode cX11_next 52 = .ok (.aload_n 0, 1) := by decide +kernel
theorem dX11_next_53 : decode cX11_next 53 = .ok (.getfield 62, 3) := by decide +kernel
theorem dX11_next_56 : decode cX11_next 56 = .ok (.aload_n 0, 1) := by decide +kernel
theorem dX11_next_57 : decode cX11_next 57 = .ok (.getfield 65, 3) := by decide +kernel
theorem dX11_next_60 : decode cX11_next 60 = .ok (.if_icmp .ge 15, 3) := by decide +kernel
theorem dX11_next_63 : decode cX11_next 63 = .ok (.aload_n 0, 1) := by decide +kernel
theorem dX11_next_64 : decode cX11_next 64 = .ok (.getfield 21, 3) := by decide +kernel
theorem dX11_next_67 : decode cX11_next 67 = .ok (.aload_n 0, 1) := by decide +kernel
theorem dX11_next_68 : decode cX11_next 68 = .ok (.getfield 62, 3) := by decide +kernel
theorem dX11_next_71 : decode cX11_next 71 = .ok (.iaload, 1) := by decide +kernel
theorem dX11_next_72 : decode cX11_next 72 = .ok (.goto 4, 3) := by decide +kernel
theorem dX11_next_75 : decode cX11_next 75 = .ok (.iconst (-1), 1) := by decide +kernel
theorem dX11_next_76 : decode cX11_next 76 = .ok (.ireturn, 1) := by decide +kernel
theorem dX11_sign_0 : decode cX11_sign 0 = .ok (.aload_n 0, 1) := by decide +kernel
theorem dX11_sign_1 : decode cX11_sign 1 = .ok (.invokevirtual 68, 3) := by decide +kernel
theorem dX11_sign_4 : decode cX11_sign 4 = .ok (.iload_n 1, 1) := by decide +kernel
theorem dX11_sign_5 : decode cX11_sign 5 = .ok (.if_icmp .ne 16, 3) := by decide +kernel
theorem dX11_sign_8 : decode cX11_sign 8 = .ok (.aload_n 0, 1) := by decide +kernel
theorem dX11_sign_9 : decode cX11_sign 9 = .ok (.dup, 1) := by decide +kernel
theorem dX11_sign_10 : decode cX11_sign 10 = .ok (.getfield 62, 3) := by decide +kernel
theorem dX11_sign_13 : decode cX11_sign 13 = .ok (.iconst 1, 1) := by decide +kernel
theorem dX11_sign_14 : decode cX11_sign 14 = .ok (.iadd, 1) := by decide +kernel
theorem dX11_sign_15 : decode cX11_sign 15 = .ok (.putfield 62, 3) := by decide +kernel
theorem dX11_sign_18 : decode cX11_sign 18 = .ok (.goto 12, 3) := by decide +kernel
theorem dX11_sign_21 : decode cX11_sign 21 = .ok (.aload_n 0, 1) := by decide +kernel
theorem dX11_sign_22 : decode cX11_sign 22 = .ok (.iconst 1, 1) := by decide +kernel
theorem dX11_sign_23 : decode cX11_sign 23 = .ok (.aload_n 0, 1) := by decide +kernel
theorem dX11_sign_24 : decode cX11_sign 24 = .ok (.getfield 62, 3) := by decide +kernel
theorem dX11_sign_27 : decode cX11_sign 27 = .ok (.invokevirtual 72, 3) := by decide +kernel
theorem dX11_sign_30 : decode cX11_sign 30 = .ok (.return_, 1) := by decide +kernel
theorem dX11_isDigit_0 : decode cX11_isDigit 0 = .ok (.iload_n 0, 1) := by decide +kernel
theorem dX11_isDigit_1 : decode cX11_isDigit 1 = .ok (.bipush 48, 2) := by decide +kernel
theorem dX11_isDigit_3 : decode cX11_isDigit 3 = .ok (.if_icmp .lt 13, 3) := by decide +kernel
theorem dX11_isDigit_6 : decode cX11_isDigit 6 = .ok (.iload_n 0, 1) := by decide +kernel
theorem dX11_isDigit_7 : decode cX11_isDigit 7 = .ok (.bipush 57, 2) := by decide +kernel
theorem dX11_isDigit_9 : decode cX11_isDigit 9 = .ok (.if_icmp .gt 7, 3) := by decide +kernel
theorem dX11_isDigit_12 : decode cX11_isDigit 12 = .ok (.iconst 1, 1) := by decide +kernel
theorem dX11_isDigit_13 : decode cX11_isDigit 13 = .ok (.goto 4, 3) := by decide +kernel
theorem dX11_isDigit_16 : decode cX11_isDigit 16 = .ok (.iconst 0, 1) := by decide +kernel
theorem dX11_isDigit_17 : decode cX11_isDigit 17 = .ok (.ireturn, 1) := by decide +kernel
theorem dX11_number_0 : decode cX11_number 0 = .ok (.aload_n 0, 1) := by decide +kernel
theorem dX11_number_1 : decode cX11_number 1 = .ok (.invokevirtual 68, 3) := by decide +kernel
theorem dX11_number_4 : decode cX11_number 4 = .ok (.pop, 1) := by decide +kernel
theorem dX11_number_5 : decode cX11_number 5 = .ok (.aload_n 0, 1) := by decide +kernel
theorem dX11_number_6 : decode cX11_number 6 = .ok (.aload_n 0, 1) := by decide +kernel
theorem dX11_number_7 : decode cX11_number 7 = .ok (.getfield 62, 3) := by decide +kernel
theorem dX11_number_10 : decode cX11_number 10 = .ok (.putfield 76, 3) := by decide +kernel
theorem dX11_number_13 : decode cX11_number 13 = .ok (.iconst 0, 1) := by decide +kernel
theorem dX11_number_14 : decode cX11_number 14 = .ok (.istore_n 3, 1) := by decide +kernel
theorem dX11_number_15 : decode cX11_number 15 = .ok (.aload_n 0, 1) := by decide +kernel
theorem dX11_number_16 : decode cX11_number 16 = .ok (.getfield 62, 3) := by decide +kernel
theorem dX11_number_19 : decode cX11_number 19 = .ok (.aload_n 0, 1) := by decide +kernel
theorem dX11_number_20 : decode cX11_number 20 = .ok (.getfield 65, 3) := by decide +kernel
theorem dX11_number_23 : decode cX11_number 23 = .ok (.if_icmp .ge 73, 3) := by decide +kernel
theorem dX11_number_26 : decode cX11_number 26 = .ok (.aload_n 0, 1) := by decide +kernel
theorem dX11_number_27 : decode cX11_number 27 = .ok (.getfield 21, 3) := by decide +kernel
theorem dX11_number_30 : decode cX11_number 30 = .ok (.aload_n 0, 1) := by decide +kernel
theorem dX11_number_31 : decode cX11_number 31 = .ok (.getfield 62, 3) := by decide +kernel
theorem dX11_number_34 : decode cX11_number 34 = .ok (.iaload, 1) := by decide +kernel
theorem dX11_number_35 : decode cX11_number 35 = .ok (.invokestatic 79, 3) := by decide +kernel
theorem dX11_number_38 : decode cX11_number 38 = .ok (.ifCond .eq 58, 3) := by decide +kernel
theorem dX11_number_41 : decode cX11_number 41 = .ok (.aload_n 0, 1) := by decide +kernel
theorem dX11_number_42 : decode cX11_number 42 = .ok (.getfield 62, 3) := by decide +kernel
theorem dX11_number_45 : decode cX11_number 45 = .ok (.aload_n 0, 1) := by decide +kernel
theorem dX11_number_46 : decode cX11_number 46 = .ok (.getfield 76, 3) := by decide +kernel
theorem dX11_number_49 : decode cX11_number 49 = .ok (.isub, 1) := by decide +kernel
theorem dX11_number_50 : decode cX11_number 50 = .ok (.iconst 3, 1) := by decide +kernel
theorem dX11_number_51 : decode cX11_number 51 = .ok (.if_icmp .ne 14, 3) := by decide +kernel
theorem dX11_number_54 : decode cX11_number 54 = .ok (.aload_n 0, 1) := by decide +kernel
theorem dX11_number_55 : decode cX11_number 55 = .ok (.iconst 1, 1) := by decide +kernel
theorem dX11_number_56 : decode cX11_number 56 = .ok (.aload_n 0, 1) := by decide +kernel
theorem dX11_number_57 : decode cX11_number 57 = .ok (.getfield 62, 3) := by decide +kernel
theorem dX11_number_60 : decode cX11_number 60 = .ok (.invokevirtual 72, 3) := by decide +kernel
theorem dX11_number_63 : decode cX11_number 63 = .ok (.iconst 0, 1) := by decide +kernel
theorem dX11_number_64 : decode cX11_number 64 = .ok (.ireturn, 1) := by decide +kernel
theorem dX11_number_65 : decode cX11_number 65 = .ok (.bipush 10, 2) := by decide +kernel
theorem dX11_number_67 : decode cX11_number 67 = .ok (.iload_n 3, 1) := by decide +kernel
theorem dX11_number_68 : decode cX11_number 68 = .ok (.imul, 1) := by decide +kernel
theorem dX11_number_69 : decode cX11_number 69 = .ok (.aload_n 0, 1) := by decide +kernel
theorem dX11_number_70 : decode cX11_number 70 = .ok (.getfield 21, 3) := by decide +kernel
theorem dX11_number_73 : decode cX11_number 73 = .ok (.aload_n 0, 1) := by decide +kernel
theorem dX11_number_74 : decode cX11_number 74 = .ok (.getfield 62, 3) := by decide +kernel
theorem dX11_number_77 : decode cX11_number 77 = .ok (.iaload, 1) := by decide +kernel
theorem dX11_number_78 : decode cX11_number 78 = .ok (.iadd, 1) := by decide +kernel
theorem dX11_number_79 : decode cX11_number 79 = .ok (.bipush 48, 2) := by decide +kernel
theorem dX11_number_81 : decode cX11_number 81 = .ok (.isub, 1) := by decide +kernel
theorem dX11_number_82 : decode cX11_number 82 = .ok (.istore_n 3, 1) := by decide +kernel
theorem dX11_number_83 : decode cX11_number 83 = .ok (.aload_n 0, 1) := by decide +kernel
theorem dX11_number_84 : decode cX11_number 84 = .ok (.dup, 1) := by decide +kernel
theorem dX11_number_85 : decode cX11_number 85 = .ok (.getfield 62, 3) := by decide +kernel
theorem dX11_number_88 : decode cX11_number 88 = .ok (.iconst 1, 1) := by decide +kernel
theorem dX11_number_89 : decode cX11_number 89 = .ok (.iadd, 1) := by decide +kernel
theorem dX11_number_90 : decode cX11_number 90 = .ok (.putfield 62, 3) := by decide +kernel
theorem dX11_number_93 : decode cX11_number 93 = .ok (.goto (-78), 3) := by decide +kernel
theorem dX11_number_96 : decode cX11_number 96 = .ok (.aload_n 0, 1) := by decide +kernel
theorem dX11_number_97 : decode cX11_number 97 = .ok (.getfield 62, 3) := by decide +kernel
theorem dX11_number_100 : decode cX11_number 100 = .ok (.aload_n 0, 1) := by decide +kernel
theorem dX11_number_101 : decode cX11_number 101 = .ok (.getfield 76, 3) := by decide +kernel
theorem dX11_number_104 : decode cX11_number 104 = .ok (.if_icmp .ne 15, 3) := by decide +kernel
theorem dX11_number_107 : decode cX11_number 107 = .ok (.aload_n 0, 1) := by decide +kernel
theorem dX11_number_108 : decode cX11_number 108 = .ok (.iconst 1, 1) := by decide +kernel
theorem dX11_number_109 : decode cX11_number 109 = .ok (.aload_n 0, 1) := by decide +kernel
theorem dX11_number_110 : decode cX11_number 110 = .ok (.getfield 62, 3) := by decide +kernel
theorem dX11_number_113 : decode cX11_number 113 = .ok (.invokevirtual 72, 3) := by decide +kernel
theorem dX11_number_116 : decode cX11_number 116 = .ok (.goto 22, 3) := by decide +kernel
theorem dX11_number_119 : decode cX11_number 119 = .ok (.iload_n 3, 1) := by decide +kernel
theorem dX11_number_120 : decode cX11_number 120 = .ok (.iload_n 1, 1) := by decide +kernel
theorem dX11_number_121 : decode cX11_number 121 = .ok (.if_icmp .lt 8, 3) := by decide +kernel
theorem dX11_number_124 : decode cX11_number 124 = .ok (.iload_n 3, 1) := by decide +kernel
theorem dX11_number_125 : decode cX11_number 125 = .ok (.iload_n 2, 1) := by decide +kernel
theorem dX11_number_126 : decode cX11_number 126 = .ok (.if_icmp .le 12, 3) := by decide +kernel
theorem dX11_number_129 : decode cX11_number 129 = .ok (.aload_n 0, 1) := by decide +kernel
theorem dX11_number_130 : decode cX11_number 130 = .ok (.iconst 2, 1) := by decide +kernel
theorem dX11_number_131 : decode cX11_number 131 = .ok (.aload_n 0, 1) := by decide +kernel
theorem dX11_number_132 : decode cX11_number 132 = .ok (.getfield 76, 3) := by decide +kernel
theorem dX11_number_135 : decode cX11_number 135 = .ok (.invokevirtual 72, 3) := by decide +kernel
theorem dX11_number_138 : decode cX11_number 138 = .ok (.iload_n 3, 1) := by decide +kernel
theorem dX11_number_139 : decode cX11_number 139 = .ok (.ireturn, 1) := by decide +kernel
theorem dX11_length_0 : decode cX11_length 0 = .ok (.aload_n 0, 1) := by decide +kernel
theorem dX11_length_1 : decode cX11_length 1 = .ok (.invokevirtual 68, 3) := by decide +kernel
theorem dX11_length_4 : decode cX11_length 4 = .ok (.bipush 58, 2) := by decide +kernel
theorem dX11_length_6 : decode cX11_length 6 = .ok (.if_icmp .ne 7, 3) := by decide +kernel
theorem dX11_length_9 : decode cX11_length 9 = .ok (.iconst 1, 1) := by decide +kernel
theorem dX11_length_10 : decode cX11_length 10 = .ok (.goto 4, 3) := by decide +kernel
theorem dX11_length_13 : decode cX11_length 13 = .ok (.iconst 0, 1) := by decide +kernel
theorem dX11_length_14 : decode cX11_length 14 = .ok (.istore_n 2, 1) := by decide +kernel
theorem dX11_length_15 : decode cX11_length 15 = .ok (.iload_n 2, 1) := by decide +kernel
theorem dX11_length_16 : decode cX11_length 16 = .ok (.ifCond .eq 13, 3) := by decide +kernel
theorem dX11_length_19 : decode cX11_length 19 = .ok (.aload_n 0, 1) := by decide +kernel
theorem dX11_length_20 : decode cX11_length 20 = .ok (.dup, 1) := by decide +kernel
theorem dX11_length_21 : decode cX11_length 21 = .ok (.getfield 62, 3) := by decide +kernel
theorem dX11_length_24 : decode cX11_length 24 = .ok (.iconst 1, 1) := by decide +kernel
theorem dX11_length_25 : decode cX11_length 25 = .ok (.iadd, 1) := by decide +kernel
theorem dX11_length_26 : decode cX11_length 26 = .ok (.putfield 62, 3) := by decide +kernel
theorem dX11_length_29 : decode cX11_length 29 = .ok (.iload_n 2, 1) := by decide +kernel
theorem dX11_length_30 : decode cX11_length 30 = .ok (.ifCond .eq 13, 3) := by decide +kernel
theorem dX11_length_33 : decode cX11_length 33 = .ok (.aload_n 0, 1) := by decide +kernel
theorem dX11_length_34 : decode cX11_length 34 = .ok (.iconst 1, 1) := by decide +kernel
theorem dX11_length_35 : decode cX11_length 35 = .ok (.bipush 64, 2) := by decide +kernel
theorem dX11_length_37 : decode cX11_length 37 = .ok (.invokevirtual 83, 3) := by decide +kernel
theorem dX11_length_40 : decode cX11_length 40 = .ok (.goto 4, 3) := by decide +kernel
theorem dX11_length_43 : decode cX11_length 43 = .ok (.iconst (-1), 1) := by decide +kernel
theorem dX11_length_44 : decode cX11_length 44 = .ok (.istore_n 3, 1) := by decide +kernel
theorem dX11_length_45 : decode cX11_length 45 = .ok (.aload_n 0, 1) := by decide +kernel
theorem dX11_length_46 : decode cX11_length 46 = .ok (.getfield 30, 3) := by decide +kernel
theorem dX11_length_49 : decode cX11_length 49 = .ok (.iload_n 1, 1) := by decide +kernel
theorem dX11_length_50 : decode cX11_length 50 = .ok (.iaload, 1) := by decide +kernel
theorem dX11_length_51 : decode cX11_length 51 = .ok (.ifCond .ne 31, 3) := by decide +kernel
theorem dX11_length_54 : decode cX11_length 54 = .ok (.aload_n 0, 1) := by decide +kernel
theorem dX11_length_55 : decode cX11_length 55 = .ok (.getfield 30, 3) := by decide +kernel
theorem dX11_length_58 : decode cX11_length 58 = .ok (.iload_n 1, 1) := by decide +kernel
theorem dX11_length_59 : decode cX11_length 59 = .ok (.iload_n 2, 1) := by decide +kernel
theorem dX11_length_60 : decode cX11_length 60 = .ok (.ifCond .eq 7, 3) := by decide +kernel
theorem dX11_length_63 : decode cX11_length 63 = .ok (.iload_n 3, 1) := by decide +kernel
theorem dX11_length_64 : decode cX11_length 64 = .ok (.goto 7, 3) := by decide +kernel
theorem dX11_length_67 : decode cX11_length 67 = .ok (.aload_n 0, 1) := by decide +kernel
theorem dX11_length_68 : decode cX11_length 68 = .ok (.getfield 87, 3) := by decide +kernel
theorem dX11_length_71 : decode cX11_length 71 = .ok (.iastore, 1) := by decide +kernel
theorem dX11_length_72 : decode cX11_length 72 = .ok (.aload_n 0, 1) := by decide +kernel
theorem dX11_length_73 : decode cX11_length 73 = .ok (.aload_n 0, 1) := by decide +kernel
theorem dX11_length_74 : decode cX11_length 74 = .ok (.getfield 30, 3) := by decide +kernel
theorem dX11_length_77 : decode cX11_length 77 = .ok (.iload_n 1, 1) := by decide +kernel
theorem dX11_length_78 : decode cX11_length 78 = .ok (.iaload, 1) := by decide +kernel
theorem dX11_length_79 : decode cX11_length 79 = .ok (.putfield 87, 3) := by decide +kernel
theorem dX11_length_82 : decode cX11_length 82 = .ok (.aload_n 0, 1) := by decide +kernel
theorem dX11_length_83 : decode cX11_length 83 = .ok (.getfield 30, 3) := by decide +kernel
theorem dX11_length_86 : decode cX11_length 86 = .ok (.iload_n 1, 1) := by decide +kernel
theorem dX11_length_87 : decode cX11_length 87 = .ok (.iaload, 1) := by decide +kernel
theorem dX11_length_88 : decode cX11_length 88 = .ok (.ireturn, 1) := by decide +kernel
theorem dX11_strikesHere_0 : decode cX11_strikesHere 0 = .ok (.aload_n 0, 1) := by decide +kernel
theorem dX11_strikesHere_1 : decode cX11_strikesHere 1 = .ok (.getfield 90, 3) := by decide +kernel
theorem dX11_strikesHere_4 : decode cX11_strikesHere 4 = .ok (.bipush 100, 2) := by decide +kernel
theorem dX11_strikesHere_6 : decode cX11_strikesHere 6 = .ok (.if_icmp .ne 9, 3) := by decide +kernel
theorem dX11_strikesHere_9 : decode cX11_strikesHere 9 = .ok (.aload_n 0, 1) := by decide +kernel
theorem dX11_strikesHere_10 : decode cX11_strikesHere 10 = .ok (.iconst 4, 1) := by decide +kernel
theorem dX11_strikesHere_11 : decode cX11_strikesHere 11 = .ok (.iload_n 3, 1) := by decide +kernel
theorem dX11_strikesHere_12 : decode cX11_strikesHere 12 = .ok (.invokevirtual 72, 3) := by decide +kernel
theorem dX11_strikesHere_15 : decode cX11_strikesHere 15 = .ok (.aload_n 0, 1) := by decide +kernel
theorem dX11_strikesHere_16 : decode cX11_strikesHere 16 = .ok (.getfield 56, 3) := by decide +kernel
theorem dX11_strikesHere_19 : decode cX11_strikesHere 19 = .ok (.ifCond .eq 4, 3) := by decide +kernel
theorem dX11_strikesHere_22 : decode cX11_strikesHere 22 = .ok (.return_, 1) := by decide +kernel
theorem dX11_strikesHere_23 : decode cX11_strikesHere 23 = .ok (.aload_n 0, 1) := by decide +kernel
theorem dX11_strikesHere_24 : decode cX11_strikesHere 24 = .ok (.getfield 90, 3) := by decide +kernel
theorem dX11_strikesHere_27 : decode cX11_strikesHere 27 = .ok (.istore 4, 2) := by decide +kernel
theorem dX11_strikesHere_29 : decode cX11_strikesHere 29 = .ok (.iload 4, 2) := by decide +kernel
theorem dX11_strikesHere_31 : decode cX11_strikesHere 31 = .ok (.ifCond .le 67, 3) := by decide +kernel
theorem dX11_strikesHere_34 : decode cX11_strikesHere 34 = .ok (.aload_n 0, 1) := by decide +kernel
theorem dX11_strikesHere_35 : decode cX11_strikesHere 35 = .ok (.getfield 24, 3) := by decide +kernel
theorem dX11_strikesHere_38 : decode cX11_strikesHere 38 = .ok (.iload 4, 2) := by decide +kernel
theorem dX11_strikesHere_40 : decode cX11_strikesHere 40 = .ok (.iconst 1, 1) := by decide +kernel
theorem dX11_strikesHere_41 : decode cX11_strikesHere 41 = .ok (.isub, 1) := by decide +kernel
theorem dX11_strikesHere_42 : decode cX11_strikesHere 42 = .ok (.iaload, 1) := by decide +kernel
theorem dX11_strikesHere_43 : decode cX11_strikesHere 43 = .ok (.iload_n 1, 1) := by decide +kernel
theorem dX11_strikesHere_44 : decode cX11_strikesHere 44 = .ok (.if_icmp .ne 54, 3) := by decide +kernel
theorem dX11_strikesHere_47 : decode cX11_strikesHere 47 = .ok (.aload_n 0, 1) := by decide +kernel
theorem dX11_strikesHere_48 : decode cX11_strikesHere 48 = .ok (.getfield 27, 3) := by decide +kernel
theorem dX11_strikesHere_51 : decode cX11_strikesHere 51 = .ok (.iload 4, 2) := by decide +kernel
theorem dX11_strikesHere_53 : decode cX11_strikesHere 53 = .ok (.iconst 1, 1) := by decide +kernel
theorem dX11_strikesHere_54 : decode cX11_strikesHere 54 = .ok (.isub, 1) := by decide +kernel
theorem dX11_strikesHere_55 : decode cX11_strikesHere 55 = .ok (.iaload, 1) := by decide +kernel
theorem dX11_strikesHere_56 : decode cX11_strikesHere 56 = .ok (.iload_n 2, 1) := by decide +kernel
theorem dX11_strikesHere_57 : decode cX11_strikesHere 57 = .ok (.if_icmp .le 41, 3) := by decide +kernel
theorem dX11_strikesHere_60 : decode cX11_strikesHere 60 = .ok (.aload_n 0, 1) := by decide +kernel
theorem dX11_strikesHere_61 : decode cX11_strikesHere 61 = .ok (.getfield 24, 3) := by decide +kernel
theorem dX11_strikesHere_64 : decode cX11_strikesHere 64 = .ok (.iload 4, 2) := by decide +kernel
theorem dX11_strikesHere_66 : decode cX11_strikesHere 66 = .ok (.aload_n 0, 1) := by decide +kernel
theorem dX11_strikesHere_67 : decode cX11_strikesHere 67 = .ok (.getfield 24, 3) := by decide +kernel
theorem dX11_strikesHere_70 : decode cX11_strikesHere 70 = .ok (.iload 4, 2) := by decide +kernel
theorem dX11_strikesHere_72 : decode cX11_strikesHere 72 = .ok (.iconst 1, 1) := by decide +kernel
theorem dX11_strikesHere_73 : decode cX11_strikesHere 73 = .ok (.isub, 1) := by decide +kernel
theorem dX11_strikesHere_74 : decode cX11_strikesHere 74 = .ok (.iaload, 1) := by decide +kernel
theorem dX11_strikesHere_75 : decode cX11_strikesHere 75 = .ok (.iastore, 1) := by decide +kernel
theorem dX11_strikesHere_76 : decode cX11_strikesHere 76 = .ok (.aload_n 0, 1) := by decide +kernel
theorem dX11_strikesHere_77 : decode cX11_strikesHere 77 = .ok (.getfield 27, 3) := by decide +kernel
theorem dX11_strikesHere_80 : decode cX11_strikesHere 80 = .ok (.iload 4, 2) := by decide +kernel
theorem dX11_strikesHere_82 : decode cX11_strikesHere 82 = .ok (.aload_n 0, 1) := by decide +kernel
theorem dX11_strikesHere_83 : decode cX11_strikesHere 83 = .ok (.getfield 27, 3) := by decide +kernel
theorem dX11_strikesHere_86 : decode cX11_strikesHere 86 = .ok (.iload 4, 2) := by decide +kernel
theorem dX11_strikesHere_88 : decode cX11_strikesHere 88 = .ok (.iconst 1, 1) := by decide +kernel
theorem dX11_strikesHere_89 : decode cX11_strikesHere 89 = .ok (.isub, 1) := by decide +kernel
theorem dX11_strikesHere_90 : decode cX11_strikesHere 90 = .ok (.iaload, 1) := by decide +kernel
theorem dX11_strikesHere_91 : decode cX11_strikesHere 91 = .ok (.iastore, 1) := by decide +kernel
theorem dX11_strikesHere_92 : decode cX11_strikesHere 92 = .ok (.iinc 4 (-1), 3) := by decide +kernel
theorem dX11_strikesHere_95 : decode cX11_strikesHere 95 = .ok (.goto (-66), 3) := by decide +kernel
theorem dX11_strikesHere_98 : decode cX11_strikesHere 98 = .ok (.aload_n 0, 1) := by decide +kernel
theorem dX11_strikesHere_99 : decode cX11_strikesHere 99 = .ok (.getfield 24, 3) := by decide +kernel
theorem dX11_strikesHere_102 : decode cX11_strikesHere 102 = .ok (.iload 4, 2) := by decide +kernel
theorem dX11_strikesHere_104 : decode cX11_strikesHere 104 = .ok (.iload_n 1, 1) := by decide +kernel
theorem dX11_strikesHere_105 : decode cX11_strikesHere 105 = .ok (.iastore, 1) := by decide +kernel
theorem dX11_strikesHere_106 : decode cX11_strikesHere 106 = .ok (.aload_n 0, 1) := by decide +kernel
theorem dX11_strikesHere_107 : decode cX11_strikesHere 107 = .ok (.getfield 27, 3) := by decide +kernel
theorem dX11_strikesHere_110 : decode cX11_strikesHere 110 = .ok (.iload 4, 2) := by decide +kernel
theorem dX11_strikesHere_112 : decode cX11_strikesHere 112 = .ok (.iload_n 2, 1) := by decide +kernel
theorem dX11_strikesHere_113 : decode cX11_strikesHere 113 = .ok (.iastore, 1) := by decide +kernel
theorem dX11_strikesHere_114 : decode cX11_strikesHere 114 = .ok (.aload_n 0, 1) := by decide +kernel
theorem dX11_strikesHere_115 : decode cX11_strikesHere 115 = .ok (.dup, 1) := by decide +kernel
theorem dX11_strikesHere_116 : decode cX11_strikesHere 116 = .ok (.getfield 90, 3) := by decide +kernel
theorem dX11_strikesHere_119 : decode cX11_strikesHere 119 = .ok (.iconst 1, 1) := by decide +kernel
theorem dX11_strikesHere_120 : decode cX11_strikesHere 120 = .ok (.iadd, 1) := by decide +kernel
theorem dX11_strikesHere_121 : decode cX11_strikesHere 121 = .ok (.putfield 90, 3) := by decide +kernel
theorem dX11_strikesHere_124 : decode cX11_strikesHere 124 = .ok (.return_, 1) := by decide +kernel
theorem dX11_item_0 : decode cX11_item 0 = .ok (.aload_n 0, 1) := by decide +kernel
theorem dX11_item_1 : decode cX11_item 1 = .ok (.getfield 62, 3) := by decide +kernel
theorem dX11_item_4 : decode cX11_item 4 = .ok (.istore_n 1, 1) := by decide +kernel
theorem dX11_item_5 : decode cX11_item 5 = .ok (.aload_n 0, 1) := by decide +kernel
theorem dX11_item_6 : decode cX11_item 6 = .ok (.invokevirtual 68, 3) := by decide +kernel
theorem dX11_item_9 : decode cX11_item 9 = .ok (.istore_n 2, 1) := by decide +kernel
theorem dX11_item_10 : decode cX11_item 10 = .ok (.iconst 0, 1) := by decide +kernel
theorem dX11_item_11 : decode cX11_item 11 = .ok (.istore_n 3, 1) := by decide +kernel
theorem dX11_item_12 : decode cX11_item 12 = .ok (.iload_n 2, 1) := by decide +kernel
theorem dX11_item_13 : decode cX11_item 13 = .ok (.bipush 98, 2) := by decide +kernel
theorem dX11_item_15 : decode cX11_item 15 = .ok (.if_icmp .eq 31, 3) := by decide +kernel
theorem dX11_item_18 : decode cX11_item 18 = .ok (.iload_n 2, 1) := by decide +kernel
theorem dX11_item_19 : decode cX11_item 19 = .ok (.bipush 40, 2) := by decide +kernel
theorem dX11_item_21 : decode cX11_item 21 = .ok (.if_icmp .eq 25, 3) := by decide +kernel
theorem dX11_item_24 : decode cX11_item 24 = .ok (.iload_n 2, 1) := by decide +kernel
theorem dX11_item_25 : decode cX11_item 25 = .ok (.bipush 95, 2) := by decide +kernel
theorem dX11_item_27 : decode cX11_item 27 = .ok (.if_icmp .eq 19, 3) := by decide +kernel
theorem dX11_item_30 : decode cX11_item 30 = .ok (.iload_n 2, 1) := by decide +kernel
theorem dX11_item_31 : decode cX11_item 31 = .ok (.bipush 116, 2) := by decide +kernel
theorem dX11_item_33 : decode cX11_item 33 = .ok (.if_icmp .eq 13, 3) := by decide +kernel
theorem dX11_item_36 : decode cX11_item 36 = .ok (.aload_n 0, 1) := by decide +kernel
theorem dX11_item_37 : decode cX11_item 37 = .ok (.iconst 1, 1) := by decide +kernel
theorem dX11_item_38 : decode cX11_item 38 = .ok (.aload_n 0, 1) := by decide +kernel
theorem dX11_item_39 : decode cX11_item 39 = .ok (.getfield 62, 3) := by decide +kernel
theorem dX11_item_42 : decode cX11_item 42 = .ok (.invokevirtual 72, 3) := by decide +kernel
theorem dX11_item_45 : decode cX11_item 45 = .ok (.return_, 1) := by decide +kernel
theorem dX11_item_46 : decode cX11_item 46 = .ok (.aload_n 0, 1) := by decide +kernel
theorem dX11_item_47 : decode cX11_item 47 = .ok (.getfield 93, 3) := by decide +kernel
theorem dX11_item_50 : decode cX11_item 50 = .ok (.sipush 1999, 3) := by decide +kernel
theorem dX11_item_53 : decode cX11_item 53 = .ok (.if_icmp .le 9, 3) := by decide +kernel
theorem dX11_item_56 : decode cX11_item 56 = .ok (.aload_n 0, 1) := by decide +kernel
theorem dX11_item_57 : decode cX11_item 57 = .ok (.iconst 4, 1) := by decide +kernel
theorem dX11_item_58 : decode cX11_item 58 = .ok (.iload_n 1, 1) := by decide +kernel
theorem dX11_item_59 : decode cX11_item 59 = .ok (.invokevirtual 72, 3) := by decide +kernel
theorem dX11_item_62 : decode cX11_item 62 = .ok (.aload_n 0, 1) := by decide +kernel
theorem dX11_item_63 : decode cX11_item 63 = .ok (.dup, 1) := by decide +kernel
theorem dX11_item_64 : decode cX11_item 64 = .ok (.getfield 62, 3) := by decide +kernel
theorem dX11_item_67 : decode cX11_item 67 = .ok (.iconst 1, 1) := by decide +kernel
theorem dX11_item_68 : decode cX11_item 68 = .ok (.iadd, 1) := by decide +kernel
theorem dX11_item_69 : decode cX11_item 69 = .ok (.putfield 62, 3) := by decide +kernel
theorem dX11_item_72 : decode cX11_item 72 = .ok (.iload_n 2, 1) := by decide +kernel
theorem dX11_item_73 : decode cX11_item 73 = .ok (.bipush 95, 2) := by decide +kernel
theorem dX11_item_75 : decode cX11_item 75 = .ok (.if_icmp .eq 25, 3) := by decide +kernel
theorem dX11_item_78 : decode cX11_item 78 = .ok (.aload_n 0, 1) := by decide +kernel
theorem dX11_item_79 : decode cX11_item 79 = .ok (.getfield 56, 3) := by decide +kernel
theorem dX11_item_82 : decode cX11_item 82 = .ok (.ifCond .ne 18, 3) := by decide +kernel
theorem dX11_item_85 : decode cX11_item 85 = .ok (.aload_n 0, 1) := by decide +kernel
theorem dX11_item_86 : decode cX11_item 86 = .ok (.getfield 39, 3) := by decide +kernel
theorem dX11_item_89 : decode cX11_item 89 = .ok (.iconst 0, 1) := by decide +kernel
theorem dX11_item_90 : decode cX11_item 90 = .ok (.aload_n 0, 1) := by decide +kernel
theorem dX11_item_91 : decode cX11_item 91 = .ok (.iconst 0, 1) := by decide +kernel
theorem dX11_item_92 : decode cX11_item 92 = .ok (.bipush 23, 2) := by decide +kernel
theorem dX11_item_94 : decode cX11_item 94 = .ok (.invokevirtual 83, 3) := by decide +kernel
theorem dX11_item_97 : decode cX11_item 97 = .ok (.iastore, 1) := by decide +kernel
theorem dX11_item_98 : decode cX11_item 98 = .ok (.iconst 1, 1) := by decide +kernel
theorem dX11_item_99 : decode cX11_item 99 = .ok (.istore_n 3, 1) := by decide +kernel
theorem dX11_item_100 : decode cX11_item 100 = .ok (.aload_n 0, 1) := by decide +kernel
theorem dX11_item_101 : decode cX11_item 101 = .ok (.getfield 56, 3) := by decide +kernel
theorem dX11_item_104 : decode cX11_item 104 = .ok (.ifCond .ne 123, 3) := by decide +kernel
theorem dX11_item_107 : decode cX11_item 107 = .ok (.iload_n 2, 1) := by decide +kernel
theorem dX11_item_108 : decode cX11_item 108 = .ok (.bipush 40, 2) := by decide +kernel
theorem dX11_item_110 : decode cX11_item 110 = .ok (.if_icmp .ne 12, 3) := by decide +kernel
theorem dX11_item_113 : decode cX11_item 113 = .ok (.aload_n 0, 1) := by decide +kernel
theorem dX11_item_114 : decode cX11_item 114 = .ok (.invokevirtual 68, 3) := by decide +kernel
theorem dX11_item_117 : decode cX11_item 117 = .ok (.bipush 41, 2) := by decide +kernel
theorem dX11_item_119 : decode cX11_item 119 = .ok (.if_icmp .ne 14, 3) := by decide +kernel
theorem dX11_item_122 : decode cX11_item 122 = .ok (.iload_n 2, 1) := by decide +kernel
theorem dX11_item_123 : decode cX11_item 123 = .ok (.bipush 116, 2) := by decide +kernel
theorem dX11_item_125 : decode cX11_item 125 = .ok (.if_icmp .ne 102, 3) := by decide +kernel
theorem dX11_item_128 : decode cX11_item 128 = .ok (.iload_n 3, 1) := by decide +kernel
theorem dX11_item_129 : decode cX11_item 129 = .ok (.iconst 2, 1) := by decide +kernel
theorem dX11_item_130 : decode cX11_item 130 = .ok (.if_icmp .ge 97, 3) := by decide +kernel
theorem dX11_item_133 : decode cX11_item 133 = .ok (.aload_n 0, 1) := by decide +kernel
theorem dX11_item_134 : decode cX11_item 134 = .ok (.iconst 0, 1) := by decide +kernel
theorem dX11_item_135 : decode cX11_item 135 = .ok (.bipush 23, 2) := by decide +kernel
theorem dX11_item_137 : decode cX11_item 137 = .ok (.invokevirtual 83, 3) := by decide +kernel
theorem dX11_item_140 : decode cX11_item 140 = .ok (.istore 4, 2) := by decide +kernel
theorem dX11_item_142 : decode cX11_item 142 = .ok (.aload_n 0, 1) := by decide +kernel
theorem dX11_item_143 : decode cX11_item 143 = .ok (.getfield 56, 3) := by decide +kernel
theorem dX11_item_146 : decode cX11_item 146 = .ok (.ifCond .ne 17, 3) := by decide +kernel
theorem dX11_item_149 : decode cX11_item 149 = .ok (.iload_n 3, 1) := by decide +kernel
theorem dX11_item_150 : decode cX11_item 150 = .ok (.iconst 4, 1) := by decide +kernel
theorem dX11_item_151 : decode cX11_item 151 = .ok (.if_icmp .ne 12, 3) := by decide +kernel
theorem dX11_item_154 : decode cX11_item 154 = .ok (.aload_n 0, 1) := by decide +kernel
theorem dX11_item_155 : decode cX11_item 155 = .ok (.iconst 2, 1) := by decide +kernel
theorem dX11_item_156 : decode cX11_item 156 = .ok (.aload_n 0, 1) := by decide +kernel
theorem dX11_item_157 : decode cX11_item 157 = .ok (.getfield 76, 3) := by decide +kernel
theorem dX11_item_160 : decode cX11_item 160 = .ok (.invokevirtual 72, 3) := by decide +kernel
theorem dX11_item_163 : decode cX11_item 163 = .ok (.iconst 0, 1) := by decide +kernel
theorem dX11_item_164 : decode cX11_item 164 = .ok (.istore 5, 2) := by decide +kernel
theorem dX11_item_166 : decode cX11_item 166 = .ok (.iload 5, 2) := by decide +kernel
theorem dX11_item_168 : decode cX11_item 168 = .ok (.iload_n 3, 1) := by decide +kernel
theorem dX11_item_169 : decode cX11_item 169 = .ok (.if_icmp .ge 37, 3) := by decide +kernel
theorem dX11_item_172 : decode cX11_item 172 = .ok (.aload_n 0, 1) := by decide +kernel
theorem dX11_item_173 : decode cX11_item 173 = .ok (.getfield 56, 3) := by decide +kernel
theorem dX11_item_176 : decode cX11_item 176 = .ok (.ifCond .ne 30, 3) := by decide +kernel
theorem dX11_item_179 : decode cX11_item 179 = .ok (.aload_n 0, 1) := by decide +kernel
theorem dX11_item_180 : decode cX11_item 180 = .ok (.getfield 39, 3) := by decide +kernel
theorem dX11_item_183 : decode cX11_item 183 = .ok (.iload 5, 2) := by decide +kernel
theorem dX11_item_185 : decode cX11_item 185 = .ok (.iaload, 1) := by decide +kernel
theorem dX11_item_186 : decode cX11_item 186 = .ok (.iload 4, 2) := by decide +kernel
theorem dX11_item_188 : decode cX11_item 188 = .ok (.if_icmp .ne 12, 3) := by decide +kernel
theorem dX11_item_191 : decode cX11_item 191 = .ok (.aload_n 0, 1) := by decide +kernel
theorem dX11_item_192 : decode cX11_item 192 = .ok (.iconst 2, 1) := by decide +kernel
theorem dX11_item_193 : decode cX11_item 193 = .ok (.aload_n 0, 1) := by decide +kernel
theorem dX11_item_194 : decode cX11_item 194 = .ok (.getfield 76, 3) := by decide +kernel
theorem dX11_item_197 : decode cX11_item 197 = .ok (.invokevirtual 72, 3) := by decide +kernel
theorem dX11_item_200 : decode cX11_item 200 = .ok (.iinc 5 1, 3) := by decide +kernel
theorem dX11_item_203 : decode cX11_item 203 = .ok (.goto (-37), 3) := by decide +kernel
theorem dX11_item_206 : decode cX11_item 206 = .ok (.aload_n 0, 1) := by decide +kernel
theorem dX11_item_207 : decode cX11_item 207 = .ok (.getfield 56, 3) := by decide +kernel
theorem dX11_item_210 : decode cX11_item 210 = .ok (.ifCond .ne 14, 3) := by decide +kernel
theorem dX11_item_213 : decode cX11_item 213 = .ok (.aload_n 0, 1) := by decide +kernel
theorem dX11_item_214 : decode cX11_item 214 = .ok (.getfield 39, 3) := by decide +kernel
theorem dX11_item_217 : decode cX11_item 217 = .ok (.iload_n 3, 1) := by decide +kernel
theorem dX11_item_218 : decode cX11_item 218 = .ok (.iload 4, 2) := by decide +kernel
theorem dX11_item_220 : decode cX11_item 220 = .ok (.iastore, 1) := by decide +kernel
theorem dX11_item_221 : decode cX11_item 221 = .ok (.iinc 3 1, 3) := by decide +kernel
theorem dX11_item_224 : decode cX11_item 224 = .ok (.goto (-124), 3) := by decide +kernel
theorem dX11_item_227 : decode cX11_item 227 = .ok (.aload_n 0, 1) := by decide +kernel
theorem dX11_item_228 : decode cX11_item 228 = .ok (.getfield 56, 3) := by decide +kernel
theorem dX11_item_231 : decode cX11_item 231 = .ok (.ifCond .ne 19, 3) := by decide +kernel
theorem dX11_item_234 : decode cX11_item 234 = .ok (.iload_n 2, 1) := by decide +kernel
theorem dX11_item_235 : decode cX11_item 235 = .ok (.bipush 40, 2) := by decide +kernel
theorem dX11_item_237 : decode cX11_item 237 = .ok (.if_icmp .ne 13, 3) := by decide +kernel
theorem dX11_item_240 : decode cX11_item 240 = .ok (.aload_n 0, 1) := by decide +kernel
theorem dX11_item_241 : decode cX11_item 241 = .ok (.dup, 1) := by decide +kernel
theorem dX11_item_242 : decode cX11_item 242 = .ok (.getfield 62, 3) := by decide +kernel
theorem dX11_item_245 : decode cX11_item 245 = .ok (.iconst 1, 1) := by decide +kernel
theorem dX11_item_246 : decode cX11_item 246 = .ok (.iadd, 1) := by decide +kernel
theorem dX11_item_247 : decode cX11_item 247 = .ok (.putfield 62, 3) := by decide +kernel
theorem dX11_item_250 : decode cX11_item 250 = .ok (.aload_n 0, 1) := by decide +kernel
theorem dX11_item_251 : decode cX11_item 251 = .ok (.getfield 56, 3) := by decide +kernel
theorem dX11_item_254 : decode cX11_item 254 = .ok (.ifCond .ne 11, 3) := by decide +kernel
theorem dX11_item_257 : decode cX11_item 257 = .ok (.aload_n 0, 1) := by decide +kernel
theorem dX11_item_258 : decode cX11_item 258 = .ok (.iload_n 1, 1) := by decide +kernel
theorem dX11_item_259 : decode cX11_item 259 = .ok (.invokevirtual 96, 3) := by decide +kernel
theorem dX11_item_262 : decode cX11_item 262 = .ok (.goto 4, 3) := by decide +kernel
theorem dX11_item_265 : decode cX11_item 265 = .ok (.iconst 0, 1) := by decide +kernel
theorem dX11_item_266 : decode cX11_item 266 = .ok (.istore 4, 2) := by decide +kernel
theorem dX11_item_268 : decode cX11_item 268 = .ok (.iload_n 2, 1) := by decide +kernel
theorem dX11_item_269 : decode cX11_item 269 = .ok (.bipush 116, 2) := by decide +kernel
theorem dX11_item_271 : decode cX11_item 271 = .ok (.if_icmp .ne 50, 3) := by decide +kernel
theorem dX11_item_274 : decode cX11_item 274 = .ok (.iconst 0, 1) := by decide +kernel
theorem dX11_item_275 : decode cX11_item 275 = .ok (.istore 5, 2) := by decide +kernel
theorem dX11_item_277 : decode cX11_item 277 = .ok (.iload 5, 2) := by decide +kernel
theorem dX11_item_279 : decode cX11_item 279 = .ok (.iload 4, 2) := by decide +kernel
theorem dX11_item_281 : decode cX11_item 281 = .ok (.if_icmp .ge 37, 3) := by decide +kernel
theorem dX11_item_284 : decode cX11_item 284 = .ok (.aload_n 0, 1) := by decide +kernel
theorem dX11_item_285 : decode cX11_item 285 = .ok (.getfield 56, 3) := by decide +kernel
theorem dX11_item_288 : decode cX11_item 288 = .ok (.ifCond .ne 30, 3) := by decide +kernel
theorem dX11_item_291 : decode cX11_item 291 = .ok (.aload_n 0, 1) := by decide +kernel
theorem dX11_item_292 : decode cX11_item 292 = .ok (.aload_n 0, 1) := by decide +kernel
theorem dX11_item_293 : decode cX11_item 293 = .ok (.getfield 93, 3) := by decide +kernel
theorem dX11_item_296 : decode cX11_item 296 = .ok (.iload 5, 2) := by decide +kernel
theorem dX11_item_298 : decode cX11_item 298 = .ok (.iadd, 1) := by decide +kernel
theorem dX11_item_299 : decode cX11_item 299 = .ok (.aload_n 0, 1) := by decide +kernel
theorem dX11_item_300 : decode cX11_item 300 = .ok (.getfield 39, 3) := by decide +kernel
theorem dX11_item_303 : decode cX11_item 303 = .ok (.iload 5, 2) := by decide +kernel
theorem dX11_item_305 : decode cX11_item 305 = .ok (.iconst 2, 1) := by decide +kernel
theorem dX11_item_306 : decode cX11_item 306 = .ok (.irem, 1) := by decide +kernel
theorem dX11_item_307 : decode cX11_item 307 = .ok (.iaload, 1) := by decide +kernel
theorem dX11_item_308 : decode cX11_item 308 = .ok (.iload_n 1, 1) := by decide +kernel
theorem dX11_item_309 : decode cX11_item 309 = .ok (.invokevirtual 100, 3) := by decide +kernel
theorem dX11_item_312 : decode cX11_item 312 = .ok (.iinc 5 1, 3) := by decide +kernel
theorem dX11_item_315 : decode cX11_item 315 = .ok (.goto (-38), 3) := by decide +kernel
theorem dX11_item_318 : decode cX11_item 318 = .ok (.goto 41, 3) := by decide +kernel
theorem dX11_item_321 : decode cX11_item 321 = .ok (.iconst 0, 1) := by decide +kernel
theorem dX11_item_322 : decode cX11_item 322 = .ok (.istore 5, 2) := by decide +kernel
theorem dX11_item_324 : decode cX11_item 324 = .ok (.iload 5, 2) := by decide +kernel
theorem dX11_item_326 : decode cX11_item 326 = .ok (.iload_n 3, 1) := by decide +kernel
theorem dX11_item_327 : decode cX11_item 327 = .ok (.if_icmp .ge 32, 3) := by decide +kernel
theorem dX11_item_330 : decode cX11_item 330 = .ok (.aload_n 0, 1) := by decide +kernel
theorem dX11_item_331 : decode cX11_item 331 = .ok (.getfield 56, 3) := by decide +kernel
theorem dX11_item_334 : decode cX11_item 334 = .ok (.ifCond .ne 25, 3) := by decide +kernel
theorem dX11_item_337 : decode cX11_item 337 = .ok (.aload_n 0, 1) := by decide +kernel
theorem dX11_item_338 : decode cX11_item 338 = .ok (.aload_n 0, 1) := by decide +kernel
theorem dX11_item_339 : decode cX11_item 339 = .ok (.getfield 93, 3) := by decide +kernel
theorem dX11_item_342 : decode cX11_item 342 = .ok (.aload_n 0, 1) := by decide +kernel
theorem dX11_item_343 : decode cX11_item 343 = .ok (.getfield 39, 3) := by decide +kernel
theorem dX11_item_346 : decode cX11_item 346 = .ok (.iload 5, 2) := by decide +kernel
theorem dX11_item_348 : decode cX11_item 348 = .ok (.iaload, 1) := by decide +kernel
theorem dX11_item_349 : decode cX11_item 349 = .ok (.iload_n 1, 1) := by decide +kernel
theorem dX11_item_350 : decode cX11_item 350 = .ok (.invokevirtual 100, 3) := by decide +kernel
theorem dX11_item_353 : decode cX11_item 353 = .ok (.iinc 5 1, 3) := by decide +kernel
theorem dX11_item_356 : decode cX11_item 356 = .ok (.goto (-32), 3) := by decide +kernel
theorem dX11_item_359 : decode cX11_item 359 = .ok (.aload_n 0, 1) := by decide +kernel
theorem dX11_item_360 : decode cX11_item 360 = .ok (.dup, 1) := by decide +kernel
theorem dX11_item_361 : decode cX11_item 361 = .ok (.getfield 93, 3) := by decide +kernel
theorem dX11_item_364 : decode cX11_item 364 = .ok (.iload 4, 2) := by decide +kernel
theorem dX11_item_366 : decode cX11_item 366 = .ok (.iadd, 1) := by decide +kernel
theorem dX11_item_367 : decode cX11_item 367 = .ok (.putfield 93, 3) := by decide +kernel
theorem dX11_item_370 : decode cX11_item 370 = .ok (.return_, 1) := by decide +kernel
theorem dX11_group_0 : decode cX11_group 0 = .ok (.aload_n 0, 1) := by decide +kernel
theorem dX11_group_1 : decode cX11_group 1 = .ok (.iconst 1, 1) := by decide +kernel
theorem dX11_group_2 : decode cX11_group 2 = .ok (.bipush 9, 2) := by decide +kernel
theorem dX11_group_4 : decode cX11_group 4 = .ok (.invokevirtual 83, 3) := by decide +kernel
theorem dX11_group_7 : decode cX11_group 7 = .ok (.istore_n 1, 1) := by decide +kernel
theorem dX11_group_8 : decode cX11_group 8 = .ok (.aload_n 0, 1) := by decide +kernel
theorem dX11_group_9 : decode cX11_group 9 = .ok (.getfield 56, 3) := by decide +kernel
theorem dX11_group_12 : decode cX11_group 12 = .ok (.ifCond .ne 9, 3) := by decide +kernel
theorem dX11_group_15 : decode cX11_group 15 = .ok (.aload_n 0, 1) := by decide +kernel
theorem dX11_group_16 : decode cX11_group 16 = .ok (.bipush 120, 2) := by decide +kernel
theorem dX11_group_18 : decode cX11_group 18 = .ok (.invokevirtual 104, 3) := by decide +kernel
theorem dX11_group_21 : decode cX11_group 21 = .ok (.aload_n 0, 1) := by decide +kernel
theorem dX11_group_22 : decode cX11_group 22 = .ok (.getfield 56, 3) := by decide +kernel
theorem dX11_group_25 : decode cX11_group 25 = .ok (.ifCond .eq 4, 3) := by decide +kernel
theorem dX11_group_28 : decode cX11_group 28 = .ok (.return_, 1) := by decide +kernel
theorem dX11_group_29 : decode cX11_group 29 = .ok (.aload_n 0, 1) := by decide +kernel
theorem dX11_group_30 : decode cX11_group 30 = .ok (.invokevirtual 68, 3) := by decide +kernel
theorem dX11_group_33 : decode cX11_group 33 = .ok (.bipush 123, 2) := by decide +kernel
theorem dX11_group_35 : decode cX11_group 35 = .ok (.if_icmp .eq 15, 3) := by decide +kernel
theorem dX11_group_38 : decode cX11_group 38 = .ok (.aload_n 0, 1) := by decide +kernel
theorem dX11_group_39 : decode cX11_group 39 = .ok (.iconst 1, 1) := by decide +kernel
theorem dX11_group_40 : decode cX11_group 40 = .ok (.aload_n 0, 1) := by decide +kernel
theorem dX11_group_41 : decode cX11_group 41 = .ok (.getfield 62, 3) := by decide +kernel
theorem dX11_group_44 : decode cX11_group 44 = .ok (.invokevirtual 72, 3) := by decide +kernel
theorem dX11_group_47 : decode cX11_group 47 = .ok (.goto 20, 3) := by decide +kernel
theorem dX11_group_50 : decode cX11_group 50 = .ok (.aload_n 0, 1) := by decide +kernel
theorem dX11_group_51 : decode cX11_group 51 = .ok (.getfield 108, 3) := by decide +kernel
theorem dX11_group_54 : decode cX11_group 54 = .ok (.iconst 4, 1) := by decide +kernel
theorem dX11_group_55 : decode cX11_group 55 = .ok (.if_icmp .ne 12, 3) := by decide +kernel
theorem dX11_group_58 : decode cX11_group 58 = .ok (.aload_n 0, 1) := by decide +kernel
theorem dX11_group_59 : decode cX11_group 59 = .ok (.iconst 3, 1) := by decide +kernel
theorem dX11_group_60 : decode cX11_group 60 = .ok (.aload_n 0, 1) := by decide +kernel
theorem dX11_group_61 : decode cX11_group 61 = .ok (.getfield 62, 3) := by decide +kernel
theorem dX11_group_64 : decode cX11_group 64 = .ok (.invokevirtual 72, 3) := by decide +kernel
theorem dX11_group_67 : decode cX11_group 67 = .ok (.aload_n 0, 1) := by decide +kernel
theorem dX11_group_68 : decode cX11_group 68 = .ok (.getfield 56, 3) := by decide +kernel
theorem dX11_group_71 : decode cX11_group 71 = .ok (.ifCond .eq 4, 3) := by decide +kernel
theorem dX11_group_74 : decode cX11_group 74 = .ok (.return_, 1) := by decide +kernel
theorem dX11_group_75 : decode cX11_group 75 = .ok (.aload_n 0, 1) := by decide +kernel
theorem dX11_group_76 : decode cX11_group 76 = .ok (.dup, 1) := by decide +kernel
theorem dX11_group_77 : decode cX11_group 77 = .ok (.getfield 62, 3) := by decide +kernel
theorem dX11_group_80 : decode cX11_group 80 = .ok (.iconst 1, 1) := by decide +kernel
theorem dX11_group_81 : decode cX11_group 81 = .ok (.iadd, 1) := by decide +kernel
theorem dX11_group_82 : decode cX11_group 82 = .ok (.putfield 62, 3) := by decide +kernel
theorem dX11_group_85 : decode cX11_group 85 = .ok (.aload_n 0, 1) := by decide +kernel
theorem dX11_group_86 : decode cX11_group 86 = .ok (.getfield 33, 3) := by decide +kernel
theorem dX11_group_89 : decode cX11_group 89 = .ok (.aload_n 0, 1) := by decide +kernel
theorem dX11_group_90 : decode cX11_group 90 = .ok (.getfield 108, 3) := by decide +kernel
theorem dX11_group_93 : decode cX11_group 93 = .ok (.aload_n 0, 1) := by decide +kernel
theorem dX11_group_94 : decode cX11_group 94 = .ok (.getfield 62, 3) := by decide +kernel
theorem dX11_group_97 : decode cX11_group 97 = .ok (.iastore, 1) := by decide +kernel
theorem dX11_group_98 : decode cX11_group 98 = .ok (.aload_n 0, 1) := by decide +kernel
theorem dX11_group_99 : decode cX11_group 99 = .ok (.getfield 36, 3) := by decide +kernel
theorem dX11_group_102 : decode cX11_group 102 = .ok (.aload_n 0, 1) := by decide +kernel
theorem dX11_group_103 : decode cX11_group 103 = .ok (.getfield 108, 3) := by decide +kernel
theorem dX11_group_106 : decode cX11_group 106 = .ok (.iload_n 1, 1) := by decide +kernel
theorem dX11_group_107 : decode cX11_group 107 = .ok (.iastore, 1) := by decide +kernel
theorem dX11_group_108 : decode cX11_group 108 = .ok (.aload_n 0, 1) := by decide +kernel
theorem dX11_group_109 : decode cX11_group 109 = .ok (.dup, 1) := by decide +kernel
theorem dX11_group_110 : decode cX11_group 110 = .ok (.getfield 108, 3) := by decide +kernel
theorem dX11_group_113 : decode cX11_group 113 = .ok (.iconst 1, 1) := by decide +kernel
theorem dX11_group_114 : decode cX11_group 114 = .ok (.iadd, 1) := by decide +kernel
theorem dX11_group_115 : decode cX11_group 115 = .ok (.putfield 108, 3) := by decide +kernel
theorem dX11_group_118 : decode cX11_group 118 = .ok (.return_, 1) := by decide +kernel
theorem dX11_ends_0 : decode cX11_ends 0 = .ok (.aload_n 0, 1) := by decide +kernel
theorem dX11_ends_1 : decode cX11_ends 1 = .ok (.getfield 108, 3) := by decide +kernel
theorem dX11_ends_4 : decode cX11_ends 4 = .ok (.ifCond .ne 13, 3) := by decide +kernel
theorem dX11_ends_7 : decode cX11_ends 7 = .ok (.aload_n 0, 1) := by decide +kernel
theorem dX11_ends_8 : decode cX11_ends 8 = .ok (.iconst 1, 1) := by decide +kernel
theorem dX11_ends_9 : decode cX11_ends 9 = .ok (.aload_n 0, 1) := by decide +kernel
theorem dX11_ends_10 : decode cX11_ends 10 = .ok (.getfield 62, 3) := by decide +kernel
theorem dX11_ends_13 : decode cX11_ends 13 = .ok (.invokevirtual 72, 3) := by decide +kernel
theorem dX11_ends_16 : decode cX11_ends 16 = .ok (.return_, 1) := by decide +kernel
theorem dX11_ends_17 : decode cX11_ends 17 = .ok (.aload_n 0, 1) := by decide +kernel
theorem dX11_ends_18 : decode cX11_ends 18 = .ok (.getfield 36, 3) := by decide +kernel
theorem dX11_ends_21 : decode cX11_ends 21 = .ok (.aload_n 0, 1) := by decide +kernel
theorem dX11_ends_22 : decode cX11_ends 22 = .ok (.getfield 108, 3) := by decide +kernel
theorem dX11_ends_25 : decode cX11_ends 25 = .ok (.iconst 1, 1) := by decide +kernel
theorem dX11_ends_26 : decode cX11_ends 26 = .ok (.isub, 1) := by decide +kernel
theorem dX11_ends_27 : decode cX11_ends 27 = .ok (.dup2, 1) := by decide +kernel
theorem dX11_ends_28 : decode cX11_ends 28 = .ok (.iaload, 1) := by decide +kernel
theorem dX11_ends_29 : decode cX11_ends 29 = .ok (.iconst 1, 1) := by decide +kernel
theorem dX11_ends_30 : decode cX11_ends 30 = .ok (.isub, 1) := by decide +kernel
theorem dX11_ends_31 : decode cX11_ends 31 = .ok (.iastore, 1) := by decide +kernel
theorem dX11_ends_32 : decode cX11_ends 32 = .ok (.aload_n 0, 1) := by decide +kernel
theorem dX11_ends_33 : decode cX11_ends 33 = .ok (.getfield 36, 3) := by decide +kernel
theorem dX11_ends_36 : decode cX11_ends 36 = .ok (.aload_n 0, 1) := by decide +kernel
theorem dX11_ends_37 : decode cX11_ends 37 = .ok (.getfield 108, 3) := by decide +kernel
theorem dX11_ends_40 : decode cX11_ends 40 = .ok (.iconst 1, 1) := by decide +kernel
theorem dX11_ends_41 : decode cX11_ends 41 = .ok (.isub, 1) := by decide +kernel
theorem dX11_ends_42 : decode cX11_ends 42 = .ok (.iaload, 1) := by decide +kernel
theorem dX11_ends_43 : decode cX11_ends 43 = .ok (.ifCond .le 21, 3) := by decide +kernel
theorem dX11_ends_46 : decode cX11_ends 46 = .ok (.aload_n 0, 1) := by decide +kernel
theorem dX11_ends_47 : decode cX11_ends 47 = .ok (.aload_n 0, 1) := by decide +kernel
theorem dX11_ends_48 : decode cX11_ends 48 = .ok (.getfield 33, 3) := by decide +kernel
theorem dX11_ends_51 : decode cX11_ends 51 = .ok (.aload_n 0, 1) := by decide +kernel
theorem dX11_ends_52 : decode cX11_ends 52 = .ok (.getfield 108, 3) := by decide +kernel
theorem dX11_ends_55 : decode cX11_ends 55 = .ok (.iconst 1, 1) := by decide +kernel
theorem dX11_ends_56 : decode cX11_ends 56 = .ok (.isub, 1) := by decide +kernel
theorem dX11_ends_57 : decode cX11_ends 57 = .ok (.iaload, 1) := by decide +kernel
theorem dX11_ends_58 : decode cX11_ends 58 = .ok (.putfield 62, 3) := by decide +kernel
theorem dX11_ends_61 : decode cX11_ends 61 = .ok (.goto 23, 3) := by decide +kernel
theorem dX11_ends_64 : decode cX11_ends 64 = .ok (.aload_n 0, 1) := by decide +kernel
theorem dX11_ends_65 : decode cX11_ends 65 = .ok (.dup, 1) := by decide +kernel
theorem dX11_ends_66 : decode cX11_ends 66 = .ok (.getfield 62, 3) := by decide +kernel
theorem dX11_ends_69 : decode cX11_ends 69 = .ok (.iconst 1, 1) := by decide +kernel
theorem dX11_ends_70 : decode cX11_ends 70 = .ok (.iadd, 1) := by decide +kernel
theorem dX11_ends_71 : decode cX11_ends 71 = .ok (.putfield 62, 3) := by decide +kernel
theorem dX11_ends_74 : decode cX11_ends 74 = .ok (.aload_n 0, 1) := by decide +kernel
theorem dX11_ends_75 : decode cX11_ends 75 = .ok (.dup, 1) := by decide +kernel
theorem dX11_ends_76 : decode cX11_ends 76 = .ok (.getfield 108, 3) := by decide +kernel
theorem dX11_ends_79 : decode cX11_ends 79 = .ok (.iconst 1, 1) := by decide +kernel
theorem dX11_ends_80 : decode cX11_ends 80 = .ok (.isub, 1) := by decide +kernel
theorem dX11_ends_81 : decode cX11_ends 81 = .ok (.putfield 108, 3) := by decide +kernel
theorem dX11_ends_84 : decode cX11_ends 84 = .ok (.return_, 1) := by decide +kernel
theorem dX11_score_0 : decode cX11_score 0 = .ok (.aload_n 0, 1) := by decide +kernel
theorem dX11_score_1 : decode cX11_score 1 = .ok (.iconst 0, 1) := by decide +kernel
theorem dX11_score_2 : decode cX11_score 2 = .ok (.putfield 62, 3) := by decide +kernel
theorem dX11_score_5 : decode cX11_score 5 = .ok (.aload_n 0, 1) := by decide +kernel
theorem dX11_score_6 : decode cX11_score 6 = .ok (.aload_n 0, 1) := by decide +kernel
theorem dX11_score_7 : decode cX11_score 7 = .ok (.getfield 52, 3) := by decide +kernel
theorem dX11_score_10 : decode cX11_score 10 = .ok (.putfield 65, 3) := by decide +kernel
theorem dX11_score_13 : decode cX11_score 13 = .ok (.aload_n 0, 1) := by decide +kernel
theorem dX11_score_14 : decode cX11_score 14 = .ok (.iconst 0, 1) := by decide +kernel
theorem dX11_score_15 : decode cX11_score 15 = .ok (.putfield 52, 3) := by decide +kernel
theorem dX11_score_18 : decode cX11_score 18 = .ok (.aload_n 0, 1) := by decide +kernel
theorem dX11_score_19 : decode cX11_score 19 = .ok (.iconst 0, 1) := by decide +kernel
theorem dX11_score_20 : decode cX11_score 20 = .ok (.putfield 56, 3) := by decide +kernel
theorem dX11_score_23 : decode cX11_score 23 = .ok (.aload_n 0, 1) := by decide +kernel
theorem dX11_score_24 : decode cX11_score 24 = .ok (.iconst (-1), 1) := by decide +kernel
theorem dX11_score_25 : decode cX11_score 25 = .ok (.putfield 59, 3) := by decide +kernel
theorem dX11_score_28 : decode cX11_score 28 = .ok (.aload_n 0, 1) := by decide +kernel
theorem dX11_score_29 : decode cX11_score 29 = .ok (.iconst 0, 1) := by decide +kernel
theorem dX11_score_30 : decode cX11_score 30 = .ok (.putfield 90, 3) := by decide +kernel
theorem dX11_score_33 : decode cX11_score 33 = .ok (.aload_n 0, 1) := by decide +kernel
theorem dX11_score_34 : decode cX11_score 34 = .ok (.iconst 0, 1) := by decide +kernel
theorem dX11_score_35 : decode cX11_score 35 = .ok (.putfield 93, 3) := by decide +kernel
theorem dX11_score_38 : decode cX11_score 38 = .ok (.aload_n 0, 1) := by decide +kernel
theorem dX11_score_39 : decode cX11_score 39 = .ok (.iconst 0, 1) := by decide +kernel
theorem dX11_score_40 : decode cX11_score 40 = .ok (.putfield 108, 3) := by decide +kernel
theorem dX11_score_43 : decode cX11_score 43 = .ok (.aload_n 0, 1) := by decide +kernel
theorem dX11_score_44 : decode cX11_score 44 = .ok (.iconst 4, 1) := by decide +kernel
theorem dX11_score_45 : decode cX11_score 45 = .ok (.putfield 87, 3) := by decide +kernel
theorem dX11_score_48 : decode cX11_score 48 = .ok (.iconst 0, 1) := by decide +kernel
theorem dX11_score_49 : decode cX11_score 49 = .ok (.istore_n 1, 1) := by decide +kernel
theorem dX11_score_50 : decode cX11_score 50 = .ok (.iload_n 1, 1) := by decide +kernel
theorem dX11_score_51 : decode cX11_score 51 = .ok (.sipush 1001, 3) := by decide +kernel
theorem dX11_score_54 : decode cX11_score 54 = .ok (.if_icmp .ge 16, 3) := by decide +kernel
theorem dX11_score_57 : decode cX11_score 57 = .ok (.aload_n 0, 1) := by decide +kernel
theorem dX11_score_58 : decode cX11_score 58 = .ok (.getfield 30, 3) := by decide +kernel
theorem dX11_score_61 : decode cX11_score 61 = .ok (.iload_n 1, 1) := by decide +kernel
theorem dX11_score_62 : decode cX11_score 62 = .ok (.iconst 0, 1) := by decide +kernel
theorem dX11_score_63 : decode cX11_score 63 = .ok (.iastore, 1) := by decide +kernel
theorem dX11_score_64 : decode cX11_score 64 = .ok (.iinc 1 1, 3) := by decide +kernel
theorem dX11_score_67 : decode cX11_score 67 = .ok (.goto (-17), 3) := by decide +kernel
theorem dX11_score_70 : decode cX11_score 70 = .ok (.aload_n 0, 1) := by decide +kernel
theorem dX11_score_71 : decode cX11_score 71 = .ok (.getfield 56, 3) := by decide +kernel
theorem dX11_score_74 : decode cX11_score 74 = .ok (.ifCond .ne 50, 3) := by decide +kernel
theorem dX11_score_77 : decode cX11_score 77 = .ok (.aload_n 0, 1) := by decide +kernel
theorem dX11_score_78 : decode cX11_score 78 = .ok (.invokevirtual 68, 3) := by decide +kernel
theorem dX11_score_81 : decode cX11_score 81 = .ok (.iconst (-1), 1) := by decide +kernel
theorem dX11_score_82 : decode cX11_score 82 = .ok (.if_icmp .eq 42, 3) := by decide +kernel
theorem dX11_score_85 : decode cX11_score 85 = .ok (.aload_n 0, 1) := by decide +kernel
theorem dX11_score_86 : decode cX11_score 86 = .ok (.invokevirtual 68, 3) := by decide +kernel
theorem dX11_score_89 : decode cX11_score 89 = .ok (.istore_n 1, 1) := by decide +kernel
theorem dX11_score_90 : decode cX11_score 90 = .ok (.iload_n 1, 1) := by decide +kernel
theorem dX11_score_91 : decode cX11_score 91 = .ok (.invokestatic 79, 3) := by decide +kernel
theorem dX11_score_94 : decode cX11_score 94 = .ok (.ifCond .eq 10, 3) := by decide +kernel
theorem dX11_score_97 : decode cX11_score 97 = .ok (.aload_n 0, 1) := by decide +kernel
theorem dX11_score_98 : decode cX11_score 98 = .ok (.invokevirtual 111, 3) := by decide +kernel
theorem dX11_score_101 : decode cX11_score 101 = .ok (.goto 20, 3) := by decide +kernel
theorem dX11_score_104 : decode cX11_score 104 = .ok (.iload_n 1, 1) := by decide +kernel
theorem dX11_score_105 : decode cX11_score 105 = .ok (.bipush 125, 2) := by decide +kernel
theorem dX11_score_107 : decode cX11_score 107 = .ok (.if_icmp .ne 10, 3) := by decide +kernel
theorem dX11_score_110 : decode cX11_score 110 = .ok (.aload_n 0, 1) := by decide +kernel
theorem dX11_score_111 : decode cX11_score 111 = .ok (.invokevirtual 114, 3) := by decide +kernel
theorem dX11_score_114 : decode cX11_score 114 = .ok (.goto 7, 3) := by decide +kernel
theorem dX11_score_117 : decode cX11_score 117 = .ok (.aload_n 0, 1) := by decide +kernel
theorem dX11_score_118 : decode cX11_score 118 = .ok (.invokevirtual 117, 3) := by decide +kernel
theorem dX11_score_121 : decode cX11_score 121 = .ok (.goto (-51), 3) := by decide +kernel
theorem dX11_score_124 : decode cX11_score 124 = .ok (.aload_n 0, 1) := by decide +kernel
theorem dX11_score_125 : decode cX11_score 125 = .ok (.getfield 56, 3) := by decide +kernel
theorem dX11_score_128 : decode cX11_score 128 = .ok (.ifCond .ne 19, 3) := by decide +kernel
theorem dX11_score_131 : decode cX11_score 131 = .ok (.aload_n 0, 1) := by decide +kernel
theorem dX11_score_132 : decode cX11_score 132 = .ok (.getfield 108, 3) := by decide +kernel
theorem dX11_score_135 : decode cX11_score 135 = .ok (.ifCond .le 12, 3) := by decide +kernel
theorem dX11_score_138 : decode cX11_score 138 = .ok (.aload_n 0, 1) := by decide +kernel
theorem dX11_score_139 : decode cX11_score 139 = .ok (.iconst 1, 1) := by decide +kernel
theorem dX11_score_140 : decode cX11_score 140 = .ok (.aload_n 0, 1) := by decide +kernel
theorem dX11_score_141 : decode cX11_score 141 = .ok (.getfield 65, 3) := by decide +kernel
theorem dX11_score_144 : decode cX11_score 144 = .ok (.invokevirtual 72, 3) := by decide +kernel
theorem dX11_score_147 : decode cX11_score 147 = .ok (.aload_n 0, 1) := by decide +kernel
theorem dX11_score_148 : decode cX11_score 148 = .ok (.getfield 7, 3) := by decide +kernel
theorem dX11_score_151 : decode cX11_score 151 = .ok (.sipush 231, 3) := by decide +kernel
theorem dX11_score_154 : decode cX11_score 154 = .ok (.aload_n 0, 1) := by decide +kernel
theorem dX11_score_155 : decode cX11_score 155 = .ok (.getfield 56, 3) := by decide +kernel
theorem dX11_score_158 : decode cX11_score 158 = .ok (.iastore, 1) := by decide +kernel
theorem dX11_score_159 : decode cX11_score 159 = .ok (.aload_n 0, 1) := by decide +kernel
theorem dX11_score_160 : decode cX11_score 160 = .ok (.getfield 7, 3) := by decide +kernel
theorem dX11_score_163 : decode cX11_score 163 = .ok (.sipush 232, 3) := by decide +kernel
theorem dX11_score_166 : decode cX11_score 166 = .ok (.aload_n 0, 1) := by decide +kernel
theorem dX11_score_167 : decode cX11_score 167 = .ok (.getfield 59, 3) := by decide +kernel
theorem dX11_score_170 : decode cX11_score 170 = .ok (.iastore, 1) := by decide +kernel
theorem dX11_score_171 : decode cX11_score 171 = .ok (.aload_n 0, 1) := by decide +kernel
theorem dX11_score_172 : decode cX11_score 172 = .ok (.getfield 56, 3) := by decide +kernel
theorem dX11_score_175 : decode cX11_score 175 = .ok (.ifCond .eq 5, 3) := by decide +kernel
theorem dX11_score_178 : decode cX11_score 178 = .ok (.iconst (-1), 1) := by decide +kernel
theorem dX11_score_179 : decode cX11_score 179 = .ok (.ireturn, 1) := by decide +kernel
theorem dX11_score_180 : decode cX11_score 180 = .ok (.aload_n 0, 1) := by decide +kernel
theorem dX11_score_181 : decode cX11_score 181 = .ok (.getfield 7, 3) := by decide +kernel
theorem dX11_score_184 : decode cX11_score 184 = .ok (.iconst 0, 1) := by decide +kernel
theorem dX11_score_185 : decode cX11_score 185 = .ok (.aload_n 0, 1) := by decide +kernel
theorem dX11_score_186 : decode cX11_score 186 = .ok (.getfield 90, 3) := by decide +kernel
theorem dX11_score_189 : decode cX11_score 189 = .ok (.iastore, 1) := by decide +kernel
theorem dX11_score_190 : decode cX11_score 190 = .ok (.aload_n 0, 1) := by decide +kernel
theorem dX11_score_191 : decode cX11_score 191 = .ok (.getfield 7, 3) := by decide +kernel
theorem dX11_score_194 : decode cX11_score 194 = .ok (.iconst 1, 1) := by decide +kernel
theorem dX11_score_195 : decode cX11_score 195 = .ok (.aload_n 0, 1) := by decide +kernel
theorem dX11_score_196 : decode cX11_score 196 = .ok (.getfield 93, 3) := by decide +kernel
theorem dX11_score_199 : decode cX11_score 199 = .ok (.iastore, 1) := by decide +kernel
theorem dX11_score_200 : decode cX11_score 200 = .ok (.iconst 0, 1) := by decide +kernel
theorem dX11_score_201 : decode cX11_score 201 = .ok (.istore_n 1, 1) := by decide +kernel
theorem dX11_score_202 : decode cX11_score 202 = .ok (.iload_n 1, 1) := by decide +kernel
theorem dX11_score_203 : decode cX11_score 203 = .ok (.bipush 100, 2) := by decide +kernel
theorem dX11_score_205 : decode cX11_score 205 = .ok (.if_icmp .ge 62, 3) := by decide +kernel
theorem dX11_score_208 : decode cX11_score 208 = .ok (.aload_n 0, 1) := by decide +kernel
theorem dX11_score_209 : decode cX11_score 209 = .ok (.getfield 7, 3) := by decide +kernel
theorem dX11_score_212 : decode cX11_score 212 = .ok (.iconst 2, 1) := by decide +kernel
theorem dX11_score_213 : decode cX11_score 213 = .ok (.iload_n 1, 1) := by decide +kernel
theorem dX11_score_214 : decode cX11_score 214 = .ok (.iadd, 1) := by decide +kernel
theorem dX11_score_215 : decode cX11_score 215 = .ok (.iload_n 1, 1) := by decide +kernel
theorem dX11_score_216 : decode cX11_score 216 = .ok (.aload_n 0, 1) := by decide +kernel
theorem dX11_score_217 : decode cX11_score 217 = .ok (.getfield 90, 3) := by decide +kernel
theorem dX11_score_220 : decode cX11_score 220 = .ok (.if_icmp .ge 12, 3) := by decide +kernel
theorem dX11_score_223 : decode cX11_score 223 = .ok (.aload_n 0, 1) := by decide +kernel
theorem dX11_score_224 : decode cX11_score 224 = .ok (.getfield 24, 3) := by decide +kernel
theorem dX11_score_227 : decode cX11_score 227 = .ok (.iload_n 1, 1) := by decide +kernel
theorem dX11_score_228 : decode cX11_score 228 = .ok (.iaload, 1) := by decide +kernel
theorem dX11_score_229 : decode cX11_score 229 = .ok (.goto 4, 3) := by decide +kernel
theorem dX11_score_232 : decode cX11_score 232 = .ok (.iconst 0, 1) := by decide +kernel
theorem dX11_score_233 : decode cX11_score 233 = .ok (.iastore, 1) := by decide +kernel
theorem dX11_score_234 : decode cX11_score 234 = .ok (.aload_n 0, 1) := by decide +kernel
theorem dX11_score_235 : decode cX11_score 235 = .ok (.getfield 7, 3) := by decide +kernel
theorem dX11_score_238 : decode cX11_score 238 = .ok (.bipush 102, 2) := by decide +kernel
theorem dX11_score_240 : decode cX11_score 240 = .ok (.iload_n 1, 1) := by decide +kernel
theorem dX11_score_241 : decode cX11_score 241 = .ok (.iadd, 1) := by decide +kernel
theorem dX11_score_242 : decode cX11_score 242 = .ok (.iload_n 1, 1) := by decide +kernel
theorem dX11_score_243 : decode cX11_score 243 = .ok (.aload_n 0, 1) := by decide +kernel
theorem dX11_score_244 : decode cX11_score 244 = .ok (.getfield 90, 3) := by decide +kernel
theorem dX11_score_247 : decode cX11_score 247 = .ok (.if_icmp .ge 12, 3) := by decide +kernel
theorem dX11_score_250 : decode cX11_score 250 = .ok (.aload_n 0, 1) := by decide +kernel
theorem dX11_score_251 : decode cX11_score 251 = .ok (.getfield 27, 3) := by decide +kernel
theorem dX11_score_254 : decode cX11_score 254 = .ok (.iload_n 1, 1) := by decide +kernel
theorem dX11_score_255 : decode cX11_score 255 = .ok (.iaload, 1) := by decide +kernel
theorem dX11_score_256 : decode cX11_score 256 = .ok (.goto 4, 3) := by decide +kernel
theorem dX11_score_259 : decode cX11_score 259 = .ok (.iconst 0, 1) := by decide +kernel
theorem dX11_score_260 : decode cX11_score 260 = .ok (.iastore, 1) := by decide +kernel
theorem dX11_score_261 : decode cX11_score 261 = .ok (.iinc 1 1, 3) := by decide +kernel
theorem dX11_score_264 : decode cX11_score 264 = .ok (.goto (-62), 3) := by decide +kernel
theorem dX11_score_267 : decode cX11_score 267 = .ok (.aload_n 0, 1) := by decide +kernel
theorem dX11_score_268 : decode cX11_score 268 = .ok (.getfield 90, 3) := by decide +kernel
theorem dX11_score_271 : decode cX11_score 271 = .ok (.ireturn, 1) := by decide +kernel
theorem dX11_fault_0 : decode cX11_fault 0 = .ok (.iload_n 1, 1) := by decide +kernel
theorem dX11_fault_1 : decode cX11_fault 1 = .ok (.ifCond .ne 14, 3) := by decide +kernel
theorem dX11_fault_4 : decode cX11_fault 4 = .ok (.aload_n 0, 1) := by decide +kernel
theorem dX11_fault_5 : decode cX11_fault 5 = .ok (.getfield 7, 3) := by decide +kernel
theorem dX11_fault_8 : decode cX11_fault 8 = .ok (.sipush 231, 3) := by decide +kernel
theorem dX11_fault_11 : decode cX11_fault 11 = .ok (.iaload, 1) := by decide +kernel
theorem dX11_fault_12 : decode cX11_fault 12 = .ok (.goto 20, 3) := by decide +kernel
theorem dX11_fault_15 : decode cX11_fault 15 = .ok (.iload_n 1, 1) := by decide +kernel
theorem dX11_fault_16 : decode cX11_fault 16 = .ok (.iconst 1, 1) := by decide +kernel
theorem dX11_fault_17 : decode cX11_fault 17 = .ok (.if_icmp .ne 14, 3) := by decide +kernel
theorem dX11_fault_20 : decode cX11_fault 20 = .ok (.aload_n 0, 1) := by decide +kernel
theorem dX11_fault_21 : decode cX11_fault 21 = .ok (.getfield 7, 3) := by decide +kernel
theorem dX11_fault_24 : decode cX11_fault 24 = .ok (.sipush 232, 3) := by decide +kernel
theorem dX11_fault_27 : decode cX11_fault 27 = .ok (.iaload, 1) := by decide +kernel
theorem dX11_fault_28 : decode cX11_fault 28 = .ok (.goto 4, 3) := by decide +kernel
theorem dX11_fault_31 : decode cX11_fault 31 = .ok (.iconst (-1), 1) := by decide +kernel
theorem dX11_fault_32 : decode cX11_fault 32 = .ok (.ireturn, 1) := by decide +kernel
theorem dX11_strike_0 : decode cX11_strike 0 = .ok (.iload_n 1, 1) := by decide +kernel
theorem dX11_strike_1 : decode cX11_strike 1 = .ok (.ifCond .lt 13, 3) := by decide +kernel
theorem dX11_strike_4 : decode cX11_strike 4 = .ok (.iload_n 1, 1) := by decide +kernel
theorem dX11_strike_5 : decode cX11_strike 5 = .ok (.aload_n 0, 1) := by decide +kernel
theorem dX11_strike_6 : decode cX11_strike 6 = .ok (.getfield 7, 3) := by decide +kernel
theorem dX11_strike_9 : decode cX11_strike 9 = .ok (.iconst 0, 1) := by decide +kernel
theorem dX11_strike_10 : decode cX11_strike 10 = .ok (.iaload, 1) := by decide +kernel
theorem dX11_strike_11 : decode cX11_strike 11 = .ok (.if_icmp .lt 5, 3) := by decide +kernel
theorem dX11_strike_14 : decode cX11_strike 14 = .ok (.iconst (-1), 1) := by decide +kernel
theorem dX11_strike_15 : decode cX11_strike 15 = .ok (.ireturn, 1) := by decide +kernel
theorem dX11_strike_16 : decode cX11_strike 16 = .ok (.iload_n 2, 1) := by decide +kernel
theorem dX11_strike_17 : decode cX11_strike 17 = .ok (.ifCond .ne 14, 3) := by decide +kernel
theorem dX11_strike_20 : decode cX11_strike 20 = .ok (.aload_n 0, 1) := by decide +kernel
theorem dX11_strike_21 : decode cX11_strike 21 = .ok (.getfield 7, 3) := by decide +kernel
theorem dX11_strike_24 : decode cX11_strike 24 = .ok (.iconst 2, 1) := by decide +kernel
theorem dX11_strike_25 : decode cX11_strike 25 = .ok (.iload_n 1, 1) := by decide +kernel
theorem dX11_strike_26 : decode cX11_strike 26 = .ok (.iadd, 1) := by decide +kernel
theorem dX11_strike_27 : decode cX11_strike 27 = .ok (.iaload, 1) := by decide +kernel
theorem dX11_strike_28 : decode cX11_strike 28 = .ok (.goto 21, 3) := by decide +kernel
theorem dX11_strike_31 : decode cX11_strike 31 = .ok (.iload_n 2, 1) := by decide +kernel
theorem dX11_strike_32 : decode cX11_strike 32 = .ok (.iconst 1, 1) := by decide +kernel
theorem dX11_strike_33 : decode cX11_strike 33 = .ok (.if_icmp .ne 15, 3) := by decide +kernel
theorem dX11_strike_36 : decode cX11_strike 36 = .ok (.aload_n 0, 1) := by decide +kernel
theorem dX11_strike_37 : decode cX11_strike 37 = .ok (.getfield 7, 3) := by decide +kernel
theorem dX11_strike_40 : decode cX11_strike 40 = .ok (.bipush 102, 2) := by decide +kernel
theorem dX11_strike_42 : decode cX11_strike 42 = .ok (.iload_n 1, 1) := by decide +kernel
theorem dX11_strike_43 : decode cX11_strike 43 = .ok (.iadd, 1) := by decide +kernel
theorem dX11_strike_44 : decode cX11_strike 44 = .ok (.iaload, 1) := by decide +kernel
theorem dX11_strike_45 : decode cX11_strike 45 = .ok (.goto 4, 3) := by decide +kernel
theorem dX11_strike_48 : decode cX11_strike 48 = .ok (.iconst (-1), 1) := by decide +kernel
theorem dX11_strike_49 : decode cX11_strike 49 = .ok (.ireturn, 1) := by decide +kernel
theorem dX11_place_0 : decode cX11_place 0 = .ok (.iload_n 1, 1) := by decide +kernel
theorem dX11_place_1 : decode cX11_place 1 = .ok (.bipush 101, 2) := by decide +kernel
theorem dX11_place_3 : decode cX11_place 3 = .ok (.imul, 1) := by decide +kernel
theorem dX11_place_4 : decode cX11_place 4 = .ok (.iload_n 2, 1) := by decide +kernel
theorem dX11_place_5 : decode cX11_place 5 = .ok (.iadd, 1) := by decide +kernel
theorem dX11_place_6 : decode cX11_place 6 = .ok (.bipush 101, 2) := by decide +kernel
theorem dX11_place_8 : decode cX11_place 8 = .ok (.imul, 1) := by decide +kernel
theorem dX11_place_9 : decode cX11_place 9 = .ok (.iload_n 3, 1) := by decide +kernel
theorem dX11_place_10 : decode cX11_place 10 = .ok (.iadd, 1) := by decide +kernel
theorem dX11_place_11 : decode cX11_place 11 = .ok (.ireturn, 1) := by decide +kernel
theorem dX11_moves_0 : decode cX11_moves 0 = .ok (.iload_n 1, 1) := by decide +kernel
theorem dX11_moves_1 : decode cX11_moves 1 = .ok (.ifCond .ne 5, 3) := by decide +kernel
theorem dX11_moves_4 : decode cX11_moves 4 = .ok (.iconst 0, 1) := by decide +kernel
theorem dX11_moves_5 : decode cX11_moves 5 = .ok (.ireturn, 1) := by decide +kernel
theorem dX11_moves_6 : decode cX11_moves 6 = .ok (.aload_n 0, 1) := by decide +kernel
theorem dX11_moves_7 : decode cX11_moves 7 = .ok (.getfield 7, 3) := by decide +kernel
theorem dX11_moves_10 : decode cX11_moves 10 = .ok (.iconst 2, 1) := by decide +kernel
theorem dX11_moves_11 : decode cX11_moves 11 = .ok (.iload_n 2, 1) := by decide +kernel
theorem dX11_moves_12 : decode cX11_moves 12 = .ok (.iadd, 1) := by decide +kernel
theorem dX11_moves_13 : decode cX11_moves 13 = .ok (.iaload, 1) := by decide +kernel
theorem dX11_moves_14 : decode cX11_moves 14 = .ok (.aload_n 0, 1) := by decide +kernel
theorem dX11_moves_15 : decode cX11_moves 15 = .ok (.getfield 7, 3) := by decide +kernel
theorem dX11_moves_18 : decode cX11_moves 18 = .ok (.iconst 2, 1) := by decide +kernel
theorem dX11_moves_19 : decode cX11_moves 19 = .ok (.iload_n 1, 1) := by decide +kernel
theorem dX11_moves_20 : decode cX11_moves 20 = .ok (.iadd, 1) := by decide +kernel
theorem dX11_moves_21 : decode cX11_moves 21 = .ok (.iconst 1, 1) := by decide +kernel
theorem dX11_moves_22 : decode cX11_moves 22 = .ok (.isub, 1) := by decide +kernel
theorem dX11_moves_23 : decode cX11_moves 23 = .ok (.iaload, 1) := by decide +kernel
theorem dX11_moves_24 : decode cX11_moves 24 = .ok (.isub, 1) := by decide +kernel
theorem dX11_moves_25 : decode cX11_moves 25 = .ok (.istore 4, 2) := by decide +kernel
theorem dX11_moves_27 : decode cX11_moves 27 = .ok (.aload_n 0, 1) := by decide +kernel
theorem dX11_moves_28 : decode cX11_moves 28 = .ok (.getfield 7, 3) := by decide +kernel
theorem dX11_moves_31 : decode cX11_moves 31 = .ok (.bipush 102, 2) := by decide +kernel
theorem dX11_moves_33 : decode cX11_moves 33 = .ok (.iload_n 2, 1) := by decide +kernel
theorem dX11_moves_34 : decode cX11_moves 34 = .ok (.iadd, 1) := by decide +kernel
theorem dX11_moves_35 : decode cX11_moves 35 = .ok (.iaload, 1) := by decide +kernel
theorem dX11_moves_36 : decode cX11_moves 36 = .ok (.aload_n 0, 1) := by decide +kernel
theorem dX11_moves_37 : decode cX11_moves 37 = .ok (.getfield 7, 3) := by decide +kernel
theorem dX11_moves_40 : decode cX11_moves 40 = .ok (.bipush 102, 2) := by decide +kernel
theorem dX11_moves_42 : decode cX11_moves 42 = .ok (.iload_n 1, 1) := by decide +kernel
theorem dX11_moves_43 : decode cX11_moves 43 = .ok (.iadd, 1) := by decide +kernel
theorem dX11_moves_44 : decode cX11_moves 44 = .ok (.iconst 1, 1) := by decide +kernel
theorem dX11_moves_45 : decode cX11_moves 45 = .ok (.isub, 1) := by decide +kernel
theorem dX11_moves_46 : decode cX11_moves 46 = .ok (.iaload, 1) := by decide +kernel
theorem dX11_moves_47 : decode cX11_moves 47 = .ok (.isub, 1) := by decide +kernel
theorem dX11_moves_48 : decode cX11_moves 48 = .ok (.istore 5, 2) := by decide +kernel
theorem dX11_moves_50 : decode cX11_moves 50 = .ok (.iload 5, 2) := by decide +kernel
theorem dX11_moves_52 : decode cX11_moves 52 = .ok (.ifCond .ge 8, 3) := by decide +kernel
theorem dX11_moves_55 : decode cX11_moves 55 = .ok (.iload 5, 2) := by decide +kernel
theorem dX11_moves_57 : decode cX11_moves 57 = .ok (.ineg, 1) := by decide +kernel
theorem dX11_moves_58 : decode cX11_moves 58 = .ok (.istore 5, 2) := by decide +kernel
theorem dX11_moves_60 : decode cX11_moves 60 = .ok (.iload 4, 2) := by decide +kernel
theorem dX11_moves_62 : decode cX11_moves 62 = .ok (.iconst 1, 1) := by decide +kernel
theorem dX11_moves_63 : decode cX11_moves 63 = .ok (.if_icmp .lt 12, 3) := by decide +kernel
theorem dX11_moves_66 : decode cX11_moves 66 = .ok (.iload 5, 2) := by decide +kernel
theorem dX11_moves_68 : decode cX11_moves 68 = .ok (.iload_n 3, 1) := by decide +kernel
theorem dX11_moves_69 : decode cX11_moves 69 = .ok (.iload 4, 2) := by decide +kernel
theorem dX11_moves_71 : decode cX11_moves 71 = .ok (.imul, 1) := by decide +kernel
theorem dX11_moves_72 : decode cX11_moves 72 = .ok (.if_icmp .le 8, 3) := by decide +kernel
theorem dX11_moves_75 : decode cX11_moves 75 = .ok (.ldc 120, 2) := by decide +kernel
theorem dX11_moves_77 : decode cX11_moves 77 = .ok (.goto 5, 3) := by decide +kernel
theorem dX11_moves_80 : decode cX11_moves 80 = .ok (.iload 5, 2) := by decide +kernel
theorem dX11_moves_82 : decode cX11_moves 82 = .ok (.ireturn, 1) := by decide +kernel
theorem dX11_isCrossed_0 : decode cX11_isCrossed 0 = .ok (.iload_n 1, 1) := by decide +kernel
theorem dX11_isCrossed_1 : decode cX11_isCrossed 1 = .ok (.ifCond .le 59, 3) := by decide +kernel
theorem dX11_isCrossed_4 : decode cX11_isCrossed 4 = .ok (.iload_n 2, 1) := by decide +kernel
theorem dX11_isCrossed_5 : decode cX11_isCrossed 5 = .ok (.ifCond .le 55, 3) := by decide +kernel
theorem dX11_isCrossed_8 : decode cX11_isCrossed 8 = .ok (.aload_n 0, 1) := by decide +kernel
theorem dX11_isCrossed_9 : decode cX11_isCrossed 9 = .ok (.getfield 7, 3) := by decide +kernel
theorem dX11_isCrossed_12 : decode cX11_isCrossed 12 = .ok (.iconst 2, 1) := by decide +kernel
theorem dX11_isCrossed_13 : decode cX11_isCrossed 13 = .ok (.iload_n 1, 1) := by decide +kernel
theorem dX11_isCrossed_14 : decode cX11_isCrossed 14 = .ok (.iadd, 1) := by decide +kernel
theorem dX11_isCrossed_15 : decode cX11_isCrossed 15 = .ok (.iconst 1, 1) := by decide +kernel
theorem dX11_isCrossed_16 : decode cX11_isCrossed 16 = .ok (.isub, 1) := by decide +kernel
theorem dX11_isCrossed_17 : decode cX11_isCrossed 17 = .ok (.iaload, 1) := by decide +kernel
theorem dX11_isCrossed_18 : decode cX11_isCrossed 18 = .ok (.aload_n 0, 1) := by decide +kernel
theorem dX11_isCrossed_19 : decode cX11_isCrossed 19 = .ok (.getfield 7, 3) := by decide +kernel
theorem dX11_isCrossed_22 : decode cX11_isCrossed 22 = .ok (.iconst 2, 1) := by decide +kernel
theorem dX11_isCrossed_23 : decode cX11_isCrossed 23 = .ok (.iload_n 2, 1) := by decide +kernel
theorem dX11_isCrossed_24 : decode cX11_isCrossed 24 = .ok (.iadd, 1) := by decide +kernel
theorem dX11_isCrossed_25 : decode cX11_isCrossed 25 = .ok (.iconst 1, 1) := by decide +kernel
theorem dX11_isCrossed_26 : decode cX11_isCrossed 26 = .ok (.isub, 1) := by decide +kernel
theorem dX11_isCrossed_27 : decode cX11_isCrossed 27 = .ok (.iaload, 1) := by decide +kernel
theorem dX11_isCrossed_28 : decode cX11_isCrossed 28 = .ok (.if_icmp .ne 32, 3) := by decide +kernel
theorem dX11_isCrossed_31 : decode cX11_isCrossed 31 = .ok (.aload_n 0, 1) := by decide +kernel
theorem dX11_isCrossed_32 : decode cX11_isCrossed 32 = .ok (.getfield 7, 3) := by decide +kernel
theorem dX11_isCrossed_35 : decode cX11_isCrossed 35 = .ok (.bipush 102, 2) := by decide +kernel
theorem dX11_isCrossed_37 : decode cX11_isCrossed 37 = .ok (.iload_n 1, 1) := by decide +kernel
theorem dX11_isCrossed_38 : decode cX11_isCrossed 38 = .ok (.iadd, 1) := by decide +kernel
theorem dX11_isCrossed_39 : decode cX11_isCrossed 39 = .ok (.iconst 1, 1) := by decide +kernel
theorem dX11_isCrossed_40 : decode cX11_isCrossed 40 = .ok (.isub, 1) := by decide +kernel
theorem dX11_isCrossed_41 : decode cX11_isCrossed 41 = .ok (.iaload, 1) := by decide +kernel
theorem dX11_isCrossed_42 : decode cX11_isCrossed 42 = .ok (.aload_n 0, 1) := by decide +kernel
theorem dX11_isCrossed_43 : decode cX11_isCrossed 43 = .ok (.getfield 7, 3) := by decide +kernel
theorem dX11_isCrossed_46 : decode cX11_isCrossed 46 = .ok (.bipush 102, 2) := by decide +kernel
theorem dX11_isCrossed_48 : decode cX11_isCrossed 48 = .ok (.iload_n 2, 1) := by decide +kernel
theorem dX11_isCrossed_49 : decode cX11_isCrossed 49 = .ok (.iadd, 1) := by decide +kernel
theorem dX11_isCrossed_50 : decode cX11_isCrossed 50 = .ok (.iconst 1, 1) := by decide +kernel
theorem dX11_isCrossed_51 : decode cX11_isCrossed 51 = .ok (.isub, 1) := by decide +kernel
theorem dX11_isCrossed_52 : decode cX11_isCrossed 52 = .ok (.iaload, 1) := by decide +kernel
theorem dX11_isCrossed_53 : decode cX11_isCrossed 53 = .ok (.if_icmp .lt 7, 3) := by decide +kernel
theorem dX11_isCrossed_56 : decode cX11_isCrossed 56 = .ok (.iconst 1, 1) := by decide +kernel
theorem dX11_isCrossed_57 : decode cX11_isCrossed 57 = .ok (.goto 4, 3) := by decide +kernel
theorem dX11_isCrossed_60 : decode cX11_isCrossed 60 = .ok (.iconst 0, 1) := by decide +kernel
theorem dX11_isCrossed_61 : decode cX11_isCrossed 61 = .ok (.ireturn, 1) := by decide +kernel
theorem dX11_costOf_0 : decode cX11_costOf 0 = .ok (.iload 4, 2) := by decide +kernel
theorem dX11_costOf_2 : decode cX11_costOf 2 = .ok (.iconst 2, 1) := by decide +kernel
theorem dX11_costOf_3 : decode cX11_costOf 3 = .ok (.if_icmp .ne 6, 3) := by decide +kernel
theorem dX11_costOf_6 : decode cX11_costOf 6 = .ok (.iload 6, 2) := by decide +kernel
theorem dX11_costOf_8 : decode cX11_costOf 8 = .ok (.ireturn, 1) := by decide +kernel
theorem dX11_costOf_9 : decode cX11_costOf 9 = .ok (.iload 4, 2) := by decide +kernel
theorem dX11_costOf_11 : decode cX11_costOf 11 = .ok (.ifCond .ne 28, 3) := by decide +kernel
theorem dX11_costOf_14 : decode cX11_costOf 14 = .ok (.aload_n 0, 1) := by decide +kernel
theorem dX11_costOf_15 : decode cX11_costOf 15 = .ok (.iload_n 1, 1) := by decide +kernel
theorem dX11_costOf_16 : decode cX11_costOf 16 = .ok (.iconst 1, 1) := by decide +kernel
theorem dX11_costOf_17 : decode cX11_costOf 17 = .ok (.iadd, 1) := by decide +kernel
theorem dX11_costOf_18 : decode cX11_costOf 18 = .ok (.iload_n 3, 1) := by decide +kernel
theorem dX11_costOf_19 : decode cX11_costOf 19 = .ok (.invokevirtual 121, 3) := by decide +kernel
theorem dX11_costOf_22 : decode cX11_costOf 22 = .ok (.ifCond .eq 8, 3) := by decide +kernel
theorem dX11_costOf_25 : decode cX11_costOf 25 = .ok (.ldc 120, 2) := by decide +kernel
theorem dX11_costOf_27 : decode cX11_costOf 27 = .ok (.goto 11, 3) := by decide +kernel
theorem dX11_costOf_30 : decode cX11_costOf 30 = .ok (.aload_n 0, 1) := by decide +kernel
theorem dX11_costOf_31 : decode cX11_costOf 31 = .ok (.iload_n 2, 1) := by decide +kernel
theorem dX11_costOf_32 : decode cX11_costOf 32 = .ok (.iload_n 1, 1) := by decide +kernel
theorem dX11_costOf_33 : decode cX11_costOf 33 = .ok (.iload 5, 2) := by decide +kernel
theorem dX11_costOf_35 : decode cX11_costOf 35 = .ok (.invokevirtual 125, 3) := by decide +kernel
theorem dX11_costOf_38 : decode cX11_costOf 38 = .ok (.ireturn, 1) := by decide +kernel
theorem dX11_costOf_39 : decode cX11_costOf 39 = .ok (.aload_n 0, 1) := by decide +kernel
theorem dX11_costOf_40 : decode cX11_costOf 40 = .ok (.iload_n 2, 1) := by decide +kernel
theorem dX11_costOf_41 : decode cX11_costOf 41 = .ok (.iload_n 1, 1) := by decide +kernel
theorem dX11_costOf_42 : decode cX11_costOf 42 = .ok (.iconst 1, 1) := by decide +kernel
theorem dX11_costOf_43 : decode cX11_costOf 43 = .ok (.iadd, 1) := by decide +kernel
theorem dX11_costOf_44 : decode cX11_costOf 44 = .ok (.invokevirtual 121, 3) := by decide +kernel
theorem dX11_costOf_47 : decode cX11_costOf 47 = .ok (.ifCond .eq 8, 3) := by decide +kernel
theorem dX11_costOf_50 : decode cX11_costOf 50 = .ok (.ldc 120, 2) := by decide +kernel
theorem dX11_costOf_52 : decode cX11_costOf 52 = .ok (.goto 11, 3) := by decide +kernel
theorem dX11_costOf_55 : decode cX11_costOf 55 = .ok (.aload_n 0, 1) := by decide +kernel
theorem dX11_costOf_56 : decode cX11_costOf 56 = .ok (.iload_n 3, 1) := by decide +kernel
theorem dX11_costOf_57 : decode cX11_costOf 57 = .ok (.iload_n 1, 1) := by decide +kernel
theorem dX11_costOf_58 : decode cX11_costOf 58 = .ok (.iload 5, 2) := by decide +kernel
theorem dX11_costOf_60 : decode cX11_costOf 60 = .ok (.invokevirtual 125, 3) := by decide +kernel
theorem dX11_costOf_63 : decode cX11_costOf 63 = .ok (.ireturn, 1) := by decide +kernel
theorem dX11_behind_0 : decode cX11_behind 0 = .ok (.aload_n 0, 1) := by decide +kernel
theorem dX11_behind_1 : decode cX11_behind 1 = .ok (.getfield 43, 3) := by decide +kernel
theorem dX11_behind_4 : decode cX11_behind 4 = .ok (.aload_n 0, 1) := by decide +kernel
theorem dX11_behind_5 : decode cX11_behind 5 = .ok (.iload_n 1, 1) := by decide +kernel
theorem dX11_behind_6 : decode cX11_behind 6 = .ok (.iconst 1, 1) := by decide +kernel
theorem dX11_behind_7 : decode cX11_behind 7 = .ok (.iadd, 1) := by decide +kernel
theorem dX11_behind_8 : decode cX11_behind 8 = .ok (.iload 4, 2) := by decide +kernel
theorem dX11_behind_10 : decode cX11_behind 10 = .ok (.ifCond .ne 9, 3) := by decide +kernel
theorem dX11_behind_13 : decode cX11_behind 13 = .ok (.iload_n 1, 1) := by decide +kernel
theorem dX11_behind_14 : decode cX11_behind 14 = .ok (.iconst 1, 1) := by decide +kernel
theorem dX11_behind_15 : decode cX11_behind 15 = .ok (.iadd, 1) := by decide +kernel
theorem dX11_behind_16 : decode cX11_behind 16 = .ok (.goto 4, 3) := by decide +kernel
theorem dX11_behind_19 : decode cX11_behind 19 = .ok (.iload_n 2, 1) := by decide +kernel
theorem dX11_behind_20 : decode cX11_behind 20 = .ok (.iload 4, 2) := by decide +kernel
theorem dX11_behind_22 : decode cX11_behind 22 = .ok (.iconst 1, 1) := by decide +kernel
theorem dX11_behind_23 : decode cX11_behind 23 = .ok (.if_icmp .ne 9, 3) := by decide +kernel
theorem dX11_behind_26 : decode cX11_behind 26 = .ok (.iload_n 1, 1) := by decide +kernel
theorem dX11_behind_27 : decode cX11_behind 27 = .ok (.iconst 1, 1) := by decide +kernel
theorem dX11_behind_28 : decode cX11_behind 28 = .ok (.iadd, 1) := by decide +kernel
theorem dX11_behind_29 : decode cX11_behind 29 = .ok (.goto 4, 3) := by decide +kernel
theorem dX11_behind_32 : decode cX11_behind 32 = .ok (.iload_n 3, 1) := by decide +kernel
theorem dX11_behind_33 : decode cX11_behind 33 = .ok (.invokevirtual 129, 3) := by decide +kernel
theorem dX11_behind_36 : decode cX11_behind 36 = .ok (.iaload, 1) := by decide +kernel
theorem dX11_behind_37 : decode cX11_behind 37 = .ok (.ireturn, 1) := by decide +kernel
theorem dX11_weighs_0 : decode cX11_weighs 0 = .ok (.aload_n 0, 1) := by decide +kernel
theorem dX11_weighs_1 : decode cX11_weighs 1 = .ok (.getfield 7, 3) := by decide +kernel
theorem dX11_weighs_4 : decode cX11_weighs 4 = .ok (.iconst 0, 1) := by decide +kernel
theorem dX11_weighs_5 : decode cX11_weighs 5 = .ok (.iaload, 1) := by decide +kernel
theorem dX11_weighs_6 : decode cX11_weighs 6 = .ok (.istore_n 3, 1) := by decide +kernel
theorem dX11_weighs_7 : decode cX11_weighs 7 = .ok (.iconst 0, 1) := by decide +kernel
theorem dX11_weighs_8 : decode cX11_weighs 8 = .ok (.istore 4, 2) := by decide +kernel
theorem dX11_weighs_10 : decode cX11_weighs 10 = .ok (.iload 4, 2) := by decide +kernel
theorem dX11_weighs_12 : decode cX11_weighs 12 = .ok (.iload_n 3, 1) := by decide +kernel
theorem dX11_weighs_13 : decode cX11_weighs 13 = .ok (.if_icmp .gt 39, 3) := by decide +kernel
theorem dX11_weighs_16 : decode cX11_weighs 16 = .ok (.iconst 0, 1) := by decide +kernel
theorem dX11_weighs_17 : decode cX11_weighs 17 = .ok (.istore 5, 2) := by decide +kernel
theorem dX11_weighs_19 : decode cX11_weighs 19 = .ok (.iload 5, 2) := by decide +kernel
theorem dX11_weighs_21 : decode cX11_weighs 21 = .ok (.iload_n 3, 1) := by decide +kernel
theorem dX11_weighs_22 : decode cX11_weighs 22 = .ok (.if_icmp .gt 24, 3) := by decide +kernel
theorem dX11_weighs_25 : decode cX11_weighs 25 = .ok (.aload_n 0, 1) := by decide +kernel
theorem dX11_weighs_26 : decode cX11_weighs 26 = .ok (.getfield 43, 3) := by decide +kernel
theorem dX11_weighs_29 : decode cX11_weighs 29 = .ok (.aload_n 0, 1) := by decide +kernel
theorem dX11_weighs_30 : decode cX11_weighs 30 = .ok (.iload_n 3, 1) := by decide +kernel
theorem dX11_weighs_31 : decode cX11_weighs 31 = .ok (.iload 4, 2) := by decide +kernel
theorem dX11_weighs_33 : decode cX11_weighs 33 = .ok (.iload 5, 2) := by decide +kernel
theorem dX11_weighs_35 : decode cX11_weighs 35 = .ok (.invokevirtual 129, 3) := by decide +kernel
theorem dX11_weighs_38 : decode cX11_weighs 38 = .ok (.iconst 0, 1) := by decide +kernel
theorem dX11_weighs_39 : decode cX11_weighs 39 = .ok (.iastore, 1) := by decide +kernel
theorem dX11_weighs_40 : decode cX11_weighs 40 = .ok (.iinc 5 1, 3) := by decide +kernel
theorem dX11_weighs_43 : decode cX11_weighs 43 = .ok (.goto (-24), 3) := by decide +kernel
theorem dX11_weighs_46 : decode cX11_weighs 46 = .ok (.iinc 4 1, 3) := by decide +kernel
theorem dX11_weighs_49 : decode cX11_weighs 49 = .ok (.goto (-39), 3) := by decide +kernel
theorem dX11_weighs_52 : decode cX11_weighs 52 = .ok (.iload_n 3, 1) := by decide +kernel
theorem dX11_weighs_53 : decode cX11_weighs 53 = .ok (.iconst 1, 1) := by decide +kernel
theorem dX11_weighs_54 : decode cX11_weighs 54 = .ok (.isub, 1) := by decide +kernel
theorem dX11_weighs_55 : decode cX11_weighs 55 = .ok (.istore 4, 2) := by decide +kernel
theorem dX11_weighs_57 : decode cX11_weighs 57 = .ok (.iload 4, 2) := by decide +kernel
theorem dX11_weighs_59 : decode cX11_weighs 59 = .ok (.ifCond .lt 137, 3) := by decide +kernel
theorem dX11_weighs_62 : decode cX11_weighs 62 = .ok (.iconst 0, 1) := by decide +kernel
theorem dX11_weighs_63 : decode cX11_weighs 63 = .ok (.istore 5, 2) := by decide +kernel
theorem dX11_weighs_65 : decode cX11_weighs 65 = .ok (.iload 5, 2) := by decide +kernel
theorem dX11_weighs_67 : decode cX11_weighs 67 = .ok (.iload 4, 2) := by decide +kernel
theorem dX11_weighs_69 : decode cX11_weighs 69 = .ok (.if_icmp .gt 121, 3) := by decide +kernel
theorem dX11_weighs_72 : decode cX11_weighs 72 = .ok (.iconst 0, 1) := by decide +kernel
theorem dX11_weighs_73 : decode cX11_weighs 73 = .ok (.istore 6, 2) := by decide +kernel
theorem dX11_weighs_75 : decode cX11_weighs 75 = .ok (.iload 6, 2) := by decide +kernel
theorem dX11_weighs_77 : decode cX11_weighs 77 = .ok (.iload 4, 2) := by decide +kernel
theorem dX11_weighs_79 : decode cX11_weighs 79 = .ok (.if_icmp .gt 105, 3) := by decide +kernel
theorem dX11_weighs_82 : decode cX11_weighs 82 = .ok (.ldc 120, 2) := by decide +kernel
theorem dX11_weighs_84 : decode cX11_weighs 84 = .ok (.istore 7, 2) := by decide +kernel
theorem dX11_weighs_86 : decode cX11_weighs 86 = .ok (.iconst 0, 1) := by decide +kernel
theorem dX11_weighs_87 : decode cX11_weighs 87 = .ok (.istore 8, 2) := by decide +kernel
theorem dX11_weighs_89 : decode cX11_weighs 89 = .ok (.iload 8, 2) := by decide +kernel
theorem dX11_weighs_91 : decode cX11_weighs 91 = .ok (.iconst 3, 1) := by decide +kernel
theorem dX11_weighs_92 : decode cX11_weighs 92 = .ok (.if_icmp .ge 69, 3) := by decide +kernel
theorem dX11_weighs_95 : decode cX11_weighs 95 = .ok (.aload_n 0, 1) := by decide +kernel
theorem dX11_weighs_96 : decode cX11_weighs 96 = .ok (.iload 4, 2) := by decide +kernel
theorem dX11_weighs_98 : decode cX11_weighs 98 = .ok (.iload 5, 2) := by decide +kernel
theorem dX11_weighs_100 : decode cX11_weighs 100 = .ok (.iload 6, 2) := by decide +kernel
theorem dX11_weighs_102 : decode cX11_weighs 102 = .ok (.iload 8, 2) := by decide +kernel
theorem dX11_weighs_104 : decode cX11_weighs 104 = .ok (.iload_n 1, 1) := by decide +kernel
theorem dX11_weighs_105 : decode cX11_weighs 105 = .ok (.iload_n 2, 1) := by decide +kernel
theorem dX11_weighs_106 : decode cX11_weighs 106 = .ok (.invokevirtual 132, 3) := by decide +kernel
theorem dX11_weighs_109 : decode cX11_weighs 109 = .ok (.istore 9, 2) := by decide +kernel
theorem dX11_weighs_111 : decode cX11_weighs 111 = .ok (.iload 9, 2) := by decide +kernel
theorem dX11_weighs_113 : decode cX11_weighs 113 = .ok (.ldc 120, 2) := by decide +kernel
theorem dX11_weighs_115 : decode cX11_weighs 115 = .ok (.if_icmp .ge 40, 3) := by decide +kernel
theorem dX11_weighs_118 : decode cX11_weighs 118 = .ok (.iload 9, 2) := by decide +kernel
theorem dX11_weighs_120 : decode cX11_weighs 120 = .ok (.aload_n 0, 1) := by decide +kernel
theorem dX11_weighs_121 : decode cX11_weighs 121 = .ok (.iload 4, 2) := by decide +kernel
theorem dX11_weighs_123 : decode cX11_weighs 123 = .ok (.iload 5, 2) := by decide +kernel
theorem dX11_weighs_125 : decode cX11_weighs 125 = .ok (.iload 6, 2) := by decide +kernel
theorem dX11_weighs_127 : decode cX11_weighs 127 = .ok (.iload 8, 2) := by decide +kernel
theorem dX11_weighs_129 : decode cX11_weighs 129 = .ok (.invokevirtual 136, 3) := by decide +kernel
theorem dX11_weighs_132 : decode cX11_weighs 132 = .ok (.iadd, 1) := by decide +kernel
theorem dX11_weighs_133 : decode cX11_weighs 133 = .ok (.iload 7, 2) := by decide +kernel
theorem dX11_weighs_135 : decode cX11_weighs 135 = .ok (.if_icmp .ge 20, 3) := by decide +kernel
theorem dX11_weighs_138 : decode cX11_weighs 138 = .ok (.iload 9, 2) := by decide +kernel
theorem dX11_weighs_140 : decode cX11_weighs 140 = .ok (.aload_n 0, 1) := by decide +kernel
theorem dX11_weighs_141 : decode cX11_weighs 141 = .ok (.iload 4, 2) := by decide +kernel
theorem dX11_weighs_143 : decode cX11_weighs 143 = .ok (.iload 5, 2) := by decide +kernel
theorem dX11_weighs_145 : decode cX11_weighs 145 = .ok (.iload 6, 2) := by decide +kernel
theorem dX11_weighs_147 : decode cX11_weighs 147 = .ok (.iload 8, 2) := by decide +kernel
theorem dX11_weighs_149 : decode cX11_weighs 149 = .ok (.invokevirtual 136, 3) := by decide +kernel
theorem dX11_weighs_152 : decode cX11_weighs 152 = .ok (.iadd, 1) := by decide +kernel
theorem dX11_weighs_153 : decode cX11_weighs 153 = .ok (.istore 7, 2) := by decide +kernel
theorem dX11_weighs_155 : decode cX11_weighs 155 = .ok (.iinc 8 1, 3) := by decide +kernel
theorem dX11_weighs_158 : decode cX11_weighs 158 = .ok (.goto (-69), 3) := by decide +kernel
theorem dX11_weighs_161 : decode cX11_weighs 161 = .ok (.aload_n 0, 1) := by decide +kernel
theorem dX11_weighs_162 : decode cX11_weighs 162 = .ok (.getfield 43, 3) := by decide +kernel
theorem dX11_weighs_165 : decode cX11_weighs 165 = .ok (.aload_n 0, 1) := by decide +kernel
theorem dX11_weighs_166 : decode cX11_weighs 166 = .ok (.iload 4, 2) := by decide +kernel
theorem dX11_weighs_168 : decode cX11_weighs 168 = .ok (.iload 5, 2) := by decide +kernel
theorem dX11_weighs_170 : decode cX11_weighs 170 = .ok (.iload 6, 2) := by decide +kernel
theorem dX11_weighs_172 : decode cX11_weighs 172 = .ok (.invokevirtual 129, 3) := by decide +kernel
theorem dX11_weighs_175 : decode cX11_weighs 175 = .ok (.iload 7, 2) := by decide +kernel
theorem dX11_weighs_177 : decode cX11_weighs 177 = .ok (.iastore, 1) := by decide +kernel
theorem dX11_weighs_178 : decode cX11_weighs 178 = .ok (.iinc 6 1, 3) := by decide +kernel
theorem dX11_weighs_181 : decode cX11_weighs 181 = .ok (.goto (-106), 3) := by decide +kernel
theorem dX11_weighs_184 : decode cX11_weighs 184 = .ok (.iinc 5 1, 3) := by decide +kernel
theorem dX11_weighs_187 : decode cX11_weighs 187 = .ok (.goto (-122), 3) := by decide +kernel
theorem dX11_weighs_190 : decode cX11_weighs 190 = .ok (.iinc 4 (-1), 3) := by decide +kernel
theorem dX11_weighs_193 : decode cX11_weighs 193 = .ok (.goto (-136), 3) := by decide +kernel
theorem dX11_weighs_196 : decode cX11_weighs 196 = .ok (.aload_n 0, 1) := by decide +kernel
theorem dX11_weighs_197 : decode cX11_weighs 197 = .ok (.getfield 43, 3) := by decide +kernel
theorem dX11_weighs_200 : decode cX11_weighs 200 = .ok (.iconst 0, 1) := by decide +kernel
theorem dX11_weighs_201 : decode cX11_weighs 201 = .ok (.iaload, 1) := by decide +kernel
theorem dX11_weighs_202 : decode cX11_weighs 202 = .ok (.ireturn, 1) := by decide +kernel
theorem dX11_sets_0 : decode cX11_sets 0 = .ok (.aload_n 0, 1) := by decide +kernel
theorem dX11_sets_1 : decode cX11_sets 1 = .ok (.aload_n 0, 1) := by decide +kernel
theorem dX11_sets_2 : decode cX11_sets 2 = .ok (.getfield 7, 3) := by decide +kernel
theorem dX11_sets_5 : decode cX11_sets 5 = .ok (.sipush 202, 3) := by decide +kernel
theorem dX11_sets_8 : decode cX11_sets 8 = .ok (.iaload, 1) := by decide +kernel
theorem dX11_sets_9 : decode cX11_sets 9 = .ok (.aload_n 0, 1) := by decide +kernel
theorem dX11_sets_10 : decode cX11_sets 10 = .ok (.getfield 7, 3) := by decide +kernel
theorem dX11_sets_13 : decode cX11_sets 13 = .ok (.sipush 203, 3) := by decide +kernel
theorem dX11_sets_16 : decode cX11_sets 16 = .ok (.iaload, 1) := by decide +kernel
theorem dX11_sets_17 : decode cX11_sets 17 = .ok (.invokevirtual 140, 3) := by decide +kernel
theorem dX11_sets_20 : decode cX11_sets 20 = .ok (.istore_n 1, 1) := by decide +kernel
theorem dX11_sets_21 : decode cX11_sets 21 = .ok (.iconst 0, 1) := by decide +kernel
theorem dX11_sets_22 : decode cX11_sets 22 = .ok (.istore_n 2, 1) := by decide +kernel
theorem dX11_sets_23 : decode cX11_sets 23 = .ok (.iconst 0, 1) := by decide +kernel
theorem dX11_sets_24 : decode cX11_sets 24 = .ok (.istore_n 3, 1) := by decide +kernel
theorem dX11_sets_25 : decode cX11_sets 25 = .ok (.aload_n 0, 1) := by decide +kernel
theorem dX11_sets_26 : decode cX11_sets 26 = .ok (.getfield 49, 3) := by decide +kernel
theorem dX11_sets_29 : decode cX11_sets 29 = .ok (.iconst 0, 1) := by decide +kernel
theorem dX11_sets_30 : decode cX11_sets 30 = .ok (.iconst 0, 1) := by decide +kernel
theorem dX11_sets_31 : decode cX11_sets 31 = .ok (.iastore, 1) := by decide +kernel
theorem dX11_sets_32 : decode cX11_sets 32 = .ok (.aload_n 0, 1) := by decide +kernel
theorem dX11_sets_33 : decode cX11_sets 33 = .ok (.getfield 49, 3) := by decide +kernel
theorem dX11_sets_36 : decode cX11_sets 36 = .ok (.iconst 1, 1) := by decide +kernel
theorem dX11_sets_37 : decode cX11_sets 37 = .ok (.iconst 0, 1) := by decide +kernel
theorem dX11_sets_38 : decode cX11_sets 38 = .ok (.iastore, 1) := by decide +kernel
theorem dX11_sets_39 : decode cX11_sets 39 = .ok (.iconst 0, 1) := by decide +kernel
theorem dX11_sets_40 : decode cX11_sets 40 = .ok (.istore 4, 2) := by decide +kernel
theorem dX11_sets_42 : decode cX11_sets 42 = .ok (.iload 4, 2) := by decide +kernel
theorem dX11_sets_44 : decode cX11_sets 44 = .ok (.aload_n 0, 1) := by decide +kernel
theorem dX11_sets_45 : decode cX11_sets 45 = .ok (.getfield 7, 3) := by decide +kernel
theorem dX11_sets_48 : decode cX11_sets 48 = .ok (.iconst 0, 1) := by decide +kernel
theorem dX11_sets_49 : decode cX11_sets 49 = .ok (.iaload, 1) := by decide +kernel
theorem dX11_sets_50 : decode cX11_sets 50 = .ok (.if_icmp .ge 172, 3) := by decide +kernel
theorem dX11_sets_53 : decode cX11_sets 53 = .ok (.iconst 0, 1) := by decide +kernel
theorem dX11_sets_54 : decode cX11_sets 54 = .ok (.istore 5, 2) := by decide +kernel
theorem dX11_sets_56 : decode cX11_sets 56 = .ok (.aload_n 0, 1) := by decide +kernel
theorem dX11_sets_57 : decode cX11_sets 57 = .ok (.iload 4, 2) := by decide +kernel
theorem dX11_sets_59 : decode cX11_sets 59 = .ok (.iload_n 2, 1) := by decide +kernel
theorem dX11_sets_60 : decode cX11_sets 60 = .ok (.iload_n 3, 1) := by decide +kernel
theorem dX11_sets_61 : decode cX11_sets 61 = .ok (.iload 5, 2) := by decide +kernel
theorem dX11_sets_63 : decode cX11_sets 63 = .ok (.aload_n 0, 1) := by decide +kernel
theorem dX11_sets_64 : decode cX11_sets 64 = .ok (.getfield 7, 3) := by decide +kernel
theorem dX11_sets_67 : decode cX11_sets 67 = .ok (.sipush 202, 3) := by decide +kernel
theorem dX11_sets_70 : decode cX11_sets 70 = .ok (.iaload, 1) := by decide +kernel
theorem dX11_sets_71 : decode cX11_sets 71 = .ok (.aload_n 0, 1) := by decide +kernel
theorem dX11_sets_72 : decode cX11_sets 72 = .ok (.getfield 7, 3) := by decide +kernel
theorem dX11_sets_75 : decode cX11_sets 75 = .ok (.sipush 203, 3) := by decide +kernel
theorem dX11_sets_78 : decode cX11_sets 78 = .ok (.iaload, 1) := by decide +kernel
theorem dX11_sets_79 : decode cX11_sets 79 = .ok (.invokevirtual 132, 3) := by decide +kernel
theorem dX11_sets_82 : decode cX11_sets 82 = .ok (.ldc 120, 2) := by decide +kernel
theorem dX11_sets_84 : decode cX11_sets 84 = .ok (.if_icmp .ge 56, 3) := by decide +kernel
theorem dX11_sets_87 : decode cX11_sets 87 = .ok (.aload_n 0, 1) := by decide +kernel
theorem dX11_sets_88 : decode cX11_sets 88 = .ok (.iload 4, 2) := by decide +kernel
theorem dX11_sets_90 : decode cX11_sets 90 = .ok (.iload_n 2, 1) := by decide +kernel
theorem dX11_sets_91 : decode cX11_sets 91 = .ok (.iload_n 3, 1) := by decide +kernel
theorem dX11_sets_92 : decode cX11_sets 92 = .ok (.iload 5, 2) := by decide +kernel
theorem dX11_sets_94 : decode cX11_sets 94 = .ok (.aload_n 0, 1) := by decide +kernel
theorem dX11_sets_95 : decode cX11_sets 95 = .ok (.getfield 7, 3) := by decide +kernel
theorem dX11_sets_98 : decode cX11_sets 98 = .ok (.sipush 202, 3) := by decide +kernel
theorem dX11_sets_101 : decode cX11_sets 101 = .ok (.iaload, 1) := by decide +kernel
theorem dX11_sets_102 : decode cX11_sets 102 = .ok (.aload_n 0, 1) := by decide +kernel
theorem dX11_sets_103 : decode cX11_sets 103 = .ok (.getfield 7, 3) := by decide +kernel
theorem dX11_sets_106 : decode cX11_sets 106 = .ok (.sipush 203, 3) := by decide +kernel
theorem dX11_sets_109 : decode cX11_sets 109 = .ok (.iaload, 1) := by decide +kernel
theorem dX11_sets_110 : decode cX11_sets 110 = .ok (.invokevirtual 132, 3) := by decide +kernel
theorem dX11_sets_113 : decode cX11_sets 113 = .ok (.aload_n 0, 1) := by decide +kernel
theorem dX11_sets_114 : decode cX11_sets 114 = .ok (.iload 4, 2) := by decide +kernel
theorem dX11_sets_116 : decode cX11_sets 116 = .ok (.iload_n 2, 1) := by decide +kernel
theorem dX11_sets_117 : decode cX11_sets 117 = .ok (.iload_n 3, 1) := by decide +kernel
theorem dX11_sets_118 : decode cX11_sets 118 = .ok (.iload 5, 2) := by decide +kernel
theorem dX11_sets_120 : decode cX11_sets 120 = .ok (.invokevirtual 136, 3) := by decide +kernel
theorem dX11_sets_123 : decode cX11_sets 123 = .ok (.iadd, 1) := by decide +kernel
theorem dX11_sets_124 : decode cX11_sets 124 = .ok (.aload_n 0, 1) := by decide +kernel
theorem dX11_sets_125 : decode cX11_sets 125 = .ok (.getfield 43, 3) := by decide +kernel
theorem dX11_sets_128 : decode cX11_sets 128 = .ok (.aload_n 0, 1) := by decide +kernel
theorem dX11_sets_129 : decode cX11_sets 129 = .ok (.iload 4, 2) := by decide +kernel
theorem dX11_sets_131 : decode cX11_sets 131 = .ok (.iload_n 2, 1) := by decide +kernel
theorem dX11_sets_132 : decode cX11_sets 132 = .ok (.iload_n 3, 1) := by decide +kernel
theorem dX11_sets_133 : decode cX11_sets 133 = .ok (.invokevirtual 129, 3) := by decide +kernel
