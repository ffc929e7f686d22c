theorem dX0_init_0 : decode cX0_init 0 = .ok (.aload_n 0, 1) := by decide +kernel
theorem dX0_init_1 : decode cX0_init 1 = .ok (.invokespecial 3, 3) := by decide +kernel
theorem dX0_init_4 : decode cX0_init 4 = .ok (.aload_n 0, 1) := by decide +kernel
theorem dX0_init_5 : decode cX0_init 5 = .ok (.bipush 24, 2) := by decide +kernel
theorem dX0_init_7 : decode cX0_init 7 = .ok (.newarray .long, 2) := by decide +kernel
theorem dX0_init_9 : decode cX0_init 9 = .ok (.putfield 9, 3) := by decide +kernel
theorem dX0_init_12 : decode cX0_init 12 = .ok (.return_, 1) := by decide +kernel
theorem dX0_playByFists_0 : decode cX0_playByFists 0 = .ok (.iconst 0, 1) := by decide +kernel
theorem dX0_playByFists_1 : decode cX0_playByFists 1 = .ok (.istore_n 3, 1) := by decide +kernel
theorem dX0_playByFists_2 : decode cX0_playByFists 2 = .ok (.iconst 0, 1) := by decide +kernel
theorem dX0_playByFists_3 : decode cX0_playByFists 3 = .ok (.istore 4, 2) := by decide +kernel
theorem dX0_playByFists_5 : decode cX0_playByFists 5 = .ok (.iload 4, 2) := by decide +kernel
theorem dX0_playByFists_7 : decode cX0_playByFists 7 = .ok (.aload_n 1, 1) := by decide +kernel
theorem dX0_playByFists_8 : decode cX0_playByFists 8 = .ok (.getfield 15, 3) := by decide +kernel
theorem dX0_playByFists_11 : decode cX0_playByFists 11 = .ok (.if_icmp .ge 39, 3) := by decide +kernel
theorem dX0_playByFists_14 : decode cX0_playByFists 14 = .ok (.aload_n 2, 1) := by decide +kernel
theorem dX0_playByFists_15 : decode cX0_playByFists 15 = .ok (.getfield 21, 3) := by decide +kernel
theorem dX0_playByFists_18 : decode cX0_playByFists 18 = .ok (.iload 4, 2) := by decide +kernel
theorem dX0_playByFists_20 : decode cX0_playByFists 20 = .ok (.iaload, 1) := by decide +kernel
theorem dX0_playByFists_21 : decode cX0_playByFists 21 = .ok (.iconst 2, 1) := by decide +kernel
theorem dX0_playByFists_22 : decode cX0_playByFists 22 = .ok (.if_icmp .eq 22, 3) := by decide +kernel
theorem dX0_playByFists_25 : decode cX0_playByFists 25 = .ok (.aload_n 0, 1) := by decide +kernel
theorem dX0_playByFists_26 : decode cX0_playByFists 26 = .ok (.getfield 9, 3) := by decide +kernel
theorem dX0_playByFists_29 : decode cX0_playByFists 29 = .ok (.aload_n 1, 1) := by decide +kernel
theorem dX0_playByFists_30 : decode cX0_playByFists 30 = .ok (.getfield 27, 3) := by decide +kernel
theorem dX0_playByFists_33 : decode cX0_playByFists 33 = .ok (.iload 4, 2) := by decide +kernel
theorem dX0_playByFists_35 : decode cX0_playByFists 35 = .ok (.iaload, 1) := by decide +kernel
theorem dX0_playByFists_36 : decode cX0_playByFists 36 = .ok (.dup2, 1) := by decide +kernel
theorem dX0_playByFists_37 : decode cX0_playByFists 37 = .ok (.laload, 1) := by decide +kernel
theorem dX0_playByFists_38 : decode cX0_playByFists 38 = .ok (.lconst 1, 1) := by decide +kernel
theorem dX0_playByFists_39 : decode cX0_playByFists 39 = .ok (.ladd, 1) := by decide +kernel
theorem dX0_playByFists_40 : decode cX0_playByFists 40 = .ok (.lastore, 1) := by decide +kernel
theorem dX0_playByFists_41 : decode cX0_playByFists 41 = .ok (.iinc 3 1, 3) := by decide +kernel
theorem dX0_playByFists_44 : decode cX0_playByFists 44 = .ok (.iinc 4 1, 3) := by decide +kernel
theorem dX0_playByFists_47 : decode cX0_playByFists 47 = .ok (.goto (-42), 3) := by decide +kernel
theorem dX0_playByFists_50 : decode cX0_playByFists 50 = .ok (.iload_n 3, 1) := by decide +kernel
theorem dX0_playByFists_51 : decode cX0_playByFists 51 = .ok (.ireturn, 1) := by decide +kernel
theorem dX0_playByDrum_0 : decode cX0_playByDrum 0 = .ok (.iconst 0, 1) := by decide +kernel
theorem dX0_playByDrum_1 : decode cX0_playByDrum 1 = .ok (.istore_n 2, 1) := by decide +kernel
theorem dX0_playByDrum_2 : decode cX0_playByDrum 2 = .ok (.iload_n 2, 1) := by decide +kernel
theorem dX0_playByDrum_3 : decode cX0_playByDrum 3 = .ok (.aload_n 1, 1) := by decide +kernel
theorem dX0_playByDrum_4 : decode cX0_playByDrum 4 = .ok (.getfield 30, 3) := by decide +kernel
theorem dX0_playByDrum_7 : decode cX0_playByDrum 7 = .ok (.if_icmp .ge 24, 3) := by decide +kernel
theorem dX0_playByDrum_10 : decode cX0_playByDrum 10 = .ok (.aload_n 0, 1) := by decide +kernel
theorem dX0_playByDrum_11 : decode cX0_playByDrum 11 = .ok (.getfield 9, 3) := by decide +kernel
theorem dX0_playByDrum_14 : decode cX0_playByDrum 14 = .ok (.aload_n 1, 1) := by decide +kernel
theorem dX0_playByDrum_15 : decode cX0_playByDrum 15 = .ok (.getfield 33, 3) := by decide +kernel
theorem dX0_playByDrum_18 : decode cX0_playByDrum 18 = .ok (.iload_n 2, 1) := by decide +kernel
theorem dX0_playByDrum_19 : decode cX0_playByDrum 19 = .ok (.iaload, 1) := by decide +kernel
theorem dX0_playByDrum_20 : decode cX0_playByDrum 20 = .ok (.dup2, 1) := by decide +kernel
theorem dX0_playByDrum_21 : decode cX0_playByDrum 21 = .ok (.laload, 1) := by decide +kernel
theorem dX0_playByDrum_22 : decode cX0_playByDrum 22 = .ok (.lconst 1, 1) := by decide +kernel
theorem dX0_playByDrum_23 : decode cX0_playByDrum 23 = .ok (.ladd, 1) := by decide +kernel
theorem dX0_playByDrum_24 : decode cX0_playByDrum 24 = .ok (.lastore, 1) := by decide +kernel
theorem dX0_playByDrum_25 : decode cX0_playByDrum 25 = .ok (.iinc 2 1, 3) := by decide +kernel
theorem dX0_playByDrum_28 : decode cX0_playByDrum 28 = .ok (.goto (-26), 3) := by decide +kernel
theorem dX0_playByDrum_31 : decode cX0_playByDrum 31 = .ok (.aload_n 1, 1) := by decide +kernel
theorem dX0_playByDrum_32 : decode cX0_playByDrum 32 = .ok (.getfield 30, 3) := by decide +kernel
theorem dX0_playByDrum_35 : decode cX0_playByDrum 35 = .ok (.ireturn, 1) := by decide +kernel
theorem dX0_wornAt_0 : decode cX0_wornAt 0 = .ok (.iconst 0, 1) := by decide +kernel
theorem dX0_wornAt_1 : decode cX0_wornAt 1 = .ok (.istore_n 2, 1) := by decide +kernel
theorem dX0_wornAt_2 : decode cX0_wornAt 2 = .ok (.iconst 0, 1) := by decide +kernel
theorem dX0_wornAt_3 : decode cX0_wornAt 3 = .ok (.istore_n 3, 1) := by decide +kernel
theorem dX0_wornAt_4 : decode cX0_wornAt 4 = .ok (.iload_n 3, 1) := by decide +kernel
theorem dX0_wornAt_5 : decode cX0_wornAt 5 = .ok (.bipush 24, 2) := by decide +kernel
theorem dX0_wornAt_7 : decode cX0_wornAt 7 = .ok (.if_icmp .ge 24, 3) := by decide +kernel
theorem dX0_wornAt_10 : decode cX0_wornAt 10 = .ok (.aload_n 0, 1) := by decide +kernel
theorem dX0_wornAt_11 : decode cX0_wornAt 11 = .ok (.getfield 9, 3) := by decide +kernel
theorem dX0_wornAt_14 : decode cX0_wornAt 14 = .ok (.iload_n 3, 1) := by decide +kernel
theorem dX0_wornAt_15 : decode cX0_wornAt 15 = .ok (.laload, 1) := by decide +kernel
theorem dX0_wornAt_16 : decode cX0_wornAt 16 = .ok (.iload_n 1, 1) := by decide +kernel
theorem dX0_wornAt_17 : decode cX0_wornAt 17 = .ok (.i2l, 1) := by decide +kernel
theorem dX0_wornAt_18 : decode cX0_wornAt 18 = .ok (.lcmp, 1) := by decide +kernel
theorem dX0_wornAt_19 : decode cX0_wornAt 19 = .ok (.ifCond .lt 6, 3) := by decide +kernel
theorem dX0_wornAt_22 : decode cX0_wornAt 22 = .ok (.iinc 2 1, 3) := by decide +kernel
theorem dX0_wornAt_25 : decode cX0_wornAt 25 = .ok (.iinc 3 1, 3) := by decide +kernel
theorem dX0_wornAt_28 : decode cX0_wornAt 28 = .ok (.goto (-24), 3) := by decide +kernel
theorem dX0_wornAt_31 : decode cX0_wornAt 31 = .ok (.iload_n 2, 1) := by decide +kernel
theorem dX0_wornAt_32 : decode cX0_wornAt 32 = .ok (.ireturn, 1) := by decide +kernel
theorem dX0_copyFrom_0 : decode cX0_copyFrom 0 = .ok (.aload_n 1, 1) := by decide +kernel
theorem dX0_copyFrom_1 : decode cX0_copyFrom 1 = .ok (.getfield 9, 3) := by decide +kernel
theorem dX0_copyFrom_4 : decode cX0_copyFrom 4 = .ok (.iconst 0, 1) := by decide +kernel
theorem dX0_copyFrom_5 : decode cX0_copyFrom 5 = .ok (.aload_n 0, 1) := by decide +kernel
theorem dX0_copyFrom_6 : decode cX0_copyFrom 6 = .ok (.getfield 9, 3) := by decide +kernel
theorem dX0_copyFrom_9 : decode cX0_copyFrom 9 = .ok (.iconst 0, 1) := by decide +kernel
theorem dX0_copyFrom_10 : decode cX0_copyFrom 10 = .ok (.bipush 24, 2) := by decide +kernel
theorem dX0_copyFrom_12 : decode cX0_copyFrom 12 = .ok (.invokestatic 36, 3) := by decide +kernel
theorem dX0_copyFrom_15 : decode cX0_copyFrom 15 = .ok (.return_, 1) := by decide +kernel
theorem dX1_init_0 : decode cX1_init 0 = .ok (.aload_n 0, 1) := by decide +kernel
theorem dX1_init_1 : decode cX1_init 1 = .ok (.invokespecial 3, 3) := by decide +kernel
theorem dX1_init_4 : decode cX1_init 4 = .ok (.aload_n 0, 1) := by decide +kernel
theorem dX1_init_5 : decode cX1_init 5 = .ok (.bipush 100, 2) := by decide +kernel
theorem dX1_init_7 : decode cX1_init 7 = .ok (.newarray .int, 2) := by decide +kernel
theorem dX1_init_9 : decode cX1_init 9 = .ok (.putfield 9, 3) := by decide +kernel
theorem dX1_init_12 : decode cX1_init 12 = .ok (.aload_n 0, 1) := by decide +kernel
theorem dX1_init_13 : decode cX1_init 13 = .ok (.bipush 100, 2) := by decide +kernel
theorem dX1_init_15 : decode cX1_init 15 = .ok (.newarray .int, 2) := by decide +kernel
theorem dX1_init_17 : decode cX1_init 17 = .ok (.putfield 15, 3) := by decide +kernel
theorem dX1_init_20 : decode cX1_init 20 = .ok (.aload_n 0, 1) := by decide +kernel
theorem dX1_init_21 : decode cX1_init 21 = .ok (.iconst 0, 1) := by decide +kernel
theorem dX1_init_22 : decode cX1_init 22 = .ok (.putfield 18, 3) := by decide +kernel
theorem dX1_init_25 : decode cX1_init 25 = .ok (.aload_n 0, 1) := by decide +kernel
theorem dX1_init_26 : decode cX1_init 26 = .ok (.bipush 64, 2) := by decide +kernel
theorem dX1_init_28 : decode cX1_init 28 = .ok (.putfield 22, 3) := by decide +kernel
theorem dX1_init_31 : decode cX1_init 31 = .ok (.aload_n 0, 1) := by decide +kernel
theorem dX1_init_32 : decode cX1_init 32 = .ok (.iconst (-1), 1) := by decide +kernel
theorem dX1_init_33 : decode cX1_init 33 = .ok (.putfield 25, 3) := by decide +kernel
theorem dX1_init_36 : decode cX1_init 36 = .ok (.return_, 1) := by decide +kernel
theorem dX1_renew_0 : decode cX1_renew 0 = .ok (.aload_n 0, 1) := by decide +kernel
theorem dX1_renew_1 : decode cX1_renew 1 = .ok (.iload_n 1, 1) := by decide +kernel
theorem dX1_renew_2 : decode cX1_renew 2 = .ok (.putfield 22, 3) := by decide +kernel
theorem dX1_renew_5 : decode cX1_renew 5 = .ok (.aload_n 0, 1) := by decide +kernel
theorem dX1_renew_6 : decode cX1_renew 6 = .ok (.iconst 0, 1) := by decide +kernel
theorem dX1_renew_7 : decode cX1_renew 7 = .ok (.putfield 18, 3) := by decide +kernel
theorem dX1_renew_10 : decode cX1_renew 10 = .ok (.aload_n 0, 1) := by decide +kernel
theorem dX1_renew_11 : decode cX1_renew 11 = .ok (.iconst (-1), 1) := by decide +kernel
theorem dX1_renew_12 : decode cX1_renew 12 = .ok (.putfield 25, 3) := by decide +kernel
theorem dX1_renew_15 : decode cX1_renew 15 = .ok (.return_, 1) := by decide +kernel
theorem dX1_hasPin_0 : decode cX1_hasPin 0 = .ok (.iconst 0, 1) := by decide +kernel
theorem dX1_hasPin_1 : decode cX1_hasPin 1 = .ok (.istore_n 3, 1) := by decide +kernel
theorem dX1_hasPin_2 : decode cX1_hasPin 2 = .ok (.iload_n 3, 1) := by decide +kernel
theorem dX1_hasPin_3 : decode cX1_hasPin 3 = .ok (.aload_n 0, 1) := by decide +kernel
theorem dX1_hasPin_4 : decode cX1_hasPin 4 = .ok (.getfield 18, 3) := by decide +kernel
theorem dX1_hasPin_7 : decode cX1_hasPin 7 = .ok (.if_icmp .ge 31, 3) := by decide +kernel
theorem dX1_hasPin_10 : decode cX1_hasPin 10 = .ok (.aload_n 0, 1) := by decide +kernel
theorem dX1_hasPin_11 : decode cX1_hasPin 11 = .ok (.getfield 9, 3) := by decide +kernel
theorem dX1_hasPin_14 : decode cX1_hasPin 14 = .ok (.iload_n 3, 1) := by decide +kernel
theorem dX1_hasPin_15 : decode cX1_hasPin 15 = .ok (.iaload, 1) := by decide +kernel
theorem dX1_hasPin_16 : decode cX1_hasPin 16 = .ok (.iload_n 1, 1) := by decide +kernel
theorem dX1_hasPin_17 : decode cX1_hasPin 17 = .ok (.if_icmp .ne 15, 3) := by decide +kernel
theorem dX1_hasPin_20 : decode cX1_hasPin 20 = .ok (.aload_n 0, 1) := by decide +kernel
theorem dX1_hasPin_21 : decode cX1_hasPin 21 = .ok (.getfield 15, 3) := by decide +kernel
theorem dX1_hasPin_24 : decode cX1_hasPin 24 = .ok (.iload_n 3, 1) := by decide +kernel
theorem dX1_hasPin_25 : decode cX1_hasPin 25 = .ok (.iaload, 1) := by decide +kernel
theorem dX1_hasPin_26 : decode cX1_hasPin 26 = .ok (.iload_n 2, 1) := by decide +kernel
theorem dX1_hasPin_27 : decode cX1_hasPin 27 = .ok (.if_icmp .ne 5, 3) := by decide +kernel
theorem dX1_hasPin_30 : decode cX1_hasPin 30 = .ok (.iconst 1, 1) := by decide +kernel
theorem dX1_hasPin_31 : decode cX1_hasPin 31 = .ok (.ireturn, 1) := by decide +kernel
theorem dX1_hasPin_32 : decode cX1_hasPin 32 = .ok (.iinc 3 1, 3) := by decide +kernel
theorem dX1_hasPin_35 : decode cX1_hasPin 35 = .ok (.goto (-33), 3) := by decide +kernel
theorem dX1_hasPin_38 : decode cX1_hasPin 38 = .ok (.iconst 0, 1) := by decide +kernel
theorem dX1_hasPin_39 : decode cX1_hasPin 39 = .ok (.ireturn, 1) := by decide +kernel
theorem dX1_fits_0 : decode cX1_fits 0 = .ok (.aload_n 1, 1) := by decide +kernel
theorem dX1_fits_1 : decode cX1_fits 1 = .ok (.getfield 28, 3) := by decide +kernel
theorem dX1_fits_4 : decode cX1_fits 4 = .ok (.ifCond .eq 21, 3) := by decide +kernel
theorem dX1_fits_7 : decode cX1_fits 7 = .ok (.aload_n 1, 1) := by decide +kernel
theorem dX1_fits_8 : decode cX1_fits 8 = .ok (.getfield 31, 3) := by decide +kernel
theorem dX1_fits_11 : decode cX1_fits 11 = .ok (.aload_n 1, 1) := by decide +kernel
theorem dX1_fits_12 : decode cX1_fits 12 = .ok (.getfield 28, 3) := by decide +kernel
theorem dX1_fits_15 : decode cX1_fits 15 = .ok (.iconst 1, 1) := by decide +kernel
theorem dX1_fits_16 : decode cX1_fits 16 = .ok (.isub, 1) := by decide +kernel
theorem dX1_fits_17 : decode cX1_fits 17 = .ok (.iaload, 1) := by decide +kernel
theorem dX1_fits_18 : decode cX1_fits 18 = .ok (.aload_n 0, 1) := by decide +kernel
theorem dX1_fits_19 : decode cX1_fits 19 = .ok (.getfield 22, 3) := by decide +kernel
theorem dX1_fits_22 : decode cX1_fits 22 = .ok (.if_icmp .ge 7, 3) := by decide +kernel
theorem dX1_fits_25 : decode cX1_fits 25 = .ok (.iconst 1, 1) := by decide +kernel
theorem dX1_fits_26 : decode cX1_fits 26 = .ok (.goto 4, 3) := by decide +kernel
theorem dX1_fits_29 : decode cX1_fits 29 = .ok (.iconst 0, 1) := by decide +kernel
theorem dX1_fits_30 : decode cX1_fits 30 = .ok (.ireturn, 1) := by decide +kernel
theorem dX1_pinDown_0 : decode cX1_pinDown 0 = .ok (.iconst 0, 1) := by decide +kernel
theorem dX1_pinDown_1 : decode cX1_pinDown 1 = .ok (.istore_n 3, 1) := by decide +kernel
theorem dX1_pinDown_2 : decode cX1_pinDown 2 = .ok (.iload_n 3, 1) := by decide +kernel
theorem dX1_pinDown_3 : decode cX1_pinDown 3 = .ok (.aload_n 1, 1) := by decide +kernel
theorem dX1_pinDown_4 : decode cX1_pinDown 4 = .ok (.getfield 28, 3) := by decide +kernel
theorem dX1_pinDown_7 : decode cX1_pinDown 7 = .ok (.if_icmp .ge 58, 3) := by decide +kernel
theorem dX1_pinDown_10 : decode cX1_pinDown 10 = .ok (.aload_n 1, 1) := by decide +kernel
theorem dX1_pinDown_11 : decode cX1_pinDown 11 = .ok (.getfield 31, 3) := by decide +kernel
theorem dX1_pinDown_14 : decode cX1_pinDown 14 = .ok (.iload_n 3, 1) := by decide +kernel
theorem dX1_pinDown_15 : decode cX1_pinDown 15 = .ok (.iaload, 1) := by decide +kernel
theorem dX1_pinDown_16 : decode cX1_pinDown 16 = .ok (.iload_n 2, 1) := by decide +kernel
theorem dX1_pinDown_17 : decode cX1_pinDown 17 = .ok (.iadd, 1) := by decide +kernel
theorem dX1_pinDown_18 : decode cX1_pinDown 18 = .ok (.istore 4, 2) := by decide +kernel
theorem dX1_pinDown_20 : decode cX1_pinDown 20 = .ok (.aload_n 0, 1) := by decide +kernel
theorem dX1_pinDown_21 : decode cX1_pinDown 21 = .ok (.getfield 9, 3) := by decide +kernel
theorem dX1_pinDown_24 : decode cX1_pinDown 24 = .ok (.iload_n 3, 1) := by decide +kernel
theorem dX1_pinDown_25 : decode cX1_pinDown 25 = .ok (.iload 4, 2) := by decide +kernel
theorem dX1_pinDown_27 : decode cX1_pinDown 27 = .ok (.aload_n 0, 1) := by decide +kernel
theorem dX1_pinDown_28 : decode cX1_pinDown 28 = .ok (.getfield 22, 3) := by decide +kernel
theorem dX1_pinDown_31 : decode cX1_pinDown 31 = .ok (.if_icmp .ge 8, 3) := by decide +kernel
theorem dX1_pinDown_34 : decode cX1_pinDown 34 = .ok (.iload 4, 2) := by decide +kernel
theorem dX1_pinDown_36 : decode cX1_pinDown 36 = .ok (.goto 10, 3) := by decide +kernel
theorem dX1_pinDown_39 : decode cX1_pinDown 39 = .ok (.iload 4, 2) := by decide +kernel
theorem dX1_pinDown_41 : decode cX1_pinDown 41 = .ok (.aload_n 0, 1) := by decide +kernel
theorem dX1_pinDown_42 : decode cX1_pinDown 42 = .ok (.getfield 22, 3) := by decide +kernel
theorem dX1_pinDown_45 : decode cX1_pinDown 45 = .ok (.isub, 1) := by decide +kernel
theorem dX1_pinDown_46 : decode cX1_pinDown 46 = .ok (.iastore, 1) := by decide +kernel
theorem dX1_pinDown_47 : decode cX1_pinDown 47 = .ok (.aload_n 0, 1) := by decide +kernel
theorem dX1_pinDown_48 : decode cX1_pinDown 48 = .ok (.getfield 15, 3) := by decide +kernel
theorem dX1_pinDown_51 : decode cX1_pinDown 51 = .ok (.iload_n 3, 1) := by decide +kernel
theorem dX1_pinDown_52 : decode cX1_pinDown 52 = .ok (.aload_n 1, 1) := by decide +kernel
theorem dX1_pinDown_53 : decode cX1_pinDown 53 = .ok (.getfield 34, 3) := by decide +kernel
theorem dX1_pinDown_56 : decode cX1_pinDown 56 = .ok (.iload_n 3, 1) := by decide +kernel
theorem dX1_pinDown_57 : decode cX1_pinDown 57 = .ok (.iaload, 1) := by decide +kernel
theorem dX1_pinDown_58 : decode cX1_pinDown 58 = .ok (.iastore, 1) := by decide +kernel
theorem dX1_pinDown_59 : decode cX1_pinDown 59 = .ok (.iinc 3 1, 3) := by decide +kernel
theorem dX1_pinDown_62 : decode cX1_pinDown 62 = .ok (.goto (-60), 3) := by decide +kernel
theorem dX1_pinDown_65 : decode cX1_pinDown 65 = .ok (.aload_n 0, 1) := by decide +kernel
theorem dX1_pinDown_66 : decode cX1_pinDown 66 = .ok (.aload_n 1, 1) := by decide +kernel
theorem dX1_pinDown_67 : decode cX1_pinDown 67 = .ok (.getfield 28, 3) := by decide +kernel
theorem dX1_pinDown_70 : decode cX1_pinDown 70 = .ok (.putfield 18, 3) := by decide +kernel
theorem dX1_pinDown_73 : decode cX1_pinDown 73 = .ok (.aload_n 0, 1) := by decide +kernel
theorem dX1_pinDown_74 : decode cX1_pinDown 74 = .ok (.iload_n 2, 1) := by decide +kernel
theorem dX1_pinDown_75 : decode cX1_pinDown 75 = .ok (.putfield 25, 3) := by decide +kernel
theorem dX1_pinDown_78 : decode cX1_pinDown 78 = .ok (.return_, 1) := by decide +kernel
theorem dX1_copyFrom_0 : decode cX1_copyFrom 0 = .ok (.aload_n 1, 1) := by decide +kernel
theorem dX1_copyFrom_1 : decode cX1_copyFrom 1 = .ok (.getfield 9, 3) := by decide +kernel
theorem dX1_copyFrom_4 : decode cX1_copyFrom 4 = .ok (.iconst 0, 1) := by decide +kernel
theorem dX1_copyFrom_5 : decode cX1_copyFrom 5 = .ok (.aload_n 0, 1) := by decide +kernel
theorem dX1_copyFrom_6 : decode cX1_copyFrom 6 = .ok (.getfield 9, 3) := by decide +kernel
theorem dX1_copyFrom_9 : decode cX1_copyFrom 9 = .ok (.iconst 0, 1) := by decide +kernel
theorem dX1_copyFrom_10 : decode cX1_copyFrom 10 = .ok (.bipush 100, 2) := by decide +kernel
theorem dX1_copyFrom_12 : decode cX1_copyFrom 12 = .ok (.invokestatic 37, 3) := by decide +kernel
theorem dX1_copyFrom_15 : decode cX1_copyFrom 15 = .ok (.aload_n 1, 1) := by decide +kernel
theorem dX1_copyFrom_16 : decode cX1_copyFrom 16 = .ok (.getfield 15, 3) := by decide +kernel
theorem dX1_copyFrom_19 : decode cX1_copyFrom 19 = .ok (.iconst 0, 1) := by decide +kernel
theorem dX1_copyFrom_20 : decode cX1_copyFrom 20 = .ok (.aload_n 0, 1) := by decide +kernel
theorem dX1_copyFrom_21 : decode cX1_copyFrom 21 = .ok (.getfield 15, 3) := by decide +kernel
theorem dX1_copyFrom_24 : decode cX1_copyFrom 24 = .ok (.iconst 0, 1) := by decide +kernel
theorem dX1_copyFrom_25 : decode cX1_copyFrom 25 = .ok (.bipush 100, 2) := by decide +kernel
theorem dX1_copyFrom_27 : decode cX1_copyFrom 27 = .ok (.invokestatic 37, 3) := by decide +kernel
theorem dX1_copyFrom_30 : decode cX1_copyFrom 30 = .ok (.aload_n 0, 1) := by decide +kernel
theorem dX1_copyFrom_31 : decode cX1_copyFrom 31 = .ok (.aload_n 1, 1) := by decide +kernel
theorem dX1_copyFrom_32 : decode cX1_copyFrom 32 = .ok (.getfield 18, 3) := by decide +kernel
theorem dX1_copyFrom_35 : decode cX1_copyFrom 35 = .ok (.putfield 18, 3) := by decide +kernel
theorem dX1_copyFrom_38 : decode cX1_copyFrom 38 = .ok (.aload_n 0, 1) := by decide +kernel
theorem dX1_copyFrom_39 : decode cX1_copyFrom 39 = .ok (.aload_n 1, 1) := by decide +kernel
theorem dX1_copyFrom_40 : decode cX1_copyFrom 40 = .ok (.getfield 22, 3) := by decide +kernel
theorem dX1_copyFrom_43 : decode cX1_copyFrom 43 = .ok (.putfield 22, 3) := by decide +kernel
theorem dX1_copyFrom_46 : decode cX1_copyFrom 46 = .ok (.aload_n 0, 1) := by decide +kernel
theorem dX1_copyFrom_47 : decode cX1_copyFrom 47 = .ok (.aload_n 1, 1) := by decide +kernel
theorem dX1_copyFrom_48 : decode cX1_copyFrom 48 = .ok (.getfield 25, 3) := by decide +kernel
theorem dX1_copyFrom_51 : decode cX1_copyFrom 51 = .ok (.putfield 25, 3) := by decide +kernel
theorem dX1_copyFrom_54 : decode cX1_copyFrom 54 = .ok (.return_, 1) := by decide +kernel
theorem dX2_init_0 : decode cX2_init 0 = .ok (.aload_n 0, 1) := by decide +kernel
theorem dX2_init_1 : decode cX2_init 1 = .ok (.invokespecial 3, 3) := by decide +kernel
theorem dX2_init_4 : decode cX2_init 4 = .ok (.aload_n 0, 1) := by decide +kernel
theorem dX2_init_5 : decode cX2_init 5 = .ok (.new 9, 3) := by decide +kernel
theorem dX2_init_8 : decode cX2_init 8 = .ok (.dup, 1) := by decide +kernel
theorem dX2_init_9 : decode cX2_init 9 = .ok (.invokespecial 11, 3) := by decide +kernel
theorem dX2_init_12 : decode cX2_init 12 = .ok (.putfield 12, 3) := by decide +kernel
theorem dX2_init_15 : decode cX2_init 15 = .ok (.aload_n 0, 1) := by decide +kernel
theorem dX2_init_16 : decode cX2_init 16 = .ok (.new 18, 3) := by decide +kernel
theorem dX2_init_19 : decode cX2_init 19 = .ok (.dup, 1) := by decide +kernel
theorem dX2_init_20 : decode cX2_init 20 = .ok (.invokespecial 20, 3) := by decide +kernel
theorem dX2_init_23 : decode cX2_init 23 = .ok (.putfield 21, 3) := by decide +kernel
theorem dX2_init_26 : decode cX2_init 26 = .ok (.aload_n 0, 1) := by decide +kernel
theorem dX2_init_27 : decode cX2_init 27 = .ok (.new 25, 3) := by decide +kernel
theorem dX2_init_30 : decode cX2_init 30 = .ok (.dup, 1) := by decide +kernel
theorem dX2_init_31 : decode cX2_init 31 = .ok (.invokespecial 27, 3) := by decide +kernel
theorem dX2_init_34 : decode cX2_init 34 = .ok (.putfield 28, 3) := by decide +kernel
theorem dX2_init_37 : decode cX2_init 37 = .ok (.aload_n 0, 1) := by decide +kernel
theorem dX2_init_38 : decode cX2_init 38 = .ok (.new 32, 3) := by decide +kernel
theorem dX2_init_41 : decode cX2_init 41 = .ok (.dup, 1) := by decide +kernel
theorem dX2_init_42 : decode cX2_init 42 = .ok (.invokespecial 34, 3) := by decide +kernel
theorem dX2_init_45 : decode cX2_init 45 = .ok (.putfield 35, 3) := by decide +kernel
theorem dX2_init_48 : decode cX2_init 48 = .ok (.aload_n 0, 1) := by decide +kernel
theorem dX2_init_49 : decode cX2_init 49 = .ok (.iconst 0, 1) := by decide +kernel
theorem dX2_init_50 : decode cX2_init 50 = .ok (.putfield 39, 3) := by decide +kernel
theorem dX2_init_53 : decode cX2_init 53 = .ok (.aload_n 0, 1) := by decide +kernel
theorem dX2_init_54 : decode cX2_init 54 = .ok (.iconst (-1), 1) := by decide +kernel
theorem dX2_init_55 : decode cX2_init 55 = .ok (.putfield 43, 3) := by decide +kernel
theorem dX2_init_58 : decode cX2_init 58 = .ok (.aload_n 0, 1) := by decide +kernel
theorem dX2_init_59 : decode cX2_init 59 = .ok (.iconst 4, 1) := by decide +kernel
theorem dX2_init_60 : decode cX2_init 60 = .ok (.putfield 46, 3) := by decide +kernel
theorem dX2_init_63 : decode cX2_init 63 = .ok (.aload_n 0, 1) := by decide +kernel
theorem dX2_init_64 : decode cX2_init 64 = .ok (.bipush 100, 2) := by decide +kernel
theorem dX2_init_66 : decode cX2_init 66 = .ok (.putfield 49, 3) := by decide +kernel
theorem dX2_init_69 : decode cX2_init 69 = .ok (.return_, 1) := by decide +kernel
theorem dX2_copyFrom_0 : decode cX2_copyFrom 0 = .ok (.aload_n 0, 1) := by decide +kernel
theorem dX2_copyFrom_1 : decode cX2_copyFrom 1 = .ok (.getfield 12, 3) := by decide +kernel
theorem dX2_copyFrom_4 : decode cX2_copyFrom 4 = .ok (.aload_n 1, 1) := by decide +kernel
theorem dX2_copyFrom_5 : decode cX2_copyFrom 5 = .ok (.getfield 12, 3) := by decide +kernel
theorem dX2_copyFrom_8 : decode cX2_copyFrom 8 = .ok (.invokevirtual 52, 3) := by decide +kernel
theorem dX2_copyFrom_11 : decode cX2_copyFrom 11 = .ok (.aload_n 0, 1) := by decide +kernel
theorem dX2_copyFrom_12 : decode cX2_copyFrom 12 = .ok (.getfield 21, 3) := by decide +kernel
theorem dX2_copyFrom_15 : decode cX2_copyFrom 15 = .ok (.aload_n 1, 1) := by decide +kernel
theorem dX2_copyFrom_16 : decode cX2_copyFrom 16 = .ok (.getfield 21, 3) := by decide +kernel
theorem dX2_copyFrom_19 : decode cX2_copyFrom 19 = .ok (.invokevirtual 56, 3) := by decide +kernel
theorem dX2_copyFrom_22 : decode cX2_copyFrom 22 = .ok (.aload_n 0, 1) := by decide +kernel
theorem dX2_copyFrom_23 : decode cX2_copyFrom 23 = .ok (.getfield 28, 3) := by decide +kernel
theorem dX2_copyFrom_26 : decode cX2_copyFrom 26 = .ok (.aload_n 1, 1) := by decide +kernel
theorem dX2_copyFrom_27 : decode cX2_copyFrom 27 = .ok (.getfield 28, 3) := by decide +kernel
theorem dX2_copyFrom_30 : decode cX2_copyFrom 30 = .ok (.invokevirtual 59, 3) := by decide +kernel
theorem dX2_copyFrom_33 : decode cX2_copyFrom 33 = .ok (.aload_n 0, 1) := by decide +kernel
theorem dX2_copyFrom_34 : decode cX2_copyFrom 34 = .ok (.getfield 35, 3) := by decide +kernel
theorem dX2_copyFrom_37 : decode cX2_copyFrom 37 = .ok (.aload_n 1, 1) := by decide +kernel
theorem dX2_copyFrom_38 : decode cX2_copyFrom 38 = .ok (.getfield 35, 3) := by decide +kernel
theorem dX2_copyFrom_41 : decode cX2_copyFrom 41 = .ok (.invokevirtual 62, 3) := by decide +kernel
theorem dX2_copyFrom_44 : decode cX2_copyFrom 44 = .ok (.aload_n 0, 1) := by decide +kernel
theorem dX2_copyFrom_45 : decode cX2_copyFrom 45 = .ok (.aload_n 1, 1) := by decide +kernel
theorem dX2_copyFrom_46 : decode cX2_copyFrom 46 = .ok (.getfield 39, 3) := by decide +kernel
theorem dX2_copyFrom_49 : decode cX2_copyFrom 49 = .ok (.putfield 39, 3) := by decide +kernel
theorem dX2_copyFrom_52 : decode cX2_copyFrom 52 = .ok (.aload_n 0, 1) := by decide +kernel
theorem dX2_copyFrom_53 : decode cX2_copyFrom 53 = .ok (.aload_n 1, 1) := by decide +kernel
theorem dX2_copyFrom_54 : decode cX2_copyFrom 54 = .ok (.getfield 43, 3) := by decide +kernel
theorem dX2_copyFrom_57 : decode cX2_copyFrom 57 = .ok (.putfield 43, 3) := by decide +kernel
theorem dX2_copyFrom_60 : decode cX2_copyFrom 60 = .ok (.aload_n 0, 1) := by decide +kernel
theorem dX2_copyFrom_61 : decode cX2_copyFrom 61 = .ok (.aload_n 1, 1) := by decide +kernel
theorem dX2_copyFrom_62 : decode cX2_copyFrom 62 = .ok (.getfield 46, 3) := by decide +kernel
theorem dX2_copyFrom_65 : decode cX2_copyFrom 65 = .ok (.putfield 46, 3) := by decide +kernel
theorem dX2_copyFrom_68 : decode cX2_copyFrom 68 = .ok (.aload_n 0, 1) := by decide +kernel
theorem dX2_copyFrom_69 : decode cX2_copyFrom 69 = .ok (.aload_n 1, 1) := by decide +kernel
theorem dX2_copyFrom_70 : decode cX2_copyFrom 70 = .ok (.getfield 49, 3) := by decide +kernel
theorem dX2_copyFrom_73 : decode cX2_copyFrom 73 = .ok (.putfield 49, 3) := by decide +kernel
theorem dX2_copyFrom_76 : decode cX2_copyFrom 76 = .ok (.return_, 1) := by decide +kernel
theorem dX3_init_0 : decode cX3_init 0 = .ok (.aload_n 0, 1) := by decide +kernel
theorem dX3_init_1 : decode cX3_init 1 = .ok (.invokespecial 3, 3) := by decide +kernel
theorem dX3_init_4 : decode cX3_init 4 = .ok (.aload_n 0, 1) := by decide +kernel
theorem dX3_init_5 : decode cX3_init 5 = .ok (.iconst 2, 1) := by decide +kernel
theorem dX3_init_6 : decode cX3_init 6 = .ok (.bipush 100, 2) := by decide +kernel
theorem dX3_init_8 : decode cX3_init 8 = .ok (.multianewarray 9 2, 4) := by decide +kernel
theorem dX3_init_12 : decode cX3_init 12 = .ok (.putfield 11, 3) := by decide +kernel
theorem dX3_init_15 : decode cX3_init 15 = .ok (.aload_n 0, 1) := by decide +kernel
theorem dX3_init_16 : decode cX3_init 16 = .ok (.aload_n 1, 1) := by decide +kernel
theorem dX3_init_17 : decode cX3_init 17 = .ok (.putfield 16, 3) := by decide +kernel
theorem dX3_init_20 : decode cX3_init 20 = .ok (.return_, 1) := by decide +kernel
theorem dX3_leastReach_0 : decode cX3_leastReach 0 = .ok (.aload_n 0, 1) := by decide +kernel
theorem dX3_leastReach_1 : decode cX3_leastReach 1 = .ok (.getfield 16, 3) := by decide +kernel
theorem dX3_leastReach_4 : decode cX3_leastReach 4 = .ok (.getfield 20, 3) := by decide +kernel
theorem dX3_leastReach_7 : decode cX3_leastReach 7 = .ok (.ifCond .ne 5, 3) := by decide +kernel
theorem dX3_leastReach_10 : decode cX3_leastReach 10 = .ok (.iconst 1, 1) := by decide +kernel
theorem dX3_leastReach_11 : decode cX3_leastReach 11 = .ok (.ireturn, 1) := by decide +kernel
theorem dX3_leastReach_12 : decode cX3_leastReach 12 = .ok (.aload_n 0, 1) := by decide +kernel
theorem dX3_leastReach_13 : decode cX3_leastReach 13 = .ok (.getfield 11, 3) := by decide +kernel
theorem dX3_leastReach_16 : decode cX3_leastReach 16 = .ok (.iconst 0, 1) := by decide +kernel
theorem dX3_leastReach_17 : decode cX3_leastReach 17 = .ok (.aaload, 1) := by decide +kernel
theorem dX3_leastReach_18 : decode cX3_leastReach 18 = .ok (.iconst 0, 1) := by decide +kernel
theorem dX3_leastReach_19 : decode cX3_leastReach 19 = .ok (.iconst 1, 1) := by decide +kernel
theorem dX3_leastReach_20 : decode cX3_leastReach 20 = .ok (.iastore, 1) := by decide +kernel
theorem dX3_leastReach_21 : decode cX3_leastReach 21 = .ok (.aload_n 0, 1) := by decide +kernel
theorem dX3_leastReach_22 : decode cX3_leastReach 22 = .ok (.getfield 11, 3) := by decide +kernel
theorem dX3_leastReach_25 : decode cX3_leastReach 25 = .ok (.iconst 1, 1) := by decide +kernel
theorem dX3_leastReach_26 : decode cX3_leastReach 26 = .ok (.aaload, 1) := by decide +kernel
theorem dX3_leastReach_27 : decode cX3_leastReach 27 = .ok (.iconst 0, 1) := by decide +kernel
theorem dX3_leastReach_28 : decode cX3_leastReach 28 = .ok (.iconst 1, 1) := by decide +kernel
theorem dX3_leastReach_29 : decode cX3_leastReach 29 = .ok (.iastore, 1) := by decide +kernel
theorem dX3_leastReach_30 : decode cX3_leastReach 30 = .ok (.iconst 1, 1) := by decide +kernel
theorem dX3_leastReach_31 : decode cX3_leastReach 31 = .ok (.istore_n 1, 1) := by decide +kernel
theorem dX3_leastReach_32 : decode cX3_leastReach 32 = .ok (.iload_n 1, 1) := by decide +kernel
theorem dX3_leastReach_33 : decode cX3_leastReach 33 = .ok (.aload_n 0, 1) := by decide +kernel
theorem dX3_leastReach_34 : decode cX3_leastReach 34 = .ok (.getfield 16, 3) := by decide +kernel
theorem dX3_leastReach_37 : decode cX3_leastReach 37 = .ok (.getfield 20, 3) := by decide +kernel
theorem dX3_leastReach_40 : decode cX3_leastReach 40 = .ok (.if_icmp .ge 53, 3) := by decide +kernel
theorem dX3_leastReach_43 : decode cX3_leastReach 43 = .ok (.aload_n 0, 1) := by decide +kernel
theorem dX3_leastReach_44 : decode cX3_leastReach 44 = .ok (.iconst 1, 1) := by decide +kernel
theorem dX3_leastReach_45 : decode cX3_leastReach 45 = .ok (.iload_n 1, 1) := by decide +kernel
theorem dX3_leastReach_46 : decode cX3_leastReach 46 = .ok (.invokevirtual 26, 3) := by decide +kernel
theorem dX3_leastReach_49 : decode cX3_leastReach 49 = .ok (.istore_n 2, 1) := by decide +kernel
theorem dX3_leastReach_50 : decode cX3_leastReach 50 = .ok (.aload_n 0, 1) := by decide +kernel
theorem dX3_leastReach_51 : decode cX3_leastReach 51 = .ok (.iconst 0, 1) := by decide +kernel
theorem dX3_leastReach_52 : decode cX3_leastReach 52 = .ok (.iload_n 1, 1) := by decide +kernel
theorem dX3_leastReach_53 : decode cX3_leastReach 53 = .ok (.invokevirtual 26, 3) := by decide +kernel
theorem dX3_leastReach_56 : decode cX3_leastReach 56 = .ok (.istore_n 3, 1) := by decide +kernel
theorem dX3_leastReach_57 : decode cX3_leastReach 57 = .ok (.aload_n 0, 1) := by decide +kernel
theorem dX3_leastReach_58 : decode cX3_leastReach 58 = .ok (.iconst 0, 1) := by decide +kernel
theorem dX3_leastReach_59 : decode cX3_leastReach 59 = .ok (.iload_n 1, 1) := by decide +kernel
theorem dX3_leastReach_60 : decode cX3_leastReach 60 = .ok (.invokevirtual 30, 3) := by decide +kernel
theorem dX3_leastReach_63 : decode cX3_leastReach 63 = .ok (.aload_n 0, 1) := by decide +kernel
theorem dX3_leastReach_64 : decode cX3_leastReach 64 = .ok (.iconst 1, 1) := by decide +kernel
theorem dX3_leastReach_65 : decode cX3_leastReach 65 = .ok (.iload_n 1, 1) := by decide +kernel
theorem dX3_leastReach_66 : decode cX3_leastReach 66 = .ok (.invokevirtual 30, 3) := by decide +kernel
theorem dX3_leastReach_69 : decode cX3_leastReach 69 = .ok (.aload_n 0, 1) := by decide +kernel
theorem dX3_leastReach_70 : decode cX3_leastReach 70 = .ok (.getfield 11, 3) := by decide +kernel
theorem dX3_leastReach_73 : decode cX3_leastReach 73 = .ok (.iconst 0, 1) := by decide +kernel
theorem dX3_leastReach_74 : decode cX3_leastReach 74 = .ok (.aaload, 1) := by decide +kernel
theorem dX3_leastReach_75 : decode cX3_leastReach 75 = .ok (.iload_n 1, 1) := by decide +kernel
theorem dX3_leastReach_76 : decode cX3_leastReach 76 = .ok (.iload_n 2, 1) := by decide +kernel
theorem dX3_leastReach_77 : decode cX3_leastReach 77 = .ok (.iastore, 1) := by decide +kernel
theorem dX3_leastReach_78 : decode cX3_leastReach 78 = .ok (.aload_n 0, 1) := by decide +kernel
theorem dX3_leastReach_79 : decode cX3_leastReach 79 = .ok (.getfield 11, 3) := by decide +kernel
theorem dX3_leastReach_82 : decode cX3_leastReach 82 = .ok (.iconst 1, 1) := by decide +kernel
theorem dX3_leastReach_83 : decode cX3_leastReach 83 = .ok (.aaload, 1) := by decide +kernel
theorem dX3_leastReach_84 : decode cX3_leastReach 84 = .ok (.iload_n 1, 1) := by decide +kernel
theorem dX3_leastReach_85 : decode cX3_leastReach 85 = .ok (.iload_n 3, 1) := by decide +kernel
theorem dX3_leastReach_86 : decode cX3_leastReach 86 = .ok (.iastore, 1) := by decide +kernel
theorem dX3_leastReach_87 : decode cX3_leastReach 87 = .ok (.iinc 1 1, 3) := by decide +kernel
theorem dX3_leastReach_90 : decode cX3_leastReach 90 = .ok (.goto (-58), 3) := by decide +kernel
theorem dX3_leastReach_93 : decode cX3_leastReach 93 = .ok (.bipush 25, 2) := by decide +kernel
theorem dX3_leastReach_95 : decode cX3_leastReach 95 = .ok (.istore_n 1, 1) := by decide +kernel
theorem dX3_leastReach_96 : decode cX3_leastReach 96 = .ok (.iconst 0, 1) := by decide +kernel
theorem dX3_leastReach_97 : decode cX3_leastReach 97 = .ok (.istore_n 2, 1) := by decide +kernel
theorem dX3_leastReach_98 : decode cX3_leastReach 98 = .ok (.iload_n 2, 1) := by decide +kernel
theorem dX3_leastReach_99 : decode cX3_leastReach 99 = .ok (.aload_n 0, 1) := by decide +kernel
theorem dX3_leastReach_100 : decode cX3_leastReach 100 = .ok (.getfield 16, 3) := by decide +kernel
theorem dX3_leastReach_103 : decode cX3_leastReach 103 = .ok (.getfield 20, 3) := by decide +kernel
theorem dX3_leastReach_106 : decode cX3_leastReach 106 = .ok (.if_icmp .ge 33, 3) := by decide +kernel
theorem dX3_leastReach_109 : decode cX3_leastReach 109 = .ok (.iload_n 1, 1) := by decide +kernel
theorem dX3_leastReach_110 : decode cX3_leastReach 110 = .ok (.aload_n 0, 1) := by decide +kernel
theorem dX3_leastReach_111 : decode cX3_leastReach 111 = .ok (.getfield 11, 3) := by decide +kernel
theorem dX3_leastReach_114 : decode cX3_leastReach 114 = .ok (.iconst 0, 1) := by decide +kernel
theorem dX3_leastReach_115 : decode cX3_leastReach 115 = .ok (.aaload, 1) := by decide +kernel
theorem dX3_leastReach_116 : decode cX3_leastReach 116 = .ok (.iload_n 2, 1) := by decide +kernel
theorem dX3_leastReach_117 : decode cX3_leastReach 117 = .ok (.iaload, 1) := by decide +kernel
theorem dX3_leastReach_118 : decode cX3_leastReach 118 = .ok (.aload_n 0, 1) := by decide +kernel
theorem dX3_leastReach_119 : decode cX3_leastReach 119 = .ok (.getfield 11, 3) := by decide +kernel
theorem dX3_leastReach_122 : decode cX3_leastReach 122 = .ok (.iconst 1, 1) := by decide +kernel
theorem dX3_leastReach_123 : decode cX3_leastReach 123 = .ok (.aaload, 1) := by decide +kernel
theorem dX3_leastReach_124 : decode cX3_leastReach 124 = .ok (.iload_n 2, 1) := by decide +kernel
theorem dX3_leastReach_125 : decode cX3_leastReach 125 = .ok (.iaload, 1) := by decide +kernel
theorem dX3_leastReach_126 : decode cX3_leastReach 126 = .ok (.invokestatic 34, 3) := by decide +kernel
theorem dX3_leastReach_129 : decode cX3_leastReach 129 = .ok (.invokestatic 34, 3) := by decide +kernel
theorem dX3_leastReach_132 : decode cX3_leastReach 132 = .ok (.istore_n 1, 1) := by decide +kernel
theorem dX3_leastReach_133 : decode cX3_leastReach 133 = .ok (.iinc 2 1, 3) := by decide +kernel
theorem dX3_leastReach_136 : decode cX3_leastReach 136 = .ok (.goto (-38), 3) := by decide +kernel
theorem dX3_leastReach_139 : decode cX3_leastReach 139 = .ok (.iload_n 1, 1) := by decide +kernel
theorem dX3_leastReach_140 : decode cX3_leastReach 140 = .ok (.bipush 25, 2) := by decide +kernel
theorem dX3_leastReach_142 : decode cX3_leastReach 142 = .ok (.if_icmp .ge 7, 3) := by decide +kernel
theorem dX3_leastReach_145 : decode cX3_leastReach 145 = .ok (.iload_n 1, 1) := by decide +kernel
theorem dX3_leastReach_146 : decode cX3_leastReach 146 = .ok (.goto 4, 3) := by decide +kernel
theorem dX3_leastReach_149 : decode cX3_leastReach 149 = .ok (.iconst (-1), 1) := by decide +kernel
theorem dX3_leastReach_150 : decode cX3_leastReach 150 = .ok (.ireturn, 1) := by decide +kernel
theorem dX3_handOver_0 : decode cX3_handOver 0 = .ok (.iload_n 1, 1) := by decide +kernel
theorem dX3_handOver_1 : decode cX3_handOver 1 = .ok (.iconst 1, 1) := by decide +kernel
theorem dX3_handOver_2 : decode cX3_handOver 2 = .ok (.if_icmp .ne 29, 3) := by decide +kernel
theorem dX3_handOver_5 : decode cX3_handOver 5 = .ok (.aload_n 0, 1) := by decide +kernel
theorem dX3_handOver_6 : decode cX3_handOver 6 = .ok (.getfield 16, 3) := by decide +kernel
theorem dX3_handOver_9 : decode cX3_handOver 9 = .ok (.getfield 39, 3) := by decide +kernel
theorem dX3_handOver_12 : decode cX3_handOver 12 = .ok (.iload_n 2, 1) := by decide +kernel
theorem dX3_handOver_13 : decode cX3_handOver 13 = .ok (.iaload, 1) := by decide +kernel
theorem dX3_handOver_14 : decode cX3_handOver 14 = .ok (.aload_n 0, 1) := by decide +kernel
theorem dX3_handOver_15 : decode cX3_handOver 15 = .ok (.getfield 16, 3) := by decide +kernel
theorem dX3_handOver_18 : decode cX3_handOver 18 = .ok (.getfield 39, 3) := by decide +kernel
theorem dX3_handOver_21 : decode cX3_handOver 21 = .ok (.iload_n 2, 1) := by decide +kernel
theorem dX3_handOver_22 : decode cX3_handOver 22 = .ok (.iconst 1, 1) := by decide +kernel
theorem dX3_handOver_23 : decode cX3_handOver 23 = .ok (.isub, 1) := by decide +kernel
theorem dX3_handOver_24 : decode cX3_handOver 24 = .ok (.iaload, 1) := by decide +kernel
theorem dX3_handOver_25 : decode cX3_handOver 25 = .ok (.if_icmp .ne 6, 3) := by decide +kernel
theorem dX3_handOver_28 : decode cX3_handOver 28 = .ok (.bipush 25, 2) := by decide +kernel
theorem dX3_handOver_30 : decode cX3_handOver 30 = .ok (.ireturn, 1) := by decide +kernel
theorem dX3_handOver_31 : decode cX3_handOver 31 = .ok (.bipush 25, 2) := by decide +kernel
theorem dX3_handOver_33 : decode cX3_handOver 33 = .ok (.istore_n 3, 1) := by decide +kernel
theorem dX3_handOver_34 : decode cX3_handOver 34 = .ok (.iconst 0, 1) := by decide +kernel
theorem dX3_handOver_35 : decode cX3_handOver 35 = .ok (.istore 4, 2) := by decide +kernel
theorem dX3_handOver_37 : decode cX3_handOver 37 = .ok (.iload 4, 2) := by decide +kernel
theorem dX3_handOver_39 : decode cX3_handOver 39 = .ok (.iload_n 2, 1) := by decide +kernel
theorem dX3_handOver_40 : decode cX3_handOver 40 = .ok (.if_icmp .ge 35, 3) := by decide +kernel
theorem dX3_handOver_43 : decode cX3_handOver 43 = .ok (.iload_n 3, 1) := by decide +kernel
theorem dX3_handOver_44 : decode cX3_handOver 44 = .ok (.aload_n 0, 1) := by decide +kernel
theorem dX3_handOver_45 : decode cX3_handOver 45 = .ok (.getfield 11, 3) := by decide +kernel
theorem dX3_handOver_48 : decode cX3_handOver 48 = .ok (.iload_n 1, 1) := by decide +kernel
theorem dX3_handOver_49 : decode cX3_handOver 49 = .ok (.aaload, 1) := by decide +kernel
theorem dX3_handOver_50 : decode cX3_handOver 50 = .ok (.iload 4, 2) := by decide +kernel
theorem dX3_handOver_52 : decode cX3_handOver 52 = .ok (.iaload, 1) := by decide +kernel
theorem dX3_handOver_53 : decode cX3_handOver 53 = .ok (.aload_n 0, 1) := by decide +kernel
theorem dX3_handOver_54 : decode cX3_handOver 54 = .ok (.iload 4, 2) := by decide +kernel
theorem dX3_handOver_56 : decode cX3_handOver 56 = .ok (.iconst 1, 1) := by decide +kernel
theorem dX3_handOver_57 : decode cX3_handOver 57 = .ok (.isub, 1) := by decide +kernel
theorem dX3_handOver_58 : decode cX3_handOver 58 = .ok (.iload_n 2, 1) := by decide +kernel
theorem dX3_handOver_59 : decode cX3_handOver 59 = .ok (.invokevirtual 43, 3) := by decide +kernel
theorem dX3_handOver_62 : decode cX3_handOver 62 = .ok (.invokestatic 46, 3) := by decide +kernel
theorem dX3_handOver_65 : decode cX3_handOver 65 = .ok (.invokestatic 34, 3) := by decide +kernel
theorem dX3_handOver_68 : decode cX3_handOver 68 = .ok (.istore_n 3, 1) := by decide +kernel
theorem dX3_handOver_69 : decode cX3_handOver 69 = .ok (.iinc 4 1, 3) := by decide +kernel
theorem dX3_handOver_72 : decode cX3_handOver 72 = .ok (.goto (-35), 3) := by decide +kernel
theorem dX3_handOver_75 : decode cX3_handOver 75 = .ok (.iload_n 3, 1) := by decide +kernel
theorem dX3_handOver_76 : decode cX3_handOver 76 = .ok (.ireturn, 1) := by decide +kernel
theorem dX3_stay_0 : decode cX3_stay 0 = .ok (.aload_n 0, 1) := by decide +kernel
theorem dX3_stay_1 : decode cX3_stay 1 = .ok (.iload_n 2, 1) := by decide +kernel
theorem dX3_stay_2 : decode cX3_stay 2 = .ok (.iconst 1, 1) := by decide +kernel
theorem dX3_stay_3 : decode cX3_stay 3 = .ok (.isub, 1) := by decide +kernel
theorem dX3_stay_4 : decode cX3_stay 4 = .ok (.iload_n 2, 1) := by decide +kernel
theorem dX3_stay_5 : decode cX3_stay 5 = .ok (.invokevirtual 43, 3) := by decide +kernel
theorem dX3_stay_8 : decode cX3_stay 8 = .ok (.istore_n 3, 1) := by decide +kernel
theorem dX3_stay_9 : decode cX3_stay 9 = .ok (.iconst 0, 1) := by decide +kernel
theorem dX3_stay_10 : decode cX3_stay 10 = .ok (.istore 4, 2) := by decide +kernel
theorem dX3_stay_12 : decode cX3_stay 12 = .ok (.iload 4, 2) := by decide +kernel
theorem dX3_stay_14 : decode cX3_stay 14 = .ok (.iload_n 2, 1) := by decide +kernel
theorem dX3_stay_15 : decode cX3_stay 15 = .ok (.if_icmp .ge 31, 3) := by decide +kernel
theorem dX3_stay_18 : decode cX3_stay 18 = .ok (.aload_n 0, 1) := by decide +kernel
theorem dX3_stay_19 : decode cX3_stay 19 = .ok (.getfield 11, 3) := by decide +kernel
theorem dX3_stay_22 : decode cX3_stay 22 = .ok (.iload_n 1, 1) := by decide +kernel
theorem dX3_stay_23 : decode cX3_stay 23 = .ok (.aaload, 1) := by decide +kernel
theorem dX3_stay_24 : decode cX3_stay 24 = .ok (.iload 4, 2) := by decide +kernel
theorem dX3_stay_26 : decode cX3_stay 26 = .ok (.aload_n 0, 1) := by decide +kernel
theorem dX3_stay_27 : decode cX3_stay 27 = .ok (.getfield 11, 3) := by decide +kernel
theorem dX3_stay_30 : decode cX3_stay 30 = .ok (.iload_n 1, 1) := by decide +kernel
theorem dX3_stay_31 : decode cX3_stay 31 = .ok (.aaload, 1) := by decide +kernel
theorem dX3_stay_32 : decode cX3_stay 32 = .ok (.iload 4, 2) := by decide +kernel
theorem dX3_stay_34 : decode cX3_stay 34 = .ok (.iaload, 1) := by decide +kernel
theorem dX3_stay_35 : decode cX3_stay 35 = .ok (.iload_n 3, 1) := by decide +kernel
theorem dX3_stay_36 : decode cX3_stay 36 = .ok (.invokestatic 46, 3) := by decide +kernel
theorem dX3_stay_39 : decode cX3_stay 39 = .ok (.iastore, 1) := by decide +kernel
theorem dX3_stay_40 : decode cX3_stay 40 = .ok (.iinc 4 1, 3) := by decide +kernel
theorem dX3_stay_43 : decode cX3_stay 43 = .ok (.goto (-31), 3) := by decide +kernel
theorem dX3_stay_46 : decode cX3_stay 46 = .ok (.return_, 1) := by decide +kernel
theorem dX3_reachFor_0 : decode cX3_reachFor 0 = .ok (.iload_n 1, 1) := by decide +kernel
theorem dX3_reachFor_1 : decode cX3_reachFor 1 = .ok (.iconst (-1), 1) := by decide +kernel
theorem dX3_reachFor_2 : decode cX3_reachFor 2 = .ok (.if_icmp .ne 5, 3) := by decide +kernel
theorem dX3_reachFor_5 : decode cX3_reachFor 5 = .ok (.iconst 1, 1) := by decide +kernel
theorem dX3_reachFor_6 : decode cX3_reachFor 6 = .ok (.ireturn, 1) := by decide +kernel
theorem dX3_reachFor_7 : decode cX3_reachFor 7 = .ok (.aload_n 0, 1) := by decide +kernel
theorem dX3_reachFor_8 : decode cX3_reachFor 8 = .ok (.getfield 16, 3) := by decide +kernel
theorem dX3_reachFor_11 : decode cX3_reachFor 11 = .ok (.getfield 39, 3) := by decide +kernel
theorem dX3_reachFor_14 : decode cX3_reachFor 14 = .ok (.iload_n 2, 1) := by decide +kernel
theorem dX3_reachFor_15 : decode cX3_reachFor 15 = .ok (.iaload, 1) := by decide +kernel
theorem dX3_reachFor_16 : decode cX3_reachFor 16 = .ok (.aload_n 0, 1) := by decide +kernel
theorem dX3_reachFor_17 : decode cX3_reachFor 17 = .ok (.getfield 16, 3) := by decide +kernel
theorem dX3_reachFor_20 : decode cX3_reachFor 20 = .ok (.getfield 39, 3) := by decide +kernel
theorem dX3_reachFor_23 : decode cX3_reachFor 23 = .ok (.iload_n 1, 1) := by decide +kernel
theorem dX3_reachFor_24 : decode cX3_reachFor 24 = .ok (.iaload, 1) := by decide +kernel
theorem dX3_reachFor_25 : decode cX3_reachFor 25 = .ok (.isub, 1) := by decide +kernel
theorem dX3_reachFor_26 : decode cX3_reachFor 26 = .ok (.istore_n 3, 1) := by decide +kernel
theorem dX3_reachFor_27 : decode cX3_reachFor 27 = .ok (.iload_n 3, 1) := by decide +kernel
theorem dX3_reachFor_28 : decode cX3_reachFor 28 = .ok (.iconst 1, 1) := by decide +kernel
theorem dX3_reachFor_29 : decode cX3_reachFor 29 = .ok (.if_icmp .ge 6, 3) := by decide +kernel
theorem dX3_reachFor_32 : decode cX3_reachFor 32 = .ok (.bipush 25, 2) := by decide +kernel
theorem dX3_reachFor_34 : decode cX3_reachFor 34 = .ok (.ireturn, 1) := by decide +kernel
theorem dX3_reachFor_35 : decode cX3_reachFor 35 = .ok (.aload_n 0, 1) := by decide +kernel
theorem dX3_reachFor_36 : decode cX3_reachFor 36 = .ok (.getfield 16, 3) := by decide +kernel
theorem dX3_reachFor_39 : decode cX3_reachFor 39 = .ok (.iload_n 1, 1) := by decide +kernel
theorem dX3_reachFor_40 : decode cX3_reachFor 40 = .ok (.iload_n 2, 1) := by decide +kernel
theorem dX3_reachFor_41 : decode cX3_reachFor 41 = .ok (.invokevirtual 49, 3) := by decide +kernel
theorem dX3_reachFor_44 : decode cX3_reachFor 44 = .ok (.iload_n 3, 1) := by decide +kernel
theorem dX3_reachFor_45 : decode cX3_reachFor 45 = .ok (.iadd, 1) := by decide +kernel
theorem dX3_reachFor_46 : decode cX3_reachFor 46 = .ok (.iconst 1, 1) := by decide +kernel
theorem dX3_reachFor_47 : decode cX3_reachFor 47 = .ok (.isub, 1) := by decide +kernel
theorem dX3_reachFor_48 : decode cX3_reachFor 48 = .ok (.iload_n 3, 1) := by decide +kernel
theorem dX3_reachFor_49 : decode cX3_reachFor 49 = .ok (.idiv, 1) := by decide +kernel
theorem dX3_reachFor_50 : decode cX3_reachFor 50 = .ok (.ireturn, 1) := by decide +kernel
theorem dX4_init_0 : decode cX4_init 0 = .ok (.aload_n 0, 1) := by decide +kernel
theorem dX4_init_1 : decode cX4_init 1 = .ok (.invokespecial 3, 3) := by decide +kernel
theorem dX4_init_4 : decode cX4_init 4 = .ok (.aload_n 0, 1) := by decide +kernel
theorem dX4_init_5 : decode cX4_init 5 = .ok (.new 9, 3) := by decide +kernel
theorem dX4_init_8 : decode cX4_init 8 = .ok (.dup, 1) := by decide +kernel
theorem dX4_init_9 : decode cX4_init 9 = .ok (.invokespecial 11, 3) := by decide +kernel
theorem dX4_init_12 : decode cX4_init 12 = .ok (.putfield 12, 3) := by decide +kernel
theorem dX4_init_15 : decode cX4_init 15 = .ok (.aload_n 0, 1) := by decide +kernel
theorem dX4_init_16 : decode cX4_init 16 = .ok (.iconst 4, 1) := by decide +kernel
theorem dX4_init_17 : decode cX4_init 17 = .ok (.newarray .int, 2) := by decide +kernel
theorem dX4_init_19 : decode cX4_init 19 = .ok (.putfield 18, 3) := by decide +kernel
theorem dX4_init_22 : decode cX4_init 22 = .ok (.aload_n 0, 1) := by decide +kernel
theorem dX4_init_23 : decode cX4_init 23 = .ok (.iconst 4, 1) := by decide +kernel
theorem dX4_init_24 : decode cX4_init 24 = .ok (.newarray .int, 2) := by decide +kernel
theorem dX4_init_26 : decode cX4_init 26 = .ok (.putfield 22, 3) := by decide +kernel
theorem dX4_init_29 : decode cX4_init 29 = .ok (.aload_n 0, 1) := by decide +kernel
theorem dX4_init_30 : decode cX4_init 30 = .ok (.iconst 4, 1) := by decide +kernel
theorem dX4_init_31 : decode cX4_init 31 = .ok (.newarray .int, 2) := by decide +kernel
theorem dX4_init_33 : decode cX4_init 33 = .ok (.putfield 25, 3) := by decide +kernel
theorem dX4_init_36 : decode cX4_init 36 = .ok (.aload_n 0, 1) := by decide +kernel
theorem dX4_init_37 : decode cX4_init 37 = .ok (.iconst 4, 1) := by decide +kernel
theorem dX4_init_38 : decode cX4_init 38 = .ok (.newarray .int, 2) := by decide +kernel
theorem dX4_init_40 : decode cX4_init 40 = .ok (.putfield 28, 3) := by decide +kernel
theorem dX4_init_43 : decode cX4_init 43 = .ok (.aload_n 0, 1) := by decide +kernel
theorem dX4_init_44 : decode cX4_init 44 = .ok (.aload_n 1, 1) := by decide +kernel
theorem dX4_init_45 : decode cX4_init 45 = .ok (.putfield 31, 3) := by decide +kernel
theorem dX4_init_48 : decode cX4_init 48 = .ok (.return_, 1) := by decide +kernel
theorem dX4_readAll_0 : decode cX4_readAll 0 = .ok (.aload_n 0, 1) := by decide +kernel
theorem dX4_readAll_1 : decode cX4_readAll 1 = .ok (.invokevirtual 35, 3) := by decide +kernel
theorem dX4_readAll_4 : decode cX4_readAll 4 = .ok (.iconst 1, 1) := by decide +kernel
theorem dX4_readAll_5 : decode cX4_readAll 5 = .ok (.istore_n 1, 1) := by decide +kernel
theorem dX4_readAll_6 : decode cX4_readAll 6 = .ok (.iconst 0, 1) := by decide +kernel
theorem dX4_readAll_7 : decode cX4_readAll 7 = .ok (.istore_n 2, 1) := by decide +kernel
theorem dX4_readAll_8 : decode cX4_readAll 8 = .ok (.iload_n 1, 1) := by decide +kernel
theorem dX4_readAll_9 : decode cX4_readAll 9 = .ok (.ifCond .eq 118, 3) := by decide +kernel
theorem dX4_readAll_12 : decode cX4_readAll 12 = .ok (.iload_n 2, 1) := by decide +kernel
theorem dX4_readAll_13 : decode cX4_readAll 13 = .ok (.ldc 38, 2) := by decide +kernel
theorem dX4_readAll_15 : decode cX4_readAll 15 = .ok (.if_icmp .ge 112, 3) := by decide +kernel
theorem dX4_readAll_18 : decode cX4_readAll 18 = .ok (.aload_n 0, 1) := by decide +kernel
theorem dX4_readAll_19 : decode cX4_readAll 19 = .ok (.invokevirtual 39, 3) := by decide +kernel
theorem dX4_readAll_22 : decode cX4_readAll 22 = .ok (.istore_n 3, 1) := by decide +kernel
theorem dX4_readAll_23 : decode cX4_readAll 23 = .ok (.iload_n 3, 1) := by decide +kernel
theorem dX4_readAll_24 : decode cX4_readAll 24 = .ok (.invokestatic 43, 3) := by decide +kernel
theorem dX4_readAll_27 : decode cX4_readAll 27 = .ok (.ifCond .eq 10, 3) := by decide +kernel
theorem dX4_readAll_30 : decode cX4_readAll 30 = .ok (.aload_n 0, 1) := by decide +kernel
theorem dX4_readAll_31 : decode cX4_readAll 31 = .ok (.invokevirtual 47, 3) := by decide +kernel
theorem dX4_readAll_34 : decode cX4_readAll 34 = .ok (.goto 69, 3) := by decide +kernel
theorem dX4_readAll_37 : decode cX4_readAll 37 = .ok (.iload_n 3, 1) := by decide +kernel
theorem dX4_readAll_38 : decode cX4_readAll 38 = .ok (.bipush 125, 2) := by decide +kernel
theorem dX4_readAll_40 : decode cX4_readAll 40 = .ok (.if_icmp .ne 10, 3) := by decide +kernel
theorem dX4_readAll_43 : decode cX4_readAll 43 = .ok (.aload_n 0, 1) := by decide +kernel
theorem dX4_readAll_44 : decode cX4_readAll 44 = .ok (.invokevirtual 50, 3) := by decide +kernel
theorem dX4_readAll_47 : decode cX4_readAll 47 = .ok (.goto 56, 3) := by decide +kernel
theorem dX4_readAll_50 : decode cX4_readAll 50 = .ok (.iload_n 3, 1) := by decide +kernel
theorem dX4_readAll_51 : decode cX4_readAll 51 = .ok (.bipush 98, 2) := by decide +kernel
theorem dX4_readAll_53 : decode cX4_readAll 53 = .ok (.if_icmp .eq 21, 3) := by decide +kernel
theorem dX4_readAll_56 : decode cX4_readAll 56 = .ok (.iload_n 3, 1) := by decide +kernel
theorem dX4_readAll_57 : decode cX4_readAll 57 = .ok (.bipush 40, 2) := by decide +kernel
theorem dX4_readAll_59 : decode cX4_readAll 59 = .ok (.if_icmp .eq 15, 3) := by decide +kernel
theorem dX4_readAll_62 : decode cX4_readAll 62 = .ok (.iload_n 3, 1) := by decide +kernel
theorem dX4_readAll_63 : decode cX4_readAll 63 = .ok (.bipush 95, 2) := by decide +kernel
theorem dX4_readAll_65 : decode cX4_readAll 65 = .ok (.if_icmp .eq 9, 3) := by decide +kernel
theorem dX4_readAll_68 : decode cX4_readAll 68 = .ok (.iload_n 3, 1) := by decide +kernel
theorem dX4_readAll_69 : decode cX4_readAll 69 = .ok (.bipush 116, 2) := by decide +kernel
theorem dX4_readAll_71 : decode cX4_readAll 71 = .ok (.if_icmp .ne 11, 3) := by decide +kernel
theorem dX4_readAll_74 : decode cX4_readAll 74 = .ok (.aload_n 0, 1) := by decide +kernel
theorem dX4_readAll_75 : decode cX4_readAll 75 = .ok (.iload_n 3, 1) := by decide +kernel
theorem dX4_readAll_76 : decode cX4_readAll 76 = .ok (.invokevirtual 53, 3) := by decide +kernel
theorem dX4_readAll_79 : decode cX4_readAll 79 = .ok (.goto 24, 3) := by decide +kernel
theorem dX4_readAll_82 : decode cX4_readAll 82 = .ok (.iload_n 3, 1) := by decide +kernel
theorem dX4_readAll_83 : decode cX4_readAll 83 = .ok (.iconst (-1), 1) := by decide +kernel
theorem dX4_readAll_84 : decode cX4_readAll 84 = .ok (.if_icmp .ne 10, 3) := by decide +kernel
theorem dX4_readAll_87 : decode cX4_readAll 87 = .ok (.aload_n 0, 1) := by decide +kernel
theorem dX4_readAll_88 : decode cX4_readAll 88 = .ok (.getfield 57, 3) := by decide +kernel
theorem dX4_readAll_91 : decode cX4_readAll 91 = .ok (.ifCond .le 12, 3) := by decide +kernel
theorem dX4_readAll_94 : decode cX4_readAll 94 = .ok (.aload_n 0, 1) := by decide +kernel
theorem dX4_readAll_95 : decode cX4_readAll 95 = .ok (.iconst 1, 1) := by decide +kernel
theorem dX4_readAll_96 : decode cX4_readAll 96 = .ok (.aload_n 0, 1) := by decide +kernel
theorem dX4_readAll_97 : decode cX4_readAll 97 = .ok (.getfield 61, 3) := by decide +kernel
theorem dX4_readAll_100 : decode cX4_readAll 100 = .ok (.invokevirtual 64, 3) := by decide +kernel
theorem dX4_readAll_103 : decode cX4_readAll 103 = .ok (.iload_n 3, 1) := by decide +kernel
theorem dX4_readAll_104 : decode cX4_readAll 104 = .ok (.iconst (-1), 1) := by decide +kernel
theorem dX4_readAll_105 : decode cX4_readAll 105 = .ok (.if_icmp .eq 14, 3) := by decide +kernel
theorem dX4_readAll_108 : decode cX4_readAll 108 = .ok (.aload_n 0, 1) := by decide +kernel
theorem dX4_readAll_109 : decode cX4_readAll 109 = .ok (.getfield 68, 3) := by decide +kernel
theorem dX4_readAll_112 : decode cX4_readAll 112 = .ok (.ifCond .ne 7, 3) := by decide +kernel
theorem dX4_readAll_115 : decode cX4_readAll 115 = .ok (.iconst 1, 1) := by decide +kernel
theorem dX4_readAll_116 : decode cX4_readAll 116 = .ok (.goto 4, 3) := by decide +kernel
theorem dX4_readAll_119 : decode cX4_readAll 119 = .ok (.iconst 0, 1) := by decide +kernel
theorem dX4_readAll_120 : decode cX4_readAll 120 = .ok (.istore_n 1, 1) := by decide +kernel
theorem dX4_readAll_121 : decode cX4_readAll 121 = .ok (.iinc 2 1, 3) := by decide +kernel
theorem dX4_readAll_124 : decode cX4_readAll 124 = .ok (.goto (-116), 3) := by decide +kernel
theorem dX4_readAll_127 : decode cX4_readAll 127 = .ok (.aload_n 0, 1) := by decide +kernel
theorem dX4_readAll_128 : decode cX4_readAll 128 = .ok (.getfield 12, 3) := by decide +kernel
theorem dX4_readAll_131 : decode cX4_readAll 131 = .ok (.aload_n 0, 1) := by decide +kernel
theorem dX4_readAll_132 : decode cX4_readAll 132 = .ok (.getfield 71, 3) := by decide +kernel
theorem dX4_readAll_135 : decode cX4_readAll 135 = .ok (.putfield 74, 3) := by decide +kernel
theorem dX4_readAll_138 : decode cX4_readAll 138 = .ok (.aload_n 0, 1) := by decide +kernel
theorem dX4_readAll_139 : decode cX4_readAll 139 = .ok (.getfield 68, 3) := by decide +kernel
theorem dX4_readAll_142 : decode cX4_readAll 142 = .ok (.ifCond .ne 7, 3) := by decide +kernel
theorem dX4_readAll_145 : decode cX4_readAll 145 = .ok (.iconst 1, 1) := by decide +kernel
theorem dX4_readAll_146 : decode cX4_readAll 146 = .ok (.goto 4, 3) := by decide +kernel
theorem dX4_readAll_149 : decode cX4_readAll 149 = .ok (.iconst 0, 1) := by decide +kernel
theorem dX4_readAll_150 : decode cX4_readAll 150 = .ok (.ireturn, 1) := by decide +kernel
theorem dX4_start_0 : decode cX4_start 0 = .ok (.aload_n 0, 1) := by decide +kernel
theorem dX4_start_1 : decode cX4_start 1 = .ok (.getfield 12, 3) := by decide +kernel
theorem dX4_start_4 : decode cX4_start 4 = .ok (.invokevirtual 77, 3) := by decide +kernel
theorem dX4_start_7 : decode cX4_start 7 = .ok (.aload_n 0, 1) := by decide +kernel
theorem dX4_start_8 : decode cX4_start 8 = .ok (.iconst 0, 1) := by decide +kernel
theorem dX4_start_9 : decode cX4_start 9 = .ok (.putfield 68, 3) := by decide +kernel
theorem dX4_start_12 : decode cX4_start 12 = .ok (.aload_n 0, 1) := by decide +kernel
theorem dX4_start_13 : decode cX4_start 13 = .ok (.iconst (-1), 1) := by decide +kernel
theorem dX4_start_14 : decode cX4_start 14 = .ok (.putfield 80, 3) := by decide +kernel
theorem dX4_start_17 : decode cX4_start 17 = .ok (.aload_n 0, 1) := by decide +kernel
theorem dX4_start_18 : decode cX4_start 18 = .ok (.iconst 0, 1) := by decide +kernel
theorem dX4_start_19 : decode cX4_start 19 = .ok (.putfield 57, 3) := by decide +kernel
theorem dX4_start_22 : decode cX4_start 22 = .ok (.aload_n 0, 1) := by decide +kernel
theorem dX4_start_23 : decode cX4_start 23 = .ok (.iconst 0, 1) := by decide +kernel
theorem dX4_start_24 : decode cX4_start 24 = .ok (.putfield 61, 3) := by decide +kernel
theorem dX4_start_27 : decode cX4_start 27 = .ok (.aload_n 0, 1) := by decide +kernel
theorem dX4_start_28 : decode cX4_start 28 = .ok (.iconst 4, 1) := by decide +kernel
theorem dX4_start_29 : decode cX4_start 29 = .ok (.putfield 83, 3) := by decide +kernel
theorem dX4_start_32 : decode cX4_start 32 = .ok (.aload_n 0, 1) := by decide +kernel
theorem dX4_start_33 : decode cX4_start 33 = .ok (.iconst 0, 1) := by decide +kernel
theorem dX4_start_34 : decode cX4_start 34 = .ok (.putfield 71, 3) := by decide +kernel
theorem dX4_start_37 : decode cX4_start 37 = .ok (.return_, 1) := by decide +kernel
theorem dX4_openGroup_0 : decode cX4_openGroup 0 = .ok (.aload_n 0, 1) := by decide +kernel
theorem dX4_openGroup_1 : decode cX4_openGroup 1 = .ok (.iconst 1, 1) := by decide +kernel
theorem dX4_openGroup_2 : decode cX4_openGroup 2 = .ok (.bipush 9, 2) := by decide +kernel
theorem dX4_openGroup_4 : decode cX4_openGroup 4 = .ok (.invokevirtual 86, 3) := by decide +kernel
theorem dX4_openGroup_7 : decode cX4_openGroup 7 = .ok (.istore_n 1, 1) := by decide +kernel
theorem dX4_openGroup_8 : decode cX4_openGroup 8 = .ok (.aload_n 0, 1) := by decide +kernel
theorem dX4_openGroup_9 : decode cX4_openGroup 9 = .ok (.bipush 120, 2) := by decide +kernel
theorem dX4_openGroup_11 : decode cX4_openGroup 11 = .ok (.invokevirtual 90, 3) := by decide +kernel
theorem dX4_openGroup_14 : decode cX4_openGroup 14 = .ok (.aload_n 0, 1) := by decide +kernel
theorem dX4_openGroup_15 : decode cX4_openGroup 15 = .ok (.invokevirtual 39, 3) := by decide +kernel
theorem dX4_openGroup_18 : decode cX4_openGroup 18 = .ok (.bipush 123, 2) := by decide +kernel
theorem dX4_openGroup_20 : decode cX4_openGroup 20 = .ok (.if_icmp .ne 20, 3) := by decide +kernel
theorem dX4_openGroup_23 : decode cX4_openGroup 23 = .ok (.aload_n 0, 1) := by decide +kernel
theorem dX4_openGroup_24 : decode cX4_openGroup 24 = .ok (.getfield 57, 3) := by decide +kernel
theorem dX4_openGroup_27 : decode cX4_openGroup 27 = .ok (.iconst 4, 1) := by decide +kernel
theorem dX4_openGroup_28 : decode cX4_openGroup 28 = .ok (.if_icmp .lt 12, 3) := by decide +kernel
theorem dX4_openGroup_31 : decode cX4_openGroup 31 = .ok (.aload_n 0, 1) := by decide +kernel
theorem dX4_openGroup_32 : decode cX4_openGroup 32 = .ok (.iconst 3, 1) := by decide +kernel
theorem dX4_openGroup_33 : decode cX4_openGroup 33 = .ok (.aload_n 0, 1) := by decide +kernel
theorem dX4_openGroup_34 : decode cX4_openGroup 34 = .ok (.getfield 61, 3) := by decide +kernel
theorem dX4_openGroup_37 : decode cX4_openGroup 37 = .ok (.invokevirtual 64, 3) := by decide +kernel
theorem dX4_openGroup_40 : decode cX4_openGroup 40 = .ok (.aload_n 0, 1) := by decide +kernel
theorem dX4_openGroup_41 : decode cX4_openGroup 41 = .ok (.bipush 123, 2) := by decide +kernel
theorem dX4_openGroup_43 : decode cX4_openGroup 43 = .ok (.invokevirtual 90, 3) := by decide +kernel
theorem dX4_openGroup_46 : decode cX4_openGroup 46 = .ok (.aload_n 0, 1) := by decide +kernel
theorem dX4_openGroup_47 : decode cX4_openGroup 47 = .ok (.getfield 68, 3) := by decide +kernel
theorem dX4_openGroup_50 : decode cX4_openGroup 50 = .ok (.ifCond .ne 70, 3) := by decide +kernel
theorem dX4_openGroup_53 : decode cX4_openGroup 53 = .ok (.aload_n 0, 1) := by decide +kernel
theorem dX4_openGroup_54 : decode cX4_openGroup 54 = .ok (.getfield 57, 3) := by decide +kernel
theorem dX4_openGroup_57 : decode cX4_openGroup 57 = .ok (.iconst 4, 1) := by decide +kernel
theorem dX4_openGroup_58 : decode cX4_openGroup 58 = .ok (.if_icmp .ge 62, 3) := by decide +kernel
theorem dX4_openGroup_61 : decode cX4_openGroup 61 = .ok (.aload_n 0, 1) := by decide +kernel
theorem dX4_openGroup_62 : decode cX4_openGroup 62 = .ok (.getfield 18, 3) := by decide +kernel
theorem dX4_openGroup_65 : decode cX4_openGroup 65 = .ok (.aload_n 0, 1) := by decide +kernel
theorem dX4_openGroup_66 : decode cX4_openGroup 66 = .ok (.getfield 57, 3) := by decide +kernel
theorem dX4_openGroup_69 : decode cX4_openGroup 69 = .ok (.aload_n 0, 1) := by decide +kernel
theorem dX4_openGroup_70 : decode cX4_openGroup 70 = .ok (.getfield 61, 3) := by decide +kernel
theorem dX4_openGroup_73 : decode cX4_openGroup 73 = .ok (.iastore, 1) := by decide +kernel
theorem dX4_openGroup_74 : decode cX4_openGroup 74 = .ok (.aload_n 0, 1) := by decide +kernel
theorem dX4_openGroup_75 : decode cX4_openGroup 75 = .ok (.getfield 22, 3) := by decide +kernel
theorem dX4_openGroup_78 : decode cX4_openGroup 78 = .ok (.aload_n 0, 1) := by decide +kernel
theorem dX4_openGroup_79 : decode cX4_openGroup 79 = .ok (.getfield 57, 3) := by decide +kernel
theorem dX4_openGroup_82 : decode cX4_openGroup 82 = .ok (.iload_n 1, 1) := by decide +kernel
theorem dX4_openGroup_83 : decode cX4_openGroup 83 = .ok (.iastore, 1) := by decide +kernel
theorem dX4_openGroup_84 : decode cX4_openGroup 84 = .ok (.aload_n 0, 1) := by decide +kernel
theorem dX4_openGroup_85 : decode cX4_openGroup 85 = .ok (.getfield 25, 3) := by decide +kernel
theorem dX4_openGroup_88 : decode cX4_openGroup 88 = .ok (.aload_n 0, 1) := by decide +kernel
theorem dX4_openGroup_89 : decode cX4_openGroup 89 = .ok (.getfield 57, 3) := by decide +kernel
theorem dX4_openGroup_92 : decode cX4_openGroup 92 = .ok (.aload_n 0, 1) := by decide +kernel
theorem dX4_openGroup_93 : decode cX4_openGroup 93 = .ok (.getfield 83, 3) := by decide +kernel
theorem dX4_openGroup_96 : decode cX4_openGroup 96 = .ok (.iastore, 1) := by decide +kernel
theorem dX4_openGroup_97 : decode cX4_openGroup 97 = .ok (.aload_n 0, 1) := by decide +kernel
theorem dX4_openGroup_98 : decode cX4_openGroup 98 = .ok (.getfield 28, 3) := by decide +kernel
theorem dX4_openGroup_101 : decode cX4_openGroup 101 = .ok (.aload_n 0, 1) := by decide +kernel
theorem dX4_openGroup_102 : decode cX4_openGroup 102 = .ok (.getfield 57, 3) := by decide +kernel
theorem dX4_openGroup_105 : decode cX4_openGroup 105 = .ok (.aload_n 0, 1) := by decide +kernel
theorem dX4_openGroup_106 : decode cX4_openGroup 106 = .ok (.getfield 71, 3) := by decide +kernel
theorem dX4_openGroup_109 : decode cX4_openGroup 109 = .ok (.iastore, 1) := by decide +kernel
theorem dX4_openGroup_110 : decode cX4_openGroup 110 = .ok (.aload_n 0, 1) := by decide +kernel
theorem dX4_openGroup_111 : decode cX4_openGroup 111 = .ok (.dup, 1) := by decide +kernel
theorem dX4_openGroup_112 : decode cX4_openGroup 112 = .ok (.getfield 57, 3) := by decide +kernel
theorem dX4_openGroup_115 : decode cX4_openGroup 115 = .ok (.iconst 1, 1) := by decide +kernel
theorem dX4_openGroup_116 : decode cX4_openGroup 116 = .ok (.iadd, 1) := by decide +kernel
theorem dX4_openGroup_117 : decode cX4_openGroup 117 = .ok (.putfield 57, 3) := by decide +kernel
theorem dX4_openGroup_120 : decode cX4_openGroup 120 = .ok (.return_, 1) := by decide +kernel
theorem dX4_closeGroup_0 : decode cX4_closeGroup 0 = .ok (.aload_n 0, 1) := by decide +kernel
theorem dX4_closeGroup_1 : decode cX4_closeGroup 1 = .ok (.getfield 57, 3) := by decide +kernel
theorem dX4_closeGroup_4 : decode cX4_closeGroup 4 = .ok (.ifCond .ne 13, 3) := by decide +kernel
theorem dX4_closeGroup_7 : decode cX4_closeGroup 7 = .ok (.aload_n 0, 1) := by decide +kernel
theorem dX4_closeGroup_8 : decode cX4_closeGroup 8 = .ok (.iconst 1, 1) := by decide +kernel
theorem dX4_closeGroup_9 : decode cX4_closeGroup 9 = .ok (.aload_n 0, 1) := by decide +kernel
theorem dX4_closeGroup_10 : decode cX4_closeGroup 10 = .ok (.getfield 61, 3) := by decide +kernel
theorem dX4_closeGroup_13 : decode cX4_closeGroup 13 = .ok (.invokevirtual 64, 3) := by decide +kernel
theorem dX4_closeGroup_16 : decode cX4_closeGroup 16 = .ok (.return_, 1) := by decide +kernel
theorem dX4_closeGroup_17 : decode cX4_closeGroup 17 = .ok (.aload_n 0, 1) := by decide +kernel
theorem dX4_closeGroup_18 : decode cX4_closeGroup 18 = .ok (.getfield 57, 3) := by decide +kernel
theorem dX4_closeGroup_21 : decode cX4_closeGroup 21 = .ok (.iconst 1, 1) := by decide +kernel
theorem dX4_closeGroup_22 : decode cX4_closeGroup 22 = .ok (.isub, 1) := by decide +kernel
theorem dX4_closeGroup_23 : decode cX4_closeGroup 23 = .ok (.istore_n 1, 1) := by decide +kernel
theorem dX4_closeGroup_24 : decode cX4_closeGroup 24 = .ok (.aload_n 0, 1) := by decide +kernel
theorem dX4_closeGroup_25 : decode cX4_closeGroup 25 = .ok (.getfield 22, 3) := by decide +kernel
theorem dX4_closeGroup_28 : decode cX4_closeGroup 28 = .ok (.iload_n 1, 1) := by decide +kernel
theorem dX4_closeGroup_29 : decode cX4_closeGroup 29 = .ok (.dup2, 1) := by decide +kernel
theorem dX4_closeGroup_30 : decode cX4_closeGroup 30 = .ok (.iaload, 1) := by decide +kernel
theorem dX4_closeGroup_31 : decode cX4_closeGroup 31 = .ok (.iconst 1, 1) := by decide +kernel
theorem dX4_closeGroup_32 : decode cX4_closeGroup 32 = .ok (.isub, 1) := by decide +kernel
theorem dX4_closeGroup_33 : decode cX4_closeGroup 33 = .ok (.iastore, 1) := by decide +kernel
theorem dX4_closeGroup_34 : decode cX4_closeGroup 34 = .ok (.aload_n 0, 1) := by decide +kernel
theorem dX4_closeGroup_35 : decode cX4_closeGroup 35 = .ok (.getfield 22, 3) := by decide +kernel
theorem dX4_closeGroup_38 : decode cX4_closeGroup 38 = .ok (.iload_n 1, 1) := by decide +kernel
theorem dX4_closeGroup_39 : decode cX4_closeGroup 39 = .ok (.iaload, 1) := by decide +kernel
theorem dX4_closeGroup_40 : decode cX4_closeGroup 40 = .ok (.ifCond .le 20, 3) := by decide +kernel
theorem dX4_closeGroup_43 : decode cX4_closeGroup 43 = .ok (.aload_n 0, 1) := by decide +kernel
theorem dX4_closeGroup_44 : decode cX4_closeGroup 44 = .ok (.getfield 71, 3) := by decide +kernel
theorem dX4_closeGroup_47 : decode cX4_closeGroup 47 = .ok (.aload_n 0, 1) := by decide +kernel
theorem dX4_closeGroup_48 : decode cX4_closeGroup 48 = .ok (.getfield 28, 3) := by decide +kernel
theorem dX4_closeGroup_51 : decode cX4_closeGroup 51 = .ok (.iload_n 1, 1) := by decide +kernel
theorem dX4_closeGroup_52 : decode cX4_closeGroup 52 = .ok (.iaload, 1) := by decide +kernel
theorem dX4_closeGroup_53 : decode cX4_closeGroup 53 = .ok (.if_icmp .le 7, 3) := by decide +kernel
theorem dX4_closeGroup_56 : decode cX4_closeGroup 56 = .ok (.iconst 1, 1) := by decide +kernel
theorem dX4_closeGroup_57 : decode cX4_closeGroup 57 = .ok (.goto 4, 3) := by decide +kernel
theorem dX4_closeGroup_60 : decode cX4_closeGroup 60 = .ok (.iconst 0, 1) := by decide +kernel
theorem dX4_closeGroup_61 : decode cX4_closeGroup 61 = .ok (.istore_n 2, 1) := by decide +kernel
theorem dX4_closeGroup_62 : decode cX4_closeGroup 62 = .ok (.iload_n 2, 1) := by decide +kernel
theorem dX4_closeGroup_63 : decode cX4_closeGroup 63 = .ok (.ifCond .eq 26, 3) := by decide +kernel
theorem dX4_closeGroup_66 : decode cX4_closeGroup 66 = .ok (.aload_n 0, 1) := by decide +kernel
theorem dX4_closeGroup_67 : decode cX4_closeGroup 67 = .ok (.aload_n 0, 1) := by decide +kernel
theorem dX4_closeGroup_68 : decode cX4_closeGroup 68 = .ok (.getfield 18, 3) := by decide +kernel
theorem dX4_closeGroup_71 : decode cX4_closeGroup 71 = .ok (.iload_n 1, 1) := by decide +kernel
theorem dX4_closeGroup_72 : decode cX4_closeGroup 72 = .ok (.iaload, 1) := by decide +kernel
theorem dX4_closeGroup_73 : decode cX4_closeGroup 73 = .ok (.putfield 61, 3) := by decide +kernel
theorem dX4_closeGroup_76 : decode cX4_closeGroup 76 = .ok (.aload_n 0, 1) := by decide +kernel
theorem dX4_closeGroup_77 : decode cX4_closeGroup 77 = .ok (.aload_n 0, 1) := by decide +kernel
theorem dX4_closeGroup_78 : decode cX4_closeGroup 78 = .ok (.getfield 25, 3) := by decide +kernel
theorem dX4_closeGroup_81 : decode cX4_closeGroup 81 = .ok (.iload_n 1, 1) := by decide +kernel
theorem dX4_closeGroup_82 : decode cX4_closeGroup 82 = .ok (.iaload, 1) := by decide +kernel
theorem dX4_closeGroup_83 : decode cX4_closeGroup 83 = .ok (.putfield 83, 3) := by decide +kernel
theorem dX4_closeGroup_86 : decode cX4_closeGroup 86 = .ok (.goto 18, 3) := by decide +kernel
theorem dX4_closeGroup_89 : decode cX4_closeGroup 89 = .ok (.aload_n 0, 1) := by decide +kernel
theorem dX4_closeGroup_90 : decode cX4_closeGroup 90 = .ok (.iload_n 1, 1) := by decide +kernel
theorem dX4_closeGroup_91 : decode cX4_closeGroup 91 = .ok (.putfield 57, 3) := by decide +kernel
theorem dX4_closeGroup_94 : decode cX4_closeGroup 94 = .ok (.aload_n 0, 1) := by decide +kernel
theorem dX4_closeGroup_95 : decode cX4_closeGroup 95 = .ok (.dup, 1) := by decide +kernel
theorem dX4_closeGroup_96 : decode cX4_closeGroup 96 = .ok (.getfield 61, 3) := by decide +kernel
theorem dX4_closeGroup_99 : decode cX4_closeGroup 99 = .ok (.iconst 1, 1) := by decide +kernel
theorem dX4_closeGroup_100 : decode cX4_closeGroup 100 = .ok (.iadd, 1) := by decide +kernel
theorem dX4_closeGroup_101 : decode cX4_closeGroup 101 = .ok (.putfield 61, 3) := by decide +kernel
theorem dX4_closeGroup_104 : decode cX4_closeGroup 104 = .ok (.return_, 1) := by decide +kernel
theorem dX4_readItem_0 : decode cX4_readItem 0 = .ok (.aload_n 0, 1) := by decide +kernel
theorem dX4_readItem_1 : decode cX4_readItem 1 = .ok (.getfield 61, 3) := by decide +kernel
theorem dX4_readItem_4 : decode cX4_readItem 4 = .ok (.istore_n 2, 1) := by decide +kernel
theorem dX4_readItem_5 : decode cX4_readItem 5 = .ok (.aload_n 0, 1) := by decide +kernel
theorem dX4_readItem_6 : decode cX4_readItem 6 = .ok (.getfield 71, 3) := by decide +kernel
theorem dX4_readItem_9 : decode cX4_readItem 9 = .ok (.sipush 1999, 3) := by decide +kernel
theorem dX4_readItem_12 : decode cX4_readItem 12 = .ok (.if_icmp .le 10, 3) := by decide +kernel
theorem dX4_readItem_15 : decode cX4_readItem 15 = .ok (.aload_n 0, 1) := by decide +kernel
theorem dX4_readItem_16 : decode cX4_readItem 16 = .ok (.iconst 4, 1) := by decide +kernel
theorem dX4_readItem_17 : decode cX4_readItem 17 = .ok (.iload_n 2, 1) := by decide +kernel
theorem dX4_readItem_18 : decode cX4_readItem 18 = .ok (.invokevirtual 64, 3) := by decide +kernel
theorem dX4_readItem_21 : decode cX4_readItem 21 = .ok (.return_, 1) := by decide +kernel
theorem dX4_readItem_22 : decode cX4_readItem 22 = .ok (.aload_n 0, 1) := by decide +kernel
theorem dX4_readItem_23 : decode cX4_readItem 23 = .ok (.dup, 1) := by decide +kernel
theorem dX4_readItem_24 : decode cX4_readItem 24 = .ok (.getfield 61, 3) := by decide +kernel
theorem dX4_readItem_27 : decode cX4_readItem 27 = .ok (.iconst 1, 1) := by decide +kernel
theorem dX4_readItem_28 : decode cX4_readItem 28 = .ok (.iadd, 1) := by decide +kernel
theorem dX4_readItem_29 : decode cX4_readItem 29 = .ok (.putfield 61, 3) := by decide +kernel
theorem dX4_readItem_32 : decode cX4_readItem 32 = .ok (.aload_n 0, 1) := by decide +kernel
theorem dX4_readItem_33 : decode cX4_readItem 33 = .ok (.iconst 0, 1) := by decide +kernel
theorem dX4_readItem_34 : decode cX4_readItem 34 = .ok (.putfield 94, 3) := by decide +kernel
theorem dX4_readItem_37 : decode cX4_readItem 37 = .ok (.iload_n 1, 1) := by decide +kernel
theorem dX4_readItem_38 : decode cX4_readItem 38 = .ok (.bipush 98, 2) := by decide +kernel
theorem dX4_readItem_40 : decode cX4_readItem 40 = .ok (.if_icmp .ne 11, 3) := by decide +kernel
theorem dX4_readItem_43 : decode cX4_readItem 43 = .ok (.aload_n 0, 1) := by decide +kernel
theorem dX4_readItem_44 : decode cX4_readItem 44 = .ok (.invokevirtual 97, 3) := by decide +kernel
theorem dX4_readItem_47 : decode cX4_readItem 47 = .ok (.pop, 1) := by decide +kernel
theorem dX4_readItem_48 : decode cX4_readItem 48 = .ok (.goto 38, 3) := by decide +kernel
theorem dX4_readItem_51 : decode cX4_readItem 51 = .ok (.iload_n 1, 1) := by decide +kernel
theorem dX4_readItem_52 : decode cX4_readItem 52 = .ok (.bipush 40, 2) := by decide +kernel
theorem dX4_readItem_54 : decode cX4_readItem 54 = .ok (.if_icmp .ne 10, 3) := by decide +kernel
theorem dX4_readItem_57 : decode cX4_readItem 57 = .ok (.aload_n 0, 1) := by decide +kernel
theorem dX4_readItem_58 : decode cX4_readItem 58 = .ok (.invokevirtual 100, 3) := by decide +kernel
theorem dX4_readItem_61 : decode cX4_readItem 61 = .ok (.goto 25, 3) := by decide +kernel
theorem dX4_readItem_64 : decode cX4_readItem 64 = .ok (.iload_n 1, 1) := by decide +kernel
theorem dX4_readItem_65 : decode cX4_readItem 65 = .ok (.bipush 116, 2) := by decide +kernel
theorem dX4_readItem_67 : decode cX4_readItem 67 = .ok (.if_icmp .ne 19, 3) := by decide +kernel
theorem dX4_readItem_70 : decode cX4_readItem 70 = .ok (.aload_n 0, 1) := by decide +kernel
theorem dX4_readItem_71 : decode cX4_readItem 71 = .ok (.aload_n 0, 1) := by decide +kernel
theorem dX4_readItem_72 : decode cX4_readItem 72 = .ok (.invokevirtual 97, 3) := by decide +kernel
theorem dX4_readItem_75 : decode cX4_readItem 75 = .ok (.putfield 103, 3) := by decide +kernel
theorem dX4_readItem_78 : decode cX4_readItem 78 = .ok (.aload_n 0, 1) := by decide +kernel
theorem dX4_readItem_79 : decode cX4_readItem 79 = .ok (.aload_n 0, 1) := by decide +kernel
theorem dX4_readItem_80 : decode cX4_readItem 80 = .ok (.invokevirtual 97, 3) := by decide +kernel
theorem dX4_readItem_83 : decode cX4_readItem 83 = .ok (.putfield 106, 3) := by decide +kernel
theorem dX4_readItem_86 : decode cX4_readItem 86 = .ok (.aload_n 0, 1) := by decide +kernel
theorem dX4_readItem_87 : decode cX4_readItem 87 = .ok (.invokevirtual 109, 3) := by decide +kernel
theorem dX4_readItem_90 : decode cX4_readItem 90 = .ok (.aload_n 0, 1) := by decide +kernel
theorem dX4_readItem_91 : decode cX4_readItem 91 = .ok (.getfield 68, 3) := by decide +kernel
theorem dX4_readItem_94 : decode cX4_readItem 94 = .ok (.ifCond .ne 19, 3) := by decide +kernel
theorem dX4_readItem_97 : decode cX4_readItem 97 = .ok (.aload_n 0, 1) := by decide +kernel
theorem dX4_readItem_98 : decode cX4_readItem 98 = .ok (.iload_n 1, 1) := by decide +kernel
theorem dX4_readItem_99 : decode cX4_readItem 99 = .ok (.bipush 116, 2) := by decide +kernel
theorem dX4_readItem_101 : decode cX4_readItem 101 = .ok (.if_icmp .ne 7, 3) := by decide +kernel
theorem dX4_readItem_104 : decode cX4_readItem 104 = .ok (.iconst 1, 1) := by decide +kernel
theorem dX4_readItem_105 : decode cX4_readItem 105 = .ok (.goto 4, 3) := by decide +kernel
theorem dX4_readItem_108 : decode cX4_readItem 108 = .ok (.iconst 0, 1) := by decide +kernel
theorem dX4_readItem_109 : decode cX4_readItem 109 = .ok (.iload_n 2, 1) := by decide +kernel
theorem dX4_readItem_110 : decode cX4_readItem 110 = .ok (.invokevirtual 112, 3) := by decide +kernel
theorem dX4_readItem_113 : decode cX4_readItem 113 = .ok (.return_, 1) := by decide +kernel
theorem dX4_readChord_0 : decode cX4_readChord 0 = .ok (.aload_n 0, 1) := by decide +kernel
theorem dX4_readChord_1 : decode cX4_readChord 1 = .ok (.invokevirtual 97, 3) := by decide +kernel
theorem dX4_readChord_4 : decode cX4_readChord 4 = .ok (.pop, 1) := by decide +kernel
theorem dX4_readChord_5 : decode cX4_readChord 5 = .ok (.iconst 0, 1) := by decide +kernel
theorem dX4_readChord_6 : decode cX4_readChord 6 = .ok (.istore_n 1, 1) := by decide +kernel
theorem dX4_readChord_7 : decode cX4_readChord 7 = .ok (.iload_n 1, 1) := by decide +kernel
theorem dX4_readChord_8 : decode cX4_readChord 8 = .ok (.iconst 4, 1) := by decide +kernel
theorem dX4_readChord_9 : decode cX4_readChord 9 = .ok (.if_icmp .ge 41, 3) := by decide +kernel
theorem dX4_readChord_12 : decode cX4_readChord 12 = .ok (.aload_n 0, 1) := by decide +kernel
theorem dX4_readChord_13 : decode cX4_readChord 13 = .ok (.getfield 68, 3) := by decide +kernel
theorem dX4_readChord_16 : decode cX4_readChord 16 = .ok (.ifCond .ne 34, 3) := by decide +kernel
theorem dX4_readChord_19 : decode cX4_readChord 19 = .ok (.aload_n 0, 1) := by decide +kernel
theorem dX4_readChord_20 : decode cX4_readChord 20 = .ok (.invokevirtual 39, 3) := by decide +kernel
theorem dX4_readChord_23 : decode cX4_readChord 23 = .ok (.bipush 41, 2) := by decide +kernel
theorem dX4_readChord_25 : decode cX4_readChord 25 = .ok (.if_icmp .ne 14, 3) := by decide +kernel
theorem dX4_readChord_28 : decode cX4_readChord 28 = .ok (.aload_n 0, 1) := by decide +kernel
theorem dX4_readChord_29 : decode cX4_readChord 29 = .ok (.dup, 1) := by decide +kernel
theorem dX4_readChord_30 : decode cX4_readChord 30 = .ok (.getfield 61, 3) := by decide +kernel
theorem dX4_readChord_33 : decode cX4_readChord 33 = .ok (.iconst 1, 1) := by decide +kernel
theorem dX4_readChord_34 : decode cX4_readChord 34 = .ok (.iadd, 1) := by decide +kernel
theorem dX4_readChord_35 : decode cX4_readChord 35 = .ok (.putfield 61, 3) := by decide +kernel
theorem dX4_readChord_38 : decode cX4_readChord 38 = .ok (.return_, 1) := by decide +kernel
theorem dX4_readChord_39 : decode cX4_readChord 39 = .ok (.aload_n 0, 1) := by decide +kernel
theorem dX4_readChord_40 : decode cX4_readChord 40 = .ok (.invokevirtual 97, 3) := by decide +kernel
theorem dX4_readChord_43 : decode cX4_readChord 43 = .ok (.pop, 1) := by decide +kernel
theorem dX4_readChord_44 : decode cX4_readChord 44 = .ok (.iinc 1 1, 3) := by decide +kernel
theorem dX4_readChord_47 : decode cX4_readChord 47 = .ok (.goto (-40), 3) := by decide +kernel
theorem dX4_readChord_50 : decode cX4_readChord 50 = .ok (.return_, 1) := by decide +kernel
theorem dX4_readBell_0 : decode cX4_readBell 0 = .ok (.aload_n 0, 1) := by decide +kernel
theorem dX4_readBell_1 : decode cX4_readBell 1 = .ok (.iconst 0, 1) := by decide +kernel
theorem dX4_readBell_2 : decode cX4_readBell 2 = .ok (.bipush 23, 2) := by decide +kernel
theorem dX4_readBell_4 : decode cX4_readBell 4 = .ok (.invokevirtual 86, 3) := by decide +kernel
theorem dX4_readBell_7 : decode cX4_readBell 7 = .ok (.istore_n 1, 1) := by decide +kernel
theorem dX4_readBell_8 : decode cX4_readBell 8 = .ok (.aload_n 0, 1) := by decide +kernel
theorem dX4_readBell_9 : decode cX4_readBell 9 = .ok (.getfield 68, 3) := by decide +kernel
theorem dX4_readBell_12 : decode cX4_readBell 12 = .ok (.ifCond .eq 5, 3) := by decide +kernel
theorem dX4_readBell_15 : decode cX4_readBell 15 = .ok (.iconst (-1), 1) := by decide +kernel
theorem dX4_readBell_16 : decode cX4_readBell 16 = .ok (.ireturn, 1) := by decide +kernel
theorem dX4_readBell_17 : decode cX4_readBell 17 = .ok (.iconst 1, 1) := by decide +kernel
theorem dX4_readBell_18 : decode cX4_readBell 18 = .ok (.iload_n 1, 1) := by decide +kernel
theorem dX4_readBell_19 : decode cX4_readBell 19 = .ok (.ishl, 1) := by decide +kernel
theorem dX4_readBell_20 : decode cX4_readBell 20 = .ok (.istore_n 2, 1) := by decide +kernel
theorem dX4_readBell_21 : decode cX4_readBell 21 = .ok (.aload_n 0, 1) := by decide +kernel
theorem dX4_readBell_22 : decode cX4_readBell 22 = .ok (.getfield 94, 3) := by decide +kernel
theorem dX4_readBell_25 : decode cX4_readBell 25 = .ok (.iload_n 2, 1) := by decide +kernel
theorem dX4_readBell_26 : decode cX4_readBell 26 = .ok (.iand, 1) := by decide +kernel
theorem dX4_readBell_27 : decode cX4_readBell 27 = .ok (.ifCond .ne 14, 3) := by decide +kernel
theorem dX4_readBell_30 : decode cX4_readBell 30 = .ok (.aload_n 0, 1) := by decide +kernel
theorem dX4_readBell_31 : decode cX4_readBell 31 = .ok (.getfield 94, 3) := by decide +kernel
theorem dX4_readBell_34 : decode cX4_readBell 34 = .ok (.invokestatic 116, 3) := by decide +kernel
theorem dX4_readBell_37 : decode cX4_readBell 37 = .ok (.iconst 4, 1) := by decide +kernel
theorem dX4_readBell_38 : decode cX4_readBell 38 = .ok (.if_icmp .ne 14, 3) := by decide +kernel
theorem dX4_readBell_41 : decode cX4_readBell 41 = .ok (.aload_n 0, 1) := by decide +kernel
theorem dX4_readBell_42 : decode cX4_readBell 42 = .ok (.iconst 2, 1) := by decide +kernel
theorem dX4_readBell_43 : decode cX4_readBell 43 = .ok (.aload_n 0, 1) := by decide +kernel
theorem dX4_readBell_44 : decode cX4_readBell 44 = .ok (.getfield 122, 3) := by decide +kernel
theorem dX4_readBell_47 : decode cX4_readBell 47 = .ok (.invokevirtual 64, 3) := by decide +kernel
theorem dX4_readBell_50 : decode cX4_readBell 50 = .ok (.iconst (-1), 1) := by decide +kernel
theorem dX4_readBell_51 : decode cX4_readBell 51 = .ok (.ireturn, 1) := by decide +kernel
theorem dX4_readBell_52 : decode cX4_readBell 52 = .ok (.aload_n 0, 1) := by decide +kernel
theorem dX4_readBell_53 : decode cX4_readBell 53 = .ok (.dup, 1) := by decide +kernel
theorem dX4_readBell_54 : decode cX4_readBell 54 = .ok (.getfield 94, 3) := by decide +kernel
theorem dX4_readBell_57 : decode cX4_readBell 57 = .ok (.iload_n 2, 1) := by decide +kernel
theorem dX4_readBell_58 : decode cX4_readBell 58 = .ok (.ior, 1) := by decide +kernel
theorem dX4_readBell_59 : decode cX4_readBell 59 = .ok (.putfield 94, 3) := by decide +kernel
theorem dX4_readBell_62 : decode cX4_readBell 62 = .ok (.iload_n 1, 1) := by decide +kernel
theorem dX4_readBell_63 : decode cX4_readBell 63 = .ok (.ireturn, 1) := by decide +kernel
theorem dX4_readLength_0 : decode cX4_readLength 0 = .ok (.aload_n 0, 1) := by decide +kernel
theorem dX4_readLength_1 : decode cX4_readLength 1 = .ok (.invokevirtual 39, 3) := by decide +kernel
theorem dX4_readLength_4 : decode cX4_readLength 4 = .ok (.bipush 58, 2) := by decide +kernel
theorem dX4_readLength_6 : decode cX4_readLength 6 = .ok (.if_icmp .ne 33, 3) := by decide +kernel
theorem dX4_readLength_9 : decode cX4_readLength 9 = .ok (.aload_n 0, 1) := by decide +kernel
theorem dX4_readLength_10 : decode cX4_readLength 10 = .ok (.dup, 1) := by decide +kernel
theorem dX4_readLength_11 : decode cX4_readLength 11 = .ok (.getfield 61, 3) := by decide +kernel
theorem dX4_readLength_14 : decode cX4_readLength 14 = .ok (.iconst 1, 1) := by decide +kernel
theorem dX4_readLength_15 : decode cX4_readLength 15 = .ok (.iadd, 1) := by decide +kernel
theorem dX4_readLength_16 : decode cX4_readLength 16 = .ok (.putfield 61, 3) := by decide +kernel
theorem dX4_readLength_19 : decode cX4_readLength 19 = .ok (.aload_n 0, 1) := by decide +kernel
theorem dX4_readLength_20 : decode cX4_readLength 20 = .ok (.iconst 1, 1) := by decide +kernel
theorem dX4_readLength_21 : decode cX4_readLength 21 = .ok (.bipush 64, 2) := by decide +kernel
theorem dX4_readLength_23 : decode cX4_readLength 23 = .ok (.invokevirtual 86, 3) := by decide +kernel
theorem dX4_readLength_26 : decode cX4_readLength 26 = .ok (.istore_n 1, 1) := by decide +kernel
theorem dX4_readLength_27 : decode cX4_readLength 27 = .ok (.aload_n 0, 1) := by decide +kernel
theorem dX4_readLength_28 : decode cX4_readLength 28 = .ok (.getfield 68, 3) := by decide +kernel
theorem dX4_readLength_31 : decode cX4_readLength 31 = .ok (.ifCond .ne 8, 3) := by decide +kernel
theorem dX4_readLength_34 : decode cX4_readLength 34 = .ok (.aload_n 0, 1) := by decide +kernel
theorem dX4_readLength_35 : decode cX4_readLength 35 = .ok (.iload_n 1, 1) := by decide +kernel
theorem dX4_readLength_36 : decode cX4_readLength 36 = .ok (.putfield 83, 3) := by decide +kernel
theorem dX4_readLength_39 : decode cX4_readLength 39 = .ok (.return_, 1) := by decide +kernel
theorem dX4_writeItem_0 : decode cX4_writeItem 0 = .ok (.iload_n 1, 1) := by decide +kernel
theorem dX4_writeItem_1 : decode cX4_writeItem 1 = .ok (.ifCond .eq 10, 3) := by decide +kernel
theorem dX4_writeItem_4 : decode cX4_writeItem 4 = .ok (.aload_n 0, 1) := by decide +kernel
theorem dX4_writeItem_5 : decode cX4_writeItem 5 = .ok (.getfield 83, 3) := by decide +kernel
theorem dX4_writeItem_8 : decode cX4_writeItem 8 = .ok (.goto 10, 3) := by decide +kernel
theorem dX4_writeItem_11 : decode cX4_writeItem 11 = .ok (.aload_n 0, 1) := by decide +kernel
theorem dX4_writeItem_12 : decode cX4_writeItem 12 = .ok (.getfield 94, 3) := by decide +kernel
theorem dX4_writeItem_15 : decode cX4_writeItem 15 = .ok (.invokestatic 116, 3) := by decide +kernel
theorem dX4_writeItem_18 : decode cX4_writeItem 18 = .ok (.istore_n 3, 1) := by decide +kernel
theorem dX4_writeItem_19 : decode cX4_writeItem 19 = .ok (.aload_n 0, 1) := by decide +kernel
theorem dX4_writeItem_20 : decode cX4_writeItem 20 = .ok (.getfield 12, 3) := by decide +kernel
theorem dX4_writeItem_23 : decode cX4_writeItem 23 = .ok (.getfield 125, 3) := by decide +kernel
theorem dX4_writeItem_26 : decode cX4_writeItem 26 = .ok (.iload_n 3, 1) := by decide +kernel
theorem dX4_writeItem_27 : decode cX4_writeItem 27 = .ok (.iadd, 1) := by decide +kernel
theorem dX4_writeItem_28 : decode cX4_writeItem 28 = .ok (.bipush 100, 2) := by decide +kernel
theorem dX4_writeItem_30 : decode cX4_writeItem 30 = .ok (.if_icmp .le 10, 3) := by decide +kernel
theorem dX4_writeItem_33 : decode cX4_writeItem 33 = .ok (.aload_n 0, 1) := by decide +kernel
theorem dX4_writeItem_34 : decode cX4_writeItem 34 = .ok (.iconst 4, 1) := by decide +kernel
theorem dX4_writeItem_35 : decode cX4_writeItem 35 = .ok (.iload_n 2, 1) := by decide +kernel
theorem dX4_writeItem_36 : decode cX4_writeItem 36 = .ok (.invokevirtual 64, 3) := by decide +kernel
theorem dX4_writeItem_39 : decode cX4_writeItem 39 = .ok (.return_, 1) := by decide +kernel
theorem dX4_writeItem_40 : decode cX4_writeItem 40 = .ok (.iload_n 1, 1) := by decide +kernel
theorem dX4_writeItem_41 : decode cX4_writeItem 41 = .ok (.ifCond .eq 56, 3) := by decide +kernel
theorem dX4_writeItem_44 : decode cX4_writeItem 44 = .ok (.iconst 0, 1) := by decide +kernel
theorem dX4_writeItem_45 : decode cX4_writeItem 45 = .ok (.istore 4, 2) := by decide +kernel
theorem dX4_writeItem_47 : decode cX4_writeItem 47 = .ok (.iload 4, 2) := by decide +kernel
theorem dX4_writeItem_49 : decode cX4_writeItem 49 = .ok (.aload_n 0, 1) := by decide +kernel
theorem dX4_writeItem_50 : decode cX4_writeItem 50 = .ok (.getfield 83, 3) := by decide +kernel
theorem dX4_writeItem_53 : decode cX4_writeItem 53 = .ok (.if_icmp .ge 41, 3) := by decide +kernel
theorem dX4_writeItem_56 : decode cX4_writeItem 56 = .ok (.aload_n 0, 1) := by decide +kernel
theorem dX4_writeItem_57 : decode cX4_writeItem 57 = .ok (.getfield 12, 3) := by decide +kernel
theorem dX4_writeItem_60 : decode cX4_writeItem 60 = .ok (.aload_n 0, 1) := by decide +kernel
theorem dX4_writeItem_61 : decode cX4_writeItem 61 = .ok (.getfield 71, 3) := by decide +kernel
theorem dX4_writeItem_64 : decode cX4_writeItem 64 = .ok (.iload 4, 2) := by decide +kernel
theorem dX4_writeItem_66 : decode cX4_writeItem 66 = .ok (.iadd, 1) := by decide +kernel
theorem dX4_writeItem_67 : decode cX4_writeItem 67 = .ok (.iload 4, 2) := by decide +kernel
theorem dX4_writeItem_69 : decode cX4_writeItem 69 = .ok (.iconst 1, 1) := by decide +kernel
theorem dX4_writeItem_70 : decode cX4_writeItem 70 = .ok (.iand, 1) := by decide +kernel
theorem dX4_writeItem_71 : decode cX4_writeItem 71 = .ok (.ifCond .ne 10, 3) := by decide +kernel
theorem dX4_writeItem_74 : decode cX4_writeItem 74 = .ok (.aload_n 0, 1) := by decide +kernel
theorem dX4_writeItem_75 : decode cX4_writeItem 75 = .ok (.getfield 103, 3) := by decide +kernel
theorem dX4_writeItem_78 : decode cX4_writeItem 78 = .ok (.goto 7, 3) := by decide +kernel
theorem dX4_writeItem_81 : decode cX4_writeItem 81 = .ok (.aload_n 0, 1) := by decide +kernel
theorem dX4_writeItem_82 : decode cX4_writeItem 82 = .ok (.getfield 106, 3) := by decide +kernel
theorem dX4_writeItem_85 : decode cX4_writeItem 85 = .ok (.invokevirtual 128, 3) := by decide +kernel
theorem dX4_writeItem_88 : decode cX4_writeItem 88 = .ok (.iinc 4 1, 3) := by decide +kernel
theorem dX4_writeItem_91 : decode cX4_writeItem 91 = .ok (.goto (-44), 3) := by decide +kernel
theorem dX4_writeItem_94 : decode cX4_writeItem 94 = .ok (.goto 44, 3) := by decide +kernel
theorem dX4_writeItem_97 : decode cX4_writeItem 97 = .ok (.iconst 0, 1) := by decide +kernel
theorem dX4_writeItem_98 : decode cX4_writeItem 98 = .ok (.istore 4, 2) := by decide +kernel
theorem dX4_writeItem_100 : decode cX4_writeItem 100 = .ok (.iload 4, 2) := by decide +kernel
theorem dX4_writeItem_102 : decode cX4_writeItem 102 = .ok (.bipush 24, 2) := by decide +kernel
theorem dX4_writeItem_104 : decode cX4_writeItem 104 = .ok (.if_icmp .ge 34, 3) := by decide +kernel
theorem dX4_writeItem_107 : decode cX4_writeItem 107 = .ok (.aload_n 0, 1) := by decide +kernel
theorem dX4_writeItem_108 : decode cX4_writeItem 108 = .ok (.getfield 94, 3) := by decide +kernel
theorem dX4_writeItem_111 : decode cX4_writeItem 111 = .ok (.iload 4, 2) := by decide +kernel
theorem dX4_writeItem_113 : decode cX4_writeItem 113 = .ok (.ishr, 1) := by decide +kernel
theorem dX4_writeItem_114 : decode cX4_writeItem 114 = .ok (.iconst 1, 1) := by decide +kernel
theorem dX4_writeItem_115 : decode cX4_writeItem 115 = .ok (.iand, 1) := by decide +kernel
theorem dX4_writeItem_116 : decode cX4_writeItem 116 = .ok (.ifCond .eq 16, 3) := by decide +kernel
theorem dX4_writeItem_119 : decode cX4_writeItem 119 = .ok (.aload_n 0, 1) := by decide +kernel
theorem dX4_writeItem_120 : decode cX4_writeItem 120 = .ok (.getfield 12, 3) := by decide +kernel
theorem dX4_writeItem_123 : decode cX4_writeItem 123 = .ok (.aload_n 0, 1) := by decide +kernel
theorem dX4_writeItem_124 : decode cX4_writeItem 124 = .ok (.getfield 71, 3) := by decide +kernel
theorem dX4_writeItem_127 : decode cX4_writeItem 127 = .ok (.iload 4, 2) := by decide +kernel
theorem dX4_writeItem_129 : decode cX4_writeItem 129 = .ok (.invokevirtual 128, 3) := by decide +kernel
theorem dX4_writeItem_132 : decode cX4_writeItem 132 = .ok (.iinc 4 1, 3) := by decide +kernel
theorem dX4_writeItem_135 : decode cX4_writeItem 135 = .ok (.goto (-35), 3) := by decide +kernel
theorem dX4_writeItem_138 : decode cX4_writeItem 138 = .ok (.aload_n 0, 1) := by decide +kernel
theorem dX4_writeItem_139 : decode cX4_writeItem 139 = .ok (.dup, 1) := by decide +kernel
theorem dX4_writeItem_140 : decode cX4_writeItem 140 = .ok (.getfield 71, 3) := by decide +kernel
theorem dX4_writeItem_143 : decode cX4_writeItem 143 = .ok (.aload_n 0, 1) := by decide +kernel
theorem dX4_writeItem_144 : decode cX4_writeItem 144 = .ok (.getfield 83, 3) := by decide +kernel
theorem dX4_writeItem_147 : decode cX4_writeItem 147 = .ok (.iadd, 1) := by decide +kernel
theorem dX4_writeItem_148 : decode cX4_writeItem 148 = .ok (.putfield 71, 3) := by decide +kernel
theorem dX4_writeItem_151 : decode cX4_writeItem 151 = .ok (.return_, 1) := by decide +kernel
theorem dX4_readNumber_0 : decode cX4_readNumber 0 = .ok (.aload_n 0, 1) := by decide +kernel
theorem dX4_readNumber_1 : decode cX4_readNumber 1 = .ok (.invokevirtual 39, 3) := by decide +kernel
theorem dX4_readNumber_4 : decode cX4_readNumber 4 = .ok (.istore_n 3, 1) := by decide +kernel
theorem dX4_readNumber_5 : decode cX4_readNumber 5 = .ok (.aload_n 0, 1) := by decide +kernel
theorem dX4_readNumber_6 : decode cX4_readNumber 6 = .ok (.aload_n 0, 1) := by decide +kernel
theorem dX4_readNumber_7 : decode cX4_readNumber 7 = .ok (.getfield 61, 3) := by decide +kernel
theorem dX4_readNumber_10 : decode cX4_readNumber 10 = .ok (.putfield 122, 3) := by decide +kernel
theorem dX4_readNumber_13 : decode cX4_readNumber 13 = .ok (.iconst 0, 1) := by decide +kernel
theorem dX4_readNumber_14 : decode cX4_readNumber 14 = .ok (.istore 4, 2) := by decide +kernel
theorem dX4_readNumber_16 : decode cX4_readNumber 16 = .ok (.iconst 0, 1) := by decide +kernel
theorem dX4_readNumber_17 : decode cX4_readNumber 17 = .ok (.istore 5, 2) := by decide +kernel
theorem dX4_readNumber_19 : decode cX4_readNumber 19 = .ok (.iload 5, 2) := by decide +kernel
theorem dX4_readNumber_21 : decode cX4_readNumber 21 = .ok (.iconst 3, 1) := by decide +kernel
theorem dX4_readNumber_22 : decode cX4_readNumber 22 = .ok (.if_icmp .ge 43, 3) := by decide +kernel
theorem dX4_readNumber_25 : decode cX4_readNumber 25 = .ok (.iload_n 3, 1) := by decide +kernel
theorem dX4_readNumber_26 : decode cX4_readNumber 26 = .ok (.invokestatic 43, 3) := by decide +kernel
theorem dX4_readNumber_29 : decode cX4_readNumber 29 = .ok (.ifCond .eq 36, 3) := by decide +kernel
theorem dX4_readNumber_32 : decode cX4_readNumber 32 = .ok (.iload 4, 2) := by decide +kernel
theorem dX4_readNumber_34 : decode cX4_readNumber 34 = .ok (.bipush 10, 2) := by decide +kernel
theorem dX4_readNumber_36 : decode cX4_readNumber 36 = .ok (.imul, 1) := by decide +kernel
theorem dX4_readNumber_37 : decode cX4_readNumber 37 = .ok (.iload_n 3, 1) := by decide +kernel
theorem dX4_readNumber_38 : decode cX4_readNumber 38 = .ok (.iadd, 1) := by decide +kernel
theorem dX4_readNumber_39 : decode cX4_readNumber 39 = .ok (.bipush 48, 2) := by decide +kernel
theorem dX4_readNumber_41 : decode cX4_readNumber 41 = .ok (.isub, 1) := by decide +kernel
theorem dX4_readNumber_42 : decode cX4_readNumber 42 = .ok (.istore 4, 2) := by decide +kernel
theorem dX4_readNumber_44 : decode cX4_readNumber 44 = .ok (.iinc 5 1, 3) := by decide +kernel
theorem dX4_readNumber_47 : decode cX4_readNumber 47 = .ok (.aload_n 0, 1) := by decide +kernel
theorem dX4_readNumber_48 : decode cX4_readNumber 48 = .ok (.dup, 1) := by decide +kernel
theorem dX4_readNumber_49 : decode cX4_readNumber 49 = .ok (.getfield 61, 3) := by decide +kernel
theorem dX4_readNumber_52 : decode cX4_readNumber 52 = .ok (.iconst 1, 1) := by decide +kernel
theorem dX4_readNumber_53 : decode cX4_readNumber 53 = .ok (.iadd, 1) := by decide +kernel
theorem dX4_readNumber_54 : decode cX4_readNumber 54 = .ok (.putfield 61, 3) := by decide +kernel
theorem dX4_readNumber_57 : decode cX4_readNumber 57 = .ok (.aload_n 0, 1) := by decide +kernel
theorem dX4_readNumber_58 : decode cX4_readNumber 58 = .ok (.invokevirtual 131, 3) := by decide +kernel
theorem dX4_readNumber_61 : decode cX4_readNumber 61 = .ok (.istore_n 3, 1) := by decide +kernel
theorem dX4_readNumber_62 : decode cX4_readNumber 62 = .ok (.goto (-43), 3) := by decide +kernel
theorem dX4_readNumber_65 : decode cX4_readNumber 65 = .ok (.iload 5, 2) := by decide +kernel
theorem dX4_readNumber_67 : decode cX4_readNumber 67 = .ok (.ifCond .eq 10, 3) := by decide +kernel
theorem dX4_readNumber_70 : decode cX4_readNumber 70 = .ok (.iload_n 3, 1) := by decide +kernel
theorem dX4_readNumber_71 : decode cX4_readNumber 71 = .ok (.invokestatic 43, 3) := by decide +kernel
theorem dX4_readNumber_74 : decode cX4_readNumber 74 = .ok (.ifCond .eq 15, 3) := by decide +kernel
theorem dX4_readNumber_77 : decode cX4_readNumber 77 = .ok (.aload_n 0, 1) := by decide +kernel
theorem dX4_readNumber_78 : decode cX4_readNumber 78 = .ok (.iconst 1, 1) := by decide +kernel
theorem dX4_readNumber_79 : decode cX4_readNumber 79 = .ok (.aload_n 0, 1) := by decide +kernel
theorem dX4_readNumber_80 : decode cX4_readNumber 80 = .ok (.getfield 61, 3) := by decide +kernel
theorem dX4_readNumber_83 : decode cX4_readNumber 83 = .ok (.invokevirtual 64, 3) := by decide +kernel
theorem dX4_readNumber_86 : decode cX4_readNumber 86 = .ok (.goto 24, 3) := by decide +kernel
theorem dX4_readNumber_89 : decode cX4_readNumber 89 = .ok (.iload 4, 2) := by decide +kernel
theorem dX4_readNumber_91 : decode cX4_readNumber 91 = .ok (.iload_n 1, 1) := by decide +kernel
theorem dX4_readNumber_92 : decode cX4_readNumber 92 = .ok (.if_icmp .lt 9, 3) := by decide +kernel
theorem dX4_readNumber_95 : decode cX4_readNumber 95 = .ok (.iload 4, 2) := by decide +kernel
theorem dX4_readNumber_97 : decode cX4_readNumber 97 = .ok (.iload_n 2, 1) := by decide +kernel
theorem dX4_readNumber_98 : decode cX4_readNumber 98 = .ok (.if_icmp .le 12, 3) := by decide +kernel
theorem dX4_readNumber_101 : decode cX4_readNumber 101 = .ok (.aload_n 0, 1) := by decide +kernel
theorem dX4_readNumber_102 : decode cX4_readNumber 102 = .ok (.iconst 2, 1) := by decide +kernel
theorem dX4_readNumber_103 : decode cX4_readNumber 103 = .ok (.aload_n 0, 1) := by decide +kernel
theorem dX4_readNumber_104 : decode cX4_readNumber 104 = .ok (.getfield 122, 3) := by decide +kernel
theorem dX4_readNumber_107 : decode cX4_readNumber 107 = .ok (.invokevirtual 64, 3) := by decide +kernel
theorem dX4_readNumber_110 : decode cX4_readNumber 110 = .ok (.iload 4, 2) := by decide +kernel
theorem dX4_readNumber_112 : decode cX4_readNumber 112 = .ok (.ireturn, 1) := by decide +kernel
theorem dX4_expect_0 : decode cX4_expect 0 = .ok (.aload_n 0, 1) := by decide +kernel
theorem dX4_expect_1 : decode cX4_expect 1 = .ok (.invokevirtual 39, 3) := by decide +kernel
theorem dX4_expect_4 : decode cX4_expect 4 = .ok (.iload_n 1, 1) := by decide +kernel
theorem dX4_expect_5 : decode cX4_expect 5 = .ok (.if_icmp .ne 16, 3) := by decide +kernel
theorem dX4_expect_8 : decode cX4_expect 8 = .ok (.aload_n 0, 1) := by decide +kernel
theorem dX4_expect_9 : decode cX4_expect 9 = .ok (.dup, 1) := by decide +kernel
theorem dX4_expect_10 : decode cX4_expect 10 = .ok (.getfield 61, 3) := by decide +kernel
theorem dX4_expect_13 : decode cX4_expect 13 = .ok (.iconst 1, 1) := by decide +kernel
theorem dX4_expect_14 : decode cX4_expect 14 = .ok (.iadd, 1) := by decide +kernel
theorem dX4_expect_15 : decode cX4_expect 15 = .ok (.putfield 61, 3) := by decide +kernel
theorem dX4_expect_18 : decode cX4_expect 18 = .ok (.goto 12, 3) := by decide +kernel
theorem dX4_expect_21 : decode cX4_expect 21 = .ok (.aload_n 0, 1) := by decide +kernel
theorem dX4_expect_22 : decode cX4_expect 22 = .ok (.iconst 1, 1) := by decide +kernel
theorem dX4_expect_23 : decode cX4_expect 23 = .ok (.aload_n 0, 1) := by decide +kernel
theorem dX4_expect_24 : decode cX4_expect 24 = .ok (.getfield 61, 3) := by decide +kernel
theorem dX4_expect_27 : decode cX4_expect 27 = .ok (.invokevirtual 64, 3) := by decide +kernel
theorem dX4_expect_30 : decode cX4_expect 30 = .ok (.return_, 1) := by decide +kernel
theorem dX4_fail_0 : decode cX4_fail 0 = .ok (.aload_n 0, 1) := by decide +kernel
theorem dX4_fail_1 : decode cX4_fail 1 = .ok (.getfield 68, 3) := by decide +kernel
theorem dX4_fail_4 : decode cX4_fail 4 = .ok (.ifCond .ne 13, 3) := by decide +kernel
theorem dX4_fail_7 : decode cX4_fail 7 = .ok (.aload_n 0, 1) := by decide +kernel
theorem dX4_fail_8 : decode cX4_fail 8 = .ok (.iload_n 1, 1) := by decide +kernel
theorem dX4_fail_9 : decode cX4_fail 9 = .ok (.putfield 68, 3) := by decide +kernel
theorem dX4_fail_12 : decode cX4_fail 12 = .ok (.aload_n 0, 1) := by decide +kernel
theorem dX4_fail_13 : decode cX4_fail 13 = .ok (.iload_n 2, 1) := by decide +kernel
theorem dX4_fail_14 : decode cX4_fail 14 = .ok (.putfield 80, 3) := by decide +kernel
theorem dX4_fail_17 : decode cX4_fail 17 = .ok (.return_, 1) := by decide +kernel
theorem dX4_nextSign_0 : decode cX4_nextSign 0 = .ok (.aload_n 0, 1) := by decide +kernel
theorem dX4_nextSign_1 : decode cX4_nextSign 1 = .ok (.invokevirtual 131, 3) := by decide +kernel
theorem dX4_nextSign_4 : decode cX4_nextSign 4 = .ok (.istore_n 1, 1) := by decide +kernel
theorem dX4_nextSign_5 : decode cX4_nextSign 5 = .ok (.aload_n 0, 1) := by decide +kernel
theorem dX4_nextSign_6 : decode cX4_nextSign 6 = .ok (.getfield 61, 3) := by decide +kernel
theorem dX4_nextSign_9 : decode cX4_nextSign 9 = .ok (.aload_n 0, 1) := by decide +kernel
theorem dX4_nextSign_10 : decode cX4_nextSign 10 = .ok (.getfield 31, 3) := by decide +kernel
theorem dX4_nextSign_13 : decode cX4_nextSign 13 = .ok (.getfield 134, 3) := by decide +kernel
theorem dX4_nextSign_16 : decode cX4_nextSign 16 = .ok (.if_icmp .ge 33, 3) := by decide +kernel
theorem dX4_nextSign_19 : decode cX4_nextSign 19 = .ok (.iload_n 1, 1) := by decide +kernel
theorem dX4_nextSign_20 : decode cX4_nextSign 20 = .ok (.bipush 32, 2) := by decide +kernel
theorem dX4_nextSign_22 : decode cX4_nextSign 22 = .ok (.if_icmp .eq 9, 3) := by decide +kernel
theorem dX4_nextSign_25 : decode cX4_nextSign 25 = .ok (.iload_n 1, 1) := by decide +kernel
theorem dX4_nextSign_26 : decode cX4_nextSign 26 = .ok (.bipush 10, 2) := by decide +kernel
theorem dX4_nextSign_28 : decode cX4_nextSign 28 = .ok (.if_icmp .ne 21, 3) := by decide +kernel
theorem dX4_nextSign_31 : decode cX4_nextSign 31 = .ok (.aload_n 0, 1) := by decide +kernel
theorem dX4_nextSign_32 : decode cX4_nextSign 32 = .ok (.dup, 1) := by decide +kernel
theorem dX4_nextSign_33 : decode cX4_nextSign 33 = .ok (.getfield 61, 3) := by decide +kernel
theorem dX4_nextSign_36 : decode cX4_nextSign 36 = .ok (.iconst 1, 1) := by decide +kernel
theorem dX4_nextSign_37 : decode cX4_nextSign 37 = .ok (.iadd, 1) := by decide +kernel
theorem dX4_nextSign_38 : decode cX4_nextSign 38 = .ok (.putfield 61, 3) := by decide +kernel
theorem dX4_nextSign_41 : decode cX4_nextSign 41 = .ok (.aload_n 0, 1) := by decide +kernel
theorem dX4_nextSign_42 : decode cX4_nextSign 42 = .ok (.invokevirtual 131, 3) := by decide +kernel
theorem dX4_nextSign_45 : decode cX4_nextSign 45 = .ok (.istore_n 1, 1) := by decide +kernel
theorem dX4_nextSign_46 : decode cX4_nextSign 46 = .ok (.goto (-41), 3) := by decide +kernel
theorem dX4_nextSign_49 : decode cX4_nextSign 49 = .ok (.iload_n 1, 1) := by decide +kernel
theorem dX4_nextSign_50 : decode cX4_nextSign 50 = .ok (.ireturn, 1) := by decide +kernel
theorem dX4_signHere_0 : decode cX4_signHere 0 = .ok (.aload_n 0, 1) := by decide +kernel
theorem dX4_signHere_1 : decode cX4_signHere 1 = .ok (.getfield 61, 3) := by decide +kernel
theorem dX4_signHere_4 : decode cX4_signHere 4 = .ok (.ifCond .lt 27, 3) := by decide +kernel
theorem dX4_signHere_7 : decode cX4_signHere 7 = .ok (.aload_n 0, 1) := by decide +kernel
theorem dX4_signHere_8 : decode cX4_signHere 8 = .ok (.getfield 61, 3) := by decide +kernel
theorem dX4_signHere_11 : decode cX4_signHere 11 = .ok (.aload_n 0, 1) := by decide +kernel
theorem dX4_signHere_12 : decode cX4_signHere 12 = .ok (.getfield 31, 3) := by decide +kernel
theorem dX4_signHere_15 : decode cX4_signHere 15 = .ok (.getfield 134, 3) := by decide +kernel
theorem dX4_signHere_18 : decode cX4_signHere 18 = .ok (.if_icmp .ge 13, 3) := by decide +kernel
theorem dX4_signHere_21 : decode cX4_signHere 21 = .ok (.aload_n 0, 1) := by decide +kernel
theorem dX4_signHere_22 : decode cX4_signHere 22 = .ok (.getfield 61, 3) := by decide +kernel
theorem dX4_signHere_25 : decode cX4_signHere 25 = .ok (.sipush 1000, 3) := by decide +kernel
theorem dX4_signHere_28 : decode cX4_signHere 28 = .ok (.if_icmp .lt 5, 3) := by decide +kernel
theorem dX4_signHere_31 : decode cX4_signHere 31 = .ok (.iconst (-1), 1) := by decide +kernel
theorem dX4_signHere_32 : decode cX4_signHere 32 = .ok (.ireturn, 1) := by decide +kernel
theorem dX4_signHere_33 : decode cX4_signHere 33 = .ok (.aload_n 0, 1) := by decide +kernel
theorem dX4_signHere_34 : decode cX4_signHere 34 = .ok (.getfield 31, 3) := by decide +kernel
theorem dX4_signHere_37 : decode cX4_signHere 37 = .ok (.getfield 137, 3) := by decide +kernel
theorem dX4_signHere_40 : decode cX4_signHere 40 = .ok (.aload_n 0, 1) := by decide +kernel
theorem dX4_signHere_41 : decode cX4_signHere 41 = .ok (.getfield 61, 3) := by decide +kernel
theorem dX4_signHere_44 : decode cX4_signHere 44 = .ok (.baload, 1) := by decide +kernel
theorem dX4_signHere_45 : decode cX4_signHere 45 = .ok (.sipush 255, 3) := by decide +kernel
theorem dX4_signHere_48 : decode cX4_signHere 48 = .ok (.iand, 1) := by decide +kernel
theorem dX4_signHere_49 : decode cX4_signHere 49 = .ok (.ireturn, 1) := by decide +kernel
theorem dX4_isDigit_0 : decode cX4_isDigit 0 = .ok (.iload_n 0, 1) := by decide +kernel
theorem dX4_isDigit_1 : decode cX4_isDigit 1 = .ok (.bipush 48, 2) := by decide +kernel
theorem dX4_isDigit_3 : decode cX4_isDigit 3 = .ok (.if_icmp .lt 13, 3) := by decide +kernel
theorem dX4_isDigit_6 : decode cX4_isDigit 6 = .ok (.iload_n 0, 1) := by decide +kernel
theorem dX4_isDigit_7 : decode cX4_isDigit 7 = .ok (.bipush 57, 2) := by decide +kernel
theorem dX4_isDigit_9 : decode cX4_isDigit 9 = .ok (.if_icmp .gt 7, 3) := by decide +kernel
theorem dX4_isDigit_12 : decode cX4_isDigit 12 = .ok (.iconst 1, 1) := by decide +kernel
theorem dX4_isDigit_13 : decode cX4_isDigit 13 = .ok (.goto 4, 3) := by decide +kernel
theorem dX4_isDigit_16 : decode cX4_isDigit 16 = .ok (.iconst 0, 1) := by decide +kernel
theorem dX4_isDigit_17 : decode cX4_isDigit 17 = .ok (.ireturn, 1) := by decide +kernel
theorem dX5_init_0 : decode cX5_init 0 = .ok (.aload_n 0, 1) := by decide +kernel
theorem dX5_init_1 : decode cX5_init 1 = .ok (.invokespecial 3, 3) := by decide +kernel
theorem dX5_init_4 : decode cX5_init 4 = .ok (.aload_n 0, 1) := by decide +kernel
theorem dX5_init_5 : decode cX5_init 5 = .ok (.bipush 100, 2) := by decide +kernel
theorem dX5_init_7 : decode cX5_init 7 = .ok (.newarray .int, 2) := by decide +kernel
theorem dX5_init_9 : decode cX5_init 9 = .ok (.putfield 9, 3) := by decide +kernel
theorem dX5_init_12 : decode cX5_init 12 = .ok (.aload_n 0, 1) := by decide +kernel
theorem dX5_init_13 : decode cX5_init 13 = .ok (.bipush 100, 2) := by decide +kernel
theorem dX5_init_15 : decode cX5_init 15 = .ok (.newarray .int, 2) := by decide +kernel
theorem dX5_init_17 : decode cX5_init 17 = .ok (.putfield 15, 3) := by decide +kernel
theorem dX5_init_20 : decode cX5_init 20 = .ok (.aload_n 0, 1) := by decide +kernel
theorem dX5_init_21 : decode cX5_init 21 = .ok (.iconst 0, 1) := by decide +kernel
theorem dX5_init_22 : decode cX5_init 22 = .ok (.putfield 18, 3) := by decide +kernel
theorem dX5_init_25 : decode cX5_init 25 = .ok (.aload_n 0, 1) := by decide +kernel
theorem dX5_init_26 : decode cX5_init 26 = .ok (.iconst 0, 1) := by decide +kernel
theorem dX5_init_27 : decode cX5_init 27 = .ok (.putfield 22, 3) := by decide +kernel
theorem dX5_init_30 : decode cX5_init 30 = .ok (.return_, 1) := by decide +kernel
theorem dX5_has_0 : decode cX5_has 0 = .ok (.iload_n 1, 1) := by decide +kernel
theorem dX5_has_1 : decode cX5_has 1 = .ok (.ifCond .lt 15, 3) := by decide +kernel
theorem dX5_has_4 : decode cX5_has 4 = .ok (.iload_n 1, 1) := by decide +kernel
theorem dX5_has_5 : decode cX5_has 5 = .ok (.aload_n 0, 1) := by decide +kernel
theorem dX5_has_6 : decode cX5_has 6 = .ok (.getfield 18, 3) := by decide +kernel
theorem dX5_has_9 : decode cX5_has 9 = .ok (.if_icmp .ge 7, 3) := by decide +kernel
theorem dX5_has_12 : decode cX5_has 12 = .ok (.iconst 1, 1) := by decide +kernel
theorem dX5_has_13 : decode cX5_has 13 = .ok (.goto 4, 3) := by decide +kernel
theorem dX5_has_16 : decode cX5_has 16 = .ok (.iconst 0, 1) := by decide +kernel
theorem dX5_has_17 : decode cX5_has 17 = .ok (.ireturn, 1) := by decide +kernel
theorem dX5_clear_0 : decode cX5_clear 0 = .ok (.aload_n 0, 1) := by decide +kernel
theorem dX5_clear_1 : decode cX5_clear 1 = .ok (.iconst 0, 1) := by decide +kernel
theorem dX5_clear_2 : decode cX5_clear 2 = .ok (.putfield 18, 3) := by decide +kernel
theorem dX5_clear_5 : decode cX5_clear 5 = .ok (.aload_n 0, 1) := by decide +kernel
theorem dX5_clear_6 : decode cX5_clear 6 = .ok (.iconst 0, 1) := by decide +kernel
theorem dX5_clear_7 : decode cX5_clear 7 = .ok (.putfield 22, 3) := by decide +kernel
theorem dX5_clear_10 : decode cX5_clear 10 = .ok (.return_, 1) := by decide +kernel
theorem dX5_addStrike_0 : decode cX5_addStrike 0 = .ok (.aload_n 0, 1) := by decide +kernel
theorem dX5_addStrike_1 : decode cX5_addStrike 1 = .ok (.getfield 18, 3) := by decide +kernel
theorem dX5_addStrike_4 : decode cX5_addStrike 4 = .ok (.bipush 100, 2) := by decide +kernel
theorem dX5_addStrike_6 : decode cX5_addStrike 6 = .ok (.if_icmp .ge 33, 3) := by decide +kernel
theorem dX5_addStrike_9 : decode cX5_addStrike 9 = .ok (.aload_n 0, 1) := by decide +kernel
theorem dX5_addStrike_10 : decode cX5_addStrike 10 = .ok (.getfield 9, 3) := by decide +kernel
theorem dX5_addStrike_13 : decode cX5_addStrike 13 = .ok (.aload_n 0, 1) := by decide +kernel
theorem dX5_addStrike_14 : decode cX5_addStrike 14 = .ok (.getfield 18, 3) := by decide +kernel
theorem dX5_addStrike_17 : decode cX5_addStrike 17 = .ok (.iload_n 1, 1) := by decide +kernel
theorem dX5_addStrike_18 : decode cX5_addStrike 18 = .ok (.iastore, 1) := by decide +kernel
theorem dX5_addStrike_19 : decode cX5_addStrike 19 = .ok (.aload_n 0, 1) := by decide +kernel
theorem dX5_addStrike_20 : decode cX5_addStrike 20 = .ok (.getfield 15, 3) := by decide +kernel
theorem dX5_addStrike_23 : decode cX5_addStrike 23 = .ok (.aload_n 0, 1) := by decide +kernel
theorem dX5_addStrike_24 : decode cX5_addStrike 24 = .ok (.getfield 18, 3) := by decide +kernel
theorem dX5_addStrike_27 : decode cX5_addStrike 27 = .ok (.iload_n 2, 1) := by decide +kernel
theorem dX5_addStrike_28 : decode cX5_addStrike 28 = .ok (.iastore, 1) := by decide +kernel
theorem dX5_addStrike_29 : decode cX5_addStrike 29 = .ok (.aload_n 0, 1) := by decide +kernel
theorem dX5_addStrike_30 : decode cX5_addStrike 30 = .ok (.dup, 1) := by decide +kernel
theorem dX5_addStrike_31 : decode cX5_addStrike 31 = .ok (.getfield 18, 3) := by decide +kernel
theorem dX5_addStrike_34 : decode cX5_addStrike 34 = .ok (.iconst 1, 1) := by decide +kernel
theorem dX5_addStrike_35 : decode cX5_addStrike 35 = .ok (.iadd, 1) := by decide +kernel
theorem dX5_addStrike_36 : decode cX5_addStrike 36 = .ok (.putfield 18, 3) := by decide +kernel
theorem dX5_addStrike_39 : decode cX5_addStrike 39 = .ok (.return_, 1) := by decide +kernel
theorem dX5_bellsBetween_0 : decode cX5_bellsBetween 0 = .ok (.aload_n 0, 1) := by decide +kernel
theorem dX5_bellsBetween_1 : decode cX5_bellsBetween 1 = .ok (.getfield 15, 3) := by decide +kernel
theorem dX5_bellsBetween_4 : decode cX5_bellsBetween 4 = .ok (.iload_n 2, 1) := by decide +kernel
theorem dX5_bellsBetween_5 : decode cX5_bellsBetween 5 = .ok (.iaload, 1) := by decide +kernel
theorem dX5_bellsBetween_6 : decode cX5_bellsBetween 6 = .ok (.aload_n 0, 1) := by decide +kernel
theorem dX5_bellsBetween_7 : decode cX5_bellsBetween 7 = .ok (.getfield 15, 3) := by decide +kernel
theorem dX5_bellsBetween_10 : decode cX5_bellsBetween 10 = .ok (.iload_n 1, 1) := by decide +kernel
theorem dX5_bellsBetween_11 : decode cX5_bellsBetween 11 = .ok (.iaload, 1) := by decide +kernel
theorem dX5_bellsBetween_12 : decode cX5_bellsBetween 12 = .ok (.isub, 1) := by decide +kernel
theorem dX5_bellsBetween_13 : decode cX5_bellsBetween 13 = .ok (.invokestatic 25, 3) := by decide +kernel
theorem dX5_bellsBetween_16 : decode cX5_bellsBetween 16 = .ok (.ireturn, 1) := by decide +kernel
theorem dX5_copyFrom_0 : decode cX5_copyFrom 0 = .ok (.aload_n 1, 1) := by decide +kernel
theorem dX5_copyFrom_1 : decode cX5_copyFrom 1 = .ok (.getfield 9, 3) := by decide +kernel
theorem dX5_copyFrom_4 : decode cX5_copyFrom 4 = .ok (.iconst 0, 1) := by decide +kernel
theorem dX5_copyFrom_5 : decode cX5_copyFrom 5 = .ok (.aload_n 0, 1) := by decide +kernel
theorem dX5_copyFrom_6 : decode cX5_copyFrom 6 = .ok (.getfield 9, 3) := by decide +kernel
theorem dX5_copyFrom_9 : decode cX5_copyFrom 9 = .ok (.iconst 0, 1) := by decide +kernel
theorem dX5_copyFrom_10 : decode cX5_copyFrom 10 = .ok (.bipush 100, 2) := by decide +kernel
theorem dX5_copyFrom_12 : decode cX5_copyFrom 12 = .ok (.invokestatic 31, 3) := by decide +kernel
theorem dX5_copyFrom_15 : decode cX5_copyFrom 15 = .ok (.aload_n 1, 1) := by decide +kernel
theorem dX5_copyFrom_16 : decode cX5_copyFrom 16 = .ok (.getfield 15, 3) := by decide +kernel
theorem dX5_copyFrom_19 : decode cX5_copyFrom 19 = .ok (.iconst 0, 1) := by decide +kernel
theorem dX5_copyFrom_20 : decode cX5_copyFrom 20 = .ok (.aload_n 0, 1) := by decide +kernel
theorem dX5_copyFrom_21 : decode cX5_copyFrom 21 = .ok (.getfield 15, 3) := by decide +kernel
theorem dX5_copyFrom_24 : decode cX5_copyFrom 24 = .ok (.iconst 0, 1) := by decide +kernel
theorem dX5_copyFrom_25 : decode cX5_copyFrom 25 = .ok (.bipush 100, 2) := by decide +kernel
theorem dX5_copyFrom_27 : decode cX5_copyFrom 27 = .ok (.invokestatic 31, 3) := by decide +kernel
theorem dX5_copyFrom_30 : decode cX5_copyFrom 30 = .ok (.aload_n 0, 1) := by decide +kernel
theorem dX5_copyFrom_31 : decode cX5_copyFrom 31 = .ok (.aload_n 1, 1) := by decide +kernel
theorem dX5_copyFrom_32 : decode cX5_copyFrom 32 = .ok (.getfield 18, 3) := by decide +kernel
theorem dX5_copyFrom_35 : decode cX5_copyFrom 35 = .ok (.putfield 18, 3) := by decide +kernel
theorem dX5_copyFrom_38 : decode cX5_copyFrom 38 = .ok (.aload_n 0, 1) := by decide +kernel
theorem dX5_copyFrom_39 : decode cX5_copyFrom 39 = .ok (.aload_n 1, 1) := by decide +kernel
theorem dX5_copyFrom_40 : decode cX5_copyFrom 40 = .ok (.getfield 22, 3) := by decide +kernel
theorem dX5_copyFrom_43 : decode cX5_copyFrom 43 = .ok (.putfield 22, 3) := by decide +kernel
theorem dX5_copyFrom_46 : decode cX5_copyFrom 46 = .ok (.return_, 1) := by decide +kernel
theorem dX6_init_0 : decode cX6_init 0 = .ok (.aload_n 0, 1) := by decide +kernel
theorem dX6_init_1 : decode cX6_init 1 = .ok (.invokespecial 3, 3) := by decide +kernel
theorem dX6_init_4 : decode cX6_init 4 = .ok (.aload_n 0, 1) := by decide +kernel
theorem dX6_init_5 : decode cX6_init 5 = .ok (.bipush 100, 2) := by decide +kernel
theorem dX6_init_7 : decode cX6_init 7 = .ok (.newarray .int, 2) := by decide +kernel
theorem dX6_init_9 : decode cX6_init 9 = .ok (.putfield 9, 3) := by decide +kernel
theorem dX6_init_12 : decode cX6_init 12 = .ok (.aload_n 0, 1) := by decide +kernel
theorem dX6_init_13 : decode cX6_init 13 = .ok (.iconst 2, 1) := by decide +kernel
theorem dX6_init_14 : decode cX6_init 14 = .ok (.newarray .int, 2) := by decide +kernel
theorem dX6_init_16 : decode cX6_init 16 = .ok (.putfield 15, 3) := by decide +kernel
theorem dX6_init_19 : decode cX6_init 19 = .ok (.aload_n 0, 1) := by decide +kernel
theorem dX6_init_20 : decode cX6_init 20 = .ok (.sipush 10201, 3) := by decide +kernel
theorem dX6_init_23 : decode cX6_init 23 = .ok (.newarray .int, 2) := by decide +kernel
theorem dX6_init_25 : decode cX6_init 25 = .ok (.putfield 18, 3) := by decide +kernel
theorem dX6_init_28 : decode cX6_init 28 = .ok (.aload_n 0, 1) := by decide +kernel
theorem dX6_init_29 : decode cX6_init 29 = .ok (.aload_n 1, 1) := by decide +kernel
theorem dX6_init_30 : decode cX6_init 30 = .ok (.putfield 21, 3) := by decide +kernel
theorem dX6_init_33 : decode cX6_init 33 = .ok (.return_, 1) := by decide +kernel
theorem dX6_settle_0 : decode cX6_settle 0 = .ok (.aload_n 0, 1) := by decide +kernel
theorem dX6_settle_1 : decode cX6_settle 1 = .ok (.iload_n 1, 1) := by decide +kernel
theorem dX6_settle_2 : decode cX6_settle 2 = .ok (.putfield 25, 3) := by decide +kernel
theorem dX6_settle_5 : decode cX6_settle 5 = .ok (.aload_n 0, 1) := by decide +kernel
theorem dX6_settle_6 : decode cX6_settle 6 = .ok (.iload_n 2, 1) := by decide +kernel
theorem dX6_settle_7 : decode cX6_settle 7 = .ok (.putfield 29, 3) := by decide +kernel
theorem dX6_settle_10 : decode cX6_settle 10 = .ok (.aload_n 0, 1) := by decide +kernel
theorem dX6_settle_11 : decode cX6_settle 11 = .ok (.getfield 21, 3) := by decide +kernel
theorem dX6_settle_14 : decode cX6_settle 14 = .ok (.getfield 32, 3) := by decide +kernel
theorem dX6_settle_17 : decode cX6_settle 17 = .ok (.iconst 1, 1) := by decide +kernel
theorem dX6_settle_18 : decode cX6_settle 18 = .ok (.isub, 1) := by decide +kernel
theorem dX6_settle_19 : decode cX6_settle 19 = .ok (.istore_n 3, 1) := by decide +kernel
theorem dX6_settle_20 : decode cX6_settle 20 = .ok (.iload_n 3, 1) := by decide +kernel
theorem dX6_settle_21 : decode cX6_settle 21 = .ok (.ifCond .lt 60, 3) := by decide +kernel
theorem dX6_settle_24 : decode cX6_settle 24 = .ok (.iconst (-1), 1) := by decide +kernel
theorem dX6_settle_25 : decode cX6_settle 25 = .ok (.istore 4, 2) := by decide +kernel
theorem dX6_settle_27 : decode cX6_settle 27 = .ok (.iload 4, 2) := by decide +kernel
theorem dX6_settle_29 : decode cX6_settle 29 = .ok (.iload_n 3, 1) := by decide +kernel
theorem dX6_settle_30 : decode cX6_settle 30 = .ok (.if_icmp .ge 45, 3) := by decide +kernel
theorem dX6_settle_33 : decode cX6_settle 33 = .ok (.aload_n 0, 1) := by decide +kernel
theorem dX6_settle_34 : decode cX6_settle 34 = .ok (.getfield 18, 3) := by decide +kernel
theorem dX6_settle_37 : decode cX6_settle 37 = .ok (.iload_n 3, 1) := by decide +kernel
theorem dX6_settle_38 : decode cX6_settle 38 = .ok (.iload 4, 2) := by decide +kernel
theorem dX6_settle_40 : decode cX6_settle 40 = .ok (.invokestatic 37, 3) := by decide +kernel
theorem dX6_settle_43 : decode cX6_settle 43 = .ok (.aload_n 0, 1) := by decide +kernel
theorem dX6_settle_44 : decode cX6_settle 44 = .ok (.iload_n 3, 1) := by decide +kernel
theorem dX6_settle_45 : decode cX6_settle 45 = .ok (.iload 4, 2) := by decide +kernel
theorem dX6_settle_47 : decode cX6_settle 47 = .ok (.invokevirtual 41, 3) := by decide +kernel
theorem dX6_settle_50 : decode cX6_settle 50 = .ok (.iastore, 1) := by decide +kernel
theorem dX6_settle_51 : decode cX6_settle 51 = .ok (.aload_n 0, 1) := by decide +kernel
theorem dX6_settle_52 : decode cX6_settle 52 = .ok (.getfield 18, 3) := by decide +kernel
theorem dX6_settle_55 : decode cX6_settle 55 = .ok (.iload 4, 2) := by decide +kernel
theorem dX6_settle_57 : decode cX6_settle 57 = .ok (.iload_n 3, 1) := by decide +kernel
theorem dX6_settle_58 : decode cX6_settle 58 = .ok (.invokestatic 37, 3) := by decide +kernel
theorem dX6_settle_61 : decode cX6_settle 61 = .ok (.aload_n 0, 1) := by decide +kernel
theorem dX6_settle_62 : decode cX6_settle 62 = .ok (.iload 4, 2) := by decide +kernel
theorem dX6_settle_64 : decode cX6_settle 64 = .ok (.iload_n 3, 1) := by decide +kernel
theorem dX6_settle_65 : decode cX6_settle 65 = .ok (.invokevirtual 41, 3) := by decide +kernel
theorem dX6_settle_68 : decode cX6_settle 68 = .ok (.iastore, 1) := by decide +kernel
theorem dX6_settle_69 : decode cX6_settle 69 = .ok (.iinc 4 1, 3) := by decide +kernel
theorem dX6_settle_72 : decode cX6_settle 72 = .ok (.goto (-45), 3) := by decide +kernel
theorem dX6_settle_75 : decode cX6_settle 75 = .ok (.iinc 3 (-1), 3) := by decide +kernel
theorem dX6_settle_78 : decode cX6_settle 78 = .ok (.goto (-58), 3) := by decide +kernel
