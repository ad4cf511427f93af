theorem dX2_init_0 : decode cX2_init 0 = .ok (.aload_n 0, 1) := by decide +kernel
theorem dX2_init_1 : decode cX2_init 1 = .ok (.invokespecial 3, 3) := by decide +kernel
theorem dX2_init_4 : decode cX2_init 4 = .ok (.aload_n 0, 1) := by decide +kernel
theorem dX2_init_5 : decode cX2_init 5 = .ok (.iconst 0, 1) := by decide +kernel
theorem dX2_init_6 : decode cX2_init 6 = .ok (.putfield 9, 3) := by decide +kernel
theorem dX2_init_9 : decode cX2_init 9 = .ok (.aload_n 0, 1) := by decide +kernel
theorem dX2_init_10 : decode cX2_init 10 = .ok (.iconst 0, 1) := by decide +kernel
theorem dX2_init_11 : decode cX2_init 11 = .ok (.putfield 15, 3) := by decide +kernel
theorem dX2_init_14 : decode cX2_init 14 = .ok (.aload_n 0, 1) := by decide +kernel
theorem dX2_init_15 : decode cX2_init 15 = .ok (.iconst 0, 1) := by decide +kernel
theorem dX2_init_16 : decode cX2_init 16 = .ok (.iload_n 1, 1) := by decide +kernel
theorem dX2_init_17 : decode cX2_init 17 = .ok (.invokestatic 19, 3) := by decide +kernel
theorem dX2_init_20 : decode cX2_init 20 = .ok (.newarray .int, 2) := by decide +kernel
theorem dX2_init_22 : decode cX2_init 22 = .ok (.putfield 25, 3) := by decide +kernel
theorem dX2_init_25 : decode cX2_init 25 = .ok (.return_, 1) := by decide +kernel
theorem dX2_isZero_0 : decode cX2_isZero 0 = .ok (.aload_n 0, 1) := by decide +kernel
theorem dX2_isZero_1 : decode cX2_isZero 1 = .ok (.getfield 9, 3) := by decide +kernel
theorem dX2_isZero_4 : decode cX2_isZero 4 = .ok (.ifCond .ne 7, 3) := by decide +kernel
theorem dX2_isZero_7 : decode cX2_isZero 7 = .ok (.iconst 1, 1) := by decide +kernel
theorem dX2_isZero_8 : decode cX2_isZero 8 = .ok (.goto 4, 3) := by decide +kernel
theorem dX2_isZero_11 : decode cX2_isZero 11 = .ok (.iconst 0, 1) := by decide +kernel
theorem dX2_isZero_12 : decode cX2_isZero 12 = .ok (.ireturn, 1) := by decide +kernel
theorem dX2_fits_0 : decode cX2_fits 0 = .ok (.aload_n 0, 1) := by decide +kernel
theorem dX2_fits_1 : decode cX2_fits 1 = .ok (.getfield 9, 3) := by decide +kernel
theorem dX2_fits_4 : decode cX2_fits 4 = .ok (.bipush 64, 2) := by decide +kernel
theorem dX2_fits_6 : decode cX2_fits 6 = .ok (.if_icmp .gt 7, 3) := by decide +kernel
theorem dX2_fits_9 : decode cX2_fits 9 = .ok (.iconst 1, 1) := by decide +kernel
theorem dX2_fits_10 : decode cX2_fits 10 = .ok (.goto 4, 3) := by decide +kernel
theorem dX2_fits_13 : decode cX2_fits 13 = .ok (.iconst 0, 1) := by decide +kernel
theorem dX2_fits_14 : decode cX2_fits 14 = .ok (.ireturn, 1) := by decide +kernel
theorem dX2_limbAt_0 : decode cX2_limbAt 0 = .ok (.iload_n 1, 1) := by decide +kernel
theorem dX2_limbAt_1 : decode cX2_limbAt 1 = .ok (.ifCond .lt 20, 3) := by decide +kernel
theorem dX2_limbAt_4 : decode cX2_limbAt 4 = .ok (.iload_n 1, 1) := by decide +kernel
theorem dX2_limbAt_5 : decode cX2_limbAt 5 = .ok (.aload_n 0, 1) := by decide +kernel
theorem dX2_limbAt_6 : decode cX2_limbAt 6 = .ok (.getfield 9, 3) := by decide +kernel
theorem dX2_limbAt_9 : decode cX2_limbAt 9 = .ok (.if_icmp .ge 12, 3) := by decide +kernel
theorem dX2_limbAt_12 : decode cX2_limbAt 12 = .ok (.aload_n 0, 1) := by decide +kernel
theorem dX2_limbAt_13 : decode cX2_limbAt 13 = .ok (.getfield 25, 3) := by decide +kernel
theorem dX2_limbAt_16 : decode cX2_limbAt 16 = .ok (.iload_n 1, 1) := by decide +kernel
theorem dX2_limbAt_17 : decode cX2_limbAt 17 = .ok (.iaload, 1) := by decide +kernel
theorem dX2_limbAt_18 : decode cX2_limbAt 18 = .ok (.goto 4, 3) := by decide +kernel
theorem dX2_limbAt_21 : decode cX2_limbAt 21 = .ok (.iconst 0, 1) := by decide +kernel
theorem dX2_limbAt_22 : decode cX2_limbAt 22 = .ok (.ireturn, 1) := by decide +kernel
theorem dX2_finish_0 : decode cX2_finish 0 = .ok (.aload_n 0, 1) := by decide +kernel
theorem dX2_finish_1 : decode cX2_finish 1 = .ok (.iload_n 1, 1) := by decide +kernel
theorem dX2_finish_2 : decode cX2_finish 2 = .ok (.putfield 9, 3) := by decide +kernel
theorem dX2_finish_5 : decode cX2_finish 5 = .ok (.aload_n 0, 1) := by decide +kernel
theorem dX2_finish_6 : decode cX2_finish 6 = .ok (.getfield 9, 3) := by decide +kernel
theorem dX2_finish_9 : decode cX2_finish 9 = .ok (.ifCond .le 30, 3) := by decide +kernel
theorem dX2_finish_12 : decode cX2_finish 12 = .ok (.aload_n 0, 1) := by decide +kernel
theorem dX2_finish_13 : decode cX2_finish 13 = .ok (.getfield 25, 3) := by decide +kernel
theorem dX2_finish_16 : decode cX2_finish 16 = .ok (.aload_n 0, 1) := by decide +kernel
theorem dX2_finish_17 : decode cX2_finish 17 = .ok (.getfield 9, 3) := by decide +kernel
theorem dX2_finish_20 : decode cX2_finish 20 = .ok (.iconst 1, 1) := by decide +kernel
theorem dX2_finish_21 : decode cX2_finish 21 = .ok (.isub, 1) := by decide +kernel
theorem dX2_finish_22 : decode cX2_finish 22 = .ok (.iaload, 1) := by decide +kernel
theorem dX2_finish_23 : decode cX2_finish 23 = .ok (.ifCond .ne 16, 3) := by decide +kernel
theorem dX2_finish_26 : decode cX2_finish 26 = .ok (.aload_n 0, 1) := by decide +kernel
theorem dX2_finish_27 : decode cX2_finish 27 = .ok (.dup, 1) := by decide +kernel
theorem dX2_finish_28 : decode cX2_finish 28 = .ok (.getfield 9, 3) := by decide +kernel
theorem dX2_finish_31 : decode cX2_finish 31 = .ok (.iconst 1, 1) := by decide +kernel
theorem dX2_finish_32 : decode cX2_finish 32 = .ok (.isub, 1) := by decide +kernel
theorem dX2_finish_33 : decode cX2_finish 33 = .ok (.putfield 9, 3) := by decide +kernel
theorem dX2_finish_36 : decode cX2_finish 36 = .ok (.goto (-31), 3) := by decide +kernel
theorem dX2_finish_39 : decode cX2_finish 39 = .ok (.aload_n 0, 1) := by decide +kernel
theorem dX2_finish_40 : decode cX2_finish 40 = .ok (.iload_n 2, 1) := by decide +kernel
theorem dX2_finish_41 : decode cX2_finish 41 = .ok (.ifCond .eq 14, 3) := by decide +kernel
theorem dX2_finish_44 : decode cX2_finish 44 = .ok (.aload_n 0, 1) := by decide +kernel
theorem dX2_finish_45 : decode cX2_finish 45 = .ok (.getfield 9, 3) := by decide +kernel
theorem dX2_finish_48 : decode cX2_finish 48 = .ok (.ifCond .le 7, 3) := by decide +kernel
theorem dX2_finish_51 : decode cX2_finish 51 = .ok (.iconst 1, 1) := by decide +kernel
theorem dX2_finish_52 : decode cX2_finish 52 = .ok (.goto 4, 3) := by decide +kernel
theorem dX2_finish_55 : decode cX2_finish 55 = .ok (.iconst 0, 1) := by decide +kernel
theorem dX2_finish_56 : decode cX2_finish 56 = .ok (.putfield 15, 3) := by decide +kernel
theorem dX2_finish_59 : decode cX2_finish 59 = .ok (.return_, 1) := by decide +kernel
theorem dX2_setLong_0 : decode cX2_setLong 0 = .ok (.iconst 3, 1) := by decide +kernel
theorem dX2_setLong_1 : decode cX2_setLong 1 = .ok (.aload_n 0, 1) := by decide +kernel
theorem dX2_setLong_2 : decode cX2_setLong 2 = .ok (.getfield 25, 3) := by decide +kernel
theorem dX2_setLong_5 : decode cX2_setLong 5 = .ok (.arraylength, 1) := by decide +kernel
theorem dX2_setLong_6 : decode cX2_setLong 6 = .ok (.invokestatic 29, 3) := by decide +kernel
theorem dX2_setLong_9 : decode cX2_setLong 9 = .ok (.istore_n 3, 1) := by decide +kernel
theorem dX2_setLong_10 : decode cX2_setLong 10 = .ok (.lload_n 1, 1) := by decide +kernel
theorem dX2_setLong_11 : decode cX2_setLong 11 = .ok (.lconst 0, 1) := by decide +kernel
theorem dX2_setLong_12 : decode cX2_setLong 12 = .ok (.lcmp, 1) := by decide +kernel
theorem dX2_setLong_13 : decode cX2_setLong 13 = .ok (.ifCond .ge 8, 3) := by decide +kernel
theorem dX2_setLong_16 : decode cX2_setLong 16 = .ok (.lload_n 1, 1) := by decide +kernel
theorem dX2_setLong_17 : decode cX2_setLong 17 = .ok (.lneg, 1) := by decide +kernel
theorem dX2_setLong_18 : decode cX2_setLong 18 = .ok (.goto 4, 3) := by decide +kernel
theorem dX2_setLong_21 : decode cX2_setLong 21 = .ok (.lload_n 1, 1) := by decide +kernel
theorem dX2_setLong_22 : decode cX2_setLong 22 = .ok (.lstore 4, 2) := by decide +kernel
theorem dX2_setLong_24 : decode cX2_setLong 24 = .ok (.iconst 0, 1) := by decide +kernel
theorem dX2_setLong_25 : decode cX2_setLong 25 = .ok (.istore 6, 2) := by decide +kernel
theorem dX2_setLong_27 : decode cX2_setLong 27 = .ok (.iload 6, 2) := by decide +kernel
theorem dX2_setLong_29 : decode cX2_setLong 29 = .ok (.iload_n 3, 1) := by decide +kernel
theorem dX2_setLong_30 : decode cX2_setLong 30 = .ok (.if_icmp .ge 30, 3) := by decide +kernel
theorem dX2_setLong_33 : decode cX2_setLong 33 = .ok (.aload_n 0, 1) := by decide +kernel
theorem dX2_setLong_34 : decode cX2_setLong 34 = .ok (.getfield 25, 3) := by decide +kernel
theorem dX2_setLong_37 : decode cX2_setLong 37 = .ok (.iload 6, 2) := by decide +kernel
theorem dX2_setLong_39 : decode cX2_setLong 39 = .ok (.lload 4, 2) := by decide +kernel
theorem dX2_setLong_41 : decode cX2_setLong 41 = .ok (.ldc2_w 32, 3) := by decide +kernel
theorem dX2_setLong_44 : decode cX2_setLong 44 = .ok (.land, 1) := by decide +kernel
theorem dX2_setLong_45 : decode cX2_setLong 45 = .ok (.l2i, 1) := by decide +kernel
theorem dX2_setLong_46 : decode cX2_setLong 46 = .ok (.iastore, 1) := by decide +kernel
theorem dX2_setLong_47 : decode cX2_setLong 47 = .ok (.lload 4, 2) := by decide +kernel
theorem dX2_setLong_49 : decode cX2_setLong 49 = .ok (.bipush 25, 2) := by decide +kernel
theorem dX2_setLong_51 : decode cX2_setLong 51 = .ok (.lushr, 1) := by decide +kernel
theorem dX2_setLong_52 : decode cX2_setLong 52 = .ok (.lstore 4, 2) := by decide +kernel
theorem dX2_setLong_54 : decode cX2_setLong 54 = .ok (.iinc 6 1, 3) := by decide +kernel
theorem dX2_setLong_57 : decode cX2_setLong 57 = .ok (.goto (-30), 3) := by decide +kernel
theorem dX2_setLong_60 : decode cX2_setLong 60 = .ok (.aload_n 0, 1) := by decide +kernel
theorem dX2_setLong_61 : decode cX2_setLong 61 = .ok (.iload_n 3, 1) := by decide +kernel
theorem dX2_setLong_62 : decode cX2_setLong 62 = .ok (.lload_n 1, 1) := by decide +kernel
theorem dX2_setLong_63 : decode cX2_setLong 63 = .ok (.lconst 0, 1) := by decide +kernel
theorem dX2_setLong_64 : decode cX2_setLong 64 = .ok (.lcmp, 1) := by decide +kernel
theorem dX2_setLong_65 : decode cX2_setLong 65 = .ok (.ifCond .ge 7, 3) := by decide +kernel
theorem dX2_setLong_68 : decode cX2_setLong 68 = .ok (.iconst 1, 1) := by decide +kernel
theorem dX2_setLong_69 : decode cX2_setLong 69 = .ok (.goto 4, 3) := by decide +kernel
theorem dX2_setLong_72 : decode cX2_setLong 72 = .ok (.iconst 0, 1) := by decide +kernel
theorem dX2_setLong_73 : decode cX2_setLong 73 = .ok (.invokevirtual 34, 3) := by decide +kernel
theorem dX2_setLong_76 : decode cX2_setLong 76 = .ok (.return_, 1) := by decide +kernel
theorem dX2_copyFrom_0 : decode cX2_copyFrom 0 = .ok (.aload_n 1, 1) := by decide +kernel
theorem dX2_copyFrom_1 : decode cX2_copyFrom 1 = .ok (.getfield 9, 3) := by decide +kernel
theorem dX2_copyFrom_4 : decode cX2_copyFrom 4 = .ok (.aload_n 0, 1) := by decide +kernel
theorem dX2_copyFrom_5 : decode cX2_copyFrom 5 = .ok (.getfield 25, 3) := by decide +kernel
theorem dX2_copyFrom_8 : decode cX2_copyFrom 8 = .ok (.arraylength, 1) := by decide +kernel
theorem dX2_copyFrom_9 : decode cX2_copyFrom 9 = .ok (.invokestatic 29, 3) := by decide +kernel
theorem dX2_copyFrom_12 : decode cX2_copyFrom 12 = .ok (.istore_n 2, 1) := by decide +kernel
theorem dX2_copyFrom_13 : decode cX2_copyFrom 13 = .ok (.iconst 0, 1) := by decide +kernel
theorem dX2_copyFrom_14 : decode cX2_copyFrom 14 = .ok (.istore_n 3, 1) := by decide +kernel
theorem dX2_copyFrom_15 : decode cX2_copyFrom 15 = .ok (.iload_n 3, 1) := by decide +kernel
theorem dX2_copyFrom_16 : decode cX2_copyFrom 16 = .ok (.iload_n 2, 1) := by decide +kernel
theorem dX2_copyFrom_17 : decode cX2_copyFrom 17 = .ok (.if_icmp .ge 21, 3) := by decide +kernel
theorem dX2_copyFrom_20 : decode cX2_copyFrom 20 = .ok (.aload_n 0, 1) := by decide +kernel
theorem dX2_copyFrom_21 : decode cX2_copyFrom 21 = .ok (.getfield 25, 3) := by decide +kernel
theorem dX2_copyFrom_24 : decode cX2_copyFrom 24 = .ok (.iload_n 3, 1) := by decide +kernel
theorem dX2_copyFrom_25 : decode cX2_copyFrom 25 = .ok (.aload_n 1, 1) := by decide +kernel
theorem dX2_copyFrom_26 : decode cX2_copyFrom 26 = .ok (.getfield 25, 3) := by decide +kernel
theorem dX2_copyFrom_29 : decode cX2_copyFrom 29 = .ok (.iload_n 3, 1) := by decide +kernel
theorem dX2_copyFrom_30 : decode cX2_copyFrom 30 = .ok (.iaload, 1) := by decide +kernel
theorem dX2_copyFrom_31 : decode cX2_copyFrom 31 = .ok (.iastore, 1) := by decide +kernel
theorem dX2_copyFrom_32 : decode cX2_copyFrom 32 = .ok (.iinc 3 1, 3) := by decide +kernel
theorem dX2_copyFrom_35 : decode cX2_copyFrom 35 = .ok (.goto (-20), 3) := by decide +kernel
theorem dX2_copyFrom_38 : decode cX2_copyFrom 38 = .ok (.aload_n 0, 1) := by decide +kernel
theorem dX2_copyFrom_39 : decode cX2_copyFrom 39 = .ok (.iload_n 2, 1) := by decide +kernel
theorem dX2_copyFrom_40 : decode cX2_copyFrom 40 = .ok (.aload_n 1, 1) := by decide +kernel
theorem dX2_copyFrom_41 : decode cX2_copyFrom 41 = .ok (.getfield 15, 3) := by decide +kernel
theorem dX2_copyFrom_44 : decode cX2_copyFrom 44 = .ok (.invokevirtual 34, 3) := by decide +kernel
theorem dX2_copyFrom_47 : decode cX2_copyFrom 47 = .ok (.return_, 1) := by decide +kernel
theorem dX2_negate_0 : decode cX2_negate 0 = .ok (.aload_n 0, 1) := by decide +kernel
theorem dX2_negate_1 : decode cX2_negate 1 = .ok (.aload_n 0, 1) := by decide +kernel
theorem dX2_negate_2 : decode cX2_negate 2 = .ok (.getfield 15, 3) := by decide +kernel
theorem dX2_negate_5 : decode cX2_negate 5 = .ok (.ifCond .ne 14, 3) := by decide +kernel
theorem dX2_negate_8 : decode cX2_negate 8 = .ok (.aload_n 0, 1) := by decide +kernel
theorem dX2_negate_9 : decode cX2_negate 9 = .ok (.getfield 9, 3) := by decide +kernel
theorem dX2_negate_12 : decode cX2_negate 12 = .ok (.ifCond .le 7, 3) := by decide +kernel
theorem dX2_negate_15 : decode cX2_negate 15 = .ok (.iconst 1, 1) := by decide +kernel
theorem dX2_negate_16 : decode cX2_negate 16 = .ok (.goto 4, 3) := by decide +kernel
theorem dX2_negate_19 : decode cX2_negate 19 = .ok (.iconst 0, 1) := by decide +kernel
theorem dX2_negate_20 : decode cX2_negate 20 = .ok (.putfield 15, 3) := by decide +kernel
theorem dX2_negate_23 : decode cX2_negate 23 = .ok (.return_, 1) := by decide +kernel
theorem dX2_compareAmount_0 : decode cX2_compareAmount 0 = .ok (.aload_n 0, 1) := by decide +kernel
theorem dX2_compareAmount_1 : decode cX2_compareAmount 1 = .ok (.getfield 9, 3) := by decide +kernel
theorem dX2_compareAmount_4 : decode cX2_compareAmount 4 = .ok (.aload_n 1, 1) := by decide +kernel
theorem dX2_compareAmount_5 : decode cX2_compareAmount 5 = .ok (.getfield 9, 3) := by decide +kernel
theorem dX2_compareAmount_8 : decode cX2_compareAmount 8 = .ok (.if_icmp .eq 20, 3) := by decide +kernel
theorem dX2_compareAmount_11 : decode cX2_compareAmount 11 = .ok (.aload_n 0, 1) := by decide +kernel
theorem dX2_compareAmount_12 : decode cX2_compareAmount 12 = .ok (.getfield 9, 3) := by decide +kernel
theorem dX2_compareAmount_15 : decode cX2_compareAmount 15 = .ok (.aload_n 1, 1) := by decide +kernel
theorem dX2_compareAmount_16 : decode cX2_compareAmount 16 = .ok (.getfield 9, 3) := by decide +kernel
theorem dX2_compareAmount_19 : decode cX2_compareAmount 19 = .ok (.if_icmp .ge 7, 3) := by decide +kernel
theorem dX2_compareAmount_22 : decode cX2_compareAmount 22 = .ok (.iconst (-1), 1) := by decide +kernel
theorem dX2_compareAmount_23 : decode cX2_compareAmount 23 = .ok (.goto 4, 3) := by decide +kernel
theorem dX2_compareAmount_26 : decode cX2_compareAmount 26 = .ok (.iconst 1, 1) := by decide +kernel
theorem dX2_compareAmount_27 : decode cX2_compareAmount 27 = .ok (.ireturn, 1) := by decide +kernel
theorem dX2_compareAmount_28 : decode cX2_compareAmount 28 = .ok (.aload_n 0, 1) := by decide +kernel
theorem dX2_compareAmount_29 : decode cX2_compareAmount 29 = .ok (.getfield 9, 3) := by decide +kernel
theorem dX2_compareAmount_32 : decode cX2_compareAmount 32 = .ok (.iconst 1, 1) := by decide +kernel
theorem dX2_compareAmount_33 : decode cX2_compareAmount 33 = .ok (.isub, 1) := by decide +kernel
theorem dX2_compareAmount_34 : decode cX2_compareAmount 34 = .ok (.istore_n 2, 1) := by decide +kernel
theorem dX2_compareAmount_35 : decode cX2_compareAmount 35 = .ok (.iload_n 2, 1) := by decide +kernel
theorem dX2_compareAmount_36 : decode cX2_compareAmount 36 = .ok (.ifCond .lt 45, 3) := by decide +kernel
theorem dX2_compareAmount_39 : decode cX2_compareAmount 39 = .ok (.aload_n 0, 1) := by decide +kernel
theorem dX2_compareAmount_40 : decode cX2_compareAmount 40 = .ok (.getfield 25, 3) := by decide +kernel
theorem dX2_compareAmount_43 : decode cX2_compareAmount 43 = .ok (.iload_n 2, 1) := by decide +kernel
theorem dX2_compareAmount_44 : decode cX2_compareAmount 44 = .ok (.iaload, 1) := by decide +kernel
theorem dX2_compareAmount_45 : decode cX2_compareAmount 45 = .ok (.aload_n 1, 1) := by decide +kernel
theorem dX2_compareAmount_46 : decode cX2_compareAmount 46 = .ok (.getfield 25, 3) := by decide +kernel
theorem dX2_compareAmount_49 : decode cX2_compareAmount 49 = .ok (.iload_n 2, 1) := by decide +kernel
theorem dX2_compareAmount_50 : decode cX2_compareAmount 50 = .ok (.iaload, 1) := by decide +kernel
theorem dX2_compareAmount_51 : decode cX2_compareAmount 51 = .ok (.if_icmp .eq 24, 3) := by decide +kernel
theorem dX2_compareAmount_54 : decode cX2_compareAmount 54 = .ok (.aload_n 0, 1) := by decide +kernel
theorem dX2_compareAmount_55 : decode cX2_compareAmount 55 = .ok (.getfield 25, 3) := by decide +kernel
theorem dX2_compareAmount_58 : decode cX2_compareAmount 58 = .ok (.iload_n 2, 1) := by decide +kernel
theorem dX2_compareAmount_59 : decode cX2_compareAmount 59 = .ok (.iaload, 1) := by decide +kernel
theorem dX2_compareAmount_60 : decode cX2_compareAmount 60 = .ok (.aload_n 1, 1) := by decide +kernel
theorem dX2_compareAmount_61 : decode cX2_compareAmount 61 = .ok (.getfield 25, 3) := by decide +kernel
theorem dX2_compareAmount_64 : decode cX2_compareAmount 64 = .ok (.iload_n 2, 1) := by decide +kernel
theorem dX2_compareAmount_65 : decode cX2_compareAmount 65 = .ok (.iaload, 1) := by decide +kernel
theorem dX2_compareAmount_66 : decode cX2_compareAmount 66 = .ok (.if_icmp .ge 7, 3) := by decide +kernel
theorem dX2_compareAmount_69 : decode cX2_compareAmount 69 = .ok (.iconst (-1), 1) := by decide +kernel
theorem dX2_compareAmount_70 : decode cX2_compareAmount 70 = .ok (.goto 4, 3) := by decide +kernel
theorem dX2_compareAmount_73 : decode cX2_compareAmount 73 = .ok (.iconst 1, 1) := by decide +kernel
theorem dX2_compareAmount_74 : decode cX2_compareAmount 74 = .ok (.ireturn, 1) := by decide +kernel
theorem dX2_compareAmount_75 : decode cX2_compareAmount 75 = .ok (.iinc 2 (-1), 3) := by decide +kernel
theorem dX2_compareAmount_78 : decode cX2_compareAmount 78 = .ok (.goto (-43), 3) := by decide +kernel
theorem dX2_compareAmount_81 : decode cX2_compareAmount 81 = .ok (.iconst 0, 1) := by decide +kernel
theorem dX2_compareAmount_82 : decode cX2_compareAmount 82 = .ok (.ireturn, 1) := by decide +kernel
theorem dX2_setSum_0 : decode cX2_setSum 0 = .ok (.aload_n 1, 1) := by decide +kernel
theorem dX2_setSum_1 : decode cX2_setSum 1 = .ok (.getfield 15, 3) := by decide +kernel
theorem dX2_setSum_4 : decode cX2_setSum 4 = .ok (.iload_n 3, 1) := by decide +kernel
theorem dX2_setSum_5 : decode cX2_setSum 5 = .ok (.if_icmp .ne 14, 3) := by decide +kernel
theorem dX2_setSum_8 : decode cX2_setSum 8 = .ok (.aload_n 0, 1) := by decide +kernel
theorem dX2_setSum_9 : decode cX2_setSum 9 = .ok (.aload_n 1, 1) := by decide +kernel
theorem dX2_setSum_10 : decode cX2_setSum 10 = .ok (.aload_n 2, 1) := by decide +kernel
theorem dX2_setSum_11 : decode cX2_setSum 11 = .ok (.iconst 1, 1) := by decide +kernel
theorem dX2_setSum_12 : decode cX2_setSum 12 = .ok (.iload_n 3, 1) := by decide +kernel
theorem dX2_setSum_13 : decode cX2_setSum 13 = .ok (.invokevirtual 38, 3) := by decide +kernel
theorem dX2_setSum_16 : decode cX2_setSum 16 = .ok (.goto 33, 3) := by decide +kernel
theorem dX2_setSum_19 : decode cX2_setSum 19 = .ok (.aload_n 1, 1) := by decide +kernel
theorem dX2_setSum_20 : decode cX2_setSum 20 = .ok (.aload_n 2, 1) := by decide +kernel
theorem dX2_setSum_21 : decode cX2_setSum 21 = .ok (.invokevirtual 42, 3) := by decide +kernel
theorem dX2_setSum_24 : decode cX2_setSum 24 = .ok (.ifCond .lt 17, 3) := by decide +kernel
theorem dX2_setSum_27 : decode cX2_setSum 27 = .ok (.aload_n 0, 1) := by decide +kernel
theorem dX2_setSum_28 : decode cX2_setSum 28 = .ok (.aload_n 1, 1) := by decide +kernel
theorem dX2_setSum_29 : decode cX2_setSum 29 = .ok (.aload_n 2, 1) := by decide +kernel
theorem dX2_setSum_30 : decode cX2_setSum 30 = .ok (.iconst (-1), 1) := by decide +kernel
theorem dX2_setSum_31 : decode cX2_setSum 31 = .ok (.aload_n 1, 1) := by decide +kernel
theorem dX2_setSum_32 : decode cX2_setSum 32 = .ok (.getfield 15, 3) := by decide +kernel
theorem dX2_setSum_35 : decode cX2_setSum 35 = .ok (.invokevirtual 38, 3) := by decide +kernel
theorem dX2_setSum_38 : decode cX2_setSum 38 = .ok (.goto 11, 3) := by decide +kernel
theorem dX2_setSum_41 : decode cX2_setSum 41 = .ok (.aload_n 0, 1) := by decide +kernel
theorem dX2_setSum_42 : decode cX2_setSum 42 = .ok (.aload_n 2, 1) := by decide +kernel
theorem dX2_setSum_43 : decode cX2_setSum 43 = .ok (.aload_n 1, 1) := by decide +kernel
theorem dX2_setSum_44 : decode cX2_setSum 44 = .ok (.iconst (-1), 1) := by decide +kernel
theorem dX2_setSum_45 : decode cX2_setSum 45 = .ok (.iload_n 3, 1) := by decide +kernel
theorem dX2_setSum_46 : decode cX2_setSum 46 = .ok (.invokevirtual 38, 3) := by decide +kernel
theorem dX2_setSum_49 : decode cX2_setSum 49 = .ok (.return_, 1) := by decide +kernel
theorem dX2_setAmounts_0 : decode cX2_setAmounts 0 = .ok (.aload_n 1, 1) := by decide +kernel
theorem dX2_setAmounts_1 : decode cX2_setAmounts 1 = .ok (.getfield 9, 3) := by decide +kernel
theorem dX2_setAmounts_4 : decode cX2_setAmounts 4 = .ok (.aload_n 2, 1) := by decide +kernel
theorem dX2_setAmounts_5 : decode cX2_setAmounts 5 = .ok (.getfield 9, 3) := by decide +kernel
theorem dX2_setAmounts_8 : decode cX2_setAmounts 8 = .ok (.invokestatic 19, 3) := by decide +kernel
theorem dX2_setAmounts_11 : decode cX2_setAmounts 11 = .ok (.iconst 1, 1) := by decide +kernel
theorem dX2_setAmounts_12 : decode cX2_setAmounts 12 = .ok (.iadd, 1) := by decide +kernel
theorem dX2_setAmounts_13 : decode cX2_setAmounts 13 = .ok (.aload_n 0, 1) := by decide +kernel
theorem dX2_setAmounts_14 : decode cX2_setAmounts 14 = .ok (.getfield 25, 3) := by decide +kernel
theorem dX2_setAmounts_17 : decode cX2_setAmounts 17 = .ok (.arraylength, 1) := by decide +kernel
theorem dX2_setAmounts_18 : decode cX2_setAmounts 18 = .ok (.invokestatic 29, 3) := by decide +kernel
theorem dX2_setAmounts_21 : decode cX2_setAmounts 21 = .ok (.istore 5, 2) := by decide +kernel
theorem dX2_setAmounts_23 : decode cX2_setAmounts 23 = .ok (.iconst 0, 1) := by decide +kernel
theorem dX2_setAmounts_24 : decode cX2_setAmounts 24 = .ok (.istore 6, 2) := by decide +kernel
theorem dX2_setAmounts_26 : decode cX2_setAmounts 26 = .ok (.iconst 0, 1) := by decide +kernel
theorem dX2_setAmounts_27 : decode cX2_setAmounts 27 = .ok (.istore 7, 2) := by decide +kernel
theorem dX2_setAmounts_29 : decode cX2_setAmounts 29 = .ok (.iload 7, 2) := by decide +kernel
theorem dX2_setAmounts_31 : decode cX2_setAmounts 31 = .ok (.iload 5, 2) := by decide +kernel
theorem dX2_setAmounts_33 : decode cX2_setAmounts 33 = .ok (.if_icmp .ge 48, 3) := by decide +kernel
theorem dX2_setAmounts_36 : decode cX2_setAmounts 36 = .ok (.aload_n 1, 1) := by decide +kernel
theorem dX2_setAmounts_37 : decode cX2_setAmounts 37 = .ok (.iload 7, 2) := by decide +kernel
theorem dX2_setAmounts_39 : decode cX2_setAmounts 39 = .ok (.invokevirtual 46, 3) := by decide +kernel
theorem dX2_setAmounts_42 : decode cX2_setAmounts 42 = .ok (.iload_n 3, 1) := by decide +kernel
theorem dX2_setAmounts_43 : decode cX2_setAmounts 43 = .ok (.aload_n 2, 1) := by decide +kernel
theorem dX2_setAmounts_44 : decode cX2_setAmounts 44 = .ok (.iload 7, 2) := by decide +kernel
theorem dX2_setAmounts_46 : decode cX2_setAmounts 46 = .ok (.invokevirtual 46, 3) := by decide +kernel
theorem dX2_setAmounts_49 : decode cX2_setAmounts 49 = .ok (.imul, 1) := by decide +kernel
theorem dX2_setAmounts_50 : decode cX2_setAmounts 50 = .ok (.iadd, 1) := by decide +kernel
theorem dX2_setAmounts_51 : decode cX2_setAmounts 51 = .ok (.iload 6, 2) := by decide +kernel
theorem dX2_setAmounts_53 : decode cX2_setAmounts 53 = .ok (.iadd, 1) := by decide +kernel
theorem dX2_setAmounts_54 : decode cX2_setAmounts 54 = .ok (.istore 8, 2) := by decide +kernel
theorem dX2_setAmounts_56 : decode cX2_setAmounts 56 = .ok (.aload_n 0, 1) := by decide +kernel
theorem dX2_setAmounts_57 : decode cX2_setAmounts 57 = .ok (.getfield 25, 3) := by decide +kernel
theorem dX2_setAmounts_60 : decode cX2_setAmounts 60 = .ok (.iload 7, 2) := by decide +kernel
theorem dX2_setAmounts_62 : decode cX2_setAmounts 62 = .ok (.iload 8, 2) := by decide +kernel
theorem dX2_setAmounts_64 : decode cX2_setAmounts 64 = .ok (.ldc 50, 2) := by decide +kernel
theorem dX2_setAmounts_66 : decode cX2_setAmounts 66 = .ok (.iand, 1) := by decide +kernel
theorem dX2_setAmounts_67 : decode cX2_setAmounts 67 = .ok (.iastore, 1) := by decide +kernel
theorem dX2_setAmounts_68 : decode cX2_setAmounts 68 = .ok (.iload 8, 2) := by decide +kernel
theorem dX2_setAmounts_70 : decode cX2_setAmounts 70 = .ok (.bipush 25, 2) := by decide +kernel
theorem dX2_setAmounts_72 : decode cX2_setAmounts 72 = .ok (.ishr, 1) := by decide +kernel
theorem dX2_setAmounts_73 : decode cX2_setAmounts 73 = .ok (.istore 6, 2) := by decide +kernel
theorem dX2_setAmounts_75 : decode cX2_setAmounts 75 = .ok (.iinc 7 1, 3) := by decide +kernel
theorem dX2_setAmounts_78 : decode cX2_setAmounts 78 = .ok (.goto (-49), 3) := by decide +kernel
theorem dX2_setAmounts_81 : decode cX2_setAmounts 81 = .ok (.aload_n 0, 1) := by decide +kernel
theorem dX2_setAmounts_82 : decode cX2_setAmounts 82 = .ok (.iload 5, 2) := by decide +kernel
theorem dX2_setAmounts_84 : decode cX2_setAmounts 84 = .ok (.iload 4, 2) := by decide +kernel
theorem dX2_setAmounts_86 : decode cX2_setAmounts 86 = .ok (.invokevirtual 34, 3) := by decide +kernel
theorem dX2_setAmounts_89 : decode cX2_setAmounts 89 = .ok (.return_, 1) := by decide +kernel
theorem dX2_setProduct_0 : decode cX2_setProduct 0 = .ok (.aload_n 1, 1) := by decide +kernel
theorem dX2_setProduct_1 : decode cX2_setProduct 1 = .ok (.getfield 9, 3) := by decide +kernel
theorem dX2_setProduct_4 : decode cX2_setProduct 4 = .ok (.aload_n 2, 1) := by decide +kernel
theorem dX2_setProduct_5 : decode cX2_setProduct 5 = .ok (.getfield 9, 3) := by decide +kernel
theorem dX2_setProduct_8 : decode cX2_setProduct 8 = .ok (.iadd, 1) := by decide +kernel
theorem dX2_setProduct_9 : decode cX2_setProduct 9 = .ok (.istore_n 3, 1) := by decide +kernel
theorem dX2_setProduct_10 : decode cX2_setProduct 10 = .ok (.iload_n 3, 1) := by decide +kernel
theorem dX2_setProduct_11 : decode cX2_setProduct 11 = .ok (.bipush 65, 2) := by decide +kernel
theorem dX2_setProduct_13 : decode cX2_setProduct 13 = .ok (.if_icmp .gt 12, 3) := by decide +kernel
theorem dX2_setProduct_16 : decode cX2_setProduct 16 = .ok (.iload_n 3, 1) := by decide +kernel
theorem dX2_setProduct_17 : decode cX2_setProduct 17 = .ok (.aload_n 0, 1) := by decide +kernel
theorem dX2_setProduct_18 : decode cX2_setProduct 18 = .ok (.getfield 25, 3) := by decide +kernel
theorem dX2_setProduct_21 : decode cX2_setProduct 21 = .ok (.arraylength, 1) := by decide +kernel
theorem dX2_setProduct_22 : decode cX2_setProduct 22 = .ok (.if_icmp .le 5, 3) := by decide +kernel
theorem dX2_setProduct_25 : decode cX2_setProduct 25 = .ok (.iconst 0, 1) := by decide +kernel
theorem dX2_setProduct_26 : decode cX2_setProduct 26 = .ok (.ireturn, 1) := by decide +kernel
theorem dX2_setProduct_27 : decode cX2_setProduct 27 = .ok (.lconst 0, 1) := by decide +kernel
theorem dX2_setProduct_28 : decode cX2_setProduct 28 = .ok (.lstore 4, 2) := by decide +kernel
theorem dX2_setProduct_30 : decode cX2_setProduct 30 = .ok (.iconst 0, 1) := by decide +kernel
theorem dX2_setProduct_31 : decode cX2_setProduct 31 = .ok (.istore 6, 2) := by decide +kernel
theorem dX2_setProduct_33 : decode cX2_setProduct 33 = .ok (.iload 6, 2) := by decide +kernel
theorem dX2_setProduct_35 : decode cX2_setProduct 35 = .ok (.iload_n 3, 1) := by decide +kernel
theorem dX2_setProduct_36 : decode cX2_setProduct 36 = .ok (.if_icmp .ge 96, 3) := by decide +kernel
theorem dX2_setProduct_39 : decode cX2_setProduct 39 = .ok (.iload 6, 2) := by decide +kernel
theorem dX2_setProduct_41 : decode cX2_setProduct 41 = .ok (.aload_n 1, 1) := by decide +kernel
theorem dX2_setProduct_42 : decode cX2_setProduct 42 = .ok (.getfield 9, 3) := by decide +kernel
theorem dX2_setProduct_45 : decode cX2_setProduct 45 = .ok (.iconst 1, 1) := by decide +kernel
theorem dX2_setProduct_46 : decode cX2_setProduct 46 = .ok (.isub, 1) := by decide +kernel
theorem dX2_setProduct_47 : decode cX2_setProduct 47 = .ok (.invokestatic 29, 3) := by decide +kernel
theorem dX2_setProduct_50 : decode cX2_setProduct 50 = .ok (.istore 7, 2) := by decide +kernel
theorem dX2_setProduct_52 : decode cX2_setProduct 52 = .ok (.iconst 0, 1) := by decide +kernel
theorem dX2_setProduct_53 : decode cX2_setProduct 53 = .ok (.iload 6, 2) := by decide +kernel
theorem dX2_setProduct_55 : decode cX2_setProduct 55 = .ok (.aload_n 2, 1) := by decide +kernel
theorem dX2_setProduct_56 : decode cX2_setProduct 56 = .ok (.getfield 9, 3) := by decide +kernel
theorem dX2_setProduct_59 : decode cX2_setProduct 59 = .ok (.isub, 1) := by decide +kernel
theorem dX2_setProduct_60 : decode cX2_setProduct 60 = .ok (.iconst 1, 1) := by decide +kernel
theorem dX2_setProduct_61 : decode cX2_setProduct 61 = .ok (.iadd, 1) := by decide +kernel
theorem dX2_setProduct_62 : decode cX2_setProduct 62 = .ok (.invokestatic 19, 3) := by decide +kernel
theorem dX2_setProduct_65 : decode cX2_setProduct 65 = .ok (.istore 8, 2) := by decide +kernel
theorem dX2_setProduct_67 : decode cX2_setProduct 67 = .ok (.iload 8, 2) := by decide +kernel
theorem dX2_setProduct_69 : decode cX2_setProduct 69 = .ok (.iload 7, 2) := by decide +kernel
theorem dX2_setProduct_71 : decode cX2_setProduct 71 = .ok (.if_icmp .gt 34, 3) := by decide +kernel
theorem dX2_setProduct_74 : decode cX2_setProduct 74 = .ok (.lload 4, 2) := by decide +kernel
theorem dX2_setProduct_76 : decode cX2_setProduct 76 = .ok (.aload_n 1, 1) := by decide +kernel
theorem dX2_setProduct_77 : decode cX2_setProduct 77 = .ok (.getfield 25, 3) := by decide +kernel
theorem dX2_setProduct_80 : decode cX2_setProduct 80 = .ok (.iload 8, 2) := by decide +kernel
theorem dX2_setProduct_82 : decode cX2_setProduct 82 = .ok (.iaload, 1) := by decide +kernel
theorem dX2_setProduct_83 : decode cX2_setProduct 83 = .ok (.i2l, 1) := by decide +kernel
theorem dX2_setProduct_84 : decode cX2_setProduct 84 = .ok (.aload_n 2, 1) := by decide +kernel
theorem dX2_setProduct_85 : decode cX2_setProduct 85 = .ok (.getfield 25, 3) := by decide +kernel
theorem dX2_setProduct_88 : decode cX2_setProduct 88 = .ok (.iload 6, 2) := by decide +kernel
theorem dX2_setProduct_90 : decode cX2_setProduct 90 = .ok (.iload 8, 2) := by decide +kernel
theorem dX2_setProduct_92 : decode cX2_setProduct 92 = .ok (.isub, 1) := by decide +kernel
theorem dX2_setProduct_93 : decode cX2_setProduct 93 = .ok (.iaload, 1) := by decide +kernel
theorem dX2_setProduct_94 : decode cX2_setProduct 94 = .ok (.i2l, 1) := by decide +kernel
theorem dX2_setProduct_95 : decode cX2_setProduct 95 = .ok (.lmul, 1) := by decide +kernel
theorem dX2_setProduct_96 : decode cX2_setProduct 96 = .ok (.ladd, 1) := by decide +kernel
theorem dX2_setProduct_97 : decode cX2_setProduct 97 = .ok (.lstore 4, 2) := by decide +kernel
theorem dX2_setProduct_99 : decode cX2_setProduct 99 = .ok (.iinc 8 1, 3) := by decide +kernel
theorem dX2_setProduct_102 : decode cX2_setProduct 102 = .ok (.goto (-35), 3) := by decide +kernel
theorem dX2_setProduct_105 : decode cX2_setProduct 105 = .ok (.aload_n 0, 1) := by decide +kernel
theorem dX2_setProduct_106 : decode cX2_setProduct 106 = .ok (.getfield 25, 3) := by decide +kernel
theorem dX2_setProduct_109 : decode cX2_setProduct 109 = .ok (.iload 6, 2) := by decide +kernel
theorem dX2_setProduct_111 : decode cX2_setProduct 111 = .ok (.lload 4, 2) := by decide +kernel
theorem dX2_setProduct_113 : decode cX2_setProduct 113 = .ok (.ldc2_w 32, 3) := by decide +kernel
theorem dX2_setProduct_116 : decode cX2_setProduct 116 = .ok (.land, 1) := by decide +kernel
theorem dX2_setProduct_117 : decode cX2_setProduct 117 = .ok (.l2i, 1) := by decide +kernel
theorem dX2_setProduct_118 : decode cX2_setProduct 118 = .ok (.iastore, 1) := by decide +kernel
theorem dX2_setProduct_119 : decode cX2_setProduct 119 = .ok (.lload 4, 2) := by decide +kernel
theorem dX2_setProduct_121 : decode cX2_setProduct 121 = .ok (.bipush 25, 2) := by decide +kernel
theorem dX2_setProduct_123 : decode cX2_setProduct 123 = .ok (.lshr, 1) := by decide +kernel
theorem dX2_setProduct_124 : decode cX2_setProduct 124 = .ok (.lstore 4, 2) := by decide +kernel
theorem dX2_setProduct_126 : decode cX2_setProduct 126 = .ok (.iinc 6 1, 3) := by decide +kernel
theorem dX2_setProduct_129 : decode cX2_setProduct 129 = .ok (.goto (-96), 3) := by decide +kernel
theorem dX2_setProduct_132 : decode cX2_setProduct 132 = .ok (.aload_n 0, 1) := by decide +kernel
theorem dX2_setProduct_133 : decode cX2_setProduct 133 = .ok (.iload_n 3, 1) := by decide +kernel
theorem dX2_setProduct_134 : decode cX2_setProduct 134 = .ok (.aload_n 1, 1) := by decide +kernel
theorem dX2_setProduct_135 : decode cX2_setProduct 135 = .ok (.getfield 15, 3) := by decide +kernel
theorem dX2_setProduct_138 : decode cX2_setProduct 138 = .ok (.aload_n 2, 1) := by decide +kernel
theorem dX2_setProduct_139 : decode cX2_setProduct 139 = .ok (.getfield 15, 3) := by decide +kernel
theorem dX2_setProduct_142 : decode cX2_setProduct 142 = .ok (.if_icmp .eq 7, 3) := by decide +kernel
theorem dX2_setProduct_145 : decode cX2_setProduct 145 = .ok (.iconst 1, 1) := by decide +kernel
theorem dX2_setProduct_146 : decode cX2_setProduct 146 = .ok (.goto 4, 3) := by decide +kernel
theorem dX2_setProduct_149 : decode cX2_setProduct 149 = .ok (.iconst 0, 1) := by decide +kernel
theorem dX2_setProduct_150 : decode cX2_setProduct 150 = .ok (.invokevirtual 34, 3) := by decide +kernel
theorem dX2_setProduct_153 : decode cX2_setProduct 153 = .ok (.aload_n 0, 1) := by decide +kernel
theorem dX2_setProduct_154 : decode cX2_setProduct 154 = .ok (.invokevirtual 51, 3) := by decide +kernel
theorem dX2_setProduct_157 : decode cX2_setProduct 157 = .ok (.ireturn, 1) := by decide +kernel
theorem dX2_multiplyBy_0 : decode cX2_multiplyBy 0 = .ok (.aload_n 0, 1) := by decide +kernel
theorem dX2_multiplyBy_1 : decode cX2_multiplyBy 1 = .ok (.getfield 9, 3) := by decide +kernel
theorem dX2_multiplyBy_4 : decode cX2_multiplyBy 4 = .ok (.iconst 1, 1) := by decide +kernel
theorem dX2_multiplyBy_5 : decode cX2_multiplyBy 5 = .ok (.iadd, 1) := by decide +kernel
theorem dX2_multiplyBy_6 : decode cX2_multiplyBy 6 = .ok (.aload_n 0, 1) := by decide +kernel
theorem dX2_multiplyBy_7 : decode cX2_multiplyBy 7 = .ok (.getfield 25, 3) := by decide +kernel
theorem dX2_multiplyBy_10 : decode cX2_multiplyBy 10 = .ok (.arraylength, 1) := by decide +kernel
theorem dX2_multiplyBy_11 : decode cX2_multiplyBy 11 = .ok (.invokestatic 29, 3) := by decide +kernel
theorem dX2_multiplyBy_14 : decode cX2_multiplyBy 14 = .ok (.istore_n 2, 1) := by decide +kernel
theorem dX2_multiplyBy_15 : decode cX2_multiplyBy 15 = .ok (.lconst 0, 1) := by decide +kernel
theorem dX2_multiplyBy_16 : decode cX2_multiplyBy 16 = .ok (.lstore_n 3, 1) := by decide +kernel
theorem dX2_multiplyBy_17 : decode cX2_multiplyBy 17 = .ok (.iconst 0, 1) := by decide +kernel
theorem dX2_multiplyBy_18 : decode cX2_multiplyBy 18 = .ok (.istore 5, 2) := by decide +kernel
theorem dX2_multiplyBy_20 : decode cX2_multiplyBy 20 = .ok (.iload 5, 2) := by decide +kernel
theorem dX2_multiplyBy_22 : decode cX2_multiplyBy 22 = .ok (.iload_n 2, 1) := by decide +kernel
theorem dX2_multiplyBy_23 : decode cX2_multiplyBy 23 = .ok (.if_icmp .ge 40, 3) := by decide +kernel
theorem dX2_multiplyBy_26 : decode cX2_multiplyBy 26 = .ok (.lload_n 3, 1) := by decide +kernel
theorem dX2_multiplyBy_27 : decode cX2_multiplyBy 27 = .ok (.aload_n 0, 1) := by decide +kernel
theorem dX2_multiplyBy_28 : decode cX2_multiplyBy 28 = .ok (.iload 5, 2) := by decide +kernel
theorem dX2_multiplyBy_30 : decode cX2_multiplyBy 30 = .ok (.invokevirtual 46, 3) := by decide +kernel
theorem dX2_multiplyBy_33 : decode cX2_multiplyBy 33 = .ok (.i2l, 1) := by decide +kernel
theorem dX2_multiplyBy_34 : decode cX2_multiplyBy 34 = .ok (.iload_n 1, 1) := by decide +kernel
theorem dX2_multiplyBy_35 : decode cX2_multiplyBy 35 = .ok (.i2l, 1) := by decide +kernel
theorem dX2_multiplyBy_36 : decode cX2_multiplyBy 36 = .ok (.lmul, 1) := by decide +kernel
theorem dX2_multiplyBy_37 : decode cX2_multiplyBy 37 = .ok (.ladd, 1) := by decide +kernel
theorem dX2_multiplyBy_38 : decode cX2_multiplyBy 38 = .ok (.lstore_n 3, 1) := by decide +kernel
theorem dX2_multiplyBy_39 : decode cX2_multiplyBy 39 = .ok (.aload_n 0, 1) := by decide +kernel
theorem dX2_multiplyBy_40 : decode cX2_multiplyBy 40 = .ok (.getfield 25, 3) := by decide +kernel
theorem dX2_multiplyBy_43 : decode cX2_multiplyBy 43 = .ok (.iload 5, 2) := by decide +kernel
theorem dX2_multiplyBy_45 : decode cX2_multiplyBy 45 = .ok (.lload_n 3, 1) := by decide +kernel
theorem dX2_multiplyBy_46 : decode cX2_multiplyBy 46 = .ok (.ldc2_w 32, 3) := by decide +kernel
theorem dX2_multiplyBy_49 : decode cX2_multiplyBy 49 = .ok (.land, 1) := by decide +kernel
theorem dX2_multiplyBy_50 : decode cX2_multiplyBy 50 = .ok (.l2i, 1) := by decide +kernel
theorem dX2_multiplyBy_51 : decode cX2_multiplyBy 51 = .ok (.iastore, 1) := by decide +kernel
theorem dX2_multiplyBy_52 : decode cX2_multiplyBy 52 = .ok (.lload_n 3, 1) := by decide +kernel
theorem dX2_multiplyBy_53 : decode cX2_multiplyBy 53 = .ok (.bipush 25, 2) := by decide +kernel
theorem dX2_multiplyBy_55 : decode cX2_multiplyBy 55 = .ok (.lshr, 1) := by decide +kernel
theorem dX2_multiplyBy_56 : decode cX2_multiplyBy 56 = .ok (.lstore_n 3, 1) := by decide +kernel
theorem dX2_multiplyBy_57 : decode cX2_multiplyBy 57 = .ok (.iinc 5 1, 3) := by decide +kernel
theorem dX2_multiplyBy_60 : decode cX2_multiplyBy 60 = .ok (.goto (-40), 3) := by decide +kernel
theorem dX2_multiplyBy_63 : decode cX2_multiplyBy 63 = .ok (.aload_n 0, 1) := by decide +kernel
theorem dX2_multiplyBy_64 : decode cX2_multiplyBy 64 = .ok (.iload_n 2, 1) := by decide +kernel
theorem dX2_multiplyBy_65 : decode cX2_multiplyBy 65 = .ok (.aload_n 0, 1) := by decide +kernel
theorem dX2_multiplyBy_66 : decode cX2_multiplyBy 66 = .ok (.getfield 15, 3) := by decide +kernel
theorem dX2_multiplyBy_69 : decode cX2_multiplyBy 69 = .ok (.invokevirtual 34, 3) := by decide +kernel
theorem dX2_multiplyBy_72 : decode cX2_multiplyBy 72 = .ok (.return_, 1) := by decide +kernel
theorem dX2_divideBy_0 : decode cX2_divideBy 0 = .ok (.iload_n 1, 1) := by decide +kernel
theorem dX2_divideBy_1 : decode cX2_divideBy 1 = .ok (.iconst 1, 1) := by decide +kernel
theorem dX2_divideBy_2 : decode cX2_divideBy 2 = .ok (.if_icmp .ge 5, 3) := by decide +kernel
theorem dX2_divideBy_5 : decode cX2_divideBy 5 = .ok (.iconst 0, 1) := by decide +kernel
theorem dX2_divideBy_6 : decode cX2_divideBy 6 = .ok (.ireturn, 1) := by decide +kernel
theorem dX2_divideBy_7 : decode cX2_divideBy 7 = .ok (.lconst 0, 1) := by decide +kernel
theorem dX2_divideBy_8 : decode cX2_divideBy 8 = .ok (.lstore_n 2, 1) := by decide +kernel
theorem dX2_divideBy_9 : decode cX2_divideBy 9 = .ok (.aload_n 0, 1) := by decide +kernel
theorem dX2_divideBy_10 : decode cX2_divideBy 10 = .ok (.getfield 9, 3) := by decide +kernel
theorem dX2_divideBy_13 : decode cX2_divideBy 13 = .ok (.iconst 1, 1) := by decide +kernel
theorem dX2_divideBy_14 : decode cX2_divideBy 14 = .ok (.isub, 1) := by decide +kernel
theorem dX2_divideBy_15 : decode cX2_divideBy 15 = .ok (.istore 4, 2) := by decide +kernel
theorem dX2_divideBy_17 : decode cX2_divideBy 17 = .ok (.iload 4, 2) := by decide +kernel
theorem dX2_divideBy_19 : decode cX2_divideBy 19 = .ok (.ifCond .lt 43, 3) := by decide +kernel
theorem dX2_divideBy_22 : decode cX2_divideBy 22 = .ok (.lload_n 2, 1) := by decide +kernel
theorem dX2_divideBy_23 : decode cX2_divideBy 23 = .ok (.bipush 25, 2) := by decide +kernel
theorem dX2_divideBy_25 : decode cX2_divideBy 25 = .ok (.lshl, 1) := by decide +kernel
theorem dX2_divideBy_26 : decode cX2_divideBy 26 = .ok (.aload_n 0, 1) := by decide +kernel
theorem dX2_divideBy_27 : decode cX2_divideBy 27 = .ok (.getfield 25, 3) := by decide +kernel
theorem dX2_divideBy_30 : decode cX2_divideBy 30 = .ok (.iload 4, 2) := by decide +kernel
theorem dX2_divideBy_32 : decode cX2_divideBy 32 = .ok (.iaload, 1) := by decide +kernel
theorem dX2_divideBy_33 : decode cX2_divideBy 33 = .ok (.i2l, 1) := by decide +kernel
theorem dX2_divideBy_34 : decode cX2_divideBy 34 = .ok (.lor, 1) := by decide +kernel
theorem dX2_divideBy_35 : decode cX2_divideBy 35 = .ok (.lstore 5, 2) := by decide +kernel
theorem dX2_divideBy_37 : decode cX2_divideBy 37 = .ok (.aload_n 0, 1) := by decide +kernel
theorem dX2_divideBy_38 : decode cX2_divideBy 38 = .ok (.getfield 25, 3) := by decide +kernel
theorem dX2_divideBy_41 : decode cX2_divideBy 41 = .ok (.iload 4, 2) := by decide +kernel
theorem dX2_divideBy_43 : decode cX2_divideBy 43 = .ok (.lload 5, 2) := by decide +kernel
theorem dX2_divideBy_45 : decode cX2_divideBy 45 = .ok (.iload_n 1, 1) := by decide +kernel
theorem dX2_divideBy_46 : decode cX2_divideBy 46 = .ok (.i2l, 1) := by decide +kernel
theorem dX2_divideBy_47 : decode cX2_divideBy 47 = .ok (.ldiv, 1) := by decide +kernel
theorem dX2_divideBy_48 : decode cX2_divideBy 48 = .ok (.l2i, 1) := by decide +kernel
theorem dX2_divideBy_49 : decode cX2_divideBy 49 = .ok (.iastore, 1) := by decide +kernel
theorem dX2_divideBy_50 : decode cX2_divideBy 50 = .ok (.lload 5, 2) := by decide +kernel
theorem dX2_divideBy_52 : decode cX2_divideBy 52 = .ok (.iload_n 1, 1) := by decide +kernel
theorem dX2_divideBy_53 : decode cX2_divideBy 53 = .ok (.i2l, 1) := by decide +kernel
theorem dX2_divideBy_54 : decode cX2_divideBy 54 = .ok (.lrem, 1) := by decide +kernel
theorem dX2_divideBy_55 : decode cX2_divideBy 55 = .ok (.lstore_n 2, 1) := by decide +kernel
theorem dX2_divideBy_56 : decode cX2_divideBy 56 = .ok (.iinc 4 (-1), 3) := by decide +kernel
theorem dX2_divideBy_59 : decode cX2_divideBy 59 = .ok (.goto (-42), 3) := by decide +kernel
theorem dX2_divideBy_62 : decode cX2_divideBy 62 = .ok (.aload_n 0, 1) := by decide +kernel
theorem dX2_divideBy_63 : decode cX2_divideBy 63 = .ok (.aload_n 0, 1) := by decide +kernel
theorem dX2_divideBy_64 : decode cX2_divideBy 64 = .ok (.getfield 9, 3) := by decide +kernel
theorem dX2_divideBy_67 : decode cX2_divideBy 67 = .ok (.aload_n 0, 1) := by decide +kernel
theorem dX2_divideBy_68 : decode cX2_divideBy 68 = .ok (.getfield 15, 3) := by decide +kernel
theorem dX2_divideBy_71 : decode cX2_divideBy 71 = .ok (.invokevirtual 34, 3) := by decide +kernel
theorem dX2_divideBy_74 : decode cX2_divideBy 74 = .ok (.lload_n 2, 1) := by decide +kernel
theorem dX2_divideBy_75 : decode cX2_divideBy 75 = .ok (.l2i, 1) := by decide +kernel
theorem dX2_divideBy_76 : decode cX2_divideBy 76 = .ok (.ireturn, 1) := by decide +kernel
theorem dX2_dropDigits_0 : decode cX2_dropDigits 0 = .ok (.iconst 0, 1) := by decide +kernel
theorem dX2_dropDigits_1 : decode cX2_dropDigits 1 = .ok (.istore_n 2, 1) := by decide +kernel
theorem dX2_dropDigits_2 : decode cX2_dropDigits 2 = .ok (.iload_n 2, 1) := by decide +kernel
theorem dX2_dropDigits_3 : decode cX2_dropDigits 3 = .ok (.iload_n 1, 1) := by decide +kernel
theorem dX2_dropDigits_4 : decode cX2_dropDigits 4 = .ok (.bipush 9, 2) := by decide +kernel
theorem dX2_dropDigits_6 : decode cX2_dropDigits 6 = .ok (.idiv, 1) := by decide +kernel
theorem dX2_dropDigits_7 : decode cX2_dropDigits 7 = .ok (.if_icmp .ge 16, 3) := by decide +kernel
theorem dX2_dropDigits_10 : decode cX2_dropDigits 10 = .ok (.aload_n 0, 1) := by decide +kernel
theorem dX2_dropDigits_11 : decode cX2_dropDigits 11 = .ok (.ldc 55, 2) := by decide +kernel
theorem dX2_dropDigits_13 : decode cX2_dropDigits 13 = .ok (.invokevirtual 56, 3) := by decide +kernel
theorem dX2_dropDigits_16 : decode cX2_dropDigits 16 = .ok (.pop, 1) := by decide +kernel
theorem dX2_dropDigits_17 : decode cX2_dropDigits 17 = .ok (.iinc 2 1, 3) := by decide +kernel
theorem dX2_dropDigits_20 : decode cX2_dropDigits 20 = .ok (.goto (-18), 3) := by decide +kernel
theorem dX2_dropDigits_23 : decode cX2_dropDigits 23 = .ok (.iconst 0, 1) := by decide +kernel
theorem dX2_dropDigits_24 : decode cX2_dropDigits 24 = .ok (.istore_n 2, 1) := by decide +kernel
theorem dX2_dropDigits_25 : decode cX2_dropDigits 25 = .ok (.iload_n 2, 1) := by decide +kernel
theorem dX2_dropDigits_26 : decode cX2_dropDigits 26 = .ok (.iload_n 1, 1) := by decide +kernel
theorem dX2_dropDigits_27 : decode cX2_dropDigits 27 = .ok (.bipush 9, 2) := by decide +kernel
theorem dX2_dropDigits_29 : decode cX2_dropDigits 29 = .ok (.irem, 1) := by decide +kernel
theorem dX2_dropDigits_30 : decode cX2_dropDigits 30 = .ok (.if_icmp .ge 16, 3) := by decide +kernel
theorem dX2_dropDigits_33 : decode cX2_dropDigits 33 = .ok (.aload_n 0, 1) := by decide +kernel
theorem dX2_dropDigits_34 : decode cX2_dropDigits 34 = .ok (.bipush 10, 2) := by decide +kernel
theorem dX2_dropDigits_36 : decode cX2_dropDigits 36 = .ok (.invokevirtual 56, 3) := by decide +kernel
theorem dX2_dropDigits_39 : decode cX2_dropDigits 39 = .ok (.pop, 1) := by decide +kernel
theorem dX2_dropDigits_40 : decode cX2_dropDigits 40 = .ok (.iinc 2 1, 3) := by decide +kernel
theorem dX2_dropDigits_43 : decode cX2_dropDigits 43 = .ok (.goto (-18), 3) := by decide +kernel
theorem dX2_dropDigits_46 : decode cX2_dropDigits 46 = .ok (.return_, 1) := by decide +kernel
theorem dX2_restBelowZero_0 : decode cX2_restBelowZero 0 = .ok (.lconst 0, 1) := by decide +kernel
theorem dX2_restBelowZero_1 : decode cX2_restBelowZero 1 = .ok (.lstore_n 3, 1) := by decide +kernel
theorem dX2_restBelowZero_2 : decode cX2_restBelowZero 2 = .ok (.aload_n 0, 1) := by decide +kernel
theorem dX2_restBelowZero_3 : decode cX2_restBelowZero 3 = .ok (.getfield 9, 3) := by decide +kernel
theorem dX2_restBelowZero_6 : decode cX2_restBelowZero 6 = .ok (.iconst 1, 1) := by decide +kernel
theorem dX2_restBelowZero_7 : decode cX2_restBelowZero 7 = .ok (.isub, 1) := by decide +kernel
theorem dX2_restBelowZero_8 : decode cX2_restBelowZero 8 = .ok (.istore 5, 2) := by decide +kernel
theorem dX2_restBelowZero_10 : decode cX2_restBelowZero 10 = .ok (.iload 5, 2) := by decide +kernel
theorem dX2_restBelowZero_12 : decode cX2_restBelowZero 12 = .ok (.ifCond .lt 71, 3) := by decide +kernel
theorem dX2_restBelowZero_15 : decode cX2_restBelowZero 15 = .ok (.bipush 24, 2) := by decide +kernel
theorem dX2_restBelowZero_17 : decode cX2_restBelowZero 17 = .ok (.istore 6, 2) := by decide +kernel
theorem dX2_restBelowZero_19 : decode cX2_restBelowZero 19 = .ok (.iload 6, 2) := by decide +kernel
theorem dX2_restBelowZero_21 : decode cX2_restBelowZero 21 = .ok (.ifCond .lt 56, 3) := by decide +kernel
theorem dX2_restBelowZero_24 : decode cX2_restBelowZero 24 = .ok (.lload_n 1, 1) := by decide +kernel
theorem dX2_restBelowZero_25 : decode cX2_restBelowZero 25 = .ok (.lload_n 3, 1) := by decide +kernel
theorem dX2_restBelowZero_26 : decode cX2_restBelowZero 26 = .ok (.lsub, 1) := by decide +kernel
theorem dX2_restBelowZero_27 : decode cX2_restBelowZero 27 = .ok (.lstore 7, 2) := by decide +kernel
theorem dX2_restBelowZero_29 : decode cX2_restBelowZero 29 = .ok (.lload_n 3, 1) := by decide +kernel
theorem dX2_restBelowZero_30 : decode cX2_restBelowZero 30 = .ok (.lload 7, 2) := by decide +kernel
theorem dX2_restBelowZero_32 : decode cX2_restBelowZero 32 = .ok (.lcmp, 1) := by decide +kernel
theorem dX2_restBelowZero_33 : decode cX2_restBelowZero 33 = .ok (.ifCond .gt 10, 3) := by decide +kernel
theorem dX2_restBelowZero_36 : decode cX2_restBelowZero 36 = .ok (.lload_n 3, 1) := by decide +kernel
theorem dX2_restBelowZero_37 : decode cX2_restBelowZero 37 = .ok (.lload 7, 2) := by decide +kernel
theorem dX2_restBelowZero_39 : decode cX2_restBelowZero 39 = .ok (.lsub, 1) := by decide +kernel
theorem dX2_restBelowZero_40 : decode cX2_restBelowZero 40 = .ok (.goto 6, 3) := by decide +kernel
theorem dX2_restBelowZero_43 : decode cX2_restBelowZero 43 = .ok (.lload_n 3, 1) := by decide +kernel
theorem dX2_restBelowZero_44 : decode cX2_restBelowZero 44 = .ok (.lload_n 3, 1) := by decide +kernel
theorem dX2_restBelowZero_45 : decode cX2_restBelowZero 45 = .ok (.ladd, 1) := by decide +kernel
theorem dX2_restBelowZero_46 : decode cX2_restBelowZero 46 = .ok (.lstore_n 3, 1) := by decide +kernel
theorem dX2_restBelowZero_47 : decode cX2_restBelowZero 47 = .ok (.lload_n 3, 1) := by decide +kernel
theorem dX2_restBelowZero_48 : decode cX2_restBelowZero 48 = .ok (.aload_n 0, 1) := by decide +kernel
theorem dX2_restBelowZero_49 : decode cX2_restBelowZero 49 = .ok (.getfield 25, 3) := by decide +kernel
theorem dX2_restBelowZero_52 : decode cX2_restBelowZero 52 = .ok (.iload 5, 2) := by decide +kernel
theorem dX2_restBelowZero_54 : decode cX2_restBelowZero 54 = .ok (.iaload, 1) := by decide +kernel
theorem dX2_restBelowZero_55 : decode cX2_restBelowZero 55 = .ok (.iload 6, 2) := by decide +kernel
theorem dX2_restBelowZero_57 : decode cX2_restBelowZero 57 = .ok (.ishr, 1) := by decide +kernel
theorem dX2_restBelowZero_58 : decode cX2_restBelowZero 58 = .ok (.iconst 1, 1) := by decide +kernel
theorem dX2_restBelowZero_59 : decode cX2_restBelowZero 59 = .ok (.iand, 1) := by decide +kernel
theorem dX2_restBelowZero_60 : decode cX2_restBelowZero 60 = .ok (.i2l, 1) := by decide +kernel
theorem dX2_restBelowZero_61 : decode cX2_restBelowZero 61 = .ok (.lsub, 1) := by decide +kernel
theorem dX2_restBelowZero_62 : decode cX2_restBelowZero 62 = .ok (.lstore_n 3, 1) := by decide +kernel
theorem dX2_restBelowZero_63 : decode cX2_restBelowZero 63 = .ok (.lload_n 3, 1) := by decide +kernel
theorem dX2_restBelowZero_64 : decode cX2_restBelowZero 64 = .ok (.lload_n 1, 1) := by decide +kernel
theorem dX2_restBelowZero_65 : decode cX2_restBelowZero 65 = .ok (.lcmp, 1) := by decide +kernel
theorem dX2_restBelowZero_66 : decode cX2_restBelowZero 66 = .ok (.ifCond .ne 5, 3) := by decide +kernel
theorem dX2_restBelowZero_69 : decode cX2_restBelowZero 69 = .ok (.lconst 0, 1) := by decide +kernel
theorem dX2_restBelowZero_70 : decode cX2_restBelowZero 70 = .ok (.lstore_n 3, 1) := by decide +kernel
theorem dX2_restBelowZero_71 : decode cX2_restBelowZero 71 = .ok (.iinc 6 (-1), 3) := by decide +kernel
theorem dX2_restBelowZero_74 : decode cX2_restBelowZero 74 = .ok (.goto (-55), 3) := by decide +kernel
theorem dX2_restBelowZero_77 : decode cX2_restBelowZero 77 = .ok (.iinc 5 (-1), 3) := by decide +kernel
theorem dX2_restBelowZero_80 : decode cX2_restBelowZero 80 = .ok (.goto (-70), 3) := by decide +kernel
theorem dX2_restBelowZero_83 : decode cX2_restBelowZero 83 = .ok (.lload_n 3, 1) := by decide +kernel
theorem dX2_restBelowZero_84 : decode cX2_restBelowZero 84 = .ok (.lreturn, 1) := by decide +kernel
