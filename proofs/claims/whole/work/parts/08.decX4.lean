theorem dX4_init_0 : decode cX4_init 0 = .ok (.aload_n 0, 1) := by decide +kernel
theorem dX4_init_1 : decode cX4_init 1 = .ok (.invokespecial 1, 3) := by decide +kernel
theorem dX4_init_4 : decode cX4_init 4 = .ok (.aload_n 0, 1) := by decide +kernel
theorem dX4_init_5 : decode cX4_init 5 = .ok (.sipush 16640, 3) := by decide +kernel
theorem dX4_init_8 : decode cX4_init 8 = .ok (.newarray .int, 2) := by decide +kernel
theorem dX4_init_10 : decode cX4_init 10 = .ok (.putfield 7, 3) := by decide +kernel
theorem dX4_init_13 : decode cX4_init 13 = .ok (.aload_n 0, 1) := by decide +kernel
theorem dX4_init_14 : decode cX4_init 14 = .ok (.sipush 160, 3) := by decide +kernel
theorem dX4_init_17 : decode cX4_init 17 = .ok (.newarray .int, 2) := by decide +kernel
theorem dX4_init_19 : decode cX4_init 19 = .ok (.putfield 13, 3) := by decide +kernel
theorem dX4_init_22 : decode cX4_init 22 = .ok (.aload_n 0, 1) := by decide +kernel
theorem dX4_init_23 : decode cX4_init 23 = .ok (.sipush 160, 3) := by decide +kernel
theorem dX4_init_26 : decode cX4_init 26 = .ok (.newarray .boolean, 2) := by decide +kernel
theorem dX4_init_28 : decode cX4_init 28 = .ok (.putfield 16, 3) := by decide +kernel
theorem dX4_init_31 : decode cX4_init 31 = .ok (.aload_n 0, 1) := by decide +kernel
theorem dX4_init_32 : decode cX4_init 32 = .ok (.sipush 144, 3) := by decide +kernel
theorem dX4_init_35 : decode cX4_init 35 = .ok (.newarray .long, 2) := by decide +kernel
theorem dX4_init_37 : decode cX4_init 37 = .ok (.putfield 20, 3) := by decide +kernel
theorem dX4_init_40 : decode cX4_init 40 = .ok (.aload_n 0, 1) := by decide +kernel
theorem dX4_init_41 : decode cX4_init 41 = .ok (.sipush 220, 3) := by decide +kernel
theorem dX4_init_44 : decode cX4_init 44 = .ok (.newarray .int, 2) := by decide +kernel
theorem dX4_init_46 : decode cX4_init 46 = .ok (.putfield 24, 3) := by decide +kernel
theorem dX4_init_49 : decode cX4_init 49 = .ok (.aload_n 0, 1) := by decide +kernel
theorem dX4_init_50 : decode cX4_init 50 = .ok (.sipush 220, 3) := by decide +kernel
theorem dX4_init_53 : decode cX4_init 53 = .ok (.newarray .int, 2) := by decide +kernel
theorem dX4_init_55 : decode cX4_init 55 = .ok (.putfield 27, 3) := by decide +kernel
theorem dX4_init_58 : decode cX4_init 58 = .ok (.aload_n 0, 1) := by decide +kernel
theorem dX4_init_59 : decode cX4_init 59 = .ok (.sipush 220, 3) := by decide +kernel
theorem dX4_init_62 : decode cX4_init 62 = .ok (.newarray .int, 2) := by decide +kernel
theorem dX4_init_64 : decode cX4_init 64 = .ok (.putfield 30, 3) := by decide +kernel
theorem dX4_init_67 : decode cX4_init 67 = .ok (.aload_n 0, 1) := by decide +kernel
theorem dX4_init_68 : decode cX4_init 68 = .ok (.ldc 33, 2) := by decide +kernel
theorem dX4_init_70 : decode cX4_init 70 = .ok (.newarray .int, 2) := by decide +kernel
theorem dX4_init_72 : decode cX4_init 72 = .ok (.putfield 34, 3) := by decide +kernel
theorem dX4_init_75 : decode cX4_init 75 = .ok (.aload_n 0, 1) := by decide +kernel
theorem dX4_init_76 : decode cX4_init 76 = .ok (.sipush 4096, 3) := by decide +kernel
theorem dX4_init_79 : decode cX4_init 79 = .ok (.newarray .boolean, 2) := by decide +kernel
theorem dX4_init_81 : decode cX4_init 81 = .ok (.putfield 37, 3) := by decide +kernel
theorem dX4_init_84 : decode cX4_init 84 = .ok (.aload_n 0, 1) := by decide +kernel
theorem dX4_init_85 : decode cX4_init 85 = .ok (.bipush 60, 2) := by decide +kernel
theorem dX4_init_87 : decode cX4_init 87 = .ok (.newarray .int, 2) := by decide +kernel
theorem dX4_init_89 : decode cX4_init 89 = .ok (.putfield 40, 3) := by decide +kernel
theorem dX4_init_92 : decode cX4_init 92 = .ok (.aload_n 0, 1) := by decide +kernel
theorem dX4_init_93 : decode cX4_init 93 = .ok (.bipush 60, 2) := by decide +kernel
theorem dX4_init_95 : decode cX4_init 95 = .ok (.newarray .int, 2) := by decide +kernel
theorem dX4_init_97 : decode cX4_init 97 = .ok (.putfield 43, 3) := by decide +kernel
theorem dX4_init_100 : decode cX4_init 100 = .ok (.aload_n 0, 1) := by decide +kernel
theorem dX4_init_101 : decode cX4_init 101 = .ok (.bipush 60, 2) := by decide +kernel
theorem dX4_init_103 : decode cX4_init 103 = .ok (.newarray .int, 2) := by decide +kernel
theorem dX4_init_105 : decode cX4_init 105 = .ok (.putfield 46, 3) := by decide +kernel
theorem dX4_init_108 : decode cX4_init 108 = .ok (.return_, 1) := by decide +kernel
theorem dX4_thrown_0 : decode cX4_thrown 0 = .ok (.aload_n 0, 1) := by decide +kernel
theorem dX4_thrown_1 : decode cX4_thrown 1 = .ok (.getfield 49, 3) := by decide +kernel
theorem dX4_thrown_4 : decode cX4_thrown 4 = .ok (.ireturn, 1) := by decide +kernel
theorem dX4_isKnown_0 : decode cX4_isKnown 0 = .ok (.iload_n 1, 1) := by decide +kernel
theorem dX4_isKnown_1 : decode cX4_isKnown 1 = .ok (.ifCond .lt 15, 3) := by decide +kernel
theorem dX4_isKnown_4 : decode cX4_isKnown 4 = .ok (.iload_n 1, 1) := by decide +kernel
theorem dX4_isKnown_5 : decode cX4_isKnown 5 = .ok (.aload_n 0, 1) := by decide +kernel
theorem dX4_isKnown_6 : decode cX4_isKnown 6 = .ok (.getfield 53, 3) := by decide +kernel
theorem dX4_isKnown_9 : decode cX4_isKnown 9 = .ok (.if_icmp .ge 7, 3) := by decide +kernel
theorem dX4_isKnown_12 : decode cX4_isKnown 12 = .ok (.iconst 1, 1) := by decide +kernel
theorem dX4_isKnown_13 : decode cX4_isKnown 13 = .ok (.goto 4, 3) := by decide +kernel
theorem dX4_isKnown_16 : decode cX4_isKnown 16 = .ok (.iconst 0, 1) := by decide +kernel
theorem dX4_isKnown_17 : decode cX4_isKnown 17 = .ok (.ireturn, 1) := by decide +kernel
theorem dX4_areKnown_0 : decode cX4_areKnown 0 = .ok (.aload_n 0, 1) := by decide +kernel
theorem dX4_areKnown_1 : decode cX4_areKnown 1 = .ok (.aload_n 0, 1) := by decide +kernel
theorem dX4_areKnown_2 : decode cX4_areKnown 2 = .ok (.iload_n 1, 1) := by decide +kernel
theorem dX4_areKnown_3 : decode cX4_areKnown 3 = .ok (.invokevirtual 56, 3) := by decide +kernel
theorem dX4_areKnown_6 : decode cX4_areKnown 6 = .ok (.ifCond .eq 15, 3) := by decide +kernel
theorem dX4_areKnown_9 : decode cX4_areKnown 9 = .ok (.aload_n 0, 1) := by decide +kernel
theorem dX4_areKnown_10 : decode cX4_areKnown 10 = .ok (.iload_n 2, 1) := by decide +kernel
theorem dX4_areKnown_11 : decode cX4_areKnown 11 = .ok (.invokevirtual 56, 3) := by decide +kernel
theorem dX4_areKnown_14 : decode cX4_areKnown 14 = .ok (.ifCond .eq 7, 3) := by decide +kernel
theorem dX4_areKnown_17 : decode cX4_areKnown 17 = .ok (.iconst 0, 1) := by decide +kernel
theorem dX4_areKnown_18 : decode cX4_areKnown 18 = .ok (.goto 4, 3) := by decide +kernel
theorem dX4_areKnown_21 : decode cX4_areKnown 21 = .ok (.iconst 1, 1) := by decide +kernel
theorem dX4_areKnown_22 : decode cX4_areKnown 22 = .ok (.putfield 49, 3) := by decide +kernel
theorem dX4_areKnown_25 : decode cX4_areKnown 25 = .ok (.aload_n 0, 1) := by decide +kernel
theorem dX4_areKnown_26 : decode cX4_areKnown 26 = .ok (.getfield 49, 3) := by decide +kernel
theorem dX4_areKnown_29 : decode cX4_areKnown 29 = .ok (.ifCond .ne 7, 3) := by decide +kernel
theorem dX4_areKnown_32 : decode cX4_areKnown 32 = .ok (.iconst 1, 1) := by decide +kernel
theorem dX4_areKnown_33 : decode cX4_areKnown 33 = .ok (.goto 4, 3) := by decide +kernel
theorem dX4_areKnown_36 : decode cX4_areKnown 36 = .ok (.iconst 0, 1) := by decide +kernel
theorem dX4_areKnown_37 : decode cX4_areKnown 37 = .ok (.ireturn, 1) := by decide +kernel
theorem dX4_sizeOf_0 : decode cX4_sizeOf 0 = .ok (.iload_n 1, 1) := by decide +kernel
theorem dX4_sizeOf_1 : decode cX4_sizeOf 1 = .ok (.istore_n 2, 1) := by decide +kernel
theorem dX4_sizeOf_2 : decode cX4_sizeOf 2 = .ok (.iload_n 2, 1) := by decide +kernel
theorem dX4_sizeOf_3 : decode cX4_sizeOf 3 = .ok (.ifCond .le 17, 3) := by decide +kernel
theorem dX4_sizeOf_6 : decode cX4_sizeOf 6 = .ok (.aload_n 0, 1) := by decide +kernel
theorem dX4_sizeOf_7 : decode cX4_sizeOf 7 = .ok (.iload_n 2, 1) := by decide +kernel
theorem dX4_sizeOf_8 : decode cX4_sizeOf 8 = .ok (.iconst 1, 1) := by decide +kernel
theorem dX4_sizeOf_9 : decode cX4_sizeOf 9 = .ok (.isub, 1) := by decide +kernel
theorem dX4_sizeOf_10 : decode cX4_sizeOf 10 = .ok (.iaload, 1) := by decide +kernel
theorem dX4_sizeOf_11 : decode cX4_sizeOf 11 = .ok (.ifCond .ne 9, 3) := by decide +kernel
theorem dX4_sizeOf_14 : decode cX4_sizeOf 14 = .ok (.iinc 2 (-1), 3) := by decide +kernel
theorem dX4_sizeOf_17 : decode cX4_sizeOf 17 = .ok (.goto (-15), 3) := by decide +kernel
theorem dX4_sizeOf_20 : decode cX4_sizeOf 20 = .ok (.iload_n 2, 1) := by decide +kernel
theorem dX4_sizeOf_21 : decode cX4_sizeOf 21 = .ok (.ireturn, 1) := by decide +kernel
theorem dX4_clear_0 : decode cX4_clear 0 = .ok (.iconst 0, 1) := by decide +kernel
theorem dX4_clear_1 : decode cX4_clear 1 = .ok (.istore_n 2, 1) := by decide +kernel
theorem dX4_clear_2 : decode cX4_clear 2 = .ok (.iload_n 2, 1) := by decide +kernel
theorem dX4_clear_3 : decode cX4_clear 3 = .ok (.sipush 220, 3) := by decide +kernel
theorem dX4_clear_6 : decode cX4_clear 6 = .ok (.if_icmp .ge 13, 3) := by decide +kernel
theorem dX4_clear_9 : decode cX4_clear 9 = .ok (.aload_n 1, 1) := by decide +kernel
theorem dX4_clear_10 : decode cX4_clear 10 = .ok (.iload_n 2, 1) := by decide +kernel
theorem dX4_clear_11 : decode cX4_clear 11 = .ok (.iconst 0, 1) := by decide +kernel
theorem dX4_clear_12 : decode cX4_clear 12 = .ok (.iastore, 1) := by decide +kernel
theorem dX4_clear_13 : decode cX4_clear 13 = .ok (.iinc 2 1, 3) := by decide +kernel
theorem dX4_clear_16 : decode cX4_clear 16 = .ok (.goto (-14), 3) := by decide +kernel
theorem dX4_clear_19 : decode cX4_clear 19 = .ok (.return_, 1) := by decide +kernel
theorem dX4_load_0 : decode cX4_load 0 = .ok (.aload_n 0, 1) := by decide +kernel
theorem dX4_load_1 : decode cX4_load 1 = .ok (.aload_n 0, 1) := by decide +kernel
theorem dX4_load_2 : decode cX4_load 2 = .ok (.getfield 24, 3) := by decide +kernel
theorem dX4_load_5 : decode cX4_load 5 = .ok (.invokevirtual 60, 3) := by decide +kernel
theorem dX4_load_8 : decode cX4_load 8 = .ok (.iconst 0, 1) := by decide +kernel
theorem dX4_load_9 : decode cX4_load 9 = .ok (.istore_n 2, 1) := by decide +kernel
theorem dX4_load_10 : decode cX4_load 10 = .ok (.iload_n 2, 1) := by decide +kernel
theorem dX4_load_11 : decode cX4_load 11 = .ok (.aload_n 0, 1) := by decide +kernel
theorem dX4_load_12 : decode cX4_load 12 = .ok (.getfield 13, 3) := by decide +kernel
theorem dX4_load_15 : decode cX4_load 15 = .ok (.iload_n 1, 1) := by decide +kernel
theorem dX4_load_16 : decode cX4_load 16 = .ok (.iaload, 1) := by decide +kernel
theorem dX4_load_17 : decode cX4_load 17 = .ok (.if_icmp .ge 26, 3) := by decide +kernel
theorem dX4_load_20 : decode cX4_load 20 = .ok (.aload_n 0, 1) := by decide +kernel
theorem dX4_load_21 : decode cX4_load 21 = .ok (.getfield 24, 3) := by decide +kernel
theorem dX4_load_24 : decode cX4_load 24 = .ok (.iload_n 2, 1) := by decide +kernel
theorem dX4_load_25 : decode cX4_load 25 = .ok (.aload_n 0, 1) := by decide +kernel
theorem dX4_load_26 : decode cX4_load 26 = .ok (.getfield 7, 3) := by decide +kernel
theorem dX4_load_29 : decode cX4_load 29 = .ok (.bipush 104, 2) := by decide +kernel
theorem dX4_load_31 : decode cX4_load 31 = .ok (.iload_n 1, 1) := by decide +kernel
theorem dX4_load_32 : decode cX4_load 32 = .ok (.imul, 1) := by decide +kernel
theorem dX4_load_33 : decode cX4_load 33 = .ok (.iload_n 2, 1) := by decide +kernel
theorem dX4_load_34 : decode cX4_load 34 = .ok (.iadd, 1) := by decide +kernel
theorem dX4_load_35 : decode cX4_load 35 = .ok (.iaload, 1) := by decide +kernel
theorem dX4_load_36 : decode cX4_load 36 = .ok (.iastore, 1) := by decide +kernel
theorem dX4_load_37 : decode cX4_load 37 = .ok (.iinc 2 1, 3) := by decide +kernel
theorem dX4_load_40 : decode cX4_load 40 = .ok (.goto (-30), 3) := by decide +kernel
theorem dX4_load_43 : decode cX4_load 43 = .ok (.aload_n 0, 1) := by decide +kernel
theorem dX4_load_44 : decode cX4_load 44 = .ok (.aload_n 0, 1) := by decide +kernel
theorem dX4_load_45 : decode cX4_load 45 = .ok (.getfield 13, 3) := by decide +kernel
theorem dX4_load_48 : decode cX4_load 48 = .ok (.iload_n 1, 1) := by decide +kernel
theorem dX4_load_49 : decode cX4_load 49 = .ok (.iaload, 1) := by decide +kernel
theorem dX4_load_50 : decode cX4_load 50 = .ok (.putfield 64, 3) := by decide +kernel
theorem dX4_load_53 : decode cX4_load 53 = .ok (.return_, 1) := by decide +kernel
theorem dX4_loadOther_0 : decode cX4_loadOther 0 = .ok (.aload_n 0, 1) := by decide +kernel
theorem dX4_loadOther_1 : decode cX4_loadOther 1 = .ok (.aload_n 0, 1) := by decide +kernel
theorem dX4_loadOther_2 : decode cX4_loadOther 2 = .ok (.getfield 27, 3) := by decide +kernel
theorem dX4_loadOther_5 : decode cX4_loadOther 5 = .ok (.invokevirtual 60, 3) := by decide +kernel
theorem dX4_loadOther_8 : decode cX4_loadOther 8 = .ok (.iconst 0, 1) := by decide +kernel
theorem dX4_loadOther_9 : decode cX4_loadOther 9 = .ok (.istore_n 2, 1) := by decide +kernel
theorem dX4_loadOther_10 : decode cX4_loadOther 10 = .ok (.iload_n 2, 1) := by decide +kernel
theorem dX4_loadOther_11 : decode cX4_loadOther 11 = .ok (.aload_n 0, 1) := by decide +kernel
theorem dX4_loadOther_12 : decode cX4_loadOther 12 = .ok (.getfield 13, 3) := by decide +kernel
theorem dX4_loadOther_15 : decode cX4_loadOther 15 = .ok (.iload_n 1, 1) := by decide +kernel
theorem dX4_loadOther_16 : decode cX4_loadOther 16 = .ok (.iaload, 1) := by decide +kernel
theorem dX4_loadOther_17 : decode cX4_loadOther 17 = .ok (.if_icmp .ge 26, 3) := by decide +kernel
theorem dX4_loadOther_20 : decode cX4_loadOther 20 = .ok (.aload_n 0, 1) := by decide +kernel
theorem dX4_loadOther_21 : decode cX4_loadOther 21 = .ok (.getfield 27, 3) := by decide +kernel
theorem dX4_loadOther_24 : decode cX4_loadOther 24 = .ok (.iload_n 2, 1) := by decide +kernel
theorem dX4_loadOther_25 : decode cX4_loadOther 25 = .ok (.aload_n 0, 1) := by decide +kernel
theorem dX4_loadOther_26 : decode cX4_loadOther 26 = .ok (.getfield 7, 3) := by decide +kernel
theorem dX4_loadOther_29 : decode cX4_loadOther 29 = .ok (.bipush 104, 2) := by decide +kernel
theorem dX4_loadOther_31 : decode cX4_loadOther 31 = .ok (.iload_n 1, 1) := by decide +kernel
theorem dX4_loadOther_32 : decode cX4_loadOther 32 = .ok (.imul, 1) := by decide +kernel
theorem dX4_loadOther_33 : decode cX4_loadOther 33 = .ok (.iload_n 2, 1) := by decide +kernel
theorem dX4_loadOther_34 : decode cX4_loadOther 34 = .ok (.iadd, 1) := by decide +kernel
theorem dX4_loadOther_35 : decode cX4_loadOther 35 = .ok (.iaload, 1) := by decide +kernel
theorem dX4_loadOther_36 : decode cX4_loadOther 36 = .ok (.iastore, 1) := by decide +kernel
theorem dX4_loadOther_37 : decode cX4_loadOther 37 = .ok (.iinc 2 1, 3) := by decide +kernel
theorem dX4_loadOther_40 : decode cX4_loadOther 40 = .ok (.goto (-30), 3) := by decide +kernel
theorem dX4_loadOther_43 : decode cX4_loadOther 43 = .ok (.aload_n 0, 1) := by decide +kernel
theorem dX4_loadOther_44 : decode cX4_loadOther 44 = .ok (.aload_n 0, 1) := by decide +kernel
theorem dX4_loadOther_45 : decode cX4_loadOther 45 = .ok (.getfield 13, 3) := by decide +kernel
theorem dX4_loadOther_48 : decode cX4_loadOther 48 = .ok (.iload_n 1, 1) := by decide +kernel
theorem dX4_loadOther_49 : decode cX4_loadOther 49 = .ok (.iaload, 1) := by decide +kernel
theorem dX4_loadOther_50 : decode cX4_loadOther 50 = .ok (.putfield 67, 3) := by decide +kernel
theorem dX4_loadOther_53 : decode cX4_loadOther 53 = .ok (.return_, 1) := by decide +kernel
theorem dX4_loadLong_0 : decode cX4_loadLong 0 = .ok (.aload_n 0, 1) := by decide +kernel
theorem dX4_loadLong_1 : decode cX4_loadLong 1 = .ok (.aload_n 0, 1) := by decide +kernel
theorem dX4_loadLong_2 : decode cX4_loadLong 2 = .ok (.getfield 24, 3) := by decide +kernel
theorem dX4_loadLong_5 : decode cX4_loadLong 5 = .ok (.invokevirtual 60, 3) := by decide +kernel
theorem dX4_loadLong_8 : decode cX4_loadLong 8 = .ok (.lload_n 1, 1) := by decide +kernel
theorem dX4_loadLong_9 : decode cX4_loadLong 9 = .ok (.lconst 0, 1) := by decide +kernel
theorem dX4_loadLong_10 : decode cX4_loadLong 10 = .ok (.lcmp, 1) := by decide +kernel
theorem dX4_loadLong_11 : decode cX4_loadLong 11 = .ok (.ifCond .ge 8, 3) := by decide +kernel
theorem dX4_loadLong_14 : decode cX4_loadLong 14 = .ok (.lload_n 1, 1) := by decide +kernel
theorem dX4_loadLong_15 : decode cX4_loadLong 15 = .ok (.lneg, 1) := by decide +kernel
theorem dX4_loadLong_16 : decode cX4_loadLong 16 = .ok (.goto 4, 3) := by decide +kernel
theorem dX4_loadLong_19 : decode cX4_loadLong 19 = .ok (.lload_n 1, 1) := by decide +kernel
theorem dX4_loadLong_20 : decode cX4_loadLong 20 = .ok (.lstore_n 3, 1) := by decide +kernel
theorem dX4_loadLong_21 : decode cX4_loadLong 21 = .ok (.iconst 0, 1) := by decide +kernel
theorem dX4_loadLong_22 : decode cX4_loadLong 22 = .ok (.istore 5, 2) := by decide +kernel
theorem dX4_loadLong_24 : decode cX4_loadLong 24 = .ok (.iload 5, 2) := by decide +kernel
theorem dX4_loadLong_26 : decode cX4_loadLong 26 = .ok (.iconst 4, 1) := by decide +kernel
theorem dX4_loadLong_27 : decode cX4_loadLong 27 = .ok (.if_icmp .ge 28, 3) := by decide +kernel
theorem dX4_loadLong_30 : decode cX4_loadLong 30 = .ok (.aload_n 0, 1) := by decide +kernel
theorem dX4_loadLong_31 : decode cX4_loadLong 31 = .ok (.getfield 24, 3) := by decide +kernel
theorem dX4_loadLong_34 : decode cX4_loadLong 34 = .ok (.iload 5, 2) := by decide +kernel
theorem dX4_loadLong_36 : decode cX4_loadLong 36 = .ok (.lload_n 3, 1) := by decide +kernel
theorem dX4_loadLong_37 : decode cX4_loadLong 37 = .ok (.bipush 16, 2) := by decide +kernel
theorem dX4_loadLong_39 : decode cX4_loadLong 39 = .ok (.iload 5, 2) := by decide +kernel
theorem dX4_loadLong_41 : decode cX4_loadLong 41 = .ok (.imul, 1) := by decide +kernel
theorem dX4_loadLong_42 : decode cX4_loadLong 42 = .ok (.lushr, 1) := by decide +kernel
theorem dX4_loadLong_43 : decode cX4_loadLong 43 = .ok (.ldc2_w 70, 3) := by decide +kernel
theorem dX4_loadLong_46 : decode cX4_loadLong 46 = .ok (.land, 1) := by decide +kernel
theorem dX4_loadLong_47 : decode cX4_loadLong 47 = .ok (.l2i, 1) := by decide +kernel
theorem dX4_loadLong_48 : decode cX4_loadLong 48 = .ok (.iastore, 1) := by decide +kernel
theorem dX4_loadLong_49 : decode cX4_loadLong 49 = .ok (.iinc 5 1, 3) := by decide +kernel
theorem dX4_loadLong_52 : decode cX4_loadLong 52 = .ok (.goto (-28), 3) := by decide +kernel
theorem dX4_loadLong_55 : decode cX4_loadLong 55 = .ok (.aload_n 0, 1) := by decide +kernel
theorem dX4_loadLong_56 : decode cX4_loadLong 56 = .ok (.aload_n 0, 1) := by decide +kernel
theorem dX4_loadLong_57 : decode cX4_loadLong 57 = .ok (.getfield 24, 3) := by decide +kernel
theorem dX4_loadLong_60 : decode cX4_loadLong 60 = .ok (.iconst 4, 1) := by decide +kernel
theorem dX4_loadLong_61 : decode cX4_loadLong 61 = .ok (.invokestatic 72, 3) := by decide +kernel
theorem dX4_loadLong_64 : decode cX4_loadLong 64 = .ok (.putfield 64, 3) := by decide +kernel
theorem dX4_loadLong_67 : decode cX4_loadLong 67 = .ok (.return_, 1) := by decide +kernel
theorem dX4_isTooWide_0 : decode cX4_isTooWide 0 = .ok (.aload_n 0, 1) := by decide +kernel
theorem dX4_isTooWide_1 : decode cX4_isTooWide 1 = .ok (.getfield 64, 3) := by decide +kernel
theorem dX4_isTooWide_4 : decode cX4_isTooWide 4 = .ok (.bipush 100, 2) := by decide +kernel
theorem dX4_isTooWide_6 : decode cX4_isTooWide 6 = .ok (.if_icmp .le 7, 3) := by decide +kernel
theorem dX4_isTooWide_9 : decode cX4_isTooWide 9 = .ok (.iconst 1, 1) := by decide +kernel
theorem dX4_isTooWide_10 : decode cX4_isTooWide 10 = .ok (.goto 4, 3) := by decide +kernel
theorem dX4_isTooWide_13 : decode cX4_isTooWide 13 = .ok (.iconst 0, 1) := by decide +kernel
theorem dX4_isTooWide_14 : decode cX4_isTooWide 14 = .ok (.ireturn, 1) := by decide +kernel
theorem dX4_keep_0 : decode cX4_keep 0 = .ok (.aload_n 0, 1) := by decide +kernel
theorem dX4_keep_1 : decode cX4_keep 1 = .ok (.getfield 53, 3) := by decide +kernel
theorem dX4_keep_4 : decode cX4_keep 4 = .ok (.sipush 160, 3) := by decide +kernel
theorem dX4_keep_7 : decode cX4_keep 7 = .ok (.if_icmp .eq 10, 3) := by decide +kernel
theorem dX4_keep_10 : decode cX4_keep 10 = .ok (.aload_n 0, 1) := by decide +kernel
theorem dX4_keep_11 : decode cX4_keep 11 = .ok (.invokevirtual 76, 3) := by decide +kernel
theorem dX4_keep_14 : decode cX4_keep 14 = .ok (.ifCond .eq 5, 3) := by decide +kernel
theorem dX4_keep_17 : decode cX4_keep 17 = .ok (.iconst (-1), 1) := by decide +kernel
theorem dX4_keep_18 : decode cX4_keep 18 = .ok (.ireturn, 1) := by decide +kernel
theorem dX4_keep_19 : decode cX4_keep 19 = .ok (.iconst 0, 1) := by decide +kernel
theorem dX4_keep_20 : decode cX4_keep 20 = .ok (.istore_n 2, 1) := by decide +kernel
theorem dX4_keep_21 : decode cX4_keep 21 = .ok (.iload_n 2, 1) := by decide +kernel
theorem dX4_keep_22 : decode cX4_keep 22 = .ok (.aload_n 0, 1) := by decide +kernel
theorem dX4_keep_23 : decode cX4_keep 23 = .ok (.getfield 64, 3) := by decide +kernel
theorem dX4_keep_26 : decode cX4_keep 26 = .ok (.if_icmp .ge 29, 3) := by decide +kernel
theorem dX4_keep_29 : decode cX4_keep 29 = .ok (.aload_n 0, 1) := by decide +kernel
theorem dX4_keep_30 : decode cX4_keep 30 = .ok (.getfield 7, 3) := by decide +kernel
theorem dX4_keep_33 : decode cX4_keep 33 = .ok (.bipush 104, 2) := by decide +kernel
theorem dX4_keep_35 : decode cX4_keep 35 = .ok (.aload_n 0, 1) := by decide +kernel
theorem dX4_keep_36 : decode cX4_keep 36 = .ok (.getfield 53, 3) := by decide +kernel
theorem dX4_keep_39 : decode cX4_keep 39 = .ok (.imul, 1) := by decide +kernel
theorem dX4_keep_40 : decode cX4_keep 40 = .ok (.iload_n 2, 1) := by decide +kernel
theorem dX4_keep_41 : decode cX4_keep 41 = .ok (.iadd, 1) := by decide +kernel
theorem dX4_keep_42 : decode cX4_keep 42 = .ok (.aload_n 0, 1) := by decide +kernel
theorem dX4_keep_43 : decode cX4_keep 43 = .ok (.getfield 24, 3) := by decide +kernel
theorem dX4_keep_46 : decode cX4_keep 46 = .ok (.iload_n 2, 1) := by decide +kernel
theorem dX4_keep_47 : decode cX4_keep 47 = .ok (.iaload, 1) := by decide +kernel
theorem dX4_keep_48 : decode cX4_keep 48 = .ok (.iastore, 1) := by decide +kernel
theorem dX4_keep_49 : decode cX4_keep 49 = .ok (.iinc 2 1, 3) := by decide +kernel
theorem dX4_keep_52 : decode cX4_keep 52 = .ok (.goto (-31), 3) := by decide +kernel
theorem dX4_keep_55 : decode cX4_keep 55 = .ok (.aload_n 0, 1) := by decide +kernel
theorem dX4_keep_56 : decode cX4_keep 56 = .ok (.getfield 13, 3) := by decide +kernel
theorem dX4_keep_59 : decode cX4_keep 59 = .ok (.aload_n 0, 1) := by decide +kernel
theorem dX4_keep_60 : decode cX4_keep 60 = .ok (.getfield 53, 3) := by decide +kernel
theorem dX4_keep_63 : decode cX4_keep 63 = .ok (.aload_n 0, 1) := by decide +kernel
theorem dX4_keep_64 : decode cX4_keep 64 = .ok (.getfield 64, 3) := by decide +kernel
theorem dX4_keep_67 : decode cX4_keep 67 = .ok (.iastore, 1) := by decide +kernel
theorem dX4_keep_68 : decode cX4_keep 68 = .ok (.aload_n 0, 1) := by decide +kernel
theorem dX4_keep_69 : decode cX4_keep 69 = .ok (.getfield 16, 3) := by decide +kernel
theorem dX4_keep_72 : decode cX4_keep 72 = .ok (.aload_n 0, 1) := by decide +kernel
theorem dX4_keep_73 : decode cX4_keep 73 = .ok (.getfield 53, 3) := by decide +kernel
theorem dX4_keep_76 : decode cX4_keep 76 = .ok (.iload_n 1, 1) := by decide +kernel
theorem dX4_keep_77 : decode cX4_keep 77 = .ok (.ifCond .eq 14, 3) := by decide +kernel
theorem dX4_keep_80 : decode cX4_keep 80 = .ok (.aload_n 0, 1) := by decide +kernel
theorem dX4_keep_81 : decode cX4_keep 81 = .ok (.getfield 64, 3) := by decide +kernel
theorem dX4_keep_84 : decode cX4_keep 84 = .ok (.ifCond .le 7, 3) := by decide +kernel
theorem dX4_keep_87 : decode cX4_keep 87 = .ok (.iconst 1, 1) := by decide +kernel
theorem dX4_keep_88 : decode cX4_keep 88 = .ok (.goto 4, 3) := by decide +kernel
theorem dX4_keep_91 : decode cX4_keep 91 = .ok (.iconst 0, 1) := by decide +kernel
theorem dX4_keep_92 : decode cX4_keep 92 = .ok (.bastore, 1) := by decide +kernel
theorem dX4_keep_93 : decode cX4_keep 93 = .ok (.aload_n 0, 1) := by decide +kernel
theorem dX4_keep_94 : decode cX4_keep 94 = .ok (.dup, 1) := by decide +kernel
theorem dX4_keep_95 : decode cX4_keep 95 = .ok (.getfield 53, 3) := by decide +kernel
theorem dX4_keep_98 : decode cX4_keep 98 = .ok (.iconst 1, 1) := by decide +kernel
theorem dX4_keep_99 : decode cX4_keep 99 = .ok (.iadd, 1) := by decide +kernel
theorem dX4_keep_100 : decode cX4_keep 100 = .ok (.putfield 53, 3) := by decide +kernel
theorem dX4_keep_103 : decode cX4_keep 103 = .ok (.aload_n 0, 1) := by decide +kernel
theorem dX4_keep_104 : decode cX4_keep 104 = .ok (.getfield 53, 3) := by decide +kernel
theorem dX4_keep_107 : decode cX4_keep 107 = .ok (.iconst 1, 1) := by decide +kernel
theorem dX4_keep_108 : decode cX4_keep 108 = .ok (.isub, 1) := by decide +kernel
theorem dX4_keep_109 : decode cX4_keep 109 = .ok (.ireturn, 1) := by decide +kernel
theorem dX4_compare_0 : decode cX4_compare 0 = .ok (.aload_n 0, 1) := by decide +kernel
theorem dX4_compare_1 : decode cX4_compare 1 = .ok (.getfield 64, 3) := by decide +kernel
theorem dX4_compare_4 : decode cX4_compare 4 = .ok (.aload_n 0, 1) := by decide +kernel
theorem dX4_compare_5 : decode cX4_compare 5 = .ok (.getfield 67, 3) := by decide +kernel
theorem dX4_compare_8 : decode cX4_compare 8 = .ok (.if_icmp .eq 20, 3) := by decide +kernel
theorem dX4_compare_11 : decode cX4_compare 11 = .ok (.aload_n 0, 1) := by decide +kernel
theorem dX4_compare_12 : decode cX4_compare 12 = .ok (.getfield 64, 3) := by decide +kernel
theorem dX4_compare_15 : decode cX4_compare 15 = .ok (.aload_n 0, 1) := by decide +kernel
theorem dX4_compare_16 : decode cX4_compare 16 = .ok (.getfield 67, 3) := by decide +kernel
theorem dX4_compare_19 : decode cX4_compare 19 = .ok (.if_icmp .ge 7, 3) := by decide +kernel
theorem dX4_compare_22 : decode cX4_compare 22 = .ok (.iconst (-1), 1) := by decide +kernel
theorem dX4_compare_23 : decode cX4_compare 23 = .ok (.goto 4, 3) := by decide +kernel
theorem dX4_compare_26 : decode cX4_compare 26 = .ok (.iconst 1, 1) := by decide +kernel
theorem dX4_compare_27 : decode cX4_compare 27 = .ok (.ireturn, 1) := by decide +kernel
theorem dX4_compare_28 : decode cX4_compare 28 = .ok (.aload_n 0, 1) := by decide +kernel
theorem dX4_compare_29 : decode cX4_compare 29 = .ok (.getfield 64, 3) := by decide +kernel
theorem dX4_compare_32 : decode cX4_compare 32 = .ok (.iconst 1, 1) := by decide +kernel
theorem dX4_compare_33 : decode cX4_compare 33 = .ok (.isub, 1) := by decide +kernel
theorem dX4_compare_34 : decode cX4_compare 34 = .ok (.istore_n 1, 1) := by decide +kernel
theorem dX4_compare_35 : decode cX4_compare 35 = .ok (.iload_n 1, 1) := by decide +kernel
theorem dX4_compare_36 : decode cX4_compare 36 = .ok (.ifCond .lt 45, 3) := by decide +kernel
theorem dX4_compare_39 : decode cX4_compare 39 = .ok (.aload_n 0, 1) := by decide +kernel
theorem dX4_compare_40 : decode cX4_compare 40 = .ok (.getfield 24, 3) := by decide +kernel
theorem dX4_compare_43 : decode cX4_compare 43 = .ok (.iload_n 1, 1) := by decide +kernel
theorem dX4_compare_44 : decode cX4_compare 44 = .ok (.iaload, 1) := by decide +kernel
theorem dX4_compare_45 : decode cX4_compare 45 = .ok (.aload_n 0, 1) := by decide +kernel
theorem dX4_compare_46 : decode cX4_compare 46 = .ok (.getfield 27, 3) := by decide +kernel
theorem dX4_compare_49 : decode cX4_compare 49 = .ok (.iload_n 1, 1) := by decide +kernel
theorem dX4_compare_50 : decode cX4_compare 50 = .ok (.iaload, 1) := by decide +kernel
theorem dX4_compare_51 : decode cX4_compare 51 = .ok (.if_icmp .eq 24, 3) := by decide +kernel
theorem dX4_compare_54 : decode cX4_compare 54 = .ok (.aload_n 0, 1) := by decide +kernel
theorem dX4_compare_55 : decode cX4_compare 55 = .ok (.getfield 24, 3) := by decide +kernel
theorem dX4_compare_58 : decode cX4_compare 58 = .ok (.iload_n 1, 1) := by decide +kernel
theorem dX4_compare_59 : decode cX4_compare 59 = .ok (.iaload, 1) := by decide +kernel
theorem dX4_compare_60 : decode cX4_compare 60 = .ok (.aload_n 0, 1) := by decide +kernel
theorem dX4_compare_61 : decode cX4_compare 61 = .ok (.getfield 27, 3) := by decide +kernel
theorem dX4_compare_64 : decode cX4_compare 64 = .ok (.iload_n 1, 1) := by decide +kernel
theorem dX4_compare_65 : decode cX4_compare 65 = .ok (.iaload, 1) := by decide +kernel
theorem dX4_compare_66 : decode cX4_compare 66 = .ok (.if_icmp .ge 7, 3) := by decide +kernel
theorem dX4_compare_69 : decode cX4_compare 69 = .ok (.iconst (-1), 1) := by decide +kernel
theorem dX4_compare_70 : decode cX4_compare 70 = .ok (.goto 4, 3) := by decide +kernel
theorem dX4_compare_73 : decode cX4_compare 73 = .ok (.iconst 1, 1) := by decide +kernel
theorem dX4_compare_74 : decode cX4_compare 74 = .ok (.ireturn, 1) := by decide +kernel
theorem dX4_compare_75 : decode cX4_compare 75 = .ok (.iinc 1 (-1), 3) := by decide +kernel
theorem dX4_compare_78 : decode cX4_compare 78 = .ok (.goto (-43), 3) := by decide +kernel
theorem dX4_compare_81 : decode cX4_compare 81 = .ok (.iconst 0, 1) := by decide +kernel
theorem dX4_compare_82 : decode cX4_compare 82 = .ok (.ireturn, 1) := by decide +kernel
theorem dX4_grow_0 : decode cX4_grow 0 = .ok (.iconst 0, 1) := by decide +kernel
theorem dX4_grow_1 : decode cX4_grow 1 = .ok (.istore_n 1, 1) := by decide +kernel
theorem dX4_grow_2 : decode cX4_grow 2 = .ok (.aload_n 0, 1) := by decide +kernel
theorem dX4_grow_3 : decode cX4_grow 3 = .ok (.getfield 64, 3) := by decide +kernel
theorem dX4_grow_6 : decode cX4_grow 6 = .ok (.aload_n 0, 1) := by decide +kernel
theorem dX4_grow_7 : decode cX4_grow 7 = .ok (.getfield 67, 3) := by decide +kernel
theorem dX4_grow_10 : decode cX4_grow 10 = .ok (.if_icmp .le 10, 3) := by decide +kernel
theorem dX4_grow_13 : decode cX4_grow 13 = .ok (.aload_n 0, 1) := by decide +kernel
theorem dX4_grow_14 : decode cX4_grow 14 = .ok (.getfield 64, 3) := by decide +kernel
theorem dX4_grow_17 : decode cX4_grow 17 = .ok (.goto 7, 3) := by decide +kernel
theorem dX4_grow_20 : decode cX4_grow 20 = .ok (.aload_n 0, 1) := by decide +kernel
theorem dX4_grow_21 : decode cX4_grow 21 = .ok (.getfield 67, 3) := by decide +kernel
theorem dX4_grow_24 : decode cX4_grow 24 = .ok (.istore_n 2, 1) := by decide +kernel
theorem dX4_grow_25 : decode cX4_grow 25 = .ok (.iconst 0, 1) := by decide +kernel
theorem dX4_grow_26 : decode cX4_grow 26 = .ok (.istore_n 3, 1) := by decide +kernel
theorem dX4_grow_27 : decode cX4_grow 27 = .ok (.iload_n 3, 1) := by decide +kernel
theorem dX4_grow_28 : decode cX4_grow 28 = .ok (.iload_n 2, 1) := by decide +kernel
theorem dX4_grow_29 : decode cX4_grow 29 = .ok (.if_icmp .gt 43, 3) := by decide +kernel
theorem dX4_grow_32 : decode cX4_grow 32 = .ok (.aload_n 0, 1) := by decide +kernel
theorem dX4_grow_33 : decode cX4_grow 33 = .ok (.getfield 24, 3) := by decide +kernel
theorem dX4_grow_36 : decode cX4_grow 36 = .ok (.iload_n 3, 1) := by decide +kernel
theorem dX4_grow_37 : decode cX4_grow 37 = .ok (.iaload, 1) := by decide +kernel
theorem dX4_grow_38 : decode cX4_grow 38 = .ok (.aload_n 0, 1) := by decide +kernel
theorem dX4_grow_39 : decode cX4_grow 39 = .ok (.getfield 27, 3) := by decide +kernel
theorem dX4_grow_42 : decode cX4_grow 42 = .ok (.iload_n 3, 1) := by decide +kernel
theorem dX4_grow_43 : decode cX4_grow 43 = .ok (.iaload, 1) := by decide +kernel
theorem dX4_grow_44 : decode cX4_grow 44 = .ok (.iadd, 1) := by decide +kernel
theorem dX4_grow_45 : decode cX4_grow 45 = .ok (.iload_n 1, 1) := by decide +kernel
theorem dX4_grow_46 : decode cX4_grow 46 = .ok (.iadd, 1) := by decide +kernel
theorem dX4_grow_47 : decode cX4_grow 47 = .ok (.istore 4, 2) := by decide +kernel
theorem dX4_grow_49 : decode cX4_grow 49 = .ok (.aload_n 0, 1) := by decide +kernel
theorem dX4_grow_50 : decode cX4_grow 50 = .ok (.getfield 24, 3) := by decide +kernel
theorem dX4_grow_53 : decode cX4_grow 53 = .ok (.iload_n 3, 1) := by decide +kernel
theorem dX4_grow_54 : decode cX4_grow 54 = .ok (.iload 4, 2) := by decide +kernel
theorem dX4_grow_56 : decode cX4_grow 56 = .ok (.ldc 80, 2) := by decide +kernel
theorem dX4_grow_58 : decode cX4_grow 58 = .ok (.iand, 1) := by decide +kernel
theorem dX4_grow_59 : decode cX4_grow 59 = .ok (.iastore, 1) := by decide +kernel
theorem dX4_grow_60 : decode cX4_grow 60 = .ok (.iload 4, 2) := by decide +kernel
theorem dX4_grow_62 : decode cX4_grow 62 = .ok (.bipush 16, 2) := by decide +kernel
theorem dX4_grow_64 : decode cX4_grow 64 = .ok (.ishr, 1) := by decide +kernel
theorem dX4_grow_65 : decode cX4_grow 65 = .ok (.istore_n 1, 1) := by decide +kernel
theorem dX4_grow_66 : decode cX4_grow 66 = .ok (.iinc 3 1, 3) := by decide +kernel
theorem dX4_grow_69 : decode cX4_grow 69 = .ok (.goto (-42), 3) := by decide +kernel
theorem dX4_grow_72 : decode cX4_grow 72 = .ok (.aload_n 0, 1) := by decide +kernel
theorem dX4_grow_73 : decode cX4_grow 73 = .ok (.aload_n 0, 1) := by decide +kernel
theorem dX4_grow_74 : decode cX4_grow 74 = .ok (.getfield 24, 3) := by decide +kernel
theorem dX4_grow_77 : decode cX4_grow 77 = .ok (.iload_n 2, 1) := by decide +kernel
theorem dX4_grow_78 : decode cX4_grow 78 = .ok (.iconst 1, 1) := by decide +kernel
theorem dX4_grow_79 : decode cX4_grow 79 = .ok (.iadd, 1) := by decide +kernel
theorem dX4_grow_80 : decode cX4_grow 80 = .ok (.invokestatic 72, 3) := by decide +kernel
theorem dX4_grow_83 : decode cX4_grow 83 = .ok (.putfield 64, 3) := by decide +kernel
theorem dX4_grow_86 : decode cX4_grow 86 = .ok (.return_, 1) := by decide +kernel
theorem dX4_shrink_0 : decode cX4_shrink 0 = .ok (.iconst 0, 1) := by decide +kernel
theorem dX4_shrink_1 : decode cX4_shrink 1 = .ok (.istore_n 2, 1) := by decide +kernel
theorem dX4_shrink_2 : decode cX4_shrink 2 = .ok (.aload_n 0, 1) := by decide +kernel
theorem dX4_shrink_3 : decode cX4_shrink 3 = .ok (.getfield 64, 3) := by decide +kernel
theorem dX4_shrink_6 : decode cX4_shrink 6 = .ok (.aload_n 0, 1) := by decide +kernel
theorem dX4_shrink_7 : decode cX4_shrink 7 = .ok (.getfield 67, 3) := by decide +kernel
theorem dX4_shrink_10 : decode cX4_shrink 10 = .ok (.if_icmp .le 10, 3) := by decide +kernel
theorem dX4_shrink_13 : decode cX4_shrink 13 = .ok (.aload_n 0, 1) := by decide +kernel
theorem dX4_shrink_14 : decode cX4_shrink 14 = .ok (.getfield 64, 3) := by decide +kernel
theorem dX4_shrink_17 : decode cX4_shrink 17 = .ok (.goto 7, 3) := by decide +kernel
theorem dX4_shrink_20 : decode cX4_shrink 20 = .ok (.aload_n 0, 1) := by decide +kernel
theorem dX4_shrink_21 : decode cX4_shrink 21 = .ok (.getfield 67, 3) := by decide +kernel
theorem dX4_shrink_24 : decode cX4_shrink 24 = .ok (.istore_n 3, 1) := by decide +kernel
theorem dX4_shrink_25 : decode cX4_shrink 25 = .ok (.iconst 0, 1) := by decide +kernel
theorem dX4_shrink_26 : decode cX4_shrink 26 = .ok (.istore 4, 2) := by decide +kernel
theorem dX4_shrink_28 : decode cX4_shrink 28 = .ok (.iload 4, 2) := by decide +kernel
theorem dX4_shrink_30 : decode cX4_shrink 30 = .ok (.iload_n 3, 1) := by decide +kernel
theorem dX4_shrink_31 : decode cX4_shrink 31 = .ok (.if_icmp .ge 73, 3) := by decide +kernel
theorem dX4_shrink_34 : decode cX4_shrink 34 = .ok (.iload_n 1, 1) := by decide +kernel
theorem dX4_shrink_35 : decode cX4_shrink 35 = .ok (.ifCond .eq 21, 3) := by decide +kernel
theorem dX4_shrink_38 : decode cX4_shrink 38 = .ok (.aload_n 0, 1) := by decide +kernel
theorem dX4_shrink_39 : decode cX4_shrink 39 = .ok (.getfield 27, 3) := by decide +kernel
theorem dX4_shrink_42 : decode cX4_shrink 42 = .ok (.iload 4, 2) := by decide +kernel
theorem dX4_shrink_44 : decode cX4_shrink 44 = .ok (.iaload, 1) := by decide +kernel
theorem dX4_shrink_45 : decode cX4_shrink 45 = .ok (.aload_n 0, 1) := by decide +kernel
theorem dX4_shrink_46 : decode cX4_shrink 46 = .ok (.getfield 24, 3) := by decide +kernel
theorem dX4_shrink_49 : decode cX4_shrink 49 = .ok (.iload 4, 2) := by decide +kernel
theorem dX4_shrink_51 : decode cX4_shrink 51 = .ok (.iaload, 1) := by decide +kernel
theorem dX4_shrink_52 : decode cX4_shrink 52 = .ok (.isub, 1) := by decide +kernel
theorem dX4_shrink_53 : decode cX4_shrink 53 = .ok (.goto 18, 3) := by decide +kernel
theorem dX4_shrink_56 : decode cX4_shrink 56 = .ok (.aload_n 0, 1) := by decide +kernel
theorem dX4_shrink_57 : decode cX4_shrink 57 = .ok (.getfield 24, 3) := by decide +kernel
theorem dX4_shrink_60 : decode cX4_shrink 60 = .ok (.iload 4, 2) := by decide +kernel
theorem dX4_shrink_62 : decode cX4_shrink 62 = .ok (.iaload, 1) := by decide +kernel
theorem dX4_shrink_63 : decode cX4_shrink 63 = .ok (.aload_n 0, 1) := by decide +kernel
theorem dX4_shrink_64 : decode cX4_shrink 64 = .ok (.getfield 27, 3) := by decide +kernel
theorem dX4_shrink_67 : decode cX4_shrink 67 = .ok (.iload 4, 2) := by decide +kernel
theorem dX4_shrink_69 : decode cX4_shrink 69 = .ok (.iaload, 1) := by decide +kernel
theorem dX4_shrink_70 : decode cX4_shrink 70 = .ok (.isub, 1) := by decide +kernel
theorem dX4_shrink_71 : decode cX4_shrink 71 = .ok (.iload_n 2, 1) := by decide +kernel
theorem dX4_shrink_72 : decode cX4_shrink 72 = .ok (.isub, 1) := by decide +kernel
theorem dX4_shrink_73 : decode cX4_shrink 73 = .ok (.istore 5, 2) := by decide +kernel
theorem dX4_shrink_75 : decode cX4_shrink 75 = .ok (.aload_n 0, 1) := by decide +kernel
theorem dX4_shrink_76 : decode cX4_shrink 76 = .ok (.getfield 24, 3) := by decide +kernel
theorem dX4_shrink_79 : decode cX4_shrink 79 = .ok (.iload 4, 2) := by decide +kernel
theorem dX4_shrink_81 : decode cX4_shrink 81 = .ok (.iload 5, 2) := by decide +kernel
theorem dX4_shrink_83 : decode cX4_shrink 83 = .ok (.ldc 80, 2) := by decide +kernel
theorem dX4_shrink_85 : decode cX4_shrink 85 = .ok (.iand, 1) := by decide +kernel
theorem dX4_shrink_86 : decode cX4_shrink 86 = .ok (.iastore, 1) := by decide +kernel
theorem dX4_shrink_87 : decode cX4_shrink 87 = .ok (.iload 5, 2) := by decide +kernel
theorem dX4_shrink_89 : decode cX4_shrink 89 = .ok (.ifCond .ge 7, 3) := by decide +kernel
theorem dX4_shrink_92 : decode cX4_shrink 92 = .ok (.iconst 1, 1) := by decide +kernel
theorem dX4_shrink_93 : decode cX4_shrink 93 = .ok (.goto 4, 3) := by decide +kernel
theorem dX4_shrink_96 : decode cX4_shrink 96 = .ok (.iconst 0, 1) := by decide +kernel
theorem dX4_shrink_97 : decode cX4_shrink 97 = .ok (.istore_n 2, 1) := by decide +kernel
theorem dX4_shrink_98 : decode cX4_shrink 98 = .ok (.iinc 4 1, 3) := by decide +kernel
theorem dX4_shrink_101 : decode cX4_shrink 101 = .ok (.goto (-73), 3) := by decide +kernel
theorem dX4_shrink_104 : decode cX4_shrink 104 = .ok (.aload_n 0, 1) := by decide +kernel
theorem dX4_shrink_105 : decode cX4_shrink 105 = .ok (.aload_n 0, 1) := by decide +kernel
theorem dX4_shrink_106 : decode cX4_shrink 106 = .ok (.getfield 24, 3) := by decide +kernel
theorem dX4_shrink_109 : decode cX4_shrink 109 = .ok (.iload_n 3, 1) := by decide +kernel
theorem dX4_shrink_110 : decode cX4_shrink 110 = .ok (.invokestatic 72, 3) := by decide +kernel
theorem dX4_shrink_113 : decode cX4_shrink 113 = .ok (.putfield 64, 3) := by decide +kernel
theorem dX4_shrink_116 : decode cX4_shrink 116 = .ok (.return_, 1) := by decide +kernel
theorem dX4_multiply_0 : decode cX4_multiply 0 = .ok (.aload_n 0, 1) := by decide +kernel
theorem dX4_multiply_1 : decode cX4_multiply 1 = .ok (.aload_n 0, 1) := by decide +kernel
theorem dX4_multiply_2 : decode cX4_multiply 2 = .ok (.getfield 30, 3) := by decide +kernel
theorem dX4_multiply_5 : decode cX4_multiply 5 = .ok (.invokevirtual 60, 3) := by decide +kernel
theorem dX4_multiply_8 : decode cX4_multiply 8 = .ok (.iconst 0, 1) := by decide +kernel
theorem dX4_multiply_9 : decode cX4_multiply 9 = .ok (.istore_n 1, 1) := by decide +kernel
theorem dX4_multiply_10 : decode cX4_multiply 10 = .ok (.iload_n 1, 1) := by decide +kernel
theorem dX4_multiply_11 : decode cX4_multiply 11 = .ok (.aload_n 0, 1) := by decide +kernel
theorem dX4_multiply_12 : decode cX4_multiply 12 = .ok (.getfield 64, 3) := by decide +kernel
theorem dX4_multiply_15 : decode cX4_multiply 15 = .ok (.if_icmp .ge 95, 3) := by decide +kernel
theorem dX4_multiply_18 : decode cX4_multiply 18 = .ok (.iconst 0, 1) := by decide +kernel
theorem dX4_multiply_19 : decode cX4_multiply 19 = .ok (.istore_n 2, 1) := by decide +kernel
theorem dX4_multiply_20 : decode cX4_multiply 20 = .ok (.iconst 0, 1) := by decide +kernel
theorem dX4_multiply_21 : decode cX4_multiply 21 = .ok (.istore_n 3, 1) := by decide +kernel
theorem dX4_multiply_22 : decode cX4_multiply 22 = .ok (.iload_n 3, 1) := by decide +kernel
theorem dX4_multiply_23 : decode cX4_multiply 23 = .ok (.aload_n 0, 1) := by decide +kernel
theorem dX4_multiply_24 : decode cX4_multiply 24 = .ok (.getfield 67, 3) := by decide +kernel
theorem dX4_multiply_27 : decode cX4_multiply 27 = .ok (.if_icmp .lt 7, 3) := by decide +kernel
theorem dX4_multiply_30 : decode cX4_multiply 30 = .ok (.iload_n 2, 1) := by decide +kernel
theorem dX4_multiply_31 : decode cX4_multiply 31 = .ok (.ifCond .le 73, 3) := by decide +kernel
theorem dX4_multiply_34 : decode cX4_multiply 34 = .ok (.aload_n 0, 1) := by decide +kernel
theorem dX4_multiply_35 : decode cX4_multiply 35 = .ok (.getfield 24, 3) := by decide +kernel
theorem dX4_multiply_38 : decode cX4_multiply 38 = .ok (.iload_n 1, 1) := by decide +kernel
theorem dX4_multiply_39 : decode cX4_multiply 39 = .ok (.iaload, 1) := by decide +kernel
theorem dX4_multiply_40 : decode cX4_multiply 40 = .ok (.i2l, 1) := by decide +kernel
theorem dX4_multiply_41 : decode cX4_multiply 41 = .ok (.iload_n 3, 1) := by decide +kernel
theorem dX4_multiply_42 : decode cX4_multiply 42 = .ok (.aload_n 0, 1) := by decide +kernel
theorem dX4_multiply_43 : decode cX4_multiply 43 = .ok (.getfield 67, 3) := by decide +kernel
theorem dX4_multiply_46 : decode cX4_multiply 46 = .ok (.if_icmp .ge 12, 3) := by decide +kernel
theorem dX4_multiply_49 : decode cX4_multiply 49 = .ok (.aload_n 0, 1) := by decide +kernel
theorem dX4_multiply_50 : decode cX4_multiply 50 = .ok (.getfield 27, 3) := by decide +kernel
theorem dX4_multiply_53 : decode cX4_multiply 53 = .ok (.iload_n 3, 1) := by decide +kernel
theorem dX4_multiply_54 : decode cX4_multiply 54 = .ok (.iaload, 1) := by decide +kernel
theorem dX4_multiply_55 : decode cX4_multiply 55 = .ok (.goto 4, 3) := by decide +kernel
theorem dX4_multiply_58 : decode cX4_multiply 58 = .ok (.iconst 0, 1) := by decide +kernel
theorem dX4_multiply_59 : decode cX4_multiply 59 = .ok (.i2l, 1) := by decide +kernel
theorem dX4_multiply_60 : decode cX4_multiply 60 = .ok (.lmul, 1) := by decide +kernel
theorem dX4_multiply_61 : decode cX4_multiply 61 = .ok (.aload_n 0, 1) := by decide +kernel
theorem dX4_multiply_62 : decode cX4_multiply 62 = .ok (.getfield 30, 3) := by decide +kernel
theorem dX4_multiply_65 : decode cX4_multiply 65 = .ok (.iload_n 1, 1) := by decide +kernel
theorem dX4_multiply_66 : decode cX4_multiply 66 = .ok (.iload_n 3, 1) := by decide +kernel
theorem dX4_multiply_67 : decode cX4_multiply 67 = .ok (.iadd, 1) := by decide +kernel
theorem dX4_multiply_68 : decode cX4_multiply 68 = .ok (.iaload, 1) := by decide +kernel
theorem dX4_multiply_69 : decode cX4_multiply 69 = .ok (.i2l, 1) := by decide +kernel
theorem dX4_multiply_70 : decode cX4_multiply 70 = .ok (.ladd, 1) := by decide +kernel
theorem dX4_multiply_71 : decode cX4_multiply 71 = .ok (.iload_n 2, 1) := by decide +kernel
theorem dX4_multiply_72 : decode cX4_multiply 72 = .ok (.i2l, 1) := by decide +kernel
theorem dX4_multiply_73 : decode cX4_multiply 73 = .ok (.ladd, 1) := by decide +kernel
theorem dX4_multiply_74 : decode cX4_multiply 74 = .ok (.lstore 4, 2) := by decide +kernel
theorem dX4_multiply_76 : decode cX4_multiply 76 = .ok (.aload_n 0, 1) := by decide +kernel
theorem dX4_multiply_77 : decode cX4_multiply 77 = .ok (.getfield 30, 3) := by decide +kernel
theorem dX4_multiply_80 : decode cX4_multiply 80 = .ok (.iload_n 1, 1) := by decide +kernel
theorem dX4_multiply_81 : decode cX4_multiply 81 = .ok (.iload_n 3, 1) := by decide +kernel
theorem dX4_multiply_82 : decode cX4_multiply 82 = .ok (.iadd, 1) := by decide +kernel
theorem dX4_multiply_83 : decode cX4_multiply 83 = .ok (.lload 4, 2) := by decide +kernel
theorem dX4_multiply_85 : decode cX4_multiply 85 = .ok (.ldc2_w 70, 3) := by decide +kernel
theorem dX4_multiply_88 : decode cX4_multiply 88 = .ok (.land, 1) := by decide +kernel
theorem dX4_multiply_89 : decode cX4_multiply 89 = .ok (.l2i, 1) := by decide +kernel
theorem dX4_multiply_90 : decode cX4_multiply 90 = .ok (.iastore, 1) := by decide +kernel
theorem dX4_multiply_91 : decode cX4_multiply 91 = .ok (.lload 4, 2) := by decide +kernel
theorem dX4_multiply_93 : decode cX4_multiply 93 = .ok (.bipush 16, 2) := by decide +kernel
theorem dX4_multiply_95 : decode cX4_multiply 95 = .ok (.lshr, 1) := by decide +kernel
theorem dX4_multiply_96 : decode cX4_multiply 96 = .ok (.l2i, 1) := by decide +kernel
theorem dX4_multiply_97 : decode cX4_multiply 97 = .ok (.istore_n 2, 1) := by decide +kernel
theorem dX4_multiply_98 : decode cX4_multiply 98 = .ok (.iinc 3 1, 3) := by decide +kernel
theorem dX4_multiply_101 : decode cX4_multiply 101 = .ok (.goto (-79), 3) := by decide +kernel
theorem dX4_multiply_104 : decode cX4_multiply 104 = .ok (.iinc 1 1, 3) := by decide +kernel
theorem dX4_multiply_107 : decode cX4_multiply 107 = .ok (.goto (-97), 3) := by decide +kernel
theorem dX4_multiply_110 : decode cX4_multiply 110 = .ok (.iconst 0, 1) := by decide +kernel
theorem dX4_multiply_111 : decode cX4_multiply 111 = .ok (.istore_n 1, 1) := by decide +kernel
theorem dX4_multiply_112 : decode cX4_multiply 112 = .ok (.iload_n 1, 1) := by decide +kernel
theorem dX4_multiply_113 : decode cX4_multiply 113 = .ok (.sipush 220, 3) := by decide +kernel
theorem dX4_multiply_116 : decode cX4_multiply 116 = .ok (.if_icmp .ge 21, 3) := by decide +kernel
theorem dX4_multiply_119 : decode cX4_multiply 119 = .ok (.aload_n 0, 1) := by decide +kernel
theorem dX4_multiply_120 : decode cX4_multiply 120 = .ok (.getfield 24, 3) := by decide +kernel
theorem dX4_multiply_123 : decode cX4_multiply 123 = .ok (.iload_n 1, 1) := by decide +kernel
theorem dX4_multiply_124 : decode cX4_multiply 124 = .ok (.aload_n 0, 1) := by decide +kernel
theorem dX4_multiply_125 : decode cX4_multiply 125 = .ok (.getfield 30, 3) := by decide +kernel
theorem dX4_multiply_128 : decode cX4_multiply 128 = .ok (.iload_n 1, 1) := by decide +kernel
theorem dX4_multiply_129 : decode cX4_multiply 129 = .ok (.iaload, 1) := by decide +kernel
theorem dX4_multiply_130 : decode cX4_multiply 130 = .ok (.iastore, 1) := by decide +kernel
theorem dX4_multiply_131 : decode cX4_multiply 131 = .ok (.iinc 1 1, 3) := by decide +kernel
theorem dX4_multiply_134 : decode cX4_multiply 134 = .ok (.goto (-22), 3) := by decide +kernel
theorem dX4_multiply_137 : decode cX4_multiply 137 = .ok (.aload_n 0, 1) := by decide +kernel
theorem dX4_multiply_138 : decode cX4_multiply 138 = .ok (.aload_n 0, 1) := by decide +kernel
theorem dX4_multiply_139 : decode cX4_multiply 139 = .ok (.getfield 24, 3) := by decide +kernel
theorem dX4_multiply_142 : decode cX4_multiply 142 = .ok (.sipush 220, 3) := by decide +kernel
theorem dX4_multiply_145 : decode cX4_multiply 145 = .ok (.invokestatic 72, 3) := by decide +kernel
theorem dX4_multiply_148 : decode cX4_multiply 148 = .ok (.putfield 64, 3) := by decide +kernel
theorem dX4_multiply_151 : decode cX4_multiply 151 = .ok (.return_, 1) := by decide +kernel
theorem dX4_multiplyBy_0 : decode cX4_multiplyBy 0 = .ok (.iconst 0, 1) := by decide +kernel
theorem dX4_multiplyBy_1 : decode cX4_multiplyBy 1 = .ok (.istore_n 2, 1) := by decide +kernel
theorem dX4_multiplyBy_2 : decode cX4_multiplyBy 2 = .ok (.iconst 0, 1) := by decide +kernel
theorem dX4_multiplyBy_3 : decode cX4_multiplyBy 3 = .ok (.istore_n 3, 1) := by decide +kernel
theorem dX4_multiplyBy_4 : decode cX4_multiplyBy 4 = .ok (.iload_n 3, 1) := by decide +kernel
theorem dX4_multiplyBy_5 : decode cX4_multiplyBy 5 = .ok (.aload_n 0, 1) := by decide +kernel
theorem dX4_multiplyBy_6 : decode cX4_multiplyBy 6 = .ok (.getfield 64, 3) := by decide +kernel
theorem dX4_multiplyBy_9 : decode cX4_multiplyBy 9 = .ok (.iconst 1, 1) := by decide +kernel
theorem dX4_multiplyBy_10 : decode cX4_multiplyBy 10 = .ok (.iadd, 1) := by decide +kernel
theorem dX4_multiplyBy_11 : decode cX4_multiplyBy 11 = .ok (.if_icmp .ge 38, 3) := by decide +kernel
theorem dX4_multiplyBy_14 : decode cX4_multiplyBy 14 = .ok (.aload_n 0, 1) := by decide +kernel
theorem dX4_multiplyBy_15 : decode cX4_multiplyBy 15 = .ok (.getfield 24, 3) := by decide +kernel
theorem dX4_multiplyBy_18 : decode cX4_multiplyBy 18 = .ok (.iload_n 3, 1) := by decide +kernel
theorem dX4_multiplyBy_19 : decode cX4_multiplyBy 19 = .ok (.iaload, 1) := by decide +kernel
theorem dX4_multiplyBy_20 : decode cX4_multiplyBy 20 = .ok (.iload_n 1, 1) := by decide +kernel
theorem dX4_multiplyBy_21 : decode cX4_multiplyBy 21 = .ok (.imul, 1) := by decide +kernel
theorem dX4_multiplyBy_22 : decode cX4_multiplyBy 22 = .ok (.iload_n 2, 1) := by decide +kernel
theorem dX4_multiplyBy_23 : decode cX4_multiplyBy 23 = .ok (.iadd, 1) := by decide +kernel
theorem dX4_multiplyBy_24 : decode cX4_multiplyBy 24 = .ok (.istore 4, 2) := by decide +kernel
theorem dX4_multiplyBy_26 : decode cX4_multiplyBy 26 = .ok (.aload_n 0, 1) := by decide +kernel
theorem dX4_multiplyBy_27 : decode cX4_multiplyBy 27 = .ok (.getfield 24, 3) := by decide +kernel
theorem dX4_multiplyBy_30 : decode cX4_multiplyBy 30 = .ok (.iload_n 3, 1) := by decide +kernel
theorem dX4_multiplyBy_31 : decode cX4_multiplyBy 31 = .ok (.iload 4, 2) := by decide +kernel
theorem dX4_multiplyBy_33 : decode cX4_multiplyBy 33 = .ok (.ldc 80, 2) := by decide +kernel
theorem dX4_multiplyBy_35 : decode cX4_multiplyBy 35 = .ok (.iand, 1) := by decide +kernel
theorem dX4_multiplyBy_36 : decode cX4_multiplyBy 36 = .ok (.iastore, 1) := by decide +kernel
theorem dX4_multiplyBy_37 : decode cX4_multiplyBy 37 = .ok (.iload 4, 2) := by decide +kernel
theorem dX4_multiplyBy_39 : decode cX4_multiplyBy 39 = .ok (.bipush 16, 2) := by decide +kernel
theorem dX4_multiplyBy_41 : decode cX4_multiplyBy 41 = .ok (.iushr, 1) := by decide +kernel
theorem dX4_multiplyBy_42 : decode cX4_multiplyBy 42 = .ok (.istore_n 2, 1) := by decide +kernel
theorem dX4_multiplyBy_43 : decode cX4_multiplyBy 43 = .ok (.iinc 3 1, 3) := by decide +kernel
theorem dX4_multiplyBy_46 : decode cX4_multiplyBy 46 = .ok (.goto (-42), 3) := by decide +kernel
theorem dX4_multiplyBy_49 : decode cX4_multiplyBy 49 = .ok (.aload_n 0, 1) := by decide +kernel
theorem dX4_multiplyBy_50 : decode cX4_multiplyBy 50 = .ok (.aload_n 0, 1) := by decide +kernel
theorem dX4_multiplyBy_51 : decode cX4_multiplyBy 51 = .ok (.getfield 24, 3) := by decide +kernel
theorem dX4_multiplyBy_54 : decode cX4_multiplyBy 54 = .ok (.aload_n 0, 1) := by decide +kernel
theorem dX4_multiplyBy_55 : decode cX4_multiplyBy 55 = .ok (.getfield 64, 3) := by decide +kernel
theorem dX4_multiplyBy_58 : decode cX4_multiplyBy 58 = .ok (.iconst 1, 1) := by decide +kernel
theorem dX4_multiplyBy_59 : decode cX4_multiplyBy 59 = .ok (.iadd, 1) := by decide +kernel
theorem dX4_multiplyBy_60 : decode cX4_multiplyBy 60 = .ok (.invokestatic 72, 3) := by decide +kernel
theorem dX4_multiplyBy_63 : decode cX4_multiplyBy 63 = .ok (.putfield 64, 3) := by decide +kernel
theorem dX4_multiplyBy_66 : decode cX4_multiplyBy 66 = .ok (.return_, 1) := by decide +kernel
theorem dX4_divideBy_0 : decode cX4_divideBy 0 = .ok (.iconst 0, 1) := by decide +kernel
theorem dX4_divideBy_1 : decode cX4_divideBy 1 = .ok (.istore_n 2, 1) := by decide +kernel
theorem dX4_divideBy_2 : decode cX4_divideBy 2 = .ok (.aload_n 0, 1) := by decide +kernel
theorem dX4_divideBy_3 : decode cX4_divideBy 3 = .ok (.getfield 64, 3) := by decide +kernel
theorem dX4_divideBy_6 : decode cX4_divideBy 6 = .ok (.iconst 1, 1) := by decide +kernel
theorem dX4_divideBy_7 : decode cX4_divideBy 7 = .ok (.isub, 1) := by decide +kernel
theorem dX4_divideBy_8 : decode cX4_divideBy 8 = .ok (.istore_n 3, 1) := by decide +kernel
theorem dX4_divideBy_9 : decode cX4_divideBy 9 = .ok (.iload_n 3, 1) := by decide +kernel
theorem dX4_divideBy_10 : decode cX4_divideBy 10 = .ok (.ifCond .lt 37, 3) := by decide +kernel
theorem dX4_divideBy_13 : decode cX4_divideBy 13 = .ok (.iload_n 2, 1) := by decide +kernel
theorem dX4_divideBy_14 : decode cX4_divideBy 14 = .ok (.bipush 16, 2) := by decide +kernel
theorem dX4_divideBy_16 : decode cX4_divideBy 16 = .ok (.ishl, 1) := by decide +kernel
theorem dX4_divideBy_17 : decode cX4_divideBy 17 = .ok (.aload_n 0, 1) := by decide +kernel
theorem dX4_divideBy_18 : decode cX4_divideBy 18 = .ok (.getfield 24, 3) := by decide +kernel
theorem dX4_divideBy_21 : decode cX4_divideBy 21 = .ok (.iload_n 3, 1) := by decide +kernel
theorem dX4_divideBy_22 : decode cX4_divideBy 22 = .ok (.iaload, 1) := by decide +kernel
theorem dX4_divideBy_23 : decode cX4_divideBy 23 = .ok (.ior, 1) := by decide +kernel
theorem dX4_divideBy_24 : decode cX4_divideBy 24 = .ok (.istore 4, 2) := by decide +kernel
theorem dX4_divideBy_26 : decode cX4_divideBy 26 = .ok (.aload_n 0, 1) := by decide +kernel
theorem dX4_divideBy_27 : decode cX4_divideBy 27 = .ok (.getfield 24, 3) := by decide +kernel
theorem dX4_divideBy_30 : decode cX4_divideBy 30 = .ok (.iload_n 3, 1) := by decide +kernel
theorem dX4_divideBy_31 : decode cX4_divideBy 31 = .ok (.iload 4, 2) := by decide +kernel
theorem dX4_divideBy_33 : decode cX4_divideBy 33 = .ok (.iload_n 1, 1) := by decide +kernel
theorem dX4_divideBy_34 : decode cX4_divideBy 34 = .ok (.idiv, 1) := by decide +kernel
theorem dX4_divideBy_35 : decode cX4_divideBy 35 = .ok (.iastore, 1) := by decide +kernel
theorem dX4_divideBy_36 : decode cX4_divideBy 36 = .ok (.iload 4, 2) := by decide +kernel
theorem dX4_divideBy_38 : decode cX4_divideBy 38 = .ok (.iload_n 1, 1) := by decide +kernel
theorem dX4_divideBy_39 : decode cX4_divideBy 39 = .ok (.irem, 1) := by decide +kernel
theorem dX4_divideBy_40 : decode cX4_divideBy 40 = .ok (.istore_n 2, 1) := by decide +kernel
theorem dX4_divideBy_41 : decode cX4_divideBy 41 = .ok (.iinc 3 (-1), 3) := by decide +kernel
theorem dX4_divideBy_44 : decode cX4_divideBy 44 = .ok (.goto (-35), 3) := by decide +kernel
theorem dX4_divideBy_47 : decode cX4_divideBy 47 = .ok (.aload_n 0, 1) := by decide +kernel
theorem dX4_divideBy_48 : decode cX4_divideBy 48 = .ok (.aload_n 0, 1) := by decide +kernel
theorem dX4_divideBy_49 : decode cX4_divideBy 49 = .ok (.getfield 24, 3) := by decide +kernel
theorem dX4_divideBy_52 : decode cX4_divideBy 52 = .ok (.aload_n 0, 1) := by decide +kernel
theorem dX4_divideBy_53 : decode cX4_divideBy 53 = .ok (.getfield 64, 3) := by decide +kernel
theorem dX4_divideBy_56 : decode cX4_divideBy 56 = .ok (.invokestatic 72, 3) := by decide +kernel
theorem dX4_divideBy_59 : decode cX4_divideBy 59 = .ok (.putfield 64, 3) := by decide +kernel
theorem dX4_divideBy_62 : decode cX4_divideBy 62 = .ok (.iload_n 2, 1) := by decide +kernel
theorem dX4_divideBy_63 : decode cX4_divideBy 63 = .ok (.ireturn, 1) := by decide +kernel
theorem dX4_divide_0 : decode cX4_divide 0 = .ok (.aload_n 0, 1) := by decide +kernel
theorem dX4_divide_1 : decode cX4_divide 1 = .ok (.aload_n 0, 1) := by decide +kernel
theorem dX4_divide_2 : decode cX4_divide 2 = .ok (.getfield 30, 3) := by decide +kernel
theorem dX4_divide_5 : decode cX4_divide 5 = .ok (.invokevirtual 60, 3) := by decide +kernel
theorem dX4_divide_8 : decode cX4_divide 8 = .ok (.bipush 16, 2) := by decide +kernel
theorem dX4_divide_10 : decode cX4_divide 10 = .ok (.aload_n 0, 1) := by decide +kernel
theorem dX4_divide_11 : decode cX4_divide 11 = .ok (.getfield 64, 3) := by decide +kernel
theorem dX4_divide_14 : decode cX4_divide 14 = .ok (.imul, 1) := by decide +kernel
theorem dX4_divide_15 : decode cX4_divide 15 = .ok (.iconst 1, 1) := by decide +kernel
theorem dX4_divide_16 : decode cX4_divide 16 = .ok (.isub, 1) := by decide +kernel
theorem dX4_divide_17 : decode cX4_divide 17 = .ok (.istore_n 1, 1) := by decide +kernel
theorem dX4_divide_18 : decode cX4_divide 18 = .ok (.iload_n 1, 1) := by decide +kernel
theorem dX4_divide_19 : decode cX4_divide 19 = .ok (.ifCond .lt 187, 3) := by decide +kernel
theorem dX4_divide_22 : decode cX4_divide 22 = .ok (.aload_n 0, 1) := by decide +kernel
theorem dX4_divide_23 : decode cX4_divide 23 = .ok (.getfield 24, 3) := by decide +kernel
theorem dX4_divide_26 : decode cX4_divide 26 = .ok (.iload_n 1, 1) := by decide +kernel
theorem dX4_divide_27 : decode cX4_divide 27 = .ok (.bipush 16, 2) := by decide +kernel
theorem dX4_divide_29 : decode cX4_divide 29 = .ok (.idiv, 1) := by decide +kernel
theorem dX4_divide_30 : decode cX4_divide 30 = .ok (.iaload, 1) := by decide +kernel
theorem dX4_divide_31 : decode cX4_divide 31 = .ok (.iload_n 1, 1) := by decide +kernel
theorem dX4_divide_32 : decode cX4_divide 32 = .ok (.bipush 16, 2) := by decide +kernel
theorem dX4_divide_34 : decode cX4_divide 34 = .ok (.irem, 1) := by decide +kernel
theorem dX4_divide_35 : decode cX4_divide 35 = .ok (.ishr, 1) := by decide +kernel
theorem dX4_divide_36 : decode cX4_divide 36 = .ok (.iconst 1, 1) := by decide +kernel
theorem dX4_divide_37 : decode cX4_divide 37 = .ok (.iand, 1) := by decide +kernel
theorem dX4_divide_38 : decode cX4_divide 38 = .ok (.istore_n 2, 1) := by decide +kernel
theorem dX4_divide_39 : decode cX4_divide 39 = .ok (.iconst 0, 1) := by decide +kernel
theorem dX4_divide_40 : decode cX4_divide 40 = .ok (.istore_n 3, 1) := by decide +kernel
theorem dX4_divide_41 : decode cX4_divide 41 = .ok (.iload_n 3, 1) := by decide +kernel
theorem dX4_divide_42 : decode cX4_divide 42 = .ok (.aload_n 0, 1) := by decide +kernel
theorem dX4_divide_43 : decode cX4_divide 43 = .ok (.getfield 67, 3) := by decide +kernel
theorem dX4_divide_46 : decode cX4_divide 46 = .ok (.if_icmp .gt 38, 3) := by decide +kernel
theorem dX4_divide_49 : decode cX4_divide 49 = .ok (.iconst 2, 1) := by decide +kernel
theorem dX4_divide_50 : decode cX4_divide 50 = .ok (.aload_n 0, 1) := by decide +kernel
theorem dX4_divide_51 : decode cX4_divide 51 = .ok (.getfield 30, 3) := by decide +kernel
theorem dX4_divide_54 : decode cX4_divide 54 = .ok (.iload_n 3, 1) := by decide +kernel
theorem dX4_divide_55 : decode cX4_divide 55 = .ok (.iaload, 1) := by decide +kernel
theorem dX4_divide_56 : decode cX4_divide 56 = .ok (.imul, 1) := by decide +kernel
theorem dX4_divide_57 : decode cX4_divide 57 = .ok (.iload_n 2, 1) := by decide +kernel
theorem dX4_divide_58 : decode cX4_divide 58 = .ok (.iadd, 1) := by decide +kernel
theorem dX4_divide_59 : decode cX4_divide 59 = .ok (.istore 4, 2) := by decide +kernel
theorem dX4_divide_61 : decode cX4_divide 61 = .ok (.aload_n 0, 1) := by decide +kernel
theorem dX4_divide_62 : decode cX4_divide 62 = .ok (.getfield 30, 3) := by decide +kernel
theorem dX4_divide_65 : decode cX4_divide 65 = .ok (.iload_n 3, 1) := by decide +kernel
theorem dX4_divide_66 : decode cX4_divide 66 = .ok (.iload 4, 2) := by decide +kernel
theorem dX4_divide_68 : decode cX4_divide 68 = .ok (.ldc 80, 2) := by decide +kernel
theorem dX4_divide_70 : decode cX4_divide 70 = .ok (.iand, 1) := by decide +kernel
theorem dX4_divide_71 : decode cX4_divide 71 = .ok (.iastore, 1) := by decide +kernel
theorem dX4_divide_72 : decode cX4_divide 72 = .ok (.iload 4, 2) := by decide +kernel
theorem dX4_divide_74 : decode cX4_divide 74 = .ok (.bipush 16, 2) := by decide +kernel
theorem dX4_divide_76 : decode cX4_divide 76 = .ok (.ishr, 1) := by decide +kernel
theorem dX4_divide_77 : decode cX4_divide 77 = .ok (.istore_n 2, 1) := by decide +kernel
theorem dX4_divide_78 : decode cX4_divide 78 = .ok (.iinc 3 1, 3) := by decide +kernel
theorem dX4_divide_81 : decode cX4_divide 81 = .ok (.goto (-40), 3) := by decide +kernel
theorem dX4_divide_84 : decode cX4_divide 84 = .ok (.aload_n 0, 1) := by decide +kernel
theorem dX4_divide_85 : decode cX4_divide 85 = .ok (.invokevirtual 81, 3) := by decide +kernel
theorem dX4_divide_88 : decode cX4_divide 88 = .ok (.istore_n 3, 1) := by decide +kernel
theorem dX4_divide_89 : decode cX4_divide 89 = .ok (.iconst 0, 1) := by decide +kernel
theorem dX4_divide_90 : decode cX4_divide 90 = .ok (.istore 4, 2) := by decide +kernel
theorem dX4_divide_92 : decode cX4_divide 92 = .ok (.iconst 0, 1) := by decide +kernel
theorem dX4_divide_93 : decode cX4_divide 93 = .ok (.istore 5, 2) := by decide +kernel
theorem dX4_divide_95 : decode cX4_divide 95 = .ok (.iload 5, 2) := by decide +kernel
theorem dX4_divide_97 : decode cX4_divide 97 = .ok (.aload_n 0, 1) := by decide +kernel
theorem dX4_divide_98 : decode cX4_divide 98 = .ok (.getfield 67, 3) := by decide +kernel
theorem dX4_divide_101 : decode cX4_divide 101 = .ok (.if_icmp .gt 57, 3) := by decide +kernel
theorem dX4_divide_104 : decode cX4_divide 104 = .ok (.iload_n 3, 1) := by decide +kernel
theorem dX4_divide_105 : decode cX4_divide 105 = .ok (.ifCond .eq 53, 3) := by decide +kernel
theorem dX4_divide_108 : decode cX4_divide 108 = .ok (.aload_n 0, 1) := by decide +kernel
theorem dX4_divide_109 : decode cX4_divide 109 = .ok (.getfield 30, 3) := by decide +kernel
theorem dX4_divide_112 : decode cX4_divide 112 = .ok (.iload 5, 2) := by decide +kernel
theorem dX4_divide_114 : decode cX4_divide 114 = .ok (.iaload, 1) := by decide +kernel
theorem dX4_divide_115 : decode cX4_divide 115 = .ok (.aload_n 0, 1) := by decide +kernel
theorem dX4_divide_116 : decode cX4_divide 116 = .ok (.getfield 27, 3) := by decide +kernel
theorem dX4_divide_119 : decode cX4_divide 119 = .ok (.iload 5, 2) := by decide +kernel
theorem dX4_divide_121 : decode cX4_divide 121 = .ok (.iaload, 1) := by decide +kernel
theorem dX4_divide_122 : decode cX4_divide 122 = .ok (.isub, 1) := by decide +kernel
theorem dX4_divide_123 : decode cX4_divide 123 = .ok (.iload 4, 2) := by decide +kernel
theorem dX4_divide_125 : decode cX4_divide 125 = .ok (.isub, 1) := by decide +kernel
theorem dX4_divide_126 : decode cX4_divide 126 = .ok (.istore 6, 2) := by decide +kernel
theorem dX4_divide_128 : decode cX4_divide 128 = .ok (.aload_n 0, 1) := by decide +kernel
theorem dX4_divide_129 : decode cX4_divide 129 = .ok (.getfield 30, 3) := by decide +kernel
theorem dX4_divide_132 : decode cX4_divide 132 = .ok (.iload 5, 2) := by decide +kernel
theorem dX4_divide_134 : decode cX4_divide 134 = .ok (.iload 6, 2) := by decide +kernel
theorem dX4_divide_136 : decode cX4_divide 136 = .ok (.ldc 80, 2) := by decide +kernel
theorem dX4_divide_138 : decode cX4_divide 138 = .ok (.iand, 1) := by decide +kernel
theorem dX4_divide_139 : decode cX4_divide 139 = .ok (.iastore, 1) := by decide +kernel
theorem dX4_divide_140 : decode cX4_divide 140 = .ok (.iload 6, 2) := by decide +kernel
theorem dX4_divide_142 : decode cX4_divide 142 = .ok (.ifCond .ge 7, 3) := by decide +kernel
theorem dX4_divide_145 : decode cX4_divide 145 = .ok (.iconst 1, 1) := by decide +kernel
theorem dX4_divide_146 : decode cX4_divide 146 = .ok (.goto 4, 3) := by decide +kernel
theorem dX4_divide_149 : decode cX4_divide 149 = .ok (.iconst 0, 1) := by decide +kernel
theorem dX4_divide_150 : decode cX4_divide 150 = .ok (.istore 4, 2) := by decide +kernel
theorem dX4_divide_152 : decode cX4_divide 152 = .ok (.iinc 5 1, 3) := by decide +kernel
theorem dX4_divide_155 : decode cX4_divide 155 = .ok (.goto (-60), 3) := by decide +kernel
theorem dX4_divide_158 : decode cX4_divide 158 = .ok (.aload_n 0, 1) := by decide +kernel
theorem dX4_divide_159 : decode cX4_divide 159 = .ok (.getfield 24, 3) := by decide +kernel
theorem dX4_divide_162 : decode cX4_divide 162 = .ok (.iload_n 1, 1) := by decide +kernel
theorem dX4_divide_163 : decode cX4_divide 163 = .ok (.bipush 16, 2) := by decide +kernel
theorem dX4_divide_165 : decode cX4_divide 165 = .ok (.idiv, 1) := by decide +kernel
theorem dX4_divide_166 : decode cX4_divide 166 = .ok (.aload_n 0, 1) := by decide +kernel
theorem dX4_divide_167 : decode cX4_divide 167 = .ok (.getfield 24, 3) := by decide +kernel
theorem dX4_divide_170 : decode cX4_divide 170 = .ok (.iload_n 1, 1) := by decide +kernel
theorem dX4_divide_171 : decode cX4_divide 171 = .ok (.bipush 16, 2) := by decide +kernel
theorem dX4_divide_173 : decode cX4_divide 173 = .ok (.idiv, 1) := by decide +kernel
theorem dX4_divide_174 : decode cX4_divide 174 = .ok (.iaload, 1) := by decide +kernel
theorem dX4_divide_175 : decode cX4_divide 175 = .ok (.iconst 1, 1) := by decide +kernel
theorem dX4_divide_176 : decode cX4_divide 176 = .ok (.iload_n 1, 1) := by decide +kernel
theorem dX4_divide_177 : decode cX4_divide 177 = .ok (.bipush 16, 2) := by decide +kernel
theorem dX4_divide_179 : decode cX4_divide 179 = .ok (.irem, 1) := by decide +kernel
theorem dX4_divide_180 : decode cX4_divide 180 = .ok (.ishl, 1) := by decide +kernel
theorem dX4_divide_181 : decode cX4_divide 181 = .ok (.iconst (-1), 1) := by decide +kernel
theorem dX4_divide_182 : decode cX4_divide 182 = .ok (.ixor, 1) := by decide +kernel
theorem dX4_divide_183 : decode cX4_divide 183 = .ok (.iand, 1) := by decide +kernel
theorem dX4_divide_184 : decode cX4_divide 184 = .ok (.iload_n 3, 1) := by decide +kernel
theorem dX4_divide_185 : decode cX4_divide 185 = .ok (.ifCond .eq 12, 3) := by decide +kernel
theorem dX4_divide_188 : decode cX4_divide 188 = .ok (.iconst 1, 1) := by decide +kernel
theorem dX4_divide_189 : decode cX4_divide 189 = .ok (.iload_n 1, 1) := by decide +kernel
theorem dX4_divide_190 : decode cX4_divide 190 = .ok (.bipush 16, 2) := by decide +kernel
theorem dX4_divide_192 : decode cX4_divide 192 = .ok (.irem, 1) := by decide +kernel
theorem dX4_divide_193 : decode cX4_divide 193 = .ok (.ishl, 1) := by decide +kernel
theorem dX4_divide_194 : decode cX4_divide 194 = .ok (.goto 4, 3) := by decide +kernel
theorem dX4_divide_197 : decode cX4_divide 197 = .ok (.iconst 0, 1) := by decide +kernel
theorem dX4_divide_198 : decode cX4_divide 198 = .ok (.ior, 1) := by decide +kernel
theorem dX4_divide_199 : decode cX4_divide 199 = .ok (.iastore, 1) := by decide +kernel
theorem dX4_divide_200 : decode cX4_divide 200 = .ok (.iinc 1 (-1), 3) := by decide +kernel
theorem dX4_divide_203 : decode cX4_divide 203 = .ok (.goto (-185), 3) := by decide +kernel
theorem dX4_divide_206 : decode cX4_divide 206 = .ok (.aload_n 0, 1) := by decide +kernel
theorem dX4_divide_207 : decode cX4_divide 207 = .ok (.aload_n 0, 1) := by decide +kernel
theorem dX4_divide_208 : decode cX4_divide 208 = .ok (.getfield 24, 3) := by decide +kernel
theorem dX4_divide_211 : decode cX4_divide 211 = .ok (.aload_n 0, 1) := by decide +kernel
theorem dX4_divide_212 : decode cX4_divide 212 = .ok (.getfield 64, 3) := by decide +kernel
theorem dX4_divide_215 : decode cX4_divide 215 = .ok (.invokestatic 72, 3) := by decide +kernel
theorem dX4_divide_218 : decode cX4_divide 218 = .ok (.putfield 64, 3) := by decide +kernel
theorem dX4_divide_221 : decode cX4_divide 221 = .ok (.return_, 1) := by decide +kernel
theorem dX4_reaches_0 : decode cX4_reaches 0 = .ok (.aload_n 0, 1) := by decide +kernel
theorem dX4_reaches_1 : decode cX4_reaches 1 = .ok (.getfield 67, 3) := by decide +kernel
theorem dX4_reaches_4 : decode cX4_reaches 4 = .ok (.istore_n 1, 1) := by decide +kernel
theorem dX4_reaches_5 : decode cX4_reaches 5 = .ok (.iload_n 1, 1) := by decide +kernel
theorem dX4_reaches_6 : decode cX4_reaches 6 = .ok (.ifCond .lt 45, 3) := by decide +kernel
theorem dX4_reaches_9 : decode cX4_reaches 9 = .ok (.aload_n 0, 1) := by decide +kernel
theorem dX4_reaches_10 : decode cX4_reaches 10 = .ok (.getfield 30, 3) := by decide +kernel
theorem dX4_reaches_13 : decode cX4_reaches 13 = .ok (.iload_n 1, 1) := by decide +kernel
theorem dX4_reaches_14 : decode cX4_reaches 14 = .ok (.iaload, 1) := by decide +kernel
theorem dX4_reaches_15 : decode cX4_reaches 15 = .ok (.aload_n 0, 1) := by decide +kernel
theorem dX4_reaches_16 : decode cX4_reaches 16 = .ok (.getfield 27, 3) := by decide +kernel
theorem dX4_reaches_19 : decode cX4_reaches 19 = .ok (.iload_n 1, 1) := by decide +kernel
theorem dX4_reaches_20 : decode cX4_reaches 20 = .ok (.iaload, 1) := by decide +kernel
theorem dX4_reaches_21 : decode cX4_reaches 21 = .ok (.if_icmp .eq 24, 3) := by decide +kernel
theorem dX4_reaches_24 : decode cX4_reaches 24 = .ok (.aload_n 0, 1) := by decide +kernel
theorem dX4_reaches_25 : decode cX4_reaches 25 = .ok (.getfield 30, 3) := by decide +kernel
theorem dX4_reaches_28 : decode cX4_reaches 28 = .ok (.iload_n 1, 1) := by decide +kernel
theorem dX4_reaches_29 : decode cX4_reaches 29 = .ok (.iaload, 1) := by decide +kernel
theorem dX4_reaches_30 : decode cX4_reaches 30 = .ok (.aload_n 0, 1) := by decide +kernel
theorem dX4_reaches_31 : decode cX4_reaches 31 = .ok (.getfield 27, 3) := by decide +kernel
theorem dX4_reaches_34 : decode cX4_reaches 34 = .ok (.iload_n 1, 1) := by decide +kernel
theorem dX4_reaches_35 : decode cX4_reaches 35 = .ok (.iaload, 1) := by decide +kernel
theorem dX4_reaches_36 : decode cX4_reaches 36 = .ok (.if_icmp .le 7, 3) := by decide +kernel
theorem dX4_reaches_39 : decode cX4_reaches 39 = .ok (.iconst 1, 1) := by decide +kernel
theorem dX4_reaches_40 : decode cX4_reaches 40 = .ok (.goto 4, 3) := by decide +kernel
theorem dX4_reaches_43 : decode cX4_reaches 43 = .ok (.iconst 0, 1) := by decide +kernel
theorem dX4_reaches_44 : decode cX4_reaches 44 = .ok (.ireturn, 1) := by decide +kernel
theorem dX4_reaches_45 : decode cX4_reaches 45 = .ok (.iinc 1 (-1), 3) := by decide +kernel
theorem dX4_reaches_48 : decode cX4_reaches 48 = .ok (.goto (-43), 3) := by decide +kernel
theorem dX4_reaches_51 : decode cX4_reaches 51 = .ok (.iconst 1, 1) := by decide +kernel
theorem dX4_reaches_52 : decode cX4_reaches 52 = .ok (.ireturn, 1) := by decide +kernel
theorem dX4_value_0 : decode cX4_value 0 = .ok (.aload_n 0, 1) := by decide +kernel
theorem dX4_value_1 : decode cX4_value 1 = .ok (.iconst 0, 1) := by decide +kernel
theorem dX4_value_2 : decode cX4_value 2 = .ok (.putfield 49, 3) := by decide +kernel
theorem dX4_value_5 : decode cX4_value 5 = .ok (.aload_n 0, 1) := by decide +kernel
theorem dX4_value_6 : decode cX4_value 6 = .ok (.lload_n 1, 1) := by decide +kernel
theorem dX4_value_7 : decode cX4_value 7 = .ok (.invokevirtual 84, 3) := by decide +kernel
theorem dX4_value_10 : decode cX4_value 10 = .ok (.aload_n 0, 1) := by decide +kernel
theorem dX4_value_11 : decode cX4_value 11 = .ok (.lload_n 1, 1) := by decide +kernel
theorem dX4_value_12 : decode cX4_value 12 = .ok (.lconst 0, 1) := by decide +kernel
theorem dX4_value_13 : decode cX4_value 13 = .ok (.lcmp, 1) := by decide +kernel
theorem dX4_value_14 : decode cX4_value 14 = .ok (.ifCond .ge 7, 3) := by decide +kernel
theorem dX4_value_17 : decode cX4_value 17 = .ok (.iconst 1, 1) := by decide +kernel
theorem dX4_value_18 : decode cX4_value 18 = .ok (.goto 4, 3) := by decide +kernel
theorem dX4_value_21 : decode cX4_value 21 = .ok (.iconst 0, 1) := by decide +kernel
theorem dX4_value_22 : decode cX4_value 22 = .ok (.invokevirtual 88, 3) := by decide +kernel
theorem dX4_value_25 : decode cX4_value 25 = .ok (.ireturn, 1) := by decide +kernel
theorem dX4_add_0 : decode cX4_add 0 = .ok (.aload_n 0, 1) := by decide +kernel
theorem dX4_add_1 : decode cX4_add 1 = .ok (.iload_n 1, 1) := by decide +kernel
theorem dX4_add_2 : decode cX4_add 2 = .ok (.iload_n 2, 1) := by decide +kernel
theorem dX4_add_3 : decode cX4_add 3 = .ok (.invokevirtual 92, 3) := by decide +kernel
theorem dX4_add_6 : decode cX4_add 6 = .ok (.ifCond .ne 5, 3) := by decide +kernel
theorem dX4_add_9 : decode cX4_add 9 = .ok (.iconst 0, 1) := by decide +kernel
theorem dX4_add_10 : decode cX4_add 10 = .ok (.ireturn, 1) := by decide +kernel
theorem dX4_add_11 : decode cX4_add 11 = .ok (.aload_n 0, 1) := by decide +kernel
theorem dX4_add_12 : decode cX4_add 12 = .ok (.iload_n 1, 1) := by decide +kernel
theorem dX4_add_13 : decode cX4_add 13 = .ok (.invokevirtual 96, 3) := by decide +kernel
theorem dX4_add_16 : decode cX4_add 16 = .ok (.aload_n 0, 1) := by decide +kernel
theorem dX4_add_17 : decode cX4_add 17 = .ok (.iload_n 2, 1) := by decide +kernel
theorem dX4_add_18 : decode cX4_add 18 = .ok (.invokevirtual 100, 3) := by decide +kernel
theorem dX4_add_21 : decode cX4_add 21 = .ok (.aload_n 0, 1) := by decide +kernel
theorem dX4_add_22 : decode cX4_add 22 = .ok (.getfield 16, 3) := by decide +kernel
theorem dX4_add_25 : decode cX4_add 25 = .ok (.iload_n 1, 1) := by decide +kernel
theorem dX4_add_26 : decode cX4_add 26 = .ok (.baload, 1) := by decide +kernel
theorem dX4_add_27 : decode cX4_add 27 = .ok (.istore_n 3, 1) := by decide +kernel
theorem dX4_add_28 : decode cX4_add 28 = .ok (.aload_n 0, 1) := by decide +kernel
theorem dX4_add_29 : decode cX4_add 29 = .ok (.getfield 16, 3) := by decide +kernel
theorem dX4_add_32 : decode cX4_add 32 = .ok (.iload_n 1, 1) := by decide +kernel
theorem dX4_add_33 : decode cX4_add 33 = .ok (.baload, 1) := by decide +kernel
theorem dX4_add_34 : decode cX4_add 34 = .ok (.aload_n 0, 1) := by decide +kernel
theorem dX4_add_35 : decode cX4_add 35 = .ok (.getfield 16, 3) := by decide +kernel
theorem dX4_add_38 : decode cX4_add 38 = .ok (.iload_n 2, 1) := by decide +kernel
theorem dX4_add_39 : decode cX4_add 39 = .ok (.baload, 1) := by decide +kernel
theorem dX4_add_40 : decode cX4_add 40 = .ok (.if_icmp .ne 10, 3) := by decide +kernel
theorem dX4_add_43 : decode cX4_add 43 = .ok (.aload_n 0, 1) := by decide +kernel
theorem dX4_add_44 : decode cX4_add 44 = .ok (.invokevirtual 103, 3) := by decide +kernel
theorem dX4_add_47 : decode cX4_add 47 = .ok (.goto 44, 3) := by decide +kernel
theorem dX4_add_50 : decode cX4_add 50 = .ok (.aload_n 0, 1) := by decide +kernel
theorem dX4_add_51 : decode cX4_add 51 = .ok (.invokevirtual 106, 3) := by decide +kernel
theorem dX4_add_54 : decode cX4_add 54 = .ok (.ifCond .ge 7, 3) := by decide +kernel
theorem dX4_add_57 : decode cX4_add 57 = .ok (.iconst 1, 1) := by decide +kernel
theorem dX4_add_58 : decode cX4_add 58 = .ok (.goto 4, 3) := by decide +kernel
theorem dX4_add_61 : decode cX4_add 61 = .ok (.iconst 0, 1) := by decide +kernel
theorem dX4_add_62 : decode cX4_add 62 = .ok (.istore 4, 2) := by decide +kernel
theorem dX4_add_64 : decode cX4_add 64 = .ok (.iload 4, 2) := by decide +kernel
theorem dX4_add_66 : decode cX4_add 66 = .ok (.ifCond .eq 12, 3) := by decide +kernel
theorem dX4_add_69 : decode cX4_add 69 = .ok (.aload_n 0, 1) := by decide +kernel
theorem dX4_add_70 : decode cX4_add 70 = .ok (.getfield 16, 3) := by decide +kernel
theorem dX4_add_73 : decode cX4_add 73 = .ok (.iload_n 2, 1) := by decide +kernel
theorem dX4_add_74 : decode cX4_add 74 = .ok (.baload, 1) := by decide +kernel
theorem dX4_add_75 : decode cX4_add 75 = .ok (.goto 9, 3) := by decide +kernel
theorem dX4_add_78 : decode cX4_add 78 = .ok (.aload_n 0, 1) := by decide +kernel
theorem dX4_add_79 : decode cX4_add 79 = .ok (.getfield 16, 3) := by decide +kernel
theorem dX4_add_82 : decode cX4_add 82 = .ok (.iload_n 1, 1) := by decide +kernel
theorem dX4_add_83 : decode cX4_add 83 = .ok (.baload, 1) := by decide +kernel
theorem dX4_add_84 : decode cX4_add 84 = .ok (.istore_n 3, 1) := by decide +kernel
theorem dX4_add_85 : decode cX4_add 85 = .ok (.aload_n 0, 1) := by decide +kernel
theorem dX4_add_86 : decode cX4_add 86 = .ok (.iload 4, 2) := by decide +kernel
theorem dX4_add_88 : decode cX4_add 88 = .ok (.invokevirtual 110, 3) := by decide +kernel
theorem dX4_add_91 : decode cX4_add 91 = .ok (.aload_n 0, 1) := by decide +kernel
theorem dX4_add_92 : decode cX4_add 92 = .ok (.iload_n 3, 1) := by decide +kernel
theorem dX4_add_93 : decode cX4_add 93 = .ok (.invokevirtual 88, 3) := by decide +kernel
theorem dX4_add_96 : decode cX4_add 96 = .ok (.ireturn, 1) := by decide +kernel
theorem dX4_times_0 : decode cX4_times 0 = .ok (.aload_n 0, 1) := by decide +kernel
theorem dX4_times_1 : decode cX4_times 1 = .ok (.iload_n 1, 1) := by decide +kernel
theorem dX4_times_2 : decode cX4_times 2 = .ok (.iload_n 2, 1) := by decide +kernel
theorem dX4_times_3 : decode cX4_times 3 = .ok (.invokevirtual 92, 3) := by decide +kernel
theorem dX4_times_6 : decode cX4_times 6 = .ok (.ifCond .ne 5, 3) := by decide +kernel
theorem dX4_times_9 : decode cX4_times 9 = .ok (.iconst 0, 1) := by decide +kernel
theorem dX4_times_10 : decode cX4_times 10 = .ok (.ireturn, 1) := by decide +kernel
theorem dX4_times_11 : decode cX4_times 11 = .ok (.aload_n 0, 1) := by decide +kernel
theorem dX4_times_12 : decode cX4_times 12 = .ok (.iload_n 1, 1) := by decide +kernel
theorem dX4_times_13 : decode cX4_times 13 = .ok (.invokevirtual 96, 3) := by decide +kernel
theorem dX4_times_16 : decode cX4_times 16 = .ok (.aload_n 0, 1) := by decide +kernel
theorem dX4_times_17 : decode cX4_times 17 = .ok (.iload_n 2, 1) := by decide +kernel
theorem dX4_times_18 : decode cX4_times 18 = .ok (.invokevirtual 100, 3) := by decide +kernel
theorem dX4_times_21 : decode cX4_times 21 = .ok (.aload_n 0, 1) := by decide +kernel
theorem dX4_times_22 : decode cX4_times 22 = .ok (.invokevirtual 114, 3) := by decide +kernel
theorem dX4_times_25 : decode cX4_times 25 = .ok (.aload_n 0, 1) := by decide +kernel
theorem dX4_times_26 : decode cX4_times 26 = .ok (.aload_n 0, 1) := by decide +kernel
theorem dX4_times_27 : decode cX4_times 27 = .ok (.getfield 16, 3) := by decide +kernel
theorem dX4_times_30 : decode cX4_times 30 = .ok (.iload_n 1, 1) := by decide +kernel
theorem dX4_times_31 : decode cX4_times 31 = .ok (.baload, 1) := by decide +kernel
theorem dX4_times_32 : decode cX4_times 32 = .ok (.aload_n 0, 1) := by decide +kernel
theorem dX4_times_33 : decode cX4_times 33 = .ok (.getfield 16, 3) := by decide +kernel
theorem dX4_times_36 : decode cX4_times 36 = .ok (.iload_n 2, 1) := by decide +kernel
theorem dX4_times_37 : decode cX4_times 37 = .ok (.baload, 1) := by decide +kernel
theorem dX4_times_38 : decode cX4_times 38 = .ok (.if_icmp .eq 7, 3) := by decide +kernel
theorem dX4_times_41 : decode cX4_times 41 = .ok (.iconst 1, 1) := by decide +kernel
theorem dX4_times_42 : decode cX4_times 42 = .ok (.goto 4, 3) := by decide +kernel
theorem dX4_times_45 : decode cX4_times 45 = .ok (.iconst 0, 1) := by decide +kernel
theorem dX4_times_46 : decode cX4_times 46 = .ok (.invokevirtual 88, 3) := by decide +kernel
theorem dX4_times_49 : decode cX4_times 49 = .ok (.ireturn, 1) := by decide +kernel
theorem dX4_over_0 : decode cX4_over 0 = .ok (.aload_n 0, 1) := by decide +kernel
theorem dX4_over_1 : decode cX4_over 1 = .ok (.iload_n 1, 1) := by decide +kernel
theorem dX4_over_2 : decode cX4_over 2 = .ok (.iload_n 2, 1) := by decide +kernel
theorem dX4_over_3 : decode cX4_over 3 = .ok (.invokevirtual 92, 3) := by decide +kernel
theorem dX4_over_6 : decode cX4_over 6 = .ok (.ifCond .ne 5, 3) := by decide +kernel
theorem dX4_over_9 : decode cX4_over 9 = .ok (.iconst 0, 1) := by decide +kernel
theorem dX4_over_10 : decode cX4_over 10 = .ok (.ireturn, 1) := by decide +kernel
theorem dX4_over_11 : decode cX4_over 11 = .ok (.aload_n 0, 1) := by decide +kernel
theorem dX4_over_12 : decode cX4_over 12 = .ok (.aload_n 0, 1) := by decide +kernel
theorem dX4_over_13 : decode cX4_over 13 = .ok (.getfield 13, 3) := by decide +kernel
theorem dX4_over_16 : decode cX4_over 16 = .ok (.iload_n 2, 1) := by decide +kernel
theorem dX4_over_17 : decode cX4_over 17 = .ok (.iaload, 1) := by decide +kernel
theorem dX4_over_18 : decode cX4_over 18 = .ok (.ifCond .ne 7, 3) := by decide +kernel
theorem dX4_over_21 : decode cX4_over 21 = .ok (.iconst 2, 1) := by decide +kernel
theorem dX4_over_22 : decode cX4_over 22 = .ok (.goto 4, 3) := by decide +kernel
theorem dX4_over_25 : decode cX4_over 25 = .ok (.iconst 0, 1) := by decide +kernel
theorem dX4_over_26 : decode cX4_over 26 = .ok (.putfield 49, 3) := by decide +kernel
theorem dX4_over_29 : decode cX4_over 29 = .ok (.aload_n 0, 1) := by decide +kernel
theorem dX4_over_30 : decode cX4_over 30 = .ok (.getfield 49, 3) := by decide +kernel
theorem dX4_over_33 : decode cX4_over 33 = .ok (.ifCond .le 5, 3) := by decide +kernel
theorem dX4_over_36 : decode cX4_over 36 = .ok (.iconst 0, 1) := by decide +kernel
theorem dX4_over_37 : decode cX4_over 37 = .ok (.ireturn, 1) := by decide +kernel
theorem dX4_over_38 : decode cX4_over 38 = .ok (.aload_n 0, 1) := by decide +kernel
theorem dX4_over_39 : decode cX4_over 39 = .ok (.iload_n 1, 1) := by decide +kernel
theorem dX4_over_40 : decode cX4_over 40 = .ok (.invokevirtual 96, 3) := by decide +kernel
theorem dX4_over_43 : decode cX4_over 43 = .ok (.aload_n 0, 1) := by decide +kernel
theorem dX4_over_44 : decode cX4_over 44 = .ok (.iload_n 2, 1) := by decide +kernel
theorem dX4_over_45 : decode cX4_over 45 = .ok (.invokevirtual 100, 3) := by decide +kernel
theorem dX4_over_48 : decode cX4_over 48 = .ok (.aload_n 0, 1) := by decide +kernel
theorem dX4_over_49 : decode cX4_over 49 = .ok (.invokevirtual 117, 3) := by decide +kernel
theorem dX4_over_52 : decode cX4_over 52 = .ok (.aload_n 0, 1) := by decide +kernel
theorem dX4_over_53 : decode cX4_over 53 = .ok (.aload_n 0, 1) := by decide +kernel
theorem dX4_over_54 : decode cX4_over 54 = .ok (.getfield 16, 3) := by decide +kernel
theorem dX4_over_57 : decode cX4_over 57 = .ok (.iload_n 1, 1) := by decide +kernel
theorem dX4_over_58 : decode cX4_over 58 = .ok (.baload, 1) := by decide +kernel
theorem dX4_over_59 : decode cX4_over 59 = .ok (.aload_n 0, 1) := by decide +kernel
theorem dX4_over_60 : decode cX4_over 60 = .ok (.getfield 16, 3) := by decide +kernel
theorem dX4_over_63 : decode cX4_over 63 = .ok (.iload_n 2, 1) := by decide +kernel
theorem dX4_over_64 : decode cX4_over 64 = .ok (.baload, 1) := by decide +kernel
theorem dX4_over_65 : decode cX4_over 65 = .ok (.if_icmp .eq 7, 3) := by decide +kernel
theorem dX4_over_68 : decode cX4_over 68 = .ok (.iconst 1, 1) := by decide +kernel
theorem dX4_over_69 : decode cX4_over 69 = .ok (.goto 4, 3) := by decide +kernel
theorem dX4_over_72 : decode cX4_over 72 = .ok (.iconst 0, 1) := by decide +kernel
theorem dX4_over_73 : decode cX4_over 73 = .ok (.invokevirtual 88, 3) := by decide +kernel
theorem dX4_over_76 : decode cX4_over 76 = .ok (.ireturn, 1) := by decide +kernel
theorem dX4_power_0 : decode cX4_power 0 = .ok (.aload_n 0, 1) := by decide +kernel
theorem dX4_power_1 : decode cX4_power 1 = .ok (.iload_n 1, 1) := by decide +kernel
theorem dX4_power_2 : decode cX4_power 2 = .ok (.iload_n 1, 1) := by decide +kernel
theorem dX4_power_3 : decode cX4_power 3 = .ok (.invokevirtual 92, 3) := by decide +kernel
theorem dX4_power_6 : decode cX4_power 6 = .ok (.ifCond .ne 5, 3) := by decide +kernel
theorem dX4_power_9 : decode cX4_power 9 = .ok (.iconst 0, 1) := by decide +kernel
theorem dX4_power_10 : decode cX4_power 10 = .ok (.ireturn, 1) := by decide +kernel
theorem dX4_power_11 : decode cX4_power 11 = .ok (.iload_n 2, 1) := by decide +kernel
theorem dX4_power_12 : decode cX4_power 12 = .ok (.ifCond .lt 9, 3) := by decide +kernel
theorem dX4_power_15 : decode cX4_power 15 = .ok (.iload_n 2, 1) := by decide +kernel
theorem dX4_power_16 : decode cX4_power 16 = .ok (.ldc 120, 2) := by decide +kernel
theorem dX4_power_18 : decode cX4_power 18 = .ok (.if_icmp .le 5, 3) := by decide +kernel
theorem dX4_power_21 : decode cX4_power 21 = .ok (.iconst (-1), 1) := by decide +kernel
theorem dX4_power_22 : decode cX4_power 22 = .ok (.ireturn, 1) := by decide +kernel
theorem dX4_power_23 : decode cX4_power 23 = .ok (.aload_n 0, 1) := by decide +kernel
theorem dX4_power_24 : decode cX4_power 24 = .ok (.iload_n 1, 1) := by decide +kernel
theorem dX4_power_25 : decode cX4_power 25 = .ok (.invokevirtual 96, 3) := by decide +kernel
theorem dX4_power_28 : decode cX4_power 28 = .ok (.aload_n 0, 1) := by decide +kernel
theorem dX4_power_29 : decode cX4_power 29 = .ok (.getfield 13, 3) := by decide +kernel
theorem dX4_power_32 : decode cX4_power 32 = .ok (.iload_n 1, 1) := by decide +kernel
theorem dX4_power_33 : decode cX4_power 33 = .ok (.iaload, 1) := by decide +kernel
theorem dX4_power_34 : decode cX4_power 34 = .ok (.ifCond .eq 23, 3) := by decide +kernel
theorem dX4_power_37 : decode cX4_power 37 = .ok (.aload_n 0, 1) := by decide +kernel
theorem dX4_power_38 : decode cX4_power 38 = .ok (.getfield 13, 3) := by decide +kernel
theorem dX4_power_41 : decode cX4_power 41 = .ok (.iload_n 1, 1) := by decide +kernel
theorem dX4_power_42 : decode cX4_power 42 = .ok (.iaload, 1) := by decide +kernel
theorem dX4_power_43 : decode cX4_power 43 = .ok (.iconst 1, 1) := by decide +kernel
theorem dX4_power_44 : decode cX4_power 44 = .ok (.if_icmp .ne 17, 3) := by decide +kernel
theorem dX4_power_47 : decode cX4_power 47 = .ok (.aload_n 0, 1) := by decide +kernel
theorem dX4_power_48 : decode cX4_power 48 = .ok (.getfield 24, 3) := by decide +kernel
theorem dX4_power_51 : decode cX4_power 51 = .ok (.iconst 0, 1) := by decide +kernel
theorem dX4_power_52 : decode cX4_power 52 = .ok (.iaload, 1) := by decide +kernel
theorem dX4_power_53 : decode cX4_power 53 = .ok (.iconst 1, 1) := by decide +kernel
theorem dX4_power_54 : decode cX4_power 54 = .ok (.if_icmp .ne 7, 3) := by decide +kernel
theorem dX4_power_57 : decode cX4_power 57 = .ok (.iconst 1, 1) := by decide +kernel
theorem dX4_power_58 : decode cX4_power 58 = .ok (.goto 4, 3) := by decide +kernel
theorem dX4_power_61 : decode cX4_power 61 = .ok (.iconst 0, 1) := by decide +kernel
theorem dX4_power_62 : decode cX4_power 62 = .ok (.istore_n 3, 1) := by decide +kernel
theorem dX4_power_63 : decode cX4_power 63 = .ok (.iload_n 3, 1) := by decide +kernel
theorem dX4_power_64 : decode cX4_power 64 = .ok (.ifCond .ne 7, 3) := by decide +kernel
theorem dX4_power_67 : decode cX4_power 67 = .ok (.iload_n 2, 1) := by decide +kernel
theorem dX4_power_68 : decode cX4_power 68 = .ok (.ifCond .ne 38, 3) := by decide +kernel
theorem dX4_power_71 : decode cX4_power 71 = .ok (.iload_n 2, 1) := by decide +kernel
theorem dX4_power_72 : decode cX4_power 72 = .ok (.ifCond .ne 8, 3) := by decide +kernel
theorem dX4_power_75 : decode cX4_power 75 = .ok (.aload_n 0, 1) := by decide +kernel
theorem dX4_power_76 : decode cX4_power 76 = .ok (.lconst 1, 1) := by decide +kernel
theorem dX4_power_77 : decode cX4_power 77 = .ok (.invokevirtual 84, 3) := by decide +kernel
theorem dX4_power_80 : decode cX4_power 80 = .ok (.aload_n 0, 1) := by decide +kernel
theorem dX4_power_81 : decode cX4_power 81 = .ok (.aload_n 0, 1) := by decide +kernel
theorem dX4_power_82 : decode cX4_power 82 = .ok (.getfield 16, 3) := by decide +kernel
theorem dX4_power_85 : decode cX4_power 85 = .ok (.iload_n 1, 1) := by decide +kernel
theorem dX4_power_86 : decode cX4_power 86 = .ok (.baload, 1) := by decide +kernel
theorem dX4_power_87 : decode cX4_power 87 = .ok (.ifCond .eq 14, 3) := by decide +kernel
theorem dX4_power_90 : decode cX4_power 90 = .ok (.iload_n 2, 1) := by decide +kernel
theorem dX4_power_91 : decode cX4_power 91 = .ok (.iconst 2, 1) := by decide +kernel
theorem dX4_power_92 : decode cX4_power 92 = .ok (.irem, 1) := by decide +kernel
theorem dX4_power_93 : decode cX4_power 93 = .ok (.iconst 1, 1) := by decide +kernel
theorem dX4_power_94 : decode cX4_power 94 = .ok (.if_icmp .ne 7, 3) := by decide +kernel
theorem dX4_power_97 : decode cX4_power 97 = .ok (.iconst 1, 1) := by decide +kernel
theorem dX4_power_98 : decode cX4_power 98 = .ok (.goto 4, 3) := by decide +kernel
theorem dX4_power_101 : decode cX4_power 101 = .ok (.iconst 0, 1) := by decide +kernel
theorem dX4_power_102 : decode cX4_power 102 = .ok (.invokevirtual 88, 3) := by decide +kernel
theorem dX4_power_105 : decode cX4_power 105 = .ok (.ireturn, 1) := by decide +kernel
theorem dX4_power_106 : decode cX4_power 106 = .ok (.aload_n 0, 1) := by decide +kernel
theorem dX4_power_107 : decode cX4_power 107 = .ok (.iload_n 1, 1) := by decide +kernel
theorem dX4_power_108 : decode cX4_power 108 = .ok (.invokevirtual 100, 3) := by decide +kernel
theorem dX4_power_111 : decode cX4_power 111 = .ok (.iconst 1, 1) := by decide +kernel
theorem dX4_power_112 : decode cX4_power 112 = .ok (.istore 4, 2) := by decide +kernel
theorem dX4_power_114 : decode cX4_power 114 = .ok (.iload 4, 2) := by decide +kernel
theorem dX4_power_116 : decode cX4_power 116 = .ok (.iload_n 2, 1) := by decide +kernel
theorem dX4_power_117 : decode cX4_power 117 = .ok (.if_icmp .ge 20, 3) := by decide +kernel
theorem dX4_power_120 : decode cX4_power 120 = .ok (.aload_n 0, 1) := by decide +kernel
theorem dX4_power_121 : decode cX4_power 121 = .ok (.invokevirtual 76, 3) := by decide +kernel
theorem dX4_power_124 : decode cX4_power 124 = .ok (.ifCond .ne 13, 3) := by decide +kernel
theorem dX4_power_127 : decode cX4_power 127 = .ok (.aload_n 0, 1) := by decide +kernel
theorem dX4_power_128 : decode cX4_power 128 = .ok (.invokevirtual 114, 3) := by decide +kernel
theorem dX4_power_131 : decode cX4_power 131 = .ok (.iinc 4 1, 3) := by decide +kernel
theorem dX4_power_134 : decode cX4_power 134 = .ok (.goto (-20), 3) := by decide +kernel
theorem dX4_power_137 : decode cX4_power 137 = .ok (.aload_n 0, 1) := by decide +kernel
theorem dX4_power_138 : decode cX4_power 138 = .ok (.aload_n 0, 1) := by decide +kernel
theorem dX4_power_139 : decode cX4_power 139 = .ok (.getfield 16, 3) := by decide +kernel
theorem dX4_power_142 : decode cX4_power 142 = .ok (.iload_n 1, 1) := by decide +kernel
theorem dX4_power_143 : decode cX4_power 143 = .ok (.baload, 1) := by decide +kernel
theorem dX4_power_144 : decode cX4_power 144 = .ok (.ifCond .eq 14, 3) := by decide +kernel
theorem dX4_power_147 : decode cX4_power 147 = .ok (.iload_n 2, 1) := by decide +kernel
theorem dX4_power_148 : decode cX4_power 148 = .ok (.iconst 2, 1) := by decide +kernel
theorem dX4_power_149 : decode cX4_power 149 = .ok (.irem, 1) := by decide +kernel
theorem dX4_power_150 : decode cX4_power 150 = .ok (.iconst 1, 1) := by decide +kernel
theorem dX4_power_151 : decode cX4_power 151 = .ok (.if_icmp .ne 7, 3) := by decide +kernel
theorem dX4_power_154 : decode cX4_power 154 = .ok (.iconst 1, 1) := by decide +kernel
theorem dX4_power_155 : decode cX4_power 155 = .ok (.goto 4, 3) := by decide +kernel
theorem dX4_power_158 : decode cX4_power 158 = .ok (.iconst 0, 1) := by decide +kernel
theorem dX4_power_159 : decode cX4_power 159 = .ok (.invokevirtual 88, 3) := by decide +kernel
theorem dX4_power_162 : decode cX4_power 162 = .ok (.ireturn, 1) := by decide +kernel
theorem dX4_binomial_0 : decode cX4_binomial 0 = .ok (.aload_n 0, 1) := by decide +kernel
theorem dX4_binomial_1 : decode cX4_binomial 1 = .ok (.iconst 0, 1) := by decide +kernel
theorem dX4_binomial_2 : decode cX4_binomial 2 = .ok (.putfield 49, 3) := by decide +kernel
theorem dX4_binomial_5 : decode cX4_binomial 5 = .ok (.iload_n 1, 1) := by decide +kernel
theorem dX4_binomial_6 : decode cX4_binomial 6 = .ok (.ifCond .lt 10, 3) := by decide +kernel
theorem dX4_binomial_9 : decode cX4_binomial 9 = .ok (.iload_n 1, 1) := by decide +kernel
theorem dX4_binomial_10 : decode cX4_binomial 10 = .ok (.sipush 4000, 3) := by decide +kernel
theorem dX4_binomial_13 : decode cX4_binomial 13 = .ok (.if_icmp .le 5, 3) := by decide +kernel
theorem dX4_binomial_16 : decode cX4_binomial 16 = .ok (.iconst (-1), 1) := by decide +kernel
theorem dX4_binomial_17 : decode cX4_binomial 17 = .ok (.ireturn, 1) := by decide +kernel
theorem dX4_binomial_18 : decode cX4_binomial 18 = .ok (.aload_n 0, 1) := by decide +kernel
theorem dX4_binomial_19 : decode cX4_binomial 19 = .ok (.iload_n 2, 1) := by decide +kernel
theorem dX4_binomial_20 : decode cX4_binomial 20 = .ok (.ifCond .lt 8, 3) := by decide +kernel
theorem dX4_binomial_23 : decode cX4_binomial 23 = .ok (.iload_n 2, 1) := by decide +kernel
theorem dX4_binomial_24 : decode cX4_binomial 24 = .ok (.iload_n 1, 1) := by decide +kernel
theorem dX4_binomial_25 : decode cX4_binomial 25 = .ok (.if_icmp .le 7, 3) := by decide +kernel
theorem dX4_binomial_28 : decode cX4_binomial 28 = .ok (.lconst 0, 1) := by decide +kernel
theorem dX4_binomial_29 : decode cX4_binomial 29 = .ok (.goto 4, 3) := by decide +kernel
theorem dX4_binomial_32 : decode cX4_binomial 32 = .ok (.lconst 1, 1) := by decide +kernel
theorem dX4_binomial_33 : decode cX4_binomial 33 = .ok (.invokevirtual 84, 3) := by decide +kernel
theorem dX4_binomial_36 : decode cX4_binomial 36 = .ok (.iload_n 2, 1) := by decide +kernel
theorem dX4_binomial_37 : decode cX4_binomial 37 = .ok (.iload_n 1, 1) := by decide +kernel
theorem dX4_binomial_38 : decode cX4_binomial 38 = .ok (.iload_n 2, 1) := by decide +kernel
theorem dX4_binomial_39 : decode cX4_binomial 39 = .ok (.isub, 1) := by decide +kernel
theorem dX4_binomial_40 : decode cX4_binomial 40 = .ok (.if_icmp .ge 7, 3) := by decide +kernel
theorem dX4_binomial_43 : decode cX4_binomial 43 = .ok (.iload_n 2, 1) := by decide +kernel
theorem dX4_binomial_44 : decode cX4_binomial 44 = .ok (.goto 6, 3) := by decide +kernel
theorem dX4_binomial_47 : decode cX4_binomial 47 = .ok (.iload_n 1, 1) := by decide +kernel
theorem dX4_binomial_48 : decode cX4_binomial 48 = .ok (.iload_n 2, 1) := by decide +kernel
theorem dX4_binomial_49 : decode cX4_binomial 49 = .ok (.isub, 1) := by decide +kernel
theorem dX4_binomial_50 : decode cX4_binomial 50 = .ok (.istore_n 3, 1) := by decide +kernel
theorem dX4_binomial_51 : decode cX4_binomial 51 = .ok (.iconst 1, 1) := by decide +kernel
theorem dX4_binomial_52 : decode cX4_binomial 52 = .ok (.istore 4, 2) := by decide +kernel
theorem dX4_binomial_54 : decode cX4_binomial 54 = .ok (.iload 4, 2) := by decide +kernel
theorem dX4_binomial_56 : decode cX4_binomial 56 = .ok (.iload_n 3, 1) := by decide +kernel
theorem dX4_binomial_57 : decode cX4_binomial 57 = .ok (.if_icmp .gt 44, 3) := by decide +kernel
theorem dX4_binomial_60 : decode cX4_binomial 60 = .ok (.aload_n 0, 1) := by decide +kernel
theorem dX4_binomial_61 : decode cX4_binomial 61 = .ok (.getfield 64, 3) := by decide +kernel
theorem dX4_binomial_64 : decode cX4_binomial 64 = .ok (.ifCond .le 37, 3) := by decide +kernel
theorem dX4_binomial_67 : decode cX4_binomial 67 = .ok (.aload_n 0, 1) := by decide +kernel
theorem dX4_binomial_68 : decode cX4_binomial 68 = .ok (.invokevirtual 76, 3) := by decide +kernel
theorem dX4_binomial_71 : decode cX4_binomial 71 = .ok (.ifCond .ne 30, 3) := by decide +kernel
theorem dX4_binomial_74 : decode cX4_binomial 74 = .ok (.aload_n 0, 1) := by decide +kernel
theorem dX4_binomial_75 : decode cX4_binomial 75 = .ok (.iload_n 1, 1) := by decide +kernel
theorem dX4_binomial_76 : decode cX4_binomial 76 = .ok (.iload_n 3, 1) := by decide +kernel
theorem dX4_binomial_77 : decode cX4_binomial 77 = .ok (.isub, 1) := by decide +kernel
theorem dX4_binomial_78 : decode cX4_binomial 78 = .ok (.iload 4, 2) := by decide +kernel
theorem dX4_binomial_80 : decode cX4_binomial 80 = .ok (.iadd, 1) := by decide +kernel
theorem dX4_binomial_81 : decode cX4_binomial 81 = .ok (.invokevirtual 121, 3) := by decide +kernel
theorem dX4_binomial_84 : decode cX4_binomial 84 = .ok (.aload_n 0, 1) := by decide +kernel
theorem dX4_binomial_85 : decode cX4_binomial 85 = .ok (.iload 4, 2) := by decide +kernel
theorem dX4_binomial_87 : decode cX4_binomial 87 = .ok (.invokevirtual 124, 3) := by decide +kernel
theorem dX4_binomial_90 : decode cX4_binomial 90 = .ok (.ifCond .eq 5, 3) := by decide +kernel
theorem dX4_binomial_93 : decode cX4_binomial 93 = .ok (.iconst (-1), 1) := by decide +kernel
theorem dX4_binomial_94 : decode cX4_binomial 94 = .ok (.ireturn, 1) := by decide +kernel
theorem dX4_binomial_95 : decode cX4_binomial 95 = .ok (.iinc 4 1, 3) := by decide +kernel
theorem dX4_binomial_98 : decode cX4_binomial 98 = .ok (.goto (-44), 3) := by decide +kernel
theorem dX4_binomial_101 : decode cX4_binomial 101 = .ok (.aload_n 0, 1) := by decide +kernel
theorem dX4_binomial_102 : decode cX4_binomial 102 = .ok (.iconst 0, 1) := by decide +kernel
theorem dX4_binomial_103 : decode cX4_binomial 103 = .ok (.invokevirtual 88, 3) := by decide +kernel
theorem dX4_binomial_106 : decode cX4_binomial 106 = .ok (.ireturn, 1) := by decide +kernel
theorem dX4_factorial_0 : decode cX4_factorial 0 = .ok (.aload_n 0, 1) := by decide +kernel
theorem dX4_factorial_1 : decode cX4_factorial 1 = .ok (.iconst 0, 1) := by decide +kernel
theorem dX4_factorial_2 : decode cX4_factorial 2 = .ok (.putfield 49, 3) := by decide +kernel
theorem dX4_factorial_5 : decode cX4_factorial 5 = .ok (.iload_n 1, 1) := by decide +kernel
theorem dX4_factorial_6 : decode cX4_factorial 6 = .ok (.ifCond .ge 5, 3) := by decide +kernel
theorem dX4_factorial_9 : decode cX4_factorial 9 = .ok (.iconst (-1), 1) := by decide +kernel
theorem dX4_factorial_10 : decode cX4_factorial 10 = .ok (.ireturn, 1) := by decide +kernel
theorem dX4_factorial_11 : decode cX4_factorial 11 = .ok (.aload_n 0, 1) := by decide +kernel
theorem dX4_factorial_12 : decode cX4_factorial 12 = .ok (.lconst 1, 1) := by decide +kernel
theorem dX4_factorial_13 : decode cX4_factorial 13 = .ok (.invokevirtual 84, 3) := by decide +kernel
theorem dX4_factorial_16 : decode cX4_factorial 16 = .ok (.iconst 2, 1) := by decide +kernel
theorem dX4_factorial_17 : decode cX4_factorial 17 = .ok (.istore_n 2, 1) := by decide +kernel
theorem dX4_factorial_18 : decode cX4_factorial 18 = .ok (.iload_n 2, 1) := by decide +kernel
theorem dX4_factorial_19 : decode cX4_factorial 19 = .ok (.iload_n 1, 1) := by decide +kernel
theorem dX4_factorial_20 : decode cX4_factorial 20 = .ok (.if_icmp .gt 21, 3) := by decide +kernel
theorem dX4_factorial_23 : decode cX4_factorial 23 = .ok (.aload_n 0, 1) := by decide +kernel
theorem dX4_factorial_24 : decode cX4_factorial 24 = .ok (.invokevirtual 76, 3) := by decide +kernel
theorem dX4_factorial_27 : decode cX4_factorial 27 = .ok (.ifCond .ne 14, 3) := by decide +kernel
theorem dX4_factorial_30 : decode cX4_factorial 30 = .ok (.aload_n 0, 1) := by decide +kernel
theorem dX4_factorial_31 : decode cX4_factorial 31 = .ok (.iload_n 2, 1) := by decide +kernel
theorem dX4_factorial_32 : decode cX4_factorial 32 = .ok (.invokevirtual 121, 3) := by decide +kernel
theorem dX4_factorial_35 : decode cX4_factorial 35 = .ok (.iinc 2 1, 3) := by decide +kernel
theorem dX4_factorial_38 : decode cX4_factorial 38 = .ok (.goto (-20), 3) := by decide +kernel
theorem dX4_factorial_41 : decode cX4_factorial 41 = .ok (.aload_n 0, 1) := by decide +kernel
theorem dX4_factorial_42 : decode cX4_factorial 42 = .ok (.iconst 0, 1) := by decide +kernel
theorem dX4_factorial_43 : decode cX4_factorial 43 = .ok (.invokevirtual 88, 3) := by decide +kernel
theorem dX4_factorial_46 : decode cX4_factorial 46 = .ok (.ireturn, 1) := by decide +kernel
theorem dX4_order_0 : decode cX4_order 0 = .ok (.aload_n 0, 1) := by decide +kernel
theorem dX4_order_1 : decode cX4_order 1 = .ok (.iload_n 1, 1) := by decide +kernel
theorem dX4_order_2 : decode cX4_order 2 = .ok (.iload_n 2, 1) := by decide +kernel
theorem dX4_order_3 : decode cX4_order 3 = .ok (.invokevirtual 92, 3) := by decide +kernel
theorem dX4_order_6 : decode cX4_order 6 = .ok (.ifCond .ne 5, 3) := by decide +kernel
theorem dX4_order_9 : decode cX4_order 9 = .ok (.iconst 0, 1) := by decide +kernel
theorem dX4_order_10 : decode cX4_order 10 = .ok (.ireturn, 1) := by decide +kernel
theorem dX4_order_11 : decode cX4_order 11 = .ok (.aload_n 0, 1) := by decide +kernel
theorem dX4_order_12 : decode cX4_order 12 = .ok (.getfield 16, 3) := by decide +kernel
theorem dX4_order_15 : decode cX4_order 15 = .ok (.iload_n 1, 1) := by decide +kernel
theorem dX4_order_16 : decode cX4_order 16 = .ok (.baload, 1) := by decide +kernel
theorem dX4_order_17 : decode cX4_order 17 = .ok (.aload_n 0, 1) := by decide +kernel
theorem dX4_order_18 : decode cX4_order 18 = .ok (.getfield 16, 3) := by decide +kernel
theorem dX4_order_21 : decode cX4_order 21 = .ok (.iload_n 2, 1) := by decide +kernel
theorem dX4_order_22 : decode cX4_order 22 = .ok (.baload, 1) := by decide +kernel
theorem dX4_order_23 : decode cX4_order 23 = .ok (.if_icmp .eq 18, 3) := by decide +kernel
theorem dX4_order_26 : decode cX4_order 26 = .ok (.aload_n 0, 1) := by decide +kernel
theorem dX4_order_27 : decode cX4_order 27 = .ok (.getfield 16, 3) := by decide +kernel
theorem dX4_order_30 : decode cX4_order 30 = .ok (.iload_n 1, 1) := by decide +kernel
theorem dX4_order_31 : decode cX4_order 31 = .ok (.baload, 1) := by decide +kernel
theorem dX4_order_32 : decode cX4_order 32 = .ok (.ifCond .eq 7, 3) := by decide +kernel
theorem dX4_order_35 : decode cX4_order 35 = .ok (.iconst (-1), 1) := by decide +kernel
theorem dX4_order_36 : decode cX4_order 36 = .ok (.goto 4, 3) := by decide +kernel
theorem dX4_order_39 : decode cX4_order 39 = .ok (.iconst 1, 1) := by decide +kernel
theorem dX4_order_40 : decode cX4_order 40 = .ok (.ireturn, 1) := by decide +kernel
theorem dX4_order_41 : decode cX4_order 41 = .ok (.aload_n 0, 1) := by decide +kernel
theorem dX4_order_42 : decode cX4_order 42 = .ok (.iload_n 1, 1) := by decide +kernel
theorem dX4_order_43 : decode cX4_order 43 = .ok (.invokevirtual 96, 3) := by decide +kernel
theorem dX4_order_46 : decode cX4_order 46 = .ok (.aload_n 0, 1) := by decide +kernel
theorem dX4_order_47 : decode cX4_order 47 = .ok (.iload_n 2, 1) := by decide +kernel
theorem dX4_order_48 : decode cX4_order 48 = .ok (.invokevirtual 100, 3) := by decide +kernel
theorem dX4_order_51 : decode cX4_order 51 = .ok (.aload_n 0, 1) := by decide +kernel
theorem dX4_order_52 : decode cX4_order 52 = .ok (.getfield 16, 3) := by decide +kernel
theorem dX4_order_55 : decode cX4_order 55 = .ok (.iload_n 1, 1) := by decide +kernel
theorem dX4_order_56 : decode cX4_order 56 = .ok (.baload, 1) := by decide +kernel
theorem dX4_order_57 : decode cX4_order 57 = .ok (.ifCond .eq 11, 3) := by decide +kernel
theorem dX4_order_60 : decode cX4_order 60 = .ok (.aload_n 0, 1) := by decide +kernel
theorem dX4_order_61 : decode cX4_order 61 = .ok (.invokevirtual 106, 3) := by decide +kernel
theorem dX4_order_64 : decode cX4_order 64 = .ok (.ineg, 1) := by decide +kernel
theorem dX4_order_65 : decode cX4_order 65 = .ok (.goto 7, 3) := by decide +kernel
theorem dX4_order_68 : decode cX4_order 68 = .ok (.aload_n 0, 1) := by decide +kernel
theorem dX4_order_69 : decode cX4_order 69 = .ok (.invokevirtual 106, 3) := by decide +kernel
theorem dX4_order_72 : decode cX4_order 72 = .ok (.ireturn, 1) := by decide +kernel
theorem dX4_digit_0 : decode cX4_digit 0 = .ok (.aload_n 0, 1) := by decide +kernel
theorem dX4_digit_1 : decode cX4_digit 1 = .ok (.iload_n 1, 1) := by decide +kernel
theorem dX4_digit_2 : decode cX4_digit 2 = .ok (.iload_n 1, 1) := by decide +kernel
theorem dX4_digit_3 : decode cX4_digit 3 = .ok (.invokevirtual 92, 3) := by decide +kernel
theorem dX4_digit_6 : decode cX4_digit 6 = .ok (.ifCond .ne 5, 3) := by decide +kernel
theorem dX4_digit_9 : decode cX4_digit 9 = .ok (.iconst 0, 1) := by decide +kernel
theorem dX4_digit_10 : decode cX4_digit 10 = .ok (.ireturn, 1) := by decide +kernel
theorem dX4_digit_11 : decode cX4_digit 11 = .ok (.aload_n 0, 1) := by decide +kernel
theorem dX4_digit_12 : decode cX4_digit 12 = .ok (.iload_n 1, 1) := by decide +kernel
theorem dX4_digit_13 : decode cX4_digit 13 = .ok (.invokevirtual 96, 3) := by decide +kernel
theorem dX4_digit_16 : decode cX4_digit 16 = .ok (.aload_n 0, 1) := by decide +kernel
theorem dX4_digit_17 : decode cX4_digit 17 = .ok (.bipush 10, 2) := by decide +kernel
theorem dX4_digit_19 : decode cX4_digit 19 = .ok (.invokevirtual 124, 3) := by decide +kernel
theorem dX4_digit_22 : decode cX4_digit 22 = .ok (.istore_n 3, 1) := by decide +kernel
theorem dX4_digit_23 : decode cX4_digit 23 = .ok (.iconst 0, 1) := by decide +kernel
theorem dX4_digit_24 : decode cX4_digit 24 = .ok (.istore 4, 2) := by decide +kernel
theorem dX4_digit_26 : decode cX4_digit 26 = .ok (.iload 4, 2) := by decide +kernel
theorem dX4_digit_28 : decode cX4_digit 28 = .ok (.iload_n 2, 1) := by decide +kernel
theorem dX4_digit_29 : decode cX4_digit 29 = .ok (.if_icmp .ge 33, 3) := by decide +kernel
theorem dX4_digit_32 : decode cX4_digit 32 = .ok (.aload_n 0, 1) := by decide +kernel
theorem dX4_digit_33 : decode cX4_digit 33 = .ok (.getfield 64, 3) := by decide +kernel
theorem dX4_digit_36 : decode cX4_digit 36 = .ok (.ifCond .le 26, 3) := by decide +kernel
theorem dX4_digit_39 : decode cX4_digit 39 = .ok (.aload_n 0, 1) := by decide +kernel
theorem dX4_digit_40 : decode cX4_digit 40 = .ok (.bipush 10, 2) := by decide +kernel
theorem dX4_digit_42 : decode cX4_digit 42 = .ok (.invokevirtual 124, 3) := by decide +kernel
theorem dX4_digit_45 : decode cX4_digit 45 = .ok (.istore_n 3, 1) := by decide +kernel
theorem dX4_digit_46 : decode cX4_digit 46 = .ok (.iload 4, 2) := by decide +kernel
theorem dX4_digit_48 : decode cX4_digit 48 = .ok (.iload_n 2, 1) := by decide +kernel
theorem dX4_digit_49 : decode cX4_digit 49 = .ok (.iconst 1, 1) := by decide +kernel
theorem dX4_digit_50 : decode cX4_digit 50 = .ok (.isub, 1) := by decide +kernel
theorem dX4_digit_51 : decode cX4_digit 51 = .ok (.if_icmp .ne 5, 3) := by decide +kernel
theorem dX4_digit_54 : decode cX4_digit 54 = .ok (.iload_n 3, 1) := by decide +kernel
theorem dX4_digit_55 : decode cX4_digit 55 = .ok (.ireturn, 1) := by decide +kernel
theorem dX4_digit_56 : decode cX4_digit 56 = .ok (.iinc 4 1, 3) := by decide +kernel
theorem dX4_digit_59 : decode cX4_digit 59 = .ok (.goto (-33), 3) := by decide +kernel
theorem dX4_digit_62 : decode cX4_digit 62 = .ok (.aload_n 0, 1) := by decide +kernel
theorem dX4_digit_63 : decode cX4_digit 63 = .ok (.iload_n 2, 1) := by decide +kernel
theorem dX4_digit_64 : decode cX4_digit 64 = .ok (.ifCond .ne 7, 3) := by decide +kernel
theorem dX4_digit_67 : decode cX4_digit 67 = .ok (.iconst 0, 1) := by decide +kernel
theorem dX4_digit_68 : decode cX4_digit 68 = .ok (.goto 4, 3) := by decide +kernel
theorem dX4_digit_71 : decode cX4_digit 71 = .ok (.iconst 1, 1) := by decide +kernel
theorem dX4_digit_72 : decode cX4_digit 72 = .ok (.putfield 49, 3) := by decide +kernel
theorem dX4_digit_75 : decode cX4_digit 75 = .ok (.iload_n 2, 1) := by decide +kernel
theorem dX4_digit_76 : decode cX4_digit 76 = .ok (.ifCond .ne 7, 3) := by decide +kernel
theorem dX4_digit_79 : decode cX4_digit 79 = .ok (.iload_n 3, 1) := by decide +kernel
theorem dX4_digit_80 : decode cX4_digit 80 = .ok (.goto 4, 3) := by decide +kernel
theorem dX4_digit_83 : decode cX4_digit 83 = .ok (.iconst 0, 1) := by decide +kernel
theorem dX4_digit_84 : decode cX4_digit 84 = .ok (.ireturn, 1) := by decide +kernel
theorem dX4_residue_0 : decode cX4_residue 0 = .ok (.aload_n 0, 1) := by decide +kernel
theorem dX4_residue_1 : decode cX4_residue 1 = .ok (.iload_n 1, 1) := by decide +kernel
theorem dX4_residue_2 : decode cX4_residue 2 = .ok (.iload_n 1, 1) := by decide +kernel
theorem dX4_residue_3 : decode cX4_residue 3 = .ok (.invokevirtual 92, 3) := by decide +kernel
theorem dX4_residue_6 : decode cX4_residue 6 = .ok (.ifCond .ne 5, 3) := by decide +kernel
theorem dX4_residue_9 : decode cX4_residue 9 = .ok (.lconst 0, 1) := by decide +kernel
theorem dX4_residue_10 : decode cX4_residue 10 = .ok (.lreturn, 1) := by decide +kernel
theorem dX4_residue_11 : decode cX4_residue 11 = .ok (.aload_n 0, 1) := by decide +kernel
theorem dX4_residue_12 : decode cX4_residue 12 = .ok (.lload_n 2, 1) := by decide +kernel
theorem dX4_residue_13 : decode cX4_residue 13 = .ok (.lconst 0, 1) := by decide +kernel
theorem dX4_residue_14 : decode cX4_residue 14 = .ok (.lcmp, 1) := by decide +kernel
theorem dX4_residue_15 : decode cX4_residue 15 = .ok (.ifCond .ne 7, 3) := by decide +kernel
theorem dX4_residue_18 : decode cX4_residue 18 = .ok (.iconst 2, 1) := by decide +kernel
theorem dX4_residue_19 : decode cX4_residue 19 = .ok (.goto 4, 3) := by decide +kernel
theorem dX4_residue_22 : decode cX4_residue 22 = .ok (.iconst 0, 1) := by decide +kernel
theorem dX4_residue_23 : decode cX4_residue 23 = .ok (.putfield 49, 3) := by decide +kernel
theorem dX4_residue_26 : decode cX4_residue 26 = .ok (.aload_n 0, 1) := by decide +kernel
theorem dX4_residue_27 : decode cX4_residue 27 = .ok (.getfield 49, 3) := by decide +kernel
theorem dX4_residue_30 : decode cX4_residue 30 = .ok (.ifCond .le 5, 3) := by decide +kernel
theorem dX4_residue_33 : decode cX4_residue 33 = .ok (.lconst 0, 1) := by decide +kernel
theorem dX4_residue_34 : decode cX4_residue 34 = .ok (.lreturn, 1) := by decide +kernel
theorem dX4_residue_35 : decode cX4_residue 35 = .ok (.lload_n 2, 1) := by decide +kernel
theorem dX4_residue_36 : decode cX4_residue 36 = .ok (.lconst 0, 1) := by decide +kernel
theorem dX4_residue_37 : decode cX4_residue 37 = .ok (.lcmp, 1) := by decide +kernel
theorem dX4_residue_38 : decode cX4_residue 38 = .ok (.ifCond .ge 8, 3) := by decide +kernel
theorem dX4_residue_41 : decode cX4_residue 41 = .ok (.lload_n 2, 1) := by decide +kernel
theorem dX4_residue_42 : decode cX4_residue 42 = .ok (.lneg, 1) := by decide +kernel
theorem dX4_residue_43 : decode cX4_residue 43 = .ok (.goto 4, 3) := by decide +kernel
theorem dX4_residue_46 : decode cX4_residue 46 = .ok (.lload_n 2, 1) := by decide +kernel
theorem dX4_residue_47 : decode cX4_residue 47 = .ok (.lstore 4, 2) := by decide +kernel
theorem dX4_residue_49 : decode cX4_residue 49 = .ok (.lconst 0, 1) := by decide +kernel
theorem dX4_residue_50 : decode cX4_residue 50 = .ok (.lstore 6, 2) := by decide +kernel
theorem dX4_residue_52 : decode cX4_residue 52 = .ok (.bipush 16, 2) := by decide +kernel
theorem dX4_residue_54 : decode cX4_residue 54 = .ok (.aload_n 0, 1) := by decide +kernel
theorem dX4_residue_55 : decode cX4_residue 55 = .ok (.getfield 13, 3) := by decide +kernel
theorem dX4_residue_58 : decode cX4_residue 58 = .ok (.iload_n 1, 1) := by decide +kernel
theorem dX4_residue_59 : decode cX4_residue 59 = .ok (.iaload, 1) := by decide +kernel
theorem dX4_residue_60 : decode cX4_residue 60 = .ok (.imul, 1) := by decide +kernel
theorem dX4_residue_61 : decode cX4_residue 61 = .ok (.iconst 1, 1) := by decide +kernel
theorem dX4_residue_62 : decode cX4_residue 62 = .ok (.isub, 1) := by decide +kernel
theorem dX4_residue_63 : decode cX4_residue 63 = .ok (.istore 8, 2) := by decide +kernel
theorem dX4_residue_65 : decode cX4_residue 65 = .ok (.iload 8, 2) := by decide +kernel
theorem dX4_residue_67 : decode cX4_residue 67 = .ok (.ifCond .lt 63, 3) := by decide +kernel
theorem dX4_residue_70 : decode cX4_residue 70 = .ok (.lload 6, 2) := by decide +kernel
theorem dX4_residue_72 : decode cX4_residue 72 = .ok (.iconst 1, 1) := by decide +kernel
theorem dX4_residue_73 : decode cX4_residue 73 = .ok (.lshl, 1) := by decide +kernel
theorem dX4_residue_74 : decode cX4_residue 74 = .ok (.aload_n 0, 1) := by decide +kernel
theorem dX4_residue_75 : decode cX4_residue 75 = .ok (.getfield 7, 3) := by decide +kernel
theorem dX4_residue_78 : decode cX4_residue 78 = .ok (.bipush 104, 2) := by decide +kernel
theorem dX4_residue_80 : decode cX4_residue 80 = .ok (.iload_n 1, 1) := by decide +kernel
theorem dX4_residue_81 : decode cX4_residue 81 = .ok (.imul, 1) := by decide +kernel
theorem dX4_residue_82 : decode cX4_residue 82 = .ok (.iload 8, 2) := by decide +kernel
theorem dX4_residue_84 : decode cX4_residue 84 = .ok (.bipush 16, 2) := by decide +kernel
theorem dX4_residue_86 : decode cX4_residue 86 = .ok (.idiv, 1) := by decide +kernel
theorem dX4_residue_87 : decode cX4_residue 87 = .ok (.iadd, 1) := by decide +kernel
theorem dX4_residue_88 : decode cX4_residue 88 = .ok (.iaload, 1) := by decide +kernel
theorem dX4_residue_89 : decode cX4_residue 89 = .ok (.iload 8, 2) := by decide +kernel
theorem dX4_residue_91 : decode cX4_residue 91 = .ok (.bipush 16, 2) := by decide +kernel
theorem dX4_residue_93 : decode cX4_residue 93 = .ok (.irem, 1) := by decide +kernel
theorem dX4_residue_94 : decode cX4_residue 94 = .ok (.ishr, 1) := by decide +kernel
theorem dX4_residue_95 : decode cX4_residue 95 = .ok (.iconst 1, 1) := by decide +kernel
theorem dX4_residue_96 : decode cX4_residue 96 = .ok (.iand, 1) := by decide +kernel
theorem dX4_residue_97 : decode cX4_residue 97 = .ok (.i2l, 1) := by decide +kernel
theorem dX4_residue_98 : decode cX4_residue 98 = .ok (.lor, 1) := by decide +kernel
theorem dX4_residue_99 : decode cX4_residue 99 = .ok (.lstore 6, 2) := by decide +kernel
theorem dX4_residue_101 : decode cX4_residue 101 = .ok (.lload 6, 2) := by decide +kernel
theorem dX4_residue_103 : decode cX4_residue 103 = .ok (.ldc2_w 128, 3) := by decide +kernel
theorem dX4_residue_106 : decode cX4_residue 106 = .ok (.ladd, 1) := by decide +kernel
theorem dX4_residue_107 : decode cX4_residue 107 = .ok (.lload 4, 2) := by decide +kernel
theorem dX4_residue_109 : decode cX4_residue 109 = .ok (.ldc2_w 128, 3) := by decide +kernel
theorem dX4_residue_112 : decode cX4_residue 112 = .ok (.ladd, 1) := by decide +kernel
theorem dX4_residue_113 : decode cX4_residue 113 = .ok (.lcmp, 1) := by decide +kernel
theorem dX4_residue_114 : decode cX4_residue 114 = .ok (.ifCond .lt 10, 3) := by decide +kernel
theorem dX4_residue_117 : decode cX4_residue 117 = .ok (.lload 6, 2) := by decide +kernel
theorem dX4_residue_119 : decode cX4_residue 119 = .ok (.lload 4, 2) := by decide +kernel
theorem dX4_residue_121 : decode cX4_residue 121 = .ok (.lsub, 1) := by decide +kernel
theorem dX4_residue_122 : decode cX4_residue 122 = .ok (.lstore 6, 2) := by decide +kernel
theorem dX4_residue_124 : decode cX4_residue 124 = .ok (.iinc 8 (-1), 3) := by decide +kernel
theorem dX4_residue_127 : decode cX4_residue 127 = .ok (.goto (-62), 3) := by decide +kernel
theorem dX4_residue_130 : decode cX4_residue 130 = .ok (.aload_n 0, 1) := by decide +kernel
theorem dX4_residue_131 : decode cX4_residue 131 = .ok (.getfield 16, 3) := by decide +kernel
theorem dX4_residue_134 : decode cX4_residue 134 = .ok (.iload_n 1, 1) := by decide +kernel
theorem dX4_residue_135 : decode cX4_residue 135 = .ok (.baload, 1) := by decide +kernel
theorem dX4_residue_136 : decode cX4_residue 136 = .ok (.ifCond .eq 18, 3) := by decide +kernel
theorem dX4_residue_139 : decode cX4_residue 139 = .ok (.lload 6, 2) := by decide +kernel
theorem dX4_residue_141 : decode cX4_residue 141 = .ok (.lconst 0, 1) := by decide +kernel
theorem dX4_residue_142 : decode cX4_residue 142 = .ok (.lcmp, 1) := by decide +kernel
theorem dX4_residue_143 : decode cX4_residue 143 = .ok (.ifCond .eq 11, 3) := by decide +kernel
theorem dX4_residue_146 : decode cX4_residue 146 = .ok (.lload 4, 2) := by decide +kernel
theorem dX4_residue_148 : decode cX4_residue 148 = .ok (.lload 6, 2) := by decide +kernel
theorem dX4_residue_150 : decode cX4_residue 150 = .ok (.lsub, 1) := by decide +kernel
theorem dX4_residue_151 : decode cX4_residue 151 = .ok (.goto 5, 3) := by decide +kernel
theorem dX4_residue_154 : decode cX4_residue 154 = .ok (.lload 6, 2) := by decide +kernel
theorem dX4_residue_156 : decode cX4_residue 156 = .ok (.lreturn, 1) := by decide +kernel
theorem dX4_kept_0 : decode cX4_kept 0 = .ok (.aload_n 0, 1) := by decide +kernel
theorem dX4_kept_1 : decode cX4_kept 1 = .ok (.iconst 0, 1) := by decide +kernel
theorem dX4_kept_2 : decode cX4_kept 2 = .ok (.putfield 49, 3) := by decide +kernel
theorem dX4_kept_5 : decode cX4_kept 5 = .ok (.aload_n 0, 1) := by decide +kernel
theorem dX4_kept_6 : decode cX4_kept 6 = .ok (.getfield 53, 3) := by decide +kernel
theorem dX4_kept_9 : decode cX4_kept 9 = .ok (.ireturn, 1) := by decide +kernel
theorem dX4_entry_0 : decode cX4_entry 0 = .ok (.aload_n 0, 1) := by decide +kernel
theorem dX4_entry_1 : decode cX4_entry 1 = .ok (.iconst 0, 1) := by decide +kernel
theorem dX4_entry_2 : decode cX4_entry 2 = .ok (.putfield 49, 3) := by decide +kernel
theorem dX4_entry_5 : decode cX4_entry 5 = .ok (.iload_n 1, 1) := by decide +kernel
theorem dX4_entry_6 : decode cX4_entry 6 = .ok (.ifCond .lt 19, 3) := by decide +kernel
theorem dX4_entry_9 : decode cX4_entry 9 = .ok (.iload_n 1, 1) := by decide +kernel
theorem dX4_entry_10 : decode cX4_entry 10 = .ok (.bipush 12, 2) := by decide +kernel
theorem dX4_entry_12 : decode cX4_entry 12 = .ok (.if_icmp .ge 13, 3) := by decide +kernel
theorem dX4_entry_15 : decode cX4_entry 15 = .ok (.iload_n 2, 1) := by decide +kernel
theorem dX4_entry_16 : decode cX4_entry 16 = .ok (.ifCond .lt 9, 3) := by decide +kernel
theorem dX4_entry_19 : decode cX4_entry 19 = .ok (.iload_n 2, 1) := by decide +kernel
theorem dX4_entry_20 : decode cX4_entry 20 = .ok (.bipush 12, 2) := by decide +kernel
theorem dX4_entry_22 : decode cX4_entry 22 = .ok (.if_icmp .lt 5, 3) := by decide +kernel
theorem dX4_entry_25 : decode cX4_entry 25 = .ok (.iconst 0, 1) := by decide +kernel
theorem dX4_entry_26 : decode cX4_entry 26 = .ok (.ireturn, 1) := by decide +kernel
theorem dX4_entry_27 : decode cX4_entry 27 = .ok (.aload_n 0, 1) := by decide +kernel
theorem dX4_entry_28 : decode cX4_entry 28 = .ok (.getfield 20, 3) := by decide +kernel
theorem dX4_entry_31 : decode cX4_entry 31 = .ok (.bipush 12, 2) := by decide +kernel
theorem dX4_entry_33 : decode cX4_entry 33 = .ok (.iload_n 1, 1) := by decide +kernel
theorem dX4_entry_34 : decode cX4_entry 34 = .ok (.imul, 1) := by decide +kernel
theorem dX4_entry_35 : decode cX4_entry 35 = .ok (.iload_n 2, 1) := by decide +kernel
theorem dX4_entry_36 : decode cX4_entry 36 = .ok (.iadd, 1) := by decide +kernel
theorem dX4_entry_37 : decode cX4_entry 37 = .ok (.lload_n 3, 1) := by decide +kernel
theorem dX4_entry_38 : decode cX4_entry 38 = .ok (.lastore, 1) := by decide +kernel
theorem dX4_entry_39 : decode cX4_entry 39 = .ok (.iconst 1, 1) := by decide +kernel
theorem dX4_entry_40 : decode cX4_entry 40 = .ok (.ireturn, 1) := by decide +kernel
theorem dX4_bits_0 : decode cX4_bits 0 = .ok (.iconst 0, 1) := by decide +kernel
theorem dX4_bits_1 : decode cX4_bits 1 = .ok (.istore_n 1, 1) := by decide +kernel
theorem dX4_bits_2 : decode cX4_bits 2 = .ok (.iconst 0, 1) := by decide +kernel
theorem dX4_bits_3 : decode cX4_bits 3 = .ok (.istore_n 2, 1) := by decide +kernel
theorem dX4_bits_4 : decode cX4_bits 4 = .ok (.iload_n 2, 1) := by decide +kernel
theorem dX4_bits_5 : decode cX4_bits 5 = .ok (.bipush 12, 2) := by decide +kernel
theorem dX4_bits_7 : decode cX4_bits 7 = .ok (.if_icmp .ge 17, 3) := by decide +kernel
theorem dX4_bits_10 : decode cX4_bits 10 = .ok (.iload_n 1, 1) := by decide +kernel
theorem dX4_bits_11 : decode cX4_bits 11 = .ok (.iload_n 0, 1) := by decide +kernel
theorem dX4_bits_12 : decode cX4_bits 12 = .ok (.iload_n 2, 1) := by decide +kernel
theorem dX4_bits_13 : decode cX4_bits 13 = .ok (.ishr, 1) := by decide +kernel
theorem dX4_bits_14 : decode cX4_bits 14 = .ok (.iconst 1, 1) := by decide +kernel
theorem dX4_bits_15 : decode cX4_bits 15 = .ok (.iand, 1) := by decide +kernel
theorem dX4_bits_16 : decode cX4_bits 16 = .ok (.iadd, 1) := by decide +kernel
theorem dX4_bits_17 : decode cX4_bits 17 = .ok (.istore_n 1, 1) := by decide +kernel
theorem dX4_bits_18 : decode cX4_bits 18 = .ok (.iinc 2 1, 3) := by decide +kernel
theorem dX4_bits_21 : decode cX4_bits 21 = .ok (.goto (-17), 3) := by decide +kernel
theorem dX4_bits_24 : decode cX4_bits 24 = .ok (.iload_n 1, 1) := by decide +kernel
theorem dX4_bits_25 : decode cX4_bits 25 = .ok (.ireturn, 1) := by decide +kernel
theorem dX4_product_0 : decode cX4_product 0 = .ok (.iconst 0, 1) := by decide +kernel
theorem dX4_product_1 : decode cX4_product 1 = .ok (.istore 5, 2) := by decide +kernel
theorem dX4_product_3 : decode cX4_product 3 = .ok (.iload 5, 2) := by decide +kernel
theorem dX4_product_5 : decode cX4_product 5 = .ok (.bipush 60, 2) := by decide +kernel
theorem dX4_product_7 : decode cX4_product 7 = .ok (.if_icmp .ge 15, 3) := by decide +kernel
theorem dX4_product_10 : decode cX4_product 10 = .ok (.aload 4, 2) := by decide +kernel
theorem dX4_product_12 : decode cX4_product 12 = .ok (.iload 5, 2) := by decide +kernel
theorem dX4_product_14 : decode cX4_product 14 = .ok (.iconst 0, 1) := by decide +kernel
theorem dX4_product_15 : decode cX4_product 15 = .ok (.iastore, 1) := by decide +kernel
theorem dX4_product_16 : decode cX4_product 16 = .ok (.iinc 5 1, 3) := by decide +kernel
theorem dX4_product_19 : decode cX4_product 19 = .ok (.goto (-16), 3) := by decide +kernel
theorem dX4_product_22 : decode cX4_product 22 = .ok (.lload_n 1, 1) := by decide +kernel
theorem dX4_product_23 : decode cX4_product 23 = .ok (.lconst 0, 1) := by decide +kernel
theorem dX4_product_24 : decode cX4_product 24 = .ok (.lcmp, 1) := by decide +kernel
theorem dX4_product_25 : decode cX4_product 25 = .ok (.ifCond .ge 8, 3) := by decide +kernel
theorem dX4_product_28 : decode cX4_product 28 = .ok (.lload_n 1, 1) := by decide +kernel
theorem dX4_product_29 : decode cX4_product 29 = .ok (.lneg, 1) := by decide +kernel
theorem dX4_product_30 : decode cX4_product 30 = .ok (.goto 4, 3) := by decide +kernel
theorem dX4_product_33 : decode cX4_product 33 = .ok (.lload_n 1, 1) := by decide +kernel
theorem dX4_product_34 : decode cX4_product 34 = .ok (.lstore 5, 2) := by decide +kernel
theorem dX4_product_36 : decode cX4_product 36 = .ok (.iconst 0, 1) := by decide +kernel
theorem dX4_product_37 : decode cX4_product 37 = .ok (.istore 7, 2) := by decide +kernel
theorem dX4_product_39 : decode cX4_product 39 = .ok (.iload 7, 2) := by decide +kernel
theorem dX4_product_41 : decode cX4_product 41 = .ok (.iconst 4, 1) := by decide +kernel
theorem dX4_product_42 : decode cX4_product 42 = .ok (.if_icmp .ge 95, 3) := by decide +kernel
theorem dX4_product_45 : decode cX4_product 45 = .ok (.lload 5, 2) := by decide +kernel
theorem dX4_product_47 : decode cX4_product 47 = .ok (.bipush 16, 2) := by decide +kernel
theorem dX4_product_49 : decode cX4_product 49 = .ok (.iload 7, 2) := by decide +kernel
theorem dX4_product_51 : decode cX4_product 51 = .ok (.imul, 1) := by decide +kernel
theorem dX4_product_52 : decode cX4_product 52 = .ok (.lushr, 1) := by decide +kernel
theorem dX4_product_53 : decode cX4_product 53 = .ok (.ldc2_w 70, 3) := by decide +kernel
theorem dX4_product_56 : decode cX4_product 56 = .ok (.land, 1) := by decide +kernel
theorem dX4_product_57 : decode cX4_product 57 = .ok (.lstore 8, 2) := by decide +kernel
theorem dX4_product_59 : decode cX4_product 59 = .ok (.lconst 0, 1) := by decide +kernel
theorem dX4_product_60 : decode cX4_product 60 = .ok (.lstore 10, 2) := by decide +kernel
theorem dX4_product_62 : decode cX4_product 62 = .ok (.iconst 0, 1) := by decide +kernel
theorem dX4_product_63 : decode cX4_product 63 = .ok (.istore 12, 2) := by decide +kernel
theorem dX4_product_65 : decode cX4_product 65 = .ok (.iload 12, 2) := by decide +kernel
theorem dX4_product_67 : decode cX4_product 67 = .ok (.bipush 52, 2) := by decide +kernel
theorem dX4_product_69 : decode cX4_product 69 = .ok (.if_icmp .ge 62, 3) := by decide +kernel
theorem dX4_product_72 : decode cX4_product 72 = .ok (.lload 8, 2) := by decide +kernel
theorem dX4_product_74 : decode cX4_product 74 = .ok (.aload_n 0, 1) := by decide +kernel
theorem dX4_product_75 : decode cX4_product 75 = .ok (.getfield 34, 3) := by decide +kernel
theorem dX4_product_78 : decode cX4_product 78 = .ok (.bipush 52, 2) := by decide +kernel
theorem dX4_product_80 : decode cX4_product 80 = .ok (.iload_n 3, 1) := by decide +kernel
theorem dX4_product_81 : decode cX4_product 81 = .ok (.imul, 1) := by decide +kernel
theorem dX4_product_82 : decode cX4_product 82 = .ok (.iload 12, 2) := by decide +kernel
theorem dX4_product_84 : decode cX4_product 84 = .ok (.iadd, 1) := by decide +kernel
theorem dX4_product_85 : decode cX4_product 85 = .ok (.iaload, 1) := by decide +kernel
theorem dX4_product_86 : decode cX4_product 86 = .ok (.i2l, 1) := by decide +kernel
theorem dX4_product_87 : decode cX4_product 87 = .ok (.lmul, 1) := by decide +kernel
theorem dX4_product_88 : decode cX4_product 88 = .ok (.aload 4, 2) := by decide +kernel
theorem dX4_product_90 : decode cX4_product 90 = .ok (.iload 7, 2) := by decide +kernel
theorem dX4_product_92 : decode cX4_product 92 = .ok (.iload 12, 2) := by decide +kernel
theorem dX4_product_94 : decode cX4_product 94 = .ok (.iadd, 1) := by decide +kernel
theorem dX4_product_95 : decode cX4_product 95 = .ok (.iaload, 1) := by decide +kernel
theorem dX4_product_96 : decode cX4_product 96 = .ok (.i2l, 1) := by decide +kernel
theorem dX4_product_97 : decode cX4_product 97 = .ok (.ladd, 1) := by decide +kernel
theorem dX4_product_98 : decode cX4_product 98 = .ok (.lload 10, 2) := by decide +kernel
theorem dX4_product_100 : decode cX4_product 100 = .ok (.ladd, 1) := by decide +kernel
theorem dX4_product_101 : decode cX4_product 101 = .ok (.lstore 13, 2) := by decide +kernel
theorem dX4_product_103 : decode cX4_product 103 = .ok (.aload 4, 2) := by decide +kernel
theorem dX4_product_105 : decode cX4_product 105 = .ok (.iload 7, 2) := by decide +kernel
theorem dX4_product_107 : decode cX4_product 107 = .ok (.iload 12, 2) := by decide +kernel
theorem dX4_product_109 : decode cX4_product 109 = .ok (.iadd, 1) := by decide +kernel
theorem dX4_product_110 : decode cX4_product 110 = .ok (.lload 13, 2) := by decide +kernel
theorem dX4_product_112 : decode cX4_product 112 = .ok (.ldc2_w 70, 3) := by decide +kernel
theorem dX4_product_115 : decode cX4_product 115 = .ok (.land, 1) := by decide +kernel
theorem dX4_product_116 : decode cX4_product 116 = .ok (.l2i, 1) := by decide +kernel
theorem dX4_product_117 : decode cX4_product 117 = .ok (.iastore, 1) := by decide +kernel
theorem dX4_product_118 : decode cX4_product 118 = .ok (.lload 13, 2) := by decide +kernel
theorem dX4_product_120 : decode cX4_product 120 = .ok (.bipush 16, 2) := by decide +kernel
theorem dX4_product_122 : decode cX4_product 122 = .ok (.lshr, 1) := by decide +kernel
theorem dX4_product_123 : decode cX4_product 123 = .ok (.lstore 10, 2) := by decide +kernel
theorem dX4_product_125 : decode cX4_product 125 = .ok (.iinc 12 1, 3) := by decide +kernel
theorem dX4_product_128 : decode cX4_product 128 = .ok (.goto (-63), 3) := by decide +kernel
theorem dX4_product_131 : decode cX4_product 131 = .ok (.iinc 7 1, 3) := by decide +kernel
theorem dX4_product_134 : decode cX4_product 134 = .ok (.goto (-95), 3) := by decide +kernel
theorem dX4_product_137 : decode cX4_product 137 = .ok (.return_, 1) := by decide +kernel
theorem dX4_addTo_0 : decode cX4_addTo 0 = .ok (.iconst 0, 1) := by decide +kernel
theorem dX4_addTo_1 : decode cX4_addTo 1 = .ok (.istore_n 3, 1) := by decide +kernel
theorem dX4_addTo_2 : decode cX4_addTo 2 = .ok (.iconst 0, 1) := by decide +kernel
theorem dX4_addTo_3 : decode cX4_addTo 3 = .ok (.istore 4, 2) := by decide +kernel
theorem dX4_addTo_5 : decode cX4_addTo 5 = .ok (.iload 4, 2) := by decide +kernel
theorem dX4_addTo_7 : decode cX4_addTo 7 = .ok (.bipush 60, 2) := by decide +kernel
theorem dX4_addTo_9 : decode cX4_addTo 9 = .ok (.if_icmp .ge 37, 3) := by decide +kernel
theorem dX4_addTo_12 : decode cX4_addTo 12 = .ok (.aload_n 1, 1) := by decide +kernel
theorem dX4_addTo_13 : decode cX4_addTo 13 = .ok (.iload 4, 2) := by decide +kernel
theorem dX4_addTo_15 : decode cX4_addTo 15 = .ok (.iaload, 1) := by decide +kernel
theorem dX4_addTo_16 : decode cX4_addTo 16 = .ok (.aload_n 2, 1) := by decide +kernel
theorem dX4_addTo_17 : decode cX4_addTo 17 = .ok (.iload 4, 2) := by decide +kernel
theorem dX4_addTo_19 : decode cX4_addTo 19 = .ok (.iaload, 1) := by decide +kernel
theorem dX4_addTo_20 : decode cX4_addTo 20 = .ok (.iadd, 1) := by decide +kernel
theorem dX4_addTo_21 : decode cX4_addTo 21 = .ok (.iload_n 3, 1) := by decide +kernel
theorem dX4_addTo_22 : decode cX4_addTo 22 = .ok (.iadd, 1) := by decide +kernel
theorem dX4_addTo_23 : decode cX4_addTo 23 = .ok (.istore 5, 2) := by decide +kernel
theorem dX4_addTo_25 : decode cX4_addTo 25 = .ok (.aload_n 1, 1) := by decide +kernel
theorem dX4_addTo_26 : decode cX4_addTo 26 = .ok (.iload 4, 2) := by decide +kernel
theorem dX4_addTo_28 : decode cX4_addTo 28 = .ok (.iload 5, 2) := by decide +kernel
theorem dX4_addTo_30 : decode cX4_addTo 30 = .ok (.ldc 80, 2) := by decide +kernel
theorem dX4_addTo_32 : decode cX4_addTo 32 = .ok (.iand, 1) := by decide +kernel
theorem dX4_addTo_33 : decode cX4_addTo 33 = .ok (.iastore, 1) := by decide +kernel
theorem dX4_addTo_34 : decode cX4_addTo 34 = .ok (.iload 5, 2) := by decide +kernel
theorem dX4_addTo_36 : decode cX4_addTo 36 = .ok (.bipush 16, 2) := by decide +kernel
theorem dX4_addTo_38 : decode cX4_addTo 38 = .ok (.ishr, 1) := by decide +kernel
theorem dX4_addTo_39 : decode cX4_addTo 39 = .ok (.istore_n 3, 1) := by decide +kernel
theorem dX4_addTo_40 : decode cX4_addTo 40 = .ok (.iinc 4 1, 3) := by decide +kernel
theorem dX4_addTo_43 : decode cX4_addTo 43 = .ok (.goto (-38), 3) := by decide +kernel
theorem dX4_addTo_46 : decode cX4_addTo 46 = .ok (.return_, 1) := by decide +kernel
theorem dX4_minorOf_0 : decode cX4_minorOf 0 = .ok (.iload_n 1, 1) := by decide +kernel
theorem dX4_minorOf_1 : decode cX4_minorOf 1 = .ok (.invokestatic 130, 3) := by decide +kernel
theorem dX4_minorOf_4 : decode cX4_minorOf 4 = .ok (.iconst 1, 1) := by decide +kernel
theorem dX4_minorOf_5 : decode cX4_minorOf 5 = .ok (.isub, 1) := by decide +kernel
theorem dX4_minorOf_6 : decode cX4_minorOf 6 = .ok (.istore_n 2, 1) := by decide +kernel
theorem dX4_minorOf_7 : decode cX4_minorOf 7 = .ok (.iconst 0, 1) := by decide +kernel
theorem dX4_minorOf_8 : decode cX4_minorOf 8 = .ok (.istore_n 3, 1) := by decide +kernel
theorem dX4_minorOf_9 : decode cX4_minorOf 9 = .ok (.iload_n 3, 1) := by decide +kernel
theorem dX4_minorOf_10 : decode cX4_minorOf 10 = .ok (.bipush 60, 2) := by decide +kernel
theorem dX4_minorOf_12 : decode cX4_minorOf 12 = .ok (.if_icmp .ge 23, 3) := by decide +kernel
theorem dX4_minorOf_15 : decode cX4_minorOf 15 = .ok (.aload_n 0, 1) := by decide +kernel
theorem dX4_minorOf_16 : decode cX4_minorOf 16 = .ok (.getfield 43, 3) := by decide +kernel
theorem dX4_minorOf_19 : decode cX4_minorOf 19 = .ok (.iload_n 3, 1) := by decide +kernel
theorem dX4_minorOf_20 : decode cX4_minorOf 20 = .ok (.iconst 0, 1) := by decide +kernel
theorem dX4_minorOf_21 : decode cX4_minorOf 21 = .ok (.iastore, 1) := by decide +kernel
theorem dX4_minorOf_22 : decode cX4_minorOf 22 = .ok (.aload_n 0, 1) := by decide +kernel
theorem dX4_minorOf_23 : decode cX4_minorOf 23 = .ok (.getfield 46, 3) := by decide +kernel
theorem dX4_minorOf_26 : decode cX4_minorOf 26 = .ok (.iload_n 3, 1) := by decide +kernel
theorem dX4_minorOf_27 : decode cX4_minorOf 27 = .ok (.iconst 0, 1) := by decide +kernel
theorem dX4_minorOf_28 : decode cX4_minorOf 28 = .ok (.iastore, 1) := by decide +kernel
theorem dX4_minorOf_29 : decode cX4_minorOf 29 = .ok (.iinc 3 1, 3) := by decide +kernel
theorem dX4_minorOf_32 : decode cX4_minorOf 32 = .ok (.goto (-23), 3) := by decide +kernel
theorem dX4_minorOf_35 : decode cX4_minorOf 35 = .ok (.iconst 0, 1) := by decide +kernel
theorem dX4_minorOf_36 : decode cX4_minorOf 36 = .ok (.istore_n 3, 1) := by decide +kernel
theorem dX4_minorOf_37 : decode cX4_minorOf 37 = .ok (.iconst 0, 1) := by decide +kernel
theorem dX4_minorOf_38 : decode cX4_minorOf 38 = .ok (.istore 4, 2) := by decide +kernel
theorem dX4_minorOf_40 : decode cX4_minorOf 40 = .ok (.iload 4, 2) := by decide +kernel
theorem dX4_minorOf_42 : decode cX4_minorOf 42 = .ok (.bipush 12, 2) := by decide +kernel
theorem dX4_minorOf_44 : decode cX4_minorOf 44 = .ok (.if_icmp .ge 135, 3) := by decide +kernel
theorem dX4_minorOf_47 : decode cX4_minorOf 47 = .ok (.iload_n 1, 1) := by decide +kernel
theorem dX4_minorOf_48 : decode cX4_minorOf 48 = .ok (.iload 4, 2) := by decide +kernel
theorem dX4_minorOf_50 : decode cX4_minorOf 50 = .ok (.ishr, 1) := by decide +kernel
theorem dX4_minorOf_51 : decode cX4_minorOf 51 = .ok (.iconst 1, 1) := by decide +kernel
theorem dX4_minorOf_52 : decode cX4_minorOf 52 = .ok (.iand, 1) := by decide +kernel
theorem dX4_minorOf_53 : decode cX4_minorOf 53 = .ok (.ifCond .ne 6, 3) := by decide +kernel
theorem dX4_minorOf_56 : decode cX4_minorOf 56 = .ok (.goto 117, 3) := by decide +kernel
theorem dX4_minorOf_59 : decode cX4_minorOf 59 = .ok (.iload_n 1, 1) := by decide +kernel
theorem dX4_minorOf_60 : decode cX4_minorOf 60 = .ok (.iconst 1, 1) := by decide +kernel
theorem dX4_minorOf_61 : decode cX4_minorOf 61 = .ok (.iload 4, 2) := by decide +kernel
theorem dX4_minorOf_63 : decode cX4_minorOf 63 = .ok (.ishl, 1) := by decide +kernel
theorem dX4_minorOf_64 : decode cX4_minorOf 64 = .ok (.iconst (-1), 1) := by decide +kernel
theorem dX4_minorOf_65 : decode cX4_minorOf 65 = .ok (.ixor, 1) := by decide +kernel
theorem dX4_minorOf_66 : decode cX4_minorOf 66 = .ok (.iand, 1) := by decide +kernel
theorem dX4_minorOf_67 : decode cX4_minorOf 67 = .ok (.istore 5, 2) := by decide +kernel
theorem dX4_minorOf_69 : decode cX4_minorOf 69 = .ok (.aload_n 0, 1) := by decide +kernel
theorem dX4_minorOf_70 : decode cX4_minorOf 70 = .ok (.getfield 20, 3) := by decide +kernel
theorem dX4_minorOf_73 : decode cX4_minorOf 73 = .ok (.bipush 12, 2) := by decide +kernel
theorem dX4_minorOf_75 : decode cX4_minorOf 75 = .ok (.iload_n 2, 1) := by decide +kernel
theorem dX4_minorOf_76 : decode cX4_minorOf 76 = .ok (.imul, 1) := by decide +kernel
theorem dX4_minorOf_77 : decode cX4_minorOf 77 = .ok (.iload 4, 2) := by decide +kernel
theorem dX4_minorOf_79 : decode cX4_minorOf 79 = .ok (.iadd, 1) := by decide +kernel
theorem dX4_minorOf_80 : decode cX4_minorOf 80 = .ok (.laload, 1) := by decide +kernel
theorem dX4_minorOf_81 : decode cX4_minorOf 81 = .ok (.lstore 6, 2) := by decide +kernel
theorem dX4_minorOf_83 : decode cX4_minorOf 83 = .ok (.aload_n 0, 1) := by decide +kernel
theorem dX4_minorOf_84 : decode cX4_minorOf 84 = .ok (.lload 6, 2) := by decide +kernel
theorem dX4_minorOf_86 : decode cX4_minorOf 86 = .ok (.iload 5, 2) := by decide +kernel
theorem dX4_minorOf_88 : decode cX4_minorOf 88 = .ok (.aload_n 0, 1) := by decide +kernel
theorem dX4_minorOf_89 : decode cX4_minorOf 89 = .ok (.getfield 40, 3) := by decide +kernel
theorem dX4_minorOf_92 : decode cX4_minorOf 92 = .ok (.invokevirtual 133, 3) := by decide +kernel
theorem dX4_minorOf_95 : decode cX4_minorOf 95 = .ok (.lload 6, 2) := by decide +kernel
theorem dX4_minorOf_97 : decode cX4_minorOf 97 = .ok (.lconst 0, 1) := by decide +kernel
theorem dX4_minorOf_98 : decode cX4_minorOf 98 = .ok (.lcmp, 1) := by decide +kernel
theorem dX4_minorOf_99 : decode cX4_minorOf 99 = .ok (.ifCond .ge 7, 3) := by decide +kernel
theorem dX4_minorOf_102 : decode cX4_minorOf 102 = .ok (.iconst 1, 1) := by decide +kernel
theorem dX4_minorOf_103 : decode cX4_minorOf 103 = .ok (.goto 4, 3) := by decide +kernel
theorem dX4_minorOf_106 : decode cX4_minorOf 106 = .ok (.iconst 0, 1) := by decide +kernel
theorem dX4_minorOf_107 : decode cX4_minorOf 107 = .ok (.aload_n 0, 1) := by decide +kernel
theorem dX4_minorOf_108 : decode cX4_minorOf 108 = .ok (.getfield 37, 3) := by decide +kernel
theorem dX4_minorOf_111 : decode cX4_minorOf 111 = .ok (.iload 5, 2) := by decide +kernel
theorem dX4_minorOf_113 : decode cX4_minorOf 113 = .ok (.baload, 1) := by decide +kernel
theorem dX4_minorOf_114 : decode cX4_minorOf 114 = .ok (.if_icmp .eq 7, 3) := by decide +kernel
theorem dX4_minorOf_117 : decode cX4_minorOf 117 = .ok (.iconst 1, 1) := by decide +kernel
theorem dX4_minorOf_118 : decode cX4_minorOf 118 = .ok (.goto 4, 3) := by decide +kernel
theorem dX4_minorOf_121 : decode cX4_minorOf 121 = .ok (.iconst 0, 1) := by decide +kernel
theorem dX4_minorOf_122 : decode cX4_minorOf 122 = .ok (.iload_n 2, 1) := by decide +kernel
theorem dX4_minorOf_123 : decode cX4_minorOf 123 = .ok (.iload_n 3, 1) := by decide +kernel
theorem dX4_minorOf_124 : decode cX4_minorOf 124 = .ok (.isub, 1) := by decide +kernel
theorem dX4_minorOf_125 : decode cX4_minorOf 125 = .ok (.iconst 2, 1) := by decide +kernel
theorem dX4_minorOf_126 : decode cX4_minorOf 126 = .ok (.irem, 1) := by decide +kernel
theorem dX4_minorOf_127 : decode cX4_minorOf 127 = .ok (.iconst 1, 1) := by decide +kernel
theorem dX4_minorOf_128 : decode cX4_minorOf 128 = .ok (.if_icmp .ne 7, 3) := by decide +kernel
theorem dX4_minorOf_131 : decode cX4_minorOf 131 = .ok (.iconst 1, 1) := by decide +kernel
theorem dX4_minorOf_132 : decode cX4_minorOf 132 = .ok (.goto 4, 3) := by decide +kernel
theorem dX4_minorOf_135 : decode cX4_minorOf 135 = .ok (.iconst 0, 1) := by decide +kernel
theorem dX4_minorOf_136 : decode cX4_minorOf 136 = .ok (.if_icmp .eq 7, 3) := by decide +kernel
theorem dX4_minorOf_139 : decode cX4_minorOf 139 = .ok (.iconst 1, 1) := by decide +kernel
theorem dX4_minorOf_140 : decode cX4_minorOf 140 = .ok (.goto 4, 3) := by decide +kernel
theorem dX4_minorOf_143 : decode cX4_minorOf 143 = .ok (.iconst 0, 1) := by decide +kernel
theorem dX4_minorOf_144 : decode cX4_minorOf 144 = .ok (.istore 8, 2) := by decide +kernel
theorem dX4_minorOf_146 : decode cX4_minorOf 146 = .ok (.aload_n 0, 1) := by decide +kernel
theorem dX4_minorOf_147 : decode cX4_minorOf 147 = .ok (.iload 8, 2) := by decide +kernel
theorem dX4_minorOf_149 : decode cX4_minorOf 149 = .ok (.ifCond .eq 10, 3) := by decide +kernel
theorem dX4_minorOf_152 : decode cX4_minorOf 152 = .ok (.aload_n 0, 1) := by decide +kernel
theorem dX4_minorOf_153 : decode cX4_minorOf 153 = .ok (.getfield 46, 3) := by decide +kernel
theorem dX4_minorOf_156 : decode cX4_minorOf 156 = .ok (.goto 7, 3) := by decide +kernel
theorem dX4_minorOf_159 : decode cX4_minorOf 159 = .ok (.aload_n 0, 1) := by decide +kernel
theorem dX4_minorOf_160 : decode cX4_minorOf 160 = .ok (.getfield 43, 3) := by decide +kernel
theorem dX4_minorOf_163 : decode cX4_minorOf 163 = .ok (.aload_n 0, 1) := by decide +kernel
theorem dX4_minorOf_164 : decode cX4_minorOf 164 = .ok (.getfield 40, 3) := by decide +kernel
theorem dX4_minorOf_167 : decode cX4_minorOf 167 = .ok (.invokevirtual 137, 3) := by decide +kernel
theorem dX4_minorOf_170 : decode cX4_minorOf 170 = .ok (.iinc 3 1, 3) := by decide +kernel
theorem dX4_minorOf_173 : decode cX4_minorOf 173 = .ok (.iinc 4 1, 3) := by decide +kernel
theorem dX4_minorOf_176 : decode cX4_minorOf 176 = .ok (.goto (-136), 3) := by decide +kernel
theorem dX4_minorOf_179 : decode cX4_minorOf 179 = .ok (.bipush 59, 2) := by decide +kernel
theorem dX4_minorOf_181 : decode cX4_minorOf 181 = .ok (.istore 4, 2) := by decide +kernel
theorem dX4_minorOf_183 : decode cX4_minorOf 183 = .ok (.iload 4, 2) := by decide +kernel
theorem dX4_minorOf_185 : decode cX4_minorOf 185 = .ok (.ifCond .lt 26, 3) := by decide +kernel
theorem dX4_minorOf_188 : decode cX4_minorOf 188 = .ok (.aload_n 0, 1) := by decide +kernel
theorem dX4_minorOf_189 : decode cX4_minorOf 189 = .ok (.getfield 43, 3) := by decide +kernel
theorem dX4_minorOf_192 : decode cX4_minorOf 192 = .ok (.iload 4, 2) := by decide +kernel
theorem dX4_minorOf_194 : decode cX4_minorOf 194 = .ok (.iaload, 1) := by decide +kernel
theorem dX4_minorOf_195 : decode cX4_minorOf 195 = .ok (.aload_n 0, 1) := by decide +kernel
theorem dX4_minorOf_196 : decode cX4_minorOf 196 = .ok (.getfield 46, 3) := by decide +kernel
theorem dX4_minorOf_199 : decode cX4_minorOf 199 = .ok (.iload 4, 2) := by decide +kernel
theorem dX4_minorOf_201 : decode cX4_minorOf 201 = .ok (.iaload, 1) := by decide +kernel
theorem dX4_minorOf_202 : decode cX4_minorOf 202 = .ok (.if_icmp .ne 9, 3) := by decide +kernel
theorem dX4_minorOf_205 : decode cX4_minorOf 205 = .ok (.iinc 4 (-1), 3) := by decide +kernel
theorem dX4_minorOf_208 : decode cX4_minorOf 208 = .ok (.goto (-25), 3) := by decide +kernel
theorem dX4_minorOf_211 : decode cX4_minorOf 211 = .ok (.aload_n 0, 1) := by decide +kernel
theorem dX4_minorOf_212 : decode cX4_minorOf 212 = .ok (.getfield 37, 3) := by decide +kernel
theorem dX4_minorOf_215 : decode cX4_minorOf 215 = .ok (.iload_n 1, 1) := by decide +kernel
theorem dX4_minorOf_216 : decode cX4_minorOf 216 = .ok (.iload 4, 2) := by decide +kernel
theorem dX4_minorOf_218 : decode cX4_minorOf 218 = .ok (.ifCond .lt 24, 3) := by decide +kernel
theorem dX4_minorOf_221 : decode cX4_minorOf 221 = .ok (.aload_n 0, 1) := by decide +kernel
theorem dX4_minorOf_222 : decode cX4_minorOf 222 = .ok (.getfield 43, 3) := by decide +kernel
theorem dX4_minorOf_225 : decode cX4_minorOf 225 = .ok (.iload 4, 2) := by decide +kernel
theorem dX4_minorOf_227 : decode cX4_minorOf 227 = .ok (.iaload, 1) := by decide +kernel
theorem dX4_minorOf_228 : decode cX4_minorOf 228 = .ok (.aload_n 0, 1) := by decide +kernel
theorem dX4_minorOf_229 : decode cX4_minorOf 229 = .ok (.getfield 46, 3) := by decide +kernel
theorem dX4_minorOf_232 : decode cX4_minorOf 232 = .ok (.iload 4, 2) := by decide +kernel
theorem dX4_minorOf_234 : decode cX4_minorOf 234 = .ok (.iaload, 1) := by decide +kernel
theorem dX4_minorOf_235 : decode cX4_minorOf 235 = .ok (.if_icmp .ge 7, 3) := by decide +kernel
theorem dX4_minorOf_238 : decode cX4_minorOf 238 = .ok (.iconst 1, 1) := by decide +kernel
theorem dX4_minorOf_239 : decode cX4_minorOf 239 = .ok (.goto 4, 3) := by decide +kernel
theorem dX4_minorOf_242 : decode cX4_minorOf 242 = .ok (.iconst 0, 1) := by decide +kernel
theorem dX4_minorOf_243 : decode cX4_minorOf 243 = .ok (.bastore, 1) := by decide +kernel
theorem dX4_minorOf_244 : decode cX4_minorOf 244 = .ok (.iconst 0, 1) := by decide +kernel
theorem dX4_minorOf_245 : decode cX4_minorOf 245 = .ok (.istore 5, 2) := by decide +kernel
theorem dX4_minorOf_247 : decode cX4_minorOf 247 = .ok (.iconst 0, 1) := by decide +kernel
theorem dX4_minorOf_248 : decode cX4_minorOf 248 = .ok (.istore 6, 2) := by decide +kernel
theorem dX4_minorOf_250 : decode cX4_minorOf 250 = .ok (.iload 6, 2) := by decide +kernel
theorem dX4_minorOf_252 : decode cX4_minorOf 252 = .ok (.bipush 52, 2) := by decide +kernel
theorem dX4_minorOf_254 : decode cX4_minorOf 254 = .ok (.if_icmp .ge 85, 3) := by decide +kernel
theorem dX4_minorOf_257 : decode cX4_minorOf 257 = .ok (.aload_n 0, 1) := by decide +kernel
theorem dX4_minorOf_258 : decode cX4_minorOf 258 = .ok (.getfield 37, 3) := by decide +kernel
theorem dX4_minorOf_261 : decode cX4_minorOf 261 = .ok (.iload_n 1, 1) := by decide +kernel
theorem dX4_minorOf_262 : decode cX4_minorOf 262 = .ok (.baload, 1) := by decide +kernel
theorem dX4_minorOf_263 : decode cX4_minorOf 263 = .ok (.ifCond .eq 21, 3) := by decide +kernel
theorem dX4_minorOf_266 : decode cX4_minorOf 266 = .ok (.aload_n 0, 1) := by decide +kernel
theorem dX4_minorOf_267 : decode cX4_minorOf 267 = .ok (.getfield 46, 3) := by decide +kernel
theorem dX4_minorOf_270 : decode cX4_minorOf 270 = .ok (.iload 6, 2) := by decide +kernel
theorem dX4_minorOf_272 : decode cX4_minorOf 272 = .ok (.iaload, 1) := by decide +kernel
theorem dX4_minorOf_273 : decode cX4_minorOf 273 = .ok (.aload_n 0, 1) := by decide +kernel
theorem dX4_minorOf_274 : decode cX4_minorOf 274 = .ok (.getfield 43, 3) := by decide +kernel
theorem dX4_minorOf_277 : decode cX4_minorOf 277 = .ok (.iload 6, 2) := by decide +kernel
theorem dX4_minorOf_279 : decode cX4_minorOf 279 = .ok (.iaload, 1) := by decide +kernel
theorem dX4_minorOf_280 : decode cX4_minorOf 280 = .ok (.isub, 1) := by decide +kernel
theorem dX4_minorOf_281 : decode cX4_minorOf 281 = .ok (.goto 18, 3) := by decide +kernel
theorem dX4_minorOf_284 : decode cX4_minorOf 284 = .ok (.aload_n 0, 1) := by decide +kernel
theorem dX4_minorOf_285 : decode cX4_minorOf 285 = .ok (.getfield 43, 3) := by decide +kernel
theorem dX4_minorOf_288 : decode cX4_minorOf 288 = .ok (.iload 6, 2) := by decide +kernel
theorem dX4_minorOf_290 : decode cX4_minorOf 290 = .ok (.iaload, 1) := by decide +kernel
theorem dX4_minorOf_291 : decode cX4_minorOf 291 = .ok (.aload_n 0, 1) := by decide +kernel
theorem dX4_minorOf_292 : decode cX4_minorOf 292 = .ok (.getfield 46, 3) := by decide +kernel
theorem dX4_minorOf_295 : decode cX4_minorOf 295 = .ok (.iload 6, 2) := by decide +kernel
theorem dX4_minorOf_297 : decode cX4_minorOf 297 = .ok (.iaload, 1) := by decide +kernel
theorem dX4_minorOf_298 : decode cX4_minorOf 298 = .ok (.isub, 1) := by decide +kernel
theorem dX4_minorOf_299 : decode cX4_minorOf 299 = .ok (.iload 5, 2) := by decide +kernel
theorem dX4_minorOf_301 : decode cX4_minorOf 301 = .ok (.isub, 1) := by decide +kernel
theorem dX4_minorOf_302 : decode cX4_minorOf 302 = .ok (.istore 7, 2) := by decide +kernel
theorem dX4_minorOf_304 : decode cX4_minorOf 304 = .ok (.aload_n 0, 1) := by decide +kernel
theorem dX4_minorOf_305 : decode cX4_minorOf 305 = .ok (.getfield 34, 3) := by decide +kernel
theorem dX4_minorOf_308 : decode cX4_minorOf 308 = .ok (.bipush 52, 2) := by decide +kernel
theorem dX4_minorOf_310 : decode cX4_minorOf 310 = .ok (.iload_n 1, 1) := by decide +kernel
theorem dX4_minorOf_311 : decode cX4_minorOf 311 = .ok (.imul, 1) := by decide +kernel
theorem dX4_minorOf_312 : decode cX4_minorOf 312 = .ok (.iload 6, 2) := by decide +kernel
theorem dX4_minorOf_314 : decode cX4_minorOf 314 = .ok (.iadd, 1) := by decide +kernel
theorem dX4_minorOf_315 : decode cX4_minorOf 315 = .ok (.iload 7, 2) := by decide +kernel
theorem dX4_minorOf_317 : decode cX4_minorOf 317 = .ok (.ldc 80, 2) := by decide +kernel
theorem dX4_minorOf_319 : decode cX4_minorOf 319 = .ok (.iand, 1) := by decide +kernel
theorem dX4_minorOf_320 : decode cX4_minorOf 320 = .ok (.iastore, 1) := by decide +kernel
theorem dX4_minorOf_321 : decode cX4_minorOf 321 = .ok (.iload 7, 2) := by decide +kernel
theorem dX4_minorOf_323 : decode cX4_minorOf 323 = .ok (.ifCond .ge 7, 3) := by decide +kernel
theorem dX4_minorOf_326 : decode cX4_minorOf 326 = .ok (.iconst 1, 1) := by decide +kernel
theorem dX4_minorOf_327 : decode cX4_minorOf 327 = .ok (.goto 4, 3) := by decide +kernel
theorem dX4_minorOf_330 : decode cX4_minorOf 330 = .ok (.iconst 0, 1) := by decide +kernel
theorem dX4_minorOf_331 : decode cX4_minorOf 331 = .ok (.istore 5, 2) := by decide +kernel
theorem dX4_minorOf_333 : decode cX4_minorOf 333 = .ok (.iinc 6 1, 3) := by decide +kernel
theorem dX4_minorOf_336 : decode cX4_minorOf 336 = .ok (.goto (-86), 3) := by decide +kernel
theorem dX4_minorOf_339 : decode cX4_minorOf 339 = .ok (.return_, 1) := by decide +kernel
theorem dX4_determinant_0 : decode cX4_determinant 0 = .ok (.aload_n 0, 1) := by decide +kernel
theorem dX4_determinant_1 : decode cX4_determinant 1 = .ok (.iconst 0, 1) := by decide +kernel
theorem dX4_determinant_2 : decode cX4_determinant 2 = .ok (.putfield 49, 3) := by decide +kernel
theorem dX4_determinant_5 : decode cX4_determinant 5 = .ok (.iload_n 1, 1) := by decide +kernel
theorem dX4_determinant_6 : decode cX4_determinant 6 = .ok (.ifCond .lt 9, 3) := by decide +kernel
theorem dX4_determinant_9 : decode cX4_determinant 9 = .ok (.iload_n 1, 1) := by decide +kernel
theorem dX4_determinant_10 : decode cX4_determinant 10 = .ok (.bipush 12, 2) := by decide +kernel
theorem dX4_determinant_12 : decode cX4_determinant 12 = .ok (.if_icmp .le 5, 3) := by decide +kernel
theorem dX4_determinant_15 : decode cX4_determinant 15 = .ok (.iconst (-1), 1) := by decide +kernel
theorem dX4_determinant_16 : decode cX4_determinant 16 = .ok (.ireturn, 1) := by decide +kernel
theorem dX4_determinant_17 : decode cX4_determinant 17 = .ok (.iconst 0, 1) := by decide +kernel
theorem dX4_determinant_18 : decode cX4_determinant 18 = .ok (.istore_n 2, 1) := by decide +kernel
theorem dX4_determinant_19 : decode cX4_determinant 19 = .ok (.iload_n 2, 1) := by decide +kernel
theorem dX4_determinant_20 : decode cX4_determinant 20 = .ok (.bipush 52, 2) := by decide +kernel
theorem dX4_determinant_22 : decode cX4_determinant 22 = .ok (.if_icmp .ge 24, 3) := by decide +kernel
theorem dX4_determinant_25 : decode cX4_determinant 25 = .ok (.aload_n 0, 1) := by decide +kernel
theorem dX4_determinant_26 : decode cX4_determinant 26 = .ok (.getfield 34, 3) := by decide +kernel
theorem dX4_determinant_29 : decode cX4_determinant 29 = .ok (.iload_n 2, 1) := by decide +kernel
theorem dX4_determinant_30 : decode cX4_determinant 30 = .ok (.iload_n 2, 1) := by decide +kernel
theorem dX4_determinant_31 : decode cX4_determinant 31 = .ok (.ifCond .ne 7, 3) := by decide +kernel
theorem dX4_determinant_34 : decode cX4_determinant 34 = .ok (.iconst 1, 1) := by decide +kernel
theorem dX4_determinant_35 : decode cX4_determinant 35 = .ok (.goto 4, 3) := by decide +kernel
theorem dX4_determinant_38 : decode cX4_determinant 38 = .ok (.iconst 0, 1) := by decide +kernel
theorem dX4_determinant_39 : decode cX4_determinant 39 = .ok (.iastore, 1) := by decide +kernel
theorem dX4_determinant_40 : decode cX4_determinant 40 = .ok (.iinc 2 1, 3) := by decide +kernel
theorem dX4_determinant_43 : decode cX4_determinant 43 = .ok (.goto (-24), 3) := by decide +kernel
theorem dX4_determinant_46 : decode cX4_determinant 46 = .ok (.aload_n 0, 1) := by decide +kernel
theorem dX4_determinant_47 : decode cX4_determinant 47 = .ok (.getfield 37, 3) := by decide +kernel
theorem dX4_determinant_50 : decode cX4_determinant 50 = .ok (.iconst 0, 1) := by decide +kernel
theorem dX4_determinant_51 : decode cX4_determinant 51 = .ok (.iconst 0, 1) := by decide +kernel
theorem dX4_determinant_52 : decode cX4_determinant 52 = .ok (.bastore, 1) := by decide +kernel
theorem dX4_determinant_53 : decode cX4_determinant 53 = .ok (.iconst 1, 1) := by decide +kernel
theorem dX4_determinant_54 : decode cX4_determinant 54 = .ok (.istore_n 2, 1) := by decide +kernel
theorem dX4_determinant_55 : decode cX4_determinant 55 = .ok (.iload_n 2, 1) := by decide +kernel
theorem dX4_determinant_56 : decode cX4_determinant 56 = .ok (.iconst 1, 1) := by decide +kernel
theorem dX4_determinant_57 : decode cX4_determinant 57 = .ok (.iload_n 1, 1) := by decide +kernel
theorem dX4_determinant_58 : decode cX4_determinant 58 = .ok (.ishl, 1) := by decide +kernel
theorem dX4_determinant_59 : decode cX4_determinant 59 = .ok (.if_icmp .ge 14, 3) := by decide +kernel
theorem dX4_determinant_62 : decode cX4_determinant 62 = .ok (.aload_n 0, 1) := by decide +kernel
theorem dX4_determinant_63 : decode cX4_determinant 63 = .ok (.iload_n 2, 1) := by decide +kernel
theorem dX4_determinant_64 : decode cX4_determinant 64 = .ok (.invokevirtual 141, 3) := by decide +kernel
theorem dX4_determinant_67 : decode cX4_determinant 67 = .ok (.iinc 2 1, 3) := by decide +kernel
theorem dX4_determinant_70 : decode cX4_determinant 70 = .ok (.goto (-15), 3) := by decide +kernel
theorem dX4_determinant_73 : decode cX4_determinant 73 = .ok (.iconst 1, 1) := by decide +kernel
theorem dX4_determinant_74 : decode cX4_determinant 74 = .ok (.iload_n 1, 1) := by decide +kernel
theorem dX4_determinant_75 : decode cX4_determinant 75 = .ok (.ishl, 1) := by decide +kernel
theorem dX4_determinant_76 : decode cX4_determinant 76 = .ok (.iconst 1, 1) := by decide +kernel
theorem dX4_determinant_77 : decode cX4_determinant 77 = .ok (.isub, 1) := by decide +kernel
theorem dX4_determinant_78 : decode cX4_determinant 78 = .ok (.istore_n 2, 1) := by decide +kernel
theorem dX4_determinant_79 : decode cX4_determinant 79 = .ok (.aload_n 0, 1) := by decide +kernel
theorem dX4_determinant_80 : decode cX4_determinant 80 = .ok (.aload_n 0, 1) := by decide +kernel
theorem dX4_determinant_81 : decode cX4_determinant 81 = .ok (.getfield 24, 3) := by decide +kernel
theorem dX4_determinant_84 : decode cX4_determinant 84 = .ok (.invokevirtual 60, 3) := by decide +kernel
theorem dX4_determinant_87 : decode cX4_determinant 87 = .ok (.iconst 0, 1) := by decide +kernel
theorem dX4_determinant_88 : decode cX4_determinant 88 = .ok (.istore_n 3, 1) := by decide +kernel
theorem dX4_determinant_89 : decode cX4_determinant 89 = .ok (.iload_n 3, 1) := by decide +kernel
theorem dX4_determinant_90 : decode cX4_determinant 90 = .ok (.bipush 52, 2) := by decide +kernel
theorem dX4_determinant_92 : decode cX4_determinant 92 = .ok (.if_icmp .ge 26, 3) := by decide +kernel
theorem dX4_determinant_95 : decode cX4_determinant 95 = .ok (.aload_n 0, 1) := by decide +kernel
theorem dX4_determinant_96 : decode cX4_determinant 96 = .ok (.getfield 24, 3) := by decide +kernel
theorem dX4_determinant_99 : decode cX4_determinant 99 = .ok (.iload_n 3, 1) := by decide +kernel
theorem dX4_determinant_100 : decode cX4_determinant 100 = .ok (.aload_n 0, 1) := by decide +kernel
theorem dX4_determinant_101 : decode cX4_determinant 101 = .ok (.getfield 34, 3) := by decide +kernel
theorem dX4_determinant_104 : decode cX4_determinant 104 = .ok (.bipush 52, 2) := by decide +kernel
theorem dX4_determinant_106 : decode cX4_determinant 106 = .ok (.iload_n 2, 1) := by decide +kernel
theorem dX4_determinant_107 : decode cX4_determinant 107 = .ok (.imul, 1) := by decide +kernel
theorem dX4_determinant_108 : decode cX4_determinant 108 = .ok (.iload_n 3, 1) := by decide +kernel
theorem dX4_determinant_109 : decode cX4_determinant 109 = .ok (.iadd, 1) := by decide +kernel
theorem dX4_determinant_110 : decode cX4_determinant 110 = .ok (.iaload, 1) := by decide +kernel
theorem dX4_determinant_111 : decode cX4_determinant 111 = .ok (.iastore, 1) := by decide +kernel
theorem dX4_determinant_112 : decode cX4_determinant 112 = .ok (.iinc 3 1, 3) := by decide +kernel
theorem dX4_determinant_115 : decode cX4_determinant 115 = .ok (.goto (-26), 3) := by decide +kernel
theorem dX4_determinant_118 : decode cX4_determinant 118 = .ok (.aload_n 0, 1) := by decide +kernel
theorem dX4_determinant_119 : decode cX4_determinant 119 = .ok (.aload_n 0, 1) := by decide +kernel
theorem dX4_determinant_120 : decode cX4_determinant 120 = .ok (.getfield 24, 3) := by decide +kernel
theorem dX4_determinant_123 : decode cX4_determinant 123 = .ok (.bipush 52, 2) := by decide +kernel
theorem dX4_determinant_125 : decode cX4_determinant 125 = .ok (.invokestatic 72, 3) := by decide +kernel
theorem dX4_determinant_128 : decode cX4_determinant 128 = .ok (.putfield 64, 3) := by decide +kernel
theorem dX4_determinant_131 : decode cX4_determinant 131 = .ok (.aload_n 0, 1) := by decide +kernel
theorem dX4_determinant_132 : decode cX4_determinant 132 = .ok (.aload_n 0, 1) := by decide +kernel
theorem dX4_determinant_133 : decode cX4_determinant 133 = .ok (.getfield 37, 3) := by decide +kernel
theorem dX4_determinant_136 : decode cX4_determinant 136 = .ok (.iload_n 2, 1) := by decide +kernel
theorem dX4_determinant_137 : decode cX4_determinant 137 = .ok (.baload, 1) := by decide +kernel
theorem dX4_determinant_138 : decode cX4_determinant 138 = .ok (.invokevirtual 88, 3) := by decide +kernel
theorem dX4_determinant_141 : decode cX4_determinant 141 = .ok (.ireturn, 1) := by decide +kernel
