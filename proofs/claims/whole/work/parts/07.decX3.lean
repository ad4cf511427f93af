theorem dX3_init_0 : decode cX3_init 0 = .ok (.aload_n 0, 1) := by decide +kernel
theorem dX3_init_1 : decode cX3_init 1 = .ok (.invokespecial 3, 3) := by decide +kernel
theorem dX3_init_4 : decode cX3_init 4 = .ok (.aload_n 0, 1) := by decide +kernel
theorem dX3_init_5 : decode cX3_init 5 = .ok (.sipush 160, 3) := by decide +kernel
theorem dX3_init_8 : decode cX3_init 8 = .ok (.anewarray 9, 3) := by decide +kernel
theorem dX3_init_11 : decode cX3_init 11 = .ok (.putfield 11, 3) := by decide +kernel
theorem dX3_init_14 : decode cX3_init 14 = .ok (.aload_n 0, 1) := by decide +kernel
theorem dX3_init_15 : decode cX3_init 15 = .ok (.iconst 0, 1) := by decide +kernel
theorem dX3_init_16 : decode cX3_init 16 = .ok (.putfield 15, 3) := by decide +kernel
theorem dX3_init_19 : decode cX3_init 19 = .ok (.aload_n 0, 1) := by decide +kernel
theorem dX3_init_20 : decode cX3_init 20 = .ok (.bipush 12, 2) := by decide +kernel
theorem dX3_init_22 : decode cX3_init 22 = .ok (.bipush 12, 2) := by decide +kernel
theorem dX3_init_24 : decode cX3_init 24 = .ok (.multianewarray 19 2, 4) := by decide +kernel
theorem dX3_init_28 : decode cX3_init 28 = .ok (.putfield 21, 3) := by decide +kernel
theorem dX3_init_31 : decode cX3_init 31 = .ok (.aload_n 0, 1) := by decide +kernel
theorem dX3_init_32 : decode cX3_init 32 = .ok (.new 9, 3) := by decide +kernel
theorem dX3_init_35 : decode cX3_init 35 = .ok (.dup, 1) := by decide +kernel
theorem dX3_init_36 : decode cX3_init 36 = .ok (.bipush 65, 2) := by decide +kernel
theorem dX3_init_38 : decode cX3_init 38 = .ok (.invokespecial 24, 3) := by decide +kernel
theorem dX3_init_41 : decode cX3_init 41 = .ok (.putfield 27, 3) := by decide +kernel
theorem dX3_init_44 : decode cX3_init 44 = .ok (.aload_n 0, 1) := by decide +kernel
theorem dX3_init_45 : decode cX3_init 45 = .ok (.new 9, 3) := by decide +kernel
theorem dX3_init_48 : decode cX3_init 48 = .ok (.dup, 1) := by decide +kernel
theorem dX3_init_49 : decode cX3_init 49 = .ok (.bipush 65, 2) := by decide +kernel
theorem dX3_init_51 : decode cX3_init 51 = .ok (.invokespecial 24, 3) := by decide +kernel
theorem dX3_init_54 : decode cX3_init 54 = .ok (.putfield 31, 3) := by decide +kernel
theorem dX3_init_57 : decode cX3_init 57 = .ok (.aload_n 0, 1) := by decide +kernel
theorem dX3_init_58 : decode cX3_init 58 = .ok (.new 34, 3) := by decide +kernel
theorem dX3_init_61 : decode cX3_init 61 = .ok (.dup, 1) := by decide +kernel
theorem dX3_init_62 : decode cX3_init 62 = .ok (.invokespecial 36, 3) := by decide +kernel
theorem dX3_init_65 : decode cX3_init 65 = .ok (.putfield 37, 3) := by decide +kernel
theorem dX3_init_68 : decode cX3_init 68 = .ok (.aload_n 0, 1) := by decide +kernel
theorem dX3_init_69 : decode cX3_init 69 = .ok (.aconst_null, 1) := by decide +kernel
theorem dX3_init_70 : decode cX3_init 70 = .ok (.putfield 41, 3) := by decide +kernel
theorem dX3_init_73 : decode cX3_init 73 = .ok (.return_, 1) := by decide +kernel
theorem dX3_value_0 : decode cX3_value 0 = .ok (.aload_n 0, 1) := by decide +kernel
theorem dX3_value_1 : decode cX3_value 1 = .ok (.invokevirtual 45, 3) := by decide +kernel
theorem dX3_value_4 : decode cX3_value 4 = .ok (.ifCond .eq 5, 3) := by decide +kernel
theorem dX3_value_7 : decode cX3_value 7 = .ok (.iconst (-1), 1) := by decide +kernel
theorem dX3_value_8 : decode cX3_value 8 = .ok (.ireturn, 1) := by decide +kernel
theorem dX3_value_9 : decode cX3_value 9 = .ok (.aload_n 0, 1) := by decide +kernel
theorem dX3_value_10 : decode cX3_value 10 = .ok (.getfield 27, 3) := by decide +kernel
theorem dX3_value_13 : decode cX3_value 13 = .ok (.lload_n 1, 1) := by decide +kernel
theorem dX3_value_14 : decode cX3_value 14 = .ok (.invokevirtual 49, 3) := by decide +kernel
theorem dX3_value_17 : decode cX3_value 17 = .ok (.aload_n 0, 1) := by decide +kernel
theorem dX3_value_18 : decode cX3_value 18 = .ok (.aload_n 0, 1) := by decide +kernel
theorem dX3_value_19 : decode cX3_value 19 = .ok (.getfield 27, 3) := by decide +kernel
theorem dX3_value_22 : decode cX3_value 22 = .ok (.invokevirtual 53, 3) := by decide +kernel
theorem dX3_value_25 : decode cX3_value 25 = .ok (.ireturn, 1) := by decide +kernel
theorem dX3_add_0 : decode cX3_add 0 = .ok (.aload_n 0, 1) := by decide +kernel
theorem dX3_add_1 : decode cX3_add 1 = .ok (.iload_n 1, 1) := by decide +kernel
theorem dX3_add_2 : decode cX3_add 2 = .ok (.invokevirtual 57, 3) := by decide +kernel
theorem dX3_add_5 : decode cX3_add 5 = .ok (.astore_n 3, 1) := by decide +kernel
theorem dX3_add_6 : decode cX3_add 6 = .ok (.aload_n 0, 1) := by decide +kernel
theorem dX3_add_7 : decode cX3_add 7 = .ok (.iload_n 2, 1) := by decide +kernel
theorem dX3_add_8 : decode cX3_add 8 = .ok (.invokevirtual 57, 3) := by decide +kernel
theorem dX3_add_11 : decode cX3_add 11 = .ok (.astore 4, 2) := by decide +kernel
theorem dX3_add_13 : decode cX3_add 13 = .ok (.aload_n 0, 1) := by decide +kernel
theorem dX3_add_14 : decode cX3_add 14 = .ok (.invokevirtual 45, 3) := by decide +kernel
theorem dX3_add_17 : decode cX3_add 17 = .ok (.ifCond .eq 5, 3) := by decide +kernel
theorem dX3_add_20 : decode cX3_add 20 = .ok (.iconst (-1), 1) := by decide +kernel
theorem dX3_add_21 : decode cX3_add 21 = .ok (.ireturn, 1) := by decide +kernel
theorem dX3_add_22 : decode cX3_add 22 = .ok (.aload_n 0, 1) := by decide +kernel
theorem dX3_add_23 : decode cX3_add 23 = .ok (.getfield 27, 3) := by decide +kernel
theorem dX3_add_26 : decode cX3_add 26 = .ok (.aload_n 3, 1) := by decide +kernel
theorem dX3_add_27 : decode cX3_add 27 = .ok (.aload 4, 2) := by decide +kernel
theorem dX3_add_29 : decode cX3_add 29 = .ok (.aload 4, 2) := by decide +kernel
theorem dX3_add_31 : decode cX3_add 31 = .ok (.getfield 61, 3) := by decide +kernel
theorem dX3_add_34 : decode cX3_add 34 = .ok (.invokevirtual 65, 3) := by decide +kernel
theorem dX3_add_37 : decode cX3_add 37 = .ok (.aload_n 0, 1) := by decide +kernel
theorem dX3_add_38 : decode cX3_add 38 = .ok (.aload_n 0, 1) := by decide +kernel
theorem dX3_add_39 : decode cX3_add 39 = .ok (.getfield 27, 3) := by decide +kernel
theorem dX3_add_42 : decode cX3_add 42 = .ok (.invokevirtual 53, 3) := by decide +kernel
theorem dX3_add_45 : decode cX3_add 45 = .ok (.ireturn, 1) := by decide +kernel
theorem dX3_times_0 : decode cX3_times 0 = .ok (.aload_n 0, 1) := by decide +kernel
theorem dX3_times_1 : decode cX3_times 1 = .ok (.iload_n 1, 1) := by decide +kernel
theorem dX3_times_2 : decode cX3_times 2 = .ok (.invokevirtual 57, 3) := by decide +kernel
theorem dX3_times_5 : decode cX3_times 5 = .ok (.astore_n 3, 1) := by decide +kernel
theorem dX3_times_6 : decode cX3_times 6 = .ok (.aload_n 0, 1) := by decide +kernel
theorem dX3_times_7 : decode cX3_times 7 = .ok (.iload_n 2, 1) := by decide +kernel
theorem dX3_times_8 : decode cX3_times 8 = .ok (.invokevirtual 57, 3) := by decide +kernel
theorem dX3_times_11 : decode cX3_times 11 = .ok (.astore 4, 2) := by decide +kernel
theorem dX3_times_13 : decode cX3_times 13 = .ok (.aload_n 0, 1) := by decide +kernel
theorem dX3_times_14 : decode cX3_times 14 = .ok (.invokevirtual 45, 3) := by decide +kernel
theorem dX3_times_17 : decode cX3_times 17 = .ok (.ifCond .ne 16, 3) := by decide +kernel
theorem dX3_times_20 : decode cX3_times 20 = .ok (.aload_n 0, 1) := by decide +kernel
theorem dX3_times_21 : decode cX3_times 21 = .ok (.getfield 27, 3) := by decide +kernel
theorem dX3_times_24 : decode cX3_times 24 = .ok (.aload_n 3, 1) := by decide +kernel
theorem dX3_times_25 : decode cX3_times 25 = .ok (.aload 4, 2) := by decide +kernel
theorem dX3_times_27 : decode cX3_times 27 = .ok (.invokevirtual 69, 3) := by decide +kernel
theorem dX3_times_30 : decode cX3_times 30 = .ok (.ifCond .ne 5, 3) := by decide +kernel
theorem dX3_times_33 : decode cX3_times 33 = .ok (.iconst (-1), 1) := by decide +kernel
theorem dX3_times_34 : decode cX3_times 34 = .ok (.ireturn, 1) := by decide +kernel
theorem dX3_times_35 : decode cX3_times 35 = .ok (.aload_n 0, 1) := by decide +kernel
theorem dX3_times_36 : decode cX3_times 36 = .ok (.aload_n 0, 1) := by decide +kernel
theorem dX3_times_37 : decode cX3_times 37 = .ok (.getfield 27, 3) := by decide +kernel
theorem dX3_times_40 : decode cX3_times 40 = .ok (.invokevirtual 53, 3) := by decide +kernel
theorem dX3_times_43 : decode cX3_times 43 = .ok (.ireturn, 1) := by decide +kernel
theorem dX3_over_0 : decode cX3_over 0 = .ok (.aload_n 0, 1) := by decide +kernel
theorem dX3_over_1 : decode cX3_over 1 = .ok (.iload_n 1, 1) := by decide +kernel
theorem dX3_over_2 : decode cX3_over 2 = .ok (.invokevirtual 57, 3) := by decide +kernel
theorem dX3_over_5 : decode cX3_over 5 = .ok (.astore_n 3, 1) := by decide +kernel
theorem dX3_over_6 : decode cX3_over 6 = .ok (.aload_n 0, 1) := by decide +kernel
theorem dX3_over_7 : decode cX3_over 7 = .ok (.iload_n 2, 1) := by decide +kernel
theorem dX3_over_8 : decode cX3_over 8 = .ok (.invokevirtual 57, 3) := by decide +kernel
theorem dX3_over_11 : decode cX3_over 11 = .ok (.astore 4, 2) := by decide +kernel
theorem dX3_over_13 : decode cX3_over 13 = .ok (.aload 4, 2) := by decide +kernel
theorem dX3_over_15 : decode cX3_over 15 = .ok (.invokevirtual 73, 3) := by decide +kernel
theorem dX3_over_18 : decode cX3_over 18 = .ok (.ifCond .eq 13, 3) := by decide +kernel
theorem dX3_over_21 : decode cX3_over 21 = .ok (.new 76, 3) := by decide +kernel
theorem dX3_over_24 : decode cX3_over 24 = .ok (.dup, 1) := by decide +kernel
theorem dX3_over_25 : decode cX3_over 25 = .ok (.ldc 78, 2) := by decide +kernel
theorem dX3_over_27 : decode cX3_over 27 = .ok (.invokespecial 80, 3) := by decide +kernel
theorem dX3_over_30 : decode cX3_over 30 = .ok (.athrow, 1) := by decide +kernel
theorem dX3_over_31 : decode cX3_over 31 = .ok (.aload_n 0, 1) := by decide +kernel
theorem dX3_over_32 : decode cX3_over 32 = .ok (.invokevirtual 45, 3) := by decide +kernel
theorem dX3_over_35 : decode cX3_over 35 = .ok (.ifCond .eq 5, 3) := by decide +kernel
theorem dX3_over_38 : decode cX3_over 38 = .ok (.iconst (-1), 1) := by decide +kernel
theorem dX3_over_39 : decode cX3_over 39 = .ok (.ireturn, 1) := by decide +kernel
theorem dX3_over_40 : decode cX3_over 40 = .ok (.aload_n 0, 1) := by decide +kernel
theorem dX3_over_41 : decode cX3_over 41 = .ok (.getfield 37, 3) := by decide +kernel
theorem dX3_over_44 : decode cX3_over 44 = .ok (.aload_n 3, 1) := by decide +kernel
theorem dX3_over_45 : decode cX3_over 45 = .ok (.aload 4, 2) := by decide +kernel
theorem dX3_over_47 : decode cX3_over 47 = .ok (.aload_n 0, 1) := by decide +kernel
theorem dX3_over_48 : decode cX3_over 48 = .ok (.getfield 27, 3) := by decide +kernel
theorem dX3_over_51 : decode cX3_over 51 = .ok (.invokevirtual 83, 3) := by decide +kernel
theorem dX3_over_54 : decode cX3_over 54 = .ok (.aload_n 0, 1) := by decide +kernel
theorem dX3_over_55 : decode cX3_over 55 = .ok (.aload_n 0, 1) := by decide +kernel
theorem dX3_over_56 : decode cX3_over 56 = .ok (.getfield 27, 3) := by decide +kernel
theorem dX3_over_59 : decode cX3_over 59 = .ok (.invokevirtual 53, 3) := by decide +kernel
theorem dX3_over_62 : decode cX3_over 62 = .ok (.ireturn, 1) := by decide +kernel
theorem dX3_power_0 : decode cX3_power 0 = .ok (.aload_n 0, 1) := by decide +kernel
theorem dX3_power_1 : decode cX3_power 1 = .ok (.iload_n 1, 1) := by decide +kernel
theorem dX3_power_2 : decode cX3_power 2 = .ok (.invokevirtual 57, 3) := by decide +kernel
theorem dX3_power_5 : decode cX3_power 5 = .ok (.astore_n 3, 1) := by decide +kernel
theorem dX3_power_6 : decode cX3_power 6 = .ok (.iload_n 2, 1) := by decide +kernel
theorem dX3_power_7 : decode cX3_power 7 = .ok (.ifCond .lt 16, 3) := by decide +kernel
theorem dX3_power_10 : decode cX3_power 10 = .ok (.iload_n 2, 1) := by decide +kernel
theorem dX3_power_11 : decode cX3_power 11 = .ok (.ldc 87, 2) := by decide +kernel
theorem dX3_power_13 : decode cX3_power 13 = .ok (.if_icmp .gt 10, 3) := by decide +kernel
theorem dX3_power_16 : decode cX3_power 16 = .ok (.aload_n 0, 1) := by decide +kernel
theorem dX3_power_17 : decode cX3_power 17 = .ok (.invokevirtual 45, 3) := by decide +kernel
theorem dX3_power_20 : decode cX3_power 20 = .ok (.ifCond .eq 5, 3) := by decide +kernel
theorem dX3_power_23 : decode cX3_power 23 = .ok (.iconst (-1), 1) := by decide +kernel
theorem dX3_power_24 : decode cX3_power 24 = .ok (.ireturn, 1) := by decide +kernel
theorem dX3_power_25 : decode cX3_power 25 = .ok (.aload_n 0, 1) := by decide +kernel
theorem dX3_power_26 : decode cX3_power 26 = .ok (.getfield 27, 3) := by decide +kernel
theorem dX3_power_29 : decode cX3_power 29 = .ok (.lconst 1, 1) := by decide +kernel
theorem dX3_power_30 : decode cX3_power 30 = .ok (.invokevirtual 49, 3) := by decide +kernel
theorem dX3_power_33 : decode cX3_power 33 = .ok (.iload_n 2, 1) := by decide +kernel
theorem dX3_power_34 : decode cX3_power 34 = .ok (.invokestatic 88, 3) := by decide +kernel
theorem dX3_power_37 : decode cX3_power 37 = .ok (.istore 4, 2) := by decide +kernel
theorem dX3_power_39 : decode cX3_power 39 = .ok (.iload 4, 2) := by decide +kernel
theorem dX3_power_41 : decode cX3_power 41 = .ok (.ifCond .lt 69, 3) := by decide +kernel
theorem dX3_power_44 : decode cX3_power 44 = .ok (.aload_n 0, 1) := by decide +kernel
theorem dX3_power_45 : decode cX3_power 45 = .ok (.getfield 31, 3) := by decide +kernel
theorem dX3_power_48 : decode cX3_power 48 = .ok (.aload_n 0, 1) := by decide +kernel
theorem dX3_power_49 : decode cX3_power 49 = .ok (.getfield 27, 3) := by decide +kernel
theorem dX3_power_52 : decode cX3_power 52 = .ok (.aload_n 0, 1) := by decide +kernel
theorem dX3_power_53 : decode cX3_power 53 = .ok (.getfield 27, 3) := by decide +kernel
theorem dX3_power_56 : decode cX3_power 56 = .ok (.invokevirtual 69, 3) := by decide +kernel
theorem dX3_power_59 : decode cX3_power 59 = .ok (.ifCond .ne 5, 3) := by decide +kernel
theorem dX3_power_62 : decode cX3_power 62 = .ok (.iconst (-1), 1) := by decide +kernel
theorem dX3_power_63 : decode cX3_power 63 = .ok (.ireturn, 1) := by decide +kernel
theorem dX3_power_64 : decode cX3_power 64 = .ok (.iload_n 2, 1) := by decide +kernel
theorem dX3_power_65 : decode cX3_power 65 = .ok (.iload 4, 2) := by decide +kernel
theorem dX3_power_67 : decode cX3_power 67 = .ok (.ishr, 1) := by decide +kernel
theorem dX3_power_68 : decode cX3_power 68 = .ok (.iconst 1, 1) := by decide +kernel
theorem dX3_power_69 : decode cX3_power 69 = .ok (.iand, 1) := by decide +kernel
theorem dX3_power_70 : decode cX3_power 70 = .ok (.ifCond .ne 17, 3) := by decide +kernel
theorem dX3_power_73 : decode cX3_power 73 = .ok (.aload_n 0, 1) := by decide +kernel
theorem dX3_power_74 : decode cX3_power 74 = .ok (.getfield 27, 3) := by decide +kernel
theorem dX3_power_77 : decode cX3_power 77 = .ok (.aload_n 0, 1) := by decide +kernel
theorem dX3_power_78 : decode cX3_power 78 = .ok (.getfield 31, 3) := by decide +kernel
theorem dX3_power_81 : decode cX3_power 81 = .ok (.invokevirtual 92, 3) := by decide +kernel
theorem dX3_power_84 : decode cX3_power 84 = .ok (.goto 20, 3) := by decide +kernel
theorem dX3_power_87 : decode cX3_power 87 = .ok (.aload_n 0, 1) := by decide +kernel
theorem dX3_power_88 : decode cX3_power 88 = .ok (.getfield 27, 3) := by decide +kernel
theorem dX3_power_91 : decode cX3_power 91 = .ok (.aload_n 0, 1) := by decide +kernel
theorem dX3_power_92 : decode cX3_power 92 = .ok (.getfield 31, 3) := by decide +kernel
theorem dX3_power_95 : decode cX3_power 95 = .ok (.aload_n 3, 1) := by decide +kernel
theorem dX3_power_96 : decode cX3_power 96 = .ok (.invokevirtual 69, 3) := by decide +kernel
theorem dX3_power_99 : decode cX3_power 99 = .ok (.ifCond .ne 5, 3) := by decide +kernel
theorem dX3_power_102 : decode cX3_power 102 = .ok (.iconst (-1), 1) := by decide +kernel
theorem dX3_power_103 : decode cX3_power 103 = .ok (.ireturn, 1) := by decide +kernel
theorem dX3_power_104 : decode cX3_power 104 = .ok (.iinc 4 (-1), 3) := by decide +kernel
theorem dX3_power_107 : decode cX3_power 107 = .ok (.goto (-68), 3) := by decide +kernel
theorem dX3_power_110 : decode cX3_power 110 = .ok (.aload_n 0, 1) := by decide +kernel
theorem dX3_power_111 : decode cX3_power 111 = .ok (.aload_n 0, 1) := by decide +kernel
theorem dX3_power_112 : decode cX3_power 112 = .ok (.getfield 27, 3) := by decide +kernel
theorem dX3_power_115 : decode cX3_power 115 = .ok (.invokevirtual 53, 3) := by decide +kernel
theorem dX3_power_118 : decode cX3_power 118 = .ok (.ireturn, 1) := by decide +kernel
theorem dX3_binomial_0 : decode cX3_binomial 0 = .ok (.iload_n 1, 1) := by decide +kernel
theorem dX3_binomial_1 : decode cX3_binomial 1 = .ok (.ifCond .lt 17, 3) := by decide +kernel
theorem dX3_binomial_4 : decode cX3_binomial 4 = .ok (.iload_n 1, 1) := by decide +kernel
theorem dX3_binomial_5 : decode cX3_binomial 5 = .ok (.sipush 4000, 3) := by decide +kernel
theorem dX3_binomial_8 : decode cX3_binomial 8 = .ok (.if_icmp .gt 10, 3) := by decide +kernel
theorem dX3_binomial_11 : decode cX3_binomial 11 = .ok (.aload_n 0, 1) := by decide +kernel
theorem dX3_binomial_12 : decode cX3_binomial 12 = .ok (.invokevirtual 45, 3) := by decide +kernel
theorem dX3_binomial_15 : decode cX3_binomial 15 = .ok (.ifCond .eq 5, 3) := by decide +kernel
theorem dX3_binomial_18 : decode cX3_binomial 18 = .ok (.iconst (-1), 1) := by decide +kernel
theorem dX3_binomial_19 : decode cX3_binomial 19 = .ok (.ireturn, 1) := by decide +kernel
theorem dX3_binomial_20 : decode cX3_binomial 20 = .ok (.aload_n 0, 1) := by decide +kernel
theorem dX3_binomial_21 : decode cX3_binomial 21 = .ok (.getfield 27, 3) := by decide +kernel
theorem dX3_binomial_24 : decode cX3_binomial 24 = .ok (.iload_n 2, 1) := by decide +kernel
theorem dX3_binomial_25 : decode cX3_binomial 25 = .ok (.ifCond .lt 8, 3) := by decide +kernel
theorem dX3_binomial_28 : decode cX3_binomial 28 = .ok (.iload_n 2, 1) := by decide +kernel
theorem dX3_binomial_29 : decode cX3_binomial 29 = .ok (.iload_n 1, 1) := by decide +kernel
theorem dX3_binomial_30 : decode cX3_binomial 30 = .ok (.if_icmp .le 7, 3) := by decide +kernel
theorem dX3_binomial_33 : decode cX3_binomial 33 = .ok (.lconst 0, 1) := by decide +kernel
theorem dX3_binomial_34 : decode cX3_binomial 34 = .ok (.goto 4, 3) := by decide +kernel
theorem dX3_binomial_37 : decode cX3_binomial 37 = .ok (.lconst 1, 1) := by decide +kernel
theorem dX3_binomial_38 : decode cX3_binomial 38 = .ok (.invokevirtual 49, 3) := by decide +kernel
theorem dX3_binomial_41 : decode cX3_binomial 41 = .ok (.iload_n 2, 1) := by decide +kernel
theorem dX3_binomial_42 : decode cX3_binomial 42 = .ok (.iload_n 1, 1) := by decide +kernel
theorem dX3_binomial_43 : decode cX3_binomial 43 = .ok (.iload_n 2, 1) := by decide +kernel
theorem dX3_binomial_44 : decode cX3_binomial 44 = .ok (.isub, 1) := by decide +kernel
theorem dX3_binomial_45 : decode cX3_binomial 45 = .ok (.invokestatic 96, 3) := by decide +kernel
theorem dX3_binomial_48 : decode cX3_binomial 48 = .ok (.istore_n 3, 1) := by decide +kernel
theorem dX3_binomial_49 : decode cX3_binomial 49 = .ok (.iconst 1, 1) := by decide +kernel
theorem dX3_binomial_50 : decode cX3_binomial 50 = .ok (.istore 4, 2) := by decide +kernel
theorem dX3_binomial_52 : decode cX3_binomial 52 = .ok (.iload 4, 2) := by decide +kernel
theorem dX3_binomial_54 : decode cX3_binomial 54 = .ok (.iload_n 3, 1) := by decide +kernel
theorem dX3_binomial_55 : decode cX3_binomial 55 = .ok (.if_icmp .gt 42, 3) := by decide +kernel
theorem dX3_binomial_58 : decode cX3_binomial 58 = .ok (.aload_n 0, 1) := by decide +kernel
theorem dX3_binomial_59 : decode cX3_binomial 59 = .ok (.getfield 27, 3) := by decide +kernel
theorem dX3_binomial_62 : decode cX3_binomial 62 = .ok (.invokevirtual 102, 3) := by decide +kernel
theorem dX3_binomial_65 : decode cX3_binomial 65 = .ok (.ifCond .eq 32, 3) := by decide +kernel
theorem dX3_binomial_68 : decode cX3_binomial 68 = .ok (.aload_n 0, 1) := by decide +kernel
theorem dX3_binomial_69 : decode cX3_binomial 69 = .ok (.getfield 27, 3) := by decide +kernel
theorem dX3_binomial_72 : decode cX3_binomial 72 = .ok (.iload_n 1, 1) := by decide +kernel
theorem dX3_binomial_73 : decode cX3_binomial 73 = .ok (.iload 4, 2) := by decide +kernel
theorem dX3_binomial_75 : decode cX3_binomial 75 = .ok (.isub, 1) := by decide +kernel
theorem dX3_binomial_76 : decode cX3_binomial 76 = .ok (.iconst 1, 1) := by decide +kernel
theorem dX3_binomial_77 : decode cX3_binomial 77 = .ok (.iadd, 1) := by decide +kernel
theorem dX3_binomial_78 : decode cX3_binomial 78 = .ok (.invokevirtual 105, 3) := by decide +kernel
theorem dX3_binomial_81 : decode cX3_binomial 81 = .ok (.aload_n 0, 1) := by decide +kernel
theorem dX3_binomial_82 : decode cX3_binomial 82 = .ok (.getfield 27, 3) := by decide +kernel
theorem dX3_binomial_85 : decode cX3_binomial 85 = .ok (.iload 4, 2) := by decide +kernel
theorem dX3_binomial_87 : decode cX3_binomial 87 = .ok (.invokevirtual 108, 3) := by decide +kernel
theorem dX3_binomial_90 : decode cX3_binomial 90 = .ok (.pop, 1) := by decide +kernel
theorem dX3_binomial_91 : decode cX3_binomial 91 = .ok (.iinc 4 1, 3) := by decide +kernel
theorem dX3_binomial_94 : decode cX3_binomial 94 = .ok (.goto (-42), 3) := by decide +kernel
theorem dX3_binomial_97 : decode cX3_binomial 97 = .ok (.aload_n 0, 1) := by decide +kernel
theorem dX3_binomial_98 : decode cX3_binomial 98 = .ok (.aload_n 0, 1) := by decide +kernel
theorem dX3_binomial_99 : decode cX3_binomial 99 = .ok (.getfield 27, 3) := by decide +kernel
theorem dX3_binomial_102 : decode cX3_binomial 102 = .ok (.invokevirtual 53, 3) := by decide +kernel
theorem dX3_binomial_105 : decode cX3_binomial 105 = .ok (.ireturn, 1) := by decide +kernel
theorem dX3_factorial_0 : decode cX3_factorial 0 = .ok (.iload_n 1, 1) := by decide +kernel
theorem dX3_factorial_1 : decode cX3_factorial 1 = .ok (.ifCond .lt 17, 3) := by decide +kernel
theorem dX3_factorial_4 : decode cX3_factorial 4 = .ok (.iload_n 1, 1) := by decide +kernel
theorem dX3_factorial_5 : decode cX3_factorial 5 = .ok (.sipush 1600, 3) := by decide +kernel
theorem dX3_factorial_8 : decode cX3_factorial 8 = .ok (.if_icmp .gt 10, 3) := by decide +kernel
theorem dX3_factorial_11 : decode cX3_factorial 11 = .ok (.aload_n 0, 1) := by decide +kernel
theorem dX3_factorial_12 : decode cX3_factorial 12 = .ok (.invokevirtual 45, 3) := by decide +kernel
theorem dX3_factorial_15 : decode cX3_factorial 15 = .ok (.ifCond .eq 5, 3) := by decide +kernel
theorem dX3_factorial_18 : decode cX3_factorial 18 = .ok (.iconst (-1), 1) := by decide +kernel
theorem dX3_factorial_19 : decode cX3_factorial 19 = .ok (.ireturn, 1) := by decide +kernel
theorem dX3_factorial_20 : decode cX3_factorial 20 = .ok (.aload_n 0, 1) := by decide +kernel
theorem dX3_factorial_21 : decode cX3_factorial 21 = .ok (.getfield 27, 3) := by decide +kernel
theorem dX3_factorial_24 : decode cX3_factorial 24 = .ok (.lconst 1, 1) := by decide +kernel
theorem dX3_factorial_25 : decode cX3_factorial 25 = .ok (.invokevirtual 49, 3) := by decide +kernel
theorem dX3_factorial_28 : decode cX3_factorial 28 = .ok (.iconst 2, 1) := by decide +kernel
theorem dX3_factorial_29 : decode cX3_factorial 29 = .ok (.istore_n 2, 1) := by decide +kernel
theorem dX3_factorial_30 : decode cX3_factorial 30 = .ok (.iload_n 2, 1) := by decide +kernel
theorem dX3_factorial_31 : decode cX3_factorial 31 = .ok (.iload_n 1, 1) := by decide +kernel
theorem dX3_factorial_32 : decode cX3_factorial 32 = .ok (.if_icmp .gt 27, 3) := by decide +kernel
theorem dX3_factorial_35 : decode cX3_factorial 35 = .ok (.aload_n 0, 1) := by decide +kernel
theorem dX3_factorial_36 : decode cX3_factorial 36 = .ok (.getfield 27, 3) := by decide +kernel
theorem dX3_factorial_39 : decode cX3_factorial 39 = .ok (.invokevirtual 102, 3) := by decide +kernel
theorem dX3_factorial_42 : decode cX3_factorial 42 = .ok (.ifCond .eq 17, 3) := by decide +kernel
theorem dX3_factorial_45 : decode cX3_factorial 45 = .ok (.aload_n 0, 1) := by decide +kernel
theorem dX3_factorial_46 : decode cX3_factorial 46 = .ok (.getfield 27, 3) := by decide +kernel
theorem dX3_factorial_49 : decode cX3_factorial 49 = .ok (.iload_n 2, 1) := by decide +kernel
theorem dX3_factorial_50 : decode cX3_factorial 50 = .ok (.invokevirtual 105, 3) := by decide +kernel
theorem dX3_factorial_53 : decode cX3_factorial 53 = .ok (.iinc 2 1, 3) := by decide +kernel
theorem dX3_factorial_56 : decode cX3_factorial 56 = .ok (.goto (-26), 3) := by decide +kernel
theorem dX3_factorial_59 : decode cX3_factorial 59 = .ok (.aload_n 0, 1) := by decide +kernel
theorem dX3_factorial_60 : decode cX3_factorial 60 = .ok (.aload_n 0, 1) := by decide +kernel
theorem dX3_factorial_61 : decode cX3_factorial 61 = .ok (.getfield 27, 3) := by decide +kernel
theorem dX3_factorial_64 : decode cX3_factorial 64 = .ok (.invokevirtual 53, 3) := by decide +kernel
theorem dX3_factorial_67 : decode cX3_factorial 67 = .ok (.ireturn, 1) := by decide +kernel
theorem dX3_order_0 : decode cX3_order 0 = .ok (.aload_n 0, 1) := by decide +kernel
theorem dX3_order_1 : decode cX3_order 1 = .ok (.iload_n 1, 1) := by decide +kernel
theorem dX3_order_2 : decode cX3_order 2 = .ok (.invokevirtual 57, 3) := by decide +kernel
theorem dX3_order_5 : decode cX3_order 5 = .ok (.astore_n 3, 1) := by decide +kernel
theorem dX3_order_6 : decode cX3_order 6 = .ok (.aload_n 0, 1) := by decide +kernel
theorem dX3_order_7 : decode cX3_order 7 = .ok (.iload_n 2, 1) := by decide +kernel
theorem dX3_order_8 : decode cX3_order 8 = .ok (.invokevirtual 57, 3) := by decide +kernel
theorem dX3_order_11 : decode cX3_order 11 = .ok (.astore 4, 2) := by decide +kernel
theorem dX3_order_13 : decode cX3_order 13 = .ok (.aload_n 3, 1) := by decide +kernel
theorem dX3_order_14 : decode cX3_order 14 = .ok (.getfield 61, 3) := by decide +kernel
theorem dX3_order_17 : decode cX3_order 17 = .ok (.aload 4, 2) := by decide +kernel
theorem dX3_order_19 : decode cX3_order 19 = .ok (.getfield 61, 3) := by decide +kernel
theorem dX3_order_22 : decode cX3_order 22 = .ok (.if_icmp .eq 16, 3) := by decide +kernel
theorem dX3_order_25 : decode cX3_order 25 = .ok (.aload_n 3, 1) := by decide +kernel
theorem dX3_order_26 : decode cX3_order 26 = .ok (.getfield 61, 3) := by decide +kernel
theorem dX3_order_29 : decode cX3_order 29 = .ok (.ifCond .eq 7, 3) := by decide +kernel
theorem dX3_order_32 : decode cX3_order 32 = .ok (.iconst (-1), 1) := by decide +kernel
theorem dX3_order_33 : decode cX3_order 33 = .ok (.goto 4, 3) := by decide +kernel
theorem dX3_order_36 : decode cX3_order 36 = .ok (.iconst 1, 1) := by decide +kernel
theorem dX3_order_37 : decode cX3_order 37 = .ok (.ireturn, 1) := by decide +kernel
theorem dX3_order_38 : decode cX3_order 38 = .ok (.aload_n 3, 1) := by decide +kernel
theorem dX3_order_39 : decode cX3_order 39 = .ok (.aload 4, 2) := by decide +kernel
theorem dX3_order_41 : decode cX3_order 41 = .ok (.invokevirtual 111, 3) := by decide +kernel
theorem dX3_order_44 : decode cX3_order 44 = .ok (.istore 5, 2) := by decide +kernel
theorem dX3_order_46 : decode cX3_order 46 = .ok (.aload_n 3, 1) := by decide +kernel
theorem dX3_order_47 : decode cX3_order 47 = .ok (.getfield 61, 3) := by decide +kernel
theorem dX3_order_50 : decode cX3_order 50 = .ok (.ifCond .eq 9, 3) := by decide +kernel
theorem dX3_order_53 : decode cX3_order 53 = .ok (.iload 5, 2) := by decide +kernel
theorem dX3_order_55 : decode cX3_order 55 = .ok (.ineg, 1) := by decide +kernel
theorem dX3_order_56 : decode cX3_order 56 = .ok (.goto 5, 3) := by decide +kernel
theorem dX3_order_59 : decode cX3_order 59 = .ok (.iload 5, 2) := by decide +kernel
theorem dX3_order_61 : decode cX3_order 61 = .ok (.ireturn, 1) := by decide +kernel
theorem dX3_digit_0 : decode cX3_digit 0 = .ok (.aload_n 0, 1) := by decide +kernel
theorem dX3_digit_1 : decode cX3_digit 1 = .ok (.iload_n 1, 1) := by decide +kernel
theorem dX3_digit_2 : decode cX3_digit 2 = .ok (.invokevirtual 57, 3) := by decide +kernel
theorem dX3_digit_5 : decode cX3_digit 5 = .ok (.astore_n 3, 1) := by decide +kernel
theorem dX3_digit_6 : decode cX3_digit 6 = .ok (.iload_n 2, 1) := by decide +kernel
theorem dX3_digit_7 : decode cX3_digit 7 = .ok (.ifCond .lt 10, 3) := by decide +kernel
theorem dX3_digit_10 : decode cX3_digit 10 = .ok (.iload_n 2, 1) := by decide +kernel
theorem dX3_digit_11 : decode cX3_digit 11 = .ok (.sipush 482, 3) := by decide +kernel
theorem dX3_digit_14 : decode cX3_digit 14 = .ok (.if_icmp .lt 13, 3) := by decide +kernel
theorem dX3_digit_17 : decode cX3_digit 17 = .ok (.new 114, 3) := by decide +kernel
theorem dX3_digit_20 : decode cX3_digit 20 = .ok (.dup, 1) := by decide +kernel
theorem dX3_digit_21 : decode cX3_digit 21 = .ok (.ldc 116, 2) := by decide +kernel
theorem dX3_digit_23 : decode cX3_digit 23 = .ok (.invokespecial 118, 3) := by decide +kernel
theorem dX3_digit_26 : decode cX3_digit 26 = .ok (.athrow, 1) := by decide +kernel
theorem dX3_digit_27 : decode cX3_digit 27 = .ok (.aload_n 0, 1) := by decide +kernel
theorem dX3_digit_28 : decode cX3_digit 28 = .ok (.getfield 27, 3) := by decide +kernel
theorem dX3_digit_31 : decode cX3_digit 31 = .ok (.aload_n 3, 1) := by decide +kernel
theorem dX3_digit_32 : decode cX3_digit 32 = .ok (.invokevirtual 92, 3) := by decide +kernel
theorem dX3_digit_35 : decode cX3_digit 35 = .ok (.aload_n 0, 1) := by decide +kernel
theorem dX3_digit_36 : decode cX3_digit 36 = .ok (.getfield 27, 3) := by decide +kernel
theorem dX3_digit_39 : decode cX3_digit 39 = .ok (.iload_n 2, 1) := by decide +kernel
theorem dX3_digit_40 : decode cX3_digit 40 = .ok (.invokevirtual 119, 3) := by decide +kernel
theorem dX3_digit_43 : decode cX3_digit 43 = .ok (.iload_n 2, 1) := by decide +kernel
theorem dX3_digit_44 : decode cX3_digit 44 = .ok (.ifCond .le 23, 3) := by decide +kernel
theorem dX3_digit_47 : decode cX3_digit 47 = .ok (.aload_n 0, 1) := by decide +kernel
theorem dX3_digit_48 : decode cX3_digit 48 = .ok (.getfield 27, 3) := by decide +kernel
theorem dX3_digit_51 : decode cX3_digit 51 = .ok (.invokevirtual 73, 3) := by decide +kernel
theorem dX3_digit_54 : decode cX3_digit 54 = .ok (.ifCond .eq 13, 3) := by decide +kernel
theorem dX3_digit_57 : decode cX3_digit 57 = .ok (.new 114, 3) := by decide +kernel
theorem dX3_digit_60 : decode cX3_digit 60 = .ok (.dup, 1) := by decide +kernel
theorem dX3_digit_61 : decode cX3_digit 61 = .ok (.ldc 116, 2) := by decide +kernel
theorem dX3_digit_63 : decode cX3_digit 63 = .ok (.invokespecial 118, 3) := by decide +kernel
theorem dX3_digit_66 : decode cX3_digit 66 = .ok (.athrow, 1) := by decide +kernel
theorem dX3_digit_67 : decode cX3_digit 67 = .ok (.aload_n 0, 1) := by decide +kernel
theorem dX3_digit_68 : decode cX3_digit 68 = .ok (.getfield 27, 3) := by decide +kernel
theorem dX3_digit_71 : decode cX3_digit 71 = .ok (.bipush 10, 2) := by decide +kernel
theorem dX3_digit_73 : decode cX3_digit 73 = .ok (.invokevirtual 108, 3) := by decide +kernel
theorem dX3_digit_76 : decode cX3_digit 76 = .ok (.ireturn, 1) := by decide +kernel
theorem dX3_entry_0 : decode cX3_entry 0 = .ok (.iload_n 1, 1) := by decide +kernel
theorem dX3_entry_1 : decode cX3_entry 1 = .ok (.ifCond .lt 19, 3) := by decide +kernel
theorem dX3_entry_4 : decode cX3_entry 4 = .ok (.iload_n 1, 1) := by decide +kernel
theorem dX3_entry_5 : decode cX3_entry 5 = .ok (.bipush 12, 2) := by decide +kernel
theorem dX3_entry_7 : decode cX3_entry 7 = .ok (.if_icmp .ge 13, 3) := by decide +kernel
theorem dX3_entry_10 : decode cX3_entry 10 = .ok (.iload_n 2, 1) := by decide +kernel
theorem dX3_entry_11 : decode cX3_entry 11 = .ok (.ifCond .lt 9, 3) := by decide +kernel
theorem dX3_entry_14 : decode cX3_entry 14 = .ok (.iload_n 2, 1) := by decide +kernel
theorem dX3_entry_15 : decode cX3_entry 15 = .ok (.bipush 12, 2) := by decide +kernel
theorem dX3_entry_17 : decode cX3_entry 17 = .ok (.if_icmp .lt 5, 3) := by decide +kernel
theorem dX3_entry_20 : decode cX3_entry 20 = .ok (.iconst 0, 1) := by decide +kernel
theorem dX3_entry_21 : decode cX3_entry 21 = .ok (.ireturn, 1) := by decide +kernel
theorem dX3_entry_22 : decode cX3_entry 22 = .ok (.aload_n 0, 1) := by decide +kernel
theorem dX3_entry_23 : decode cX3_entry 23 = .ok (.getfield 21, 3) := by decide +kernel
theorem dX3_entry_26 : decode cX3_entry 26 = .ok (.iload_n 1, 1) := by decide +kernel
theorem dX3_entry_27 : decode cX3_entry 27 = .ok (.aaload, 1) := by decide +kernel
theorem dX3_entry_28 : decode cX3_entry 28 = .ok (.iload_n 2, 1) := by decide +kernel
theorem dX3_entry_29 : decode cX3_entry 29 = .ok (.lload_n 3, 1) := by decide +kernel
theorem dX3_entry_30 : decode cX3_entry 30 = .ok (.lastore, 1) := by decide +kernel
theorem dX3_entry_31 : decode cX3_entry 31 = .ok (.iconst 1, 1) := by decide +kernel
theorem dX3_entry_32 : decode cX3_entry 32 = .ok (.ireturn, 1) := by decide +kernel
theorem dX3_determinant_0 : decode cX3_determinant 0 = .ok (.iload_n 1, 1) := by decide +kernel
theorem dX3_determinant_1 : decode cX3_determinant 1 = .ok (.ifCond .lt 16, 3) := by decide +kernel
theorem dX3_determinant_4 : decode cX3_determinant 4 = .ok (.iload_n 1, 1) := by decide +kernel
theorem dX3_determinant_5 : decode cX3_determinant 5 = .ok (.bipush 12, 2) := by decide +kernel
theorem dX3_determinant_7 : decode cX3_determinant 7 = .ok (.if_icmp .gt 10, 3) := by decide +kernel
theorem dX3_determinant_10 : decode cX3_determinant 10 = .ok (.aload_n 0, 1) := by decide +kernel
theorem dX3_determinant_11 : decode cX3_determinant 11 = .ok (.invokevirtual 45, 3) := by decide +kernel
theorem dX3_determinant_14 : decode cX3_determinant 14 = .ok (.ifCond .eq 5, 3) := by decide +kernel
theorem dX3_determinant_17 : decode cX3_determinant 17 = .ok (.iconst (-1), 1) := by decide +kernel
theorem dX3_determinant_18 : decode cX3_determinant 18 = .ok (.ireturn, 1) := by decide +kernel
theorem dX3_determinant_19 : decode cX3_determinant 19 = .ok (.iload_n 1, 1) := by decide +kernel
theorem dX3_determinant_20 : decode cX3_determinant 20 = .ok (.ifCond .ne 20, 3) := by decide +kernel
theorem dX3_determinant_23 : decode cX3_determinant 23 = .ok (.aload_n 0, 1) := by decide +kernel
theorem dX3_determinant_24 : decode cX3_determinant 24 = .ok (.getfield 27, 3) := by decide +kernel
theorem dX3_determinant_27 : decode cX3_determinant 27 = .ok (.lconst 1, 1) := by decide +kernel
theorem dX3_determinant_28 : decode cX3_determinant 28 = .ok (.invokevirtual 49, 3) := by decide +kernel
theorem dX3_determinant_31 : decode cX3_determinant 31 = .ok (.aload_n 0, 1) := by decide +kernel
theorem dX3_determinant_32 : decode cX3_determinant 32 = .ok (.aload_n 0, 1) := by decide +kernel
theorem dX3_determinant_33 : decode cX3_determinant 33 = .ok (.getfield 27, 3) := by decide +kernel
theorem dX3_determinant_36 : decode cX3_determinant 36 = .ok (.invokevirtual 53, 3) := by decide +kernel
theorem dX3_determinant_39 : decode cX3_determinant 39 = .ok (.ireturn, 1) := by decide +kernel
theorem dX3_determinant_40 : decode cX3_determinant 40 = .ok (.aload_n 0, 1) := by decide +kernel
theorem dX3_determinant_41 : decode cX3_determinant 41 = .ok (.getfield 41, 3) := by decide +kernel
theorem dX3_determinant_44 : decode cX3_determinant 44 = .ok (.ifnonnull 18, 3) := by decide +kernel
theorem dX3_determinant_47 : decode cX3_determinant 47 = .ok (.aload_n 0, 1) := by decide +kernel
theorem dX3_determinant_48 : decode cX3_determinant 48 = .ok (.new 122, 3) := by decide +kernel
theorem dX3_determinant_51 : decode cX3_determinant 51 = .ok (.dup, 1) := by decide +kernel
theorem dX3_determinant_52 : decode cX3_determinant 52 = .ok (.aload_n 0, 1) := by decide +kernel
theorem dX3_determinant_53 : decode cX3_determinant 53 = .ok (.getfield 37, 3) := by decide +kernel
theorem dX3_determinant_56 : decode cX3_determinant 56 = .ok (.invokespecial 124, 3) := by decide +kernel
theorem dX3_determinant_59 : decode cX3_determinant 59 = .ok (.putfield 41, 3) := by decide +kernel
theorem dX3_determinant_62 : decode cX3_determinant 62 = .ok (.aload_n 0, 1) := by decide +kernel
theorem dX3_determinant_63 : decode cX3_determinant 63 = .ok (.getfield 41, 3) := by decide +kernel
theorem dX3_determinant_66 : decode cX3_determinant 66 = .ok (.aload_n 0, 1) := by decide +kernel
theorem dX3_determinant_67 : decode cX3_determinant 67 = .ok (.getfield 21, 3) := by decide +kernel
theorem dX3_determinant_70 : decode cX3_determinant 70 = .ok (.iload_n 1, 1) := by decide +kernel
theorem dX3_determinant_71 : decode cX3_determinant 71 = .ok (.aload_n 0, 1) := by decide +kernel
theorem dX3_determinant_72 : decode cX3_determinant 72 = .ok (.getfield 27, 3) := by decide +kernel
theorem dX3_determinant_75 : decode cX3_determinant 75 = .ok (.invokevirtual 127, 3) := by decide +kernel
theorem dX3_determinant_78 : decode cX3_determinant 78 = .ok (.aload_n 0, 1) := by decide +kernel
theorem dX3_determinant_79 : decode cX3_determinant 79 = .ok (.aload_n 0, 1) := by decide +kernel
theorem dX3_determinant_80 : decode cX3_determinant 80 = .ok (.getfield 27, 3) := by decide +kernel
theorem dX3_determinant_83 : decode cX3_determinant 83 = .ok (.invokevirtual 53, 3) := by decide +kernel
theorem dX3_determinant_86 : decode cX3_determinant 86 = .ok (.ireturn, 1) := by decide +kernel
theorem dX3_residue_0 : decode cX3_residue 0 = .ok (.aload_n 0, 1) := by decide +kernel
theorem dX3_residue_1 : decode cX3_residue 1 = .ok (.iload_n 1, 1) := by decide +kernel
theorem dX3_residue_2 : decode cX3_residue 2 = .ok (.invokevirtual 57, 3) := by decide +kernel
theorem dX3_residue_5 : decode cX3_residue 5 = .ok (.astore 4, 2) := by decide +kernel
theorem dX3_residue_7 : decode cX3_residue 7 = .ok (.lload_n 2, 1) := by decide +kernel
theorem dX3_residue_8 : decode cX3_residue 8 = .ok (.lconst 0, 1) := by decide +kernel
theorem dX3_residue_9 : decode cX3_residue 9 = .ok (.lcmp, 1) := by decide +kernel
theorem dX3_residue_10 : decode cX3_residue 10 = .ok (.ifCond .ne 13, 3) := by decide +kernel
theorem dX3_residue_13 : decode cX3_residue 13 = .ok (.new 76, 3) := by decide +kernel
theorem dX3_residue_16 : decode cX3_residue 16 = .ok (.dup, 1) := by decide +kernel
theorem dX3_residue_17 : decode cX3_residue 17 = .ok (.ldc 131, 2) := by decide +kernel
theorem dX3_residue_19 : decode cX3_residue 19 = .ok (.invokespecial 80, 3) := by decide +kernel
theorem dX3_residue_22 : decode cX3_residue 22 = .ok (.athrow, 1) := by decide +kernel
theorem dX3_residue_23 : decode cX3_residue 23 = .ok (.lload_n 2, 1) := by decide +kernel
theorem dX3_residue_24 : decode cX3_residue 24 = .ok (.lconst 0, 1) := by decide +kernel
theorem dX3_residue_25 : decode cX3_residue 25 = .ok (.lcmp, 1) := by decide +kernel
theorem dX3_residue_26 : decode cX3_residue 26 = .ok (.ifCond .ge 7, 3) := by decide +kernel
theorem dX3_residue_29 : decode cX3_residue 29 = .ok (.lload_n 2, 1) := by decide +kernel
theorem dX3_residue_30 : decode cX3_residue 30 = .ok (.goto 5, 3) := by decide +kernel
theorem dX3_residue_33 : decode cX3_residue 33 = .ok (.lload_n 2, 1) := by decide +kernel
theorem dX3_residue_34 : decode cX3_residue 34 = .ok (.lneg, 1) := by decide +kernel
theorem dX3_residue_35 : decode cX3_residue 35 = .ok (.lstore 5, 2) := by decide +kernel
theorem dX3_residue_37 : decode cX3_residue 37 = .ok (.aload 4, 2) := by decide +kernel
theorem dX3_residue_39 : decode cX3_residue 39 = .ok (.lload 5, 2) := by decide +kernel
theorem dX3_residue_41 : decode cX3_residue 41 = .ok (.invokevirtual 133, 3) := by decide +kernel
theorem dX3_residue_44 : decode cX3_residue 44 = .ok (.lstore 7, 2) := by decide +kernel
theorem dX3_residue_46 : decode cX3_residue 46 = .ok (.lload 7, 2) := by decide +kernel
theorem dX3_residue_48 : decode cX3_residue 48 = .ok (.lconst 0, 1) := by decide +kernel
theorem dX3_residue_49 : decode cX3_residue 49 = .ok (.lcmp, 1) := by decide +kernel
theorem dX3_residue_50 : decode cX3_residue 50 = .ok (.ifCond .ne 5, 3) := by decide +kernel
theorem dX3_residue_53 : decode cX3_residue 53 = .ok (.lconst 0, 1) := by decide +kernel
theorem dX3_residue_54 : decode cX3_residue 54 = .ok (.lreturn, 1) := by decide +kernel
theorem dX3_residue_55 : decode cX3_residue 55 = .ok (.aload 4, 2) := by decide +kernel
theorem dX3_residue_57 : decode cX3_residue 57 = .ok (.getfield 61, 3) := by decide +kernel
theorem dX3_residue_60 : decode cX3_residue 60 = .ok (.ifCond .eq 11, 3) := by decide +kernel
theorem dX3_residue_63 : decode cX3_residue 63 = .ok (.lload 7, 2) := by decide +kernel
theorem dX3_residue_65 : decode cX3_residue 65 = .ok (.lload 5, 2) := by decide +kernel
theorem dX3_residue_67 : decode cX3_residue 67 = .ok (.lsub, 1) := by decide +kernel
theorem dX3_residue_68 : decode cX3_residue 68 = .ok (.goto 6, 3) := by decide +kernel
theorem dX3_residue_71 : decode cX3_residue 71 = .ok (.lload 7, 2) := by decide +kernel
theorem dX3_residue_73 : decode cX3_residue 73 = .ok (.lneg, 1) := by decide +kernel
theorem dX3_residue_74 : decode cX3_residue 74 = .ok (.lreturn, 1) := by decide +kernel
theorem dX3_kept_0 : decode cX3_kept 0 = .ok (.aload_n 0, 1) := by decide +kernel
theorem dX3_kept_1 : decode cX3_kept 1 = .ok (.getfield 15, 3) := by decide +kernel
theorem dX3_kept_4 : decode cX3_kept 4 = .ok (.ireturn, 1) := by decide +kernel
theorem dX3_isFull_0 : decode cX3_isFull 0 = .ok (.aload_n 0, 1) := by decide +kernel
theorem dX3_isFull_1 : decode cX3_isFull 1 = .ok (.getfield 15, 3) := by decide +kernel
theorem dX3_isFull_4 : decode cX3_isFull 4 = .ok (.sipush 160, 3) := by decide +kernel
theorem dX3_isFull_7 : decode cX3_isFull 7 = .ok (.if_icmp .lt 7, 3) := by decide +kernel
theorem dX3_isFull_10 : decode cX3_isFull 10 = .ok (.iconst 1, 1) := by decide +kernel
theorem dX3_isFull_11 : decode cX3_isFull 11 = .ok (.goto 4, 3) := by decide +kernel
theorem dX3_isFull_14 : decode cX3_isFull 14 = .ok (.iconst 0, 1) := by decide +kernel
theorem dX3_isFull_15 : decode cX3_isFull 15 = .ok (.ireturn, 1) := by decide +kernel
theorem dX3_known_0 : decode cX3_known 0 = .ok (.iload_n 1, 1) := by decide +kernel
theorem dX3_known_1 : decode cX3_known 1 = .ok (.ifCond .lt 11, 3) := by decide +kernel
theorem dX3_known_4 : decode cX3_known 4 = .ok (.iload_n 1, 1) := by decide +kernel
theorem dX3_known_5 : decode cX3_known 5 = .ok (.aload_n 0, 1) := by decide +kernel
theorem dX3_known_6 : decode cX3_known 6 = .ok (.getfield 15, 3) := by decide +kernel
theorem dX3_known_9 : decode cX3_known 9 = .ok (.if_icmp .lt 13, 3) := by decide +kernel
theorem dX3_known_12 : decode cX3_known 12 = .ok (.new 114, 3) := by decide +kernel
theorem dX3_known_15 : decode cX3_known 15 = .ok (.dup, 1) := by decide +kernel
theorem dX3_known_16 : decode cX3_known 16 = .ok (.ldc 137, 2) := by decide +kernel
theorem dX3_known_18 : decode cX3_known 18 = .ok (.invokespecial 118, 3) := by decide +kernel
theorem dX3_known_21 : decode cX3_known 21 = .ok (.athrow, 1) := by decide +kernel
theorem dX3_known_22 : decode cX3_known 22 = .ok (.aload_n 0, 1) := by decide +kernel
theorem dX3_known_23 : decode cX3_known 23 = .ok (.getfield 11, 3) := by decide +kernel
theorem dX3_known_26 : decode cX3_known 26 = .ok (.iload_n 1, 1) := by decide +kernel
theorem dX3_known_27 : decode cX3_known 27 = .ok (.aaload, 1) := by decide +kernel
theorem dX3_known_28 : decode cX3_known 28 = .ok (.areturn, 1) := by decide +kernel
theorem dX3_keep_0 : decode cX3_keep 0 = .ok (.aload_n 0, 1) := by decide +kernel
theorem dX3_keep_1 : decode cX3_keep 1 = .ok (.invokevirtual 45, 3) := by decide +kernel
theorem dX3_keep_4 : decode cX3_keep 4 = .ok (.ifCond .ne 10, 3) := by decide +kernel
theorem dX3_keep_7 : decode cX3_keep 7 = .ok (.aload_n 1, 1) := by decide +kernel
theorem dX3_keep_8 : decode cX3_keep 8 = .ok (.invokevirtual 102, 3) := by decide +kernel
theorem dX3_keep_11 : decode cX3_keep 11 = .ok (.ifCond .ne 5, 3) := by decide +kernel
theorem dX3_keep_14 : decode cX3_keep 14 = .ok (.iconst (-1), 1) := by decide +kernel
theorem dX3_keep_15 : decode cX3_keep 15 = .ok (.ireturn, 1) := by decide +kernel
theorem dX3_keep_16 : decode cX3_keep 16 = .ok (.new 9, 3) := by decide +kernel
theorem dX3_keep_19 : decode cX3_keep 19 = .ok (.dup, 1) := by decide +kernel
theorem dX3_keep_20 : decode cX3_keep 20 = .ok (.aload_n 1, 1) := by decide +kernel
theorem dX3_keep_21 : decode cX3_keep 21 = .ok (.getfield 139, 3) := by decide +kernel
theorem dX3_keep_24 : decode cX3_keep 24 = .ok (.invokespecial 24, 3) := by decide +kernel
theorem dX3_keep_27 : decode cX3_keep 27 = .ok (.astore_n 2, 1) := by decide +kernel
theorem dX3_keep_28 : decode cX3_keep 28 = .ok (.aload_n 2, 1) := by decide +kernel
theorem dX3_keep_29 : decode cX3_keep 29 = .ok (.aload_n 1, 1) := by decide +kernel
theorem dX3_keep_30 : decode cX3_keep 30 = .ok (.invokevirtual 92, 3) := by decide +kernel
theorem dX3_keep_33 : decode cX3_keep 33 = .ok (.aload_n 0, 1) := by decide +kernel
theorem dX3_keep_34 : decode cX3_keep 34 = .ok (.getfield 11, 3) := by decide +kernel
theorem dX3_keep_37 : decode cX3_keep 37 = .ok (.aload_n 0, 1) := by decide +kernel
theorem dX3_keep_38 : decode cX3_keep 38 = .ok (.getfield 15, 3) := by decide +kernel
theorem dX3_keep_41 : decode cX3_keep 41 = .ok (.aload_n 2, 1) := by decide +kernel
theorem dX3_keep_42 : decode cX3_keep 42 = .ok (.aastore, 1) := by decide +kernel
theorem dX3_keep_43 : decode cX3_keep 43 = .ok (.aload_n 0, 1) := by decide +kernel
theorem dX3_keep_44 : decode cX3_keep 44 = .ok (.dup, 1) := by decide +kernel
theorem dX3_keep_45 : decode cX3_keep 45 = .ok (.getfield 15, 3) := by decide +kernel
theorem dX3_keep_48 : decode cX3_keep 48 = .ok (.iconst 1, 1) := by decide +kernel
theorem dX3_keep_49 : decode cX3_keep 49 = .ok (.iadd, 1) := by decide +kernel
theorem dX3_keep_50 : decode cX3_keep 50 = .ok (.putfield 15, 3) := by decide +kernel
theorem dX3_keep_53 : decode cX3_keep 53 = .ok (.aload_n 0, 1) := by decide +kernel
theorem dX3_keep_54 : decode cX3_keep 54 = .ok (.getfield 15, 3) := by decide +kernel
theorem dX3_keep_57 : decode cX3_keep 57 = .ok (.iconst 1, 1) := by decide +kernel
theorem dX3_keep_58 : decode cX3_keep 58 = .ok (.isub, 1) := by decide +kernel
theorem dX3_keep_59 : decode cX3_keep 59 = .ok (.ireturn, 1) := by decide +kernel
theorem dX3_highestBit_0 : decode cX3_highestBit 0 = .ok (.bipush 31, 2) := by decide +kernel
theorem dX3_highestBit_2 : decode cX3_highestBit 2 = .ok (.iload_n 0, 1) := by decide +kernel
theorem dX3_highestBit_3 : decode cX3_highestBit 3 = .ok (.invokestatic 142, 3) := by decide +kernel
theorem dX3_highestBit_6 : decode cX3_highestBit 6 = .ok (.isub, 1) := by decide +kernel
theorem dX3_highestBit_7 : decode cX3_highestBit 7 = .ok (.ireturn, 1) := by decide +kernel
theorem dJx00060_init_a7421_0 : decode cJx00060_init_a7421 0 = .ok (.aload_n 0, 1) := by decide +kernel
theorem dJx00060_init_a7421_1 : decode cJx00060_init_a7421 1 = .ok (.aload_n 1, 1) := by decide +kernel
theorem dJx00060_init_a7421_2 : decode cJx00060_init_a7421 2 = .ok (.invokespecial 7, 3) := by decide +kernel
theorem dJx00060_init_a7421_5 : decode cJx00060_init_a7421 5 = .ok (.return_, 1) := by decide +kernel
theorem dJ6_numberOfLeadingZeros_0f7a4_0 : decode cJ6_numberOfLeadingZeros_0f7a4 0 = .ok (.iload_n 0, 1) := by decide +kernel
theorem dJ6_numberOfLeadingZeros_0f7a4_1 : decode cJ6_numberOfLeadingZeros_0f7a4 1 = .ok (.ifCond .gt 14, 3) := by decide +kernel
theorem dJ6_numberOfLeadingZeros_0f7a4_4 : decode cJ6_numberOfLeadingZeros_0f7a4 4 = .ok (.iload_n 0, 1) := by decide +kernel
theorem dJ6_numberOfLeadingZeros_0f7a4_5 : decode cJ6_numberOfLeadingZeros_0f7a4 5 = .ok (.ifCond .ne 8, 3) := by decide +kernel
theorem dJ6_numberOfLeadingZeros_0f7a4_8 : decode cJ6_numberOfLeadingZeros_0f7a4 8 = .ok (.bipush 32, 2) := by decide +kernel
theorem dJ6_numberOfLeadingZeros_0f7a4_10 : decode cJ6_numberOfLeadingZeros_0f7a4 10 = .ok (.goto 4, 3) := by decide +kernel
theorem dJ6_numberOfLeadingZeros_0f7a4_13 : decode cJ6_numberOfLeadingZeros_0f7a4 13 = .ok (.iconst 0, 1) := by decide +kernel
theorem dJ6_numberOfLeadingZeros_0f7a4_14 : decode cJ6_numberOfLeadingZeros_0f7a4 14 = .ok (.ireturn, 1) := by decide +kernel
theorem dJ6_numberOfLeadingZeros_0f7a4_15 : decode cJ6_numberOfLeadingZeros_0f7a4 15 = .ok (.bipush 31, 2) := by decide +kernel
theorem dJ6_numberOfLeadingZeros_0f7a4_17 : decode cJ6_numberOfLeadingZeros_0f7a4 17 = .ok (.istore_n 1, 1) := by decide +kernel
theorem dJ6_numberOfLeadingZeros_0f7a4_18 : decode cJ6_numberOfLeadingZeros_0f7a4 18 = .ok (.iload_n 0, 1) := by decide +kernel
theorem dJ6_numberOfLeadingZeros_0f7a4_19 : decode cJ6_numberOfLeadingZeros_0f7a4 19 = .ok (.ldc_w 264, 3) := by decide +kernel
theorem dJ6_numberOfLeadingZeros_0f7a4_22 : decode cJ6_numberOfLeadingZeros_0f7a4 22 = .ok (.if_icmp .lt 11, 3) := by decide +kernel
theorem dJ6_numberOfLeadingZeros_0f7a4_25 : decode cJ6_numberOfLeadingZeros_0f7a4 25 = .ok (.iinc 1 (-16), 3) := by decide +kernel
theorem dJ6_numberOfLeadingZeros_0f7a4_28 : decode cJ6_numberOfLeadingZeros_0f7a4 28 = .ok (.iload_n 0, 1) := by decide +kernel
theorem dJ6_numberOfLeadingZeros_0f7a4_29 : decode cJ6_numberOfLeadingZeros_0f7a4 29 = .ok (.bipush 16, 2) := by decide +kernel
theorem dJ6_numberOfLeadingZeros_0f7a4_31 : decode cJ6_numberOfLeadingZeros_0f7a4 31 = .ok (.iushr, 1) := by decide +kernel
theorem dJ6_numberOfLeadingZeros_0f7a4_32 : decode cJ6_numberOfLeadingZeros_0f7a4 32 = .ok (.istore_n 0, 1) := by decide +kernel
theorem dJ6_numberOfLeadingZeros_0f7a4_33 : decode cJ6_numberOfLeadingZeros_0f7a4 33 = .ok (.iload_n 0, 1) := by decide +kernel
theorem dJ6_numberOfLeadingZeros_0f7a4_34 : decode cJ6_numberOfLeadingZeros_0f7a4 34 = .ok (.sipush 256, 3) := by decide +kernel
theorem dJ6_numberOfLeadingZeros_0f7a4_37 : decode cJ6_numberOfLeadingZeros_0f7a4 37 = .ok (.if_icmp .lt 11, 3) := by decide +kernel
theorem dJ6_numberOfLeadingZeros_0f7a4_40 : decode cJ6_numberOfLeadingZeros_0f7a4 40 = .ok (.iinc 1 (-8), 3) := by decide +kernel
theorem dJ6_numberOfLeadingZeros_0f7a4_43 : decode cJ6_numberOfLeadingZeros_0f7a4 43 = .ok (.iload_n 0, 1) := by decide +kernel
theorem dJ6_numberOfLeadingZeros_0f7a4_44 : decode cJ6_numberOfLeadingZeros_0f7a4 44 = .ok (.bipush 8, 2) := by decide +kernel
theorem dJ6_numberOfLeadingZeros_0f7a4_46 : decode cJ6_numberOfLeadingZeros_0f7a4 46 = .ok (.iushr, 1) := by decide +kernel
theorem dJ6_numberOfLeadingZeros_0f7a4_47 : decode cJ6_numberOfLeadingZeros_0f7a4 47 = .ok (.istore_n 0, 1) := by decide +kernel
theorem dJ6_numberOfLeadingZeros_0f7a4_48 : decode cJ6_numberOfLeadingZeros_0f7a4 48 = .ok (.iload_n 0, 1) := by decide +kernel
theorem dJ6_numberOfLeadingZeros_0f7a4_49 : decode cJ6_numberOfLeadingZeros_0f7a4 49 = .ok (.bipush 16, 2) := by decide +kernel
theorem dJ6_numberOfLeadingZeros_0f7a4_51 : decode cJ6_numberOfLeadingZeros_0f7a4 51 = .ok (.if_icmp .lt 10, 3) := by decide +kernel
theorem dJ6_numberOfLeadingZeros_0f7a4_54 : decode cJ6_numberOfLeadingZeros_0f7a4 54 = .ok (.iinc 1 (-4), 3) := by decide +kernel
theorem dJ6_numberOfLeadingZeros_0f7a4_57 : decode cJ6_numberOfLeadingZeros_0f7a4 57 = .ok (.iload_n 0, 1) := by decide +kernel
theorem dJ6_numberOfLeadingZeros_0f7a4_58 : decode cJ6_numberOfLeadingZeros_0f7a4 58 = .ok (.iconst 4, 1) := by decide +kernel
theorem dJ6_numberOfLeadingZeros_0f7a4_59 : decode cJ6_numberOfLeadingZeros_0f7a4 59 = .ok (.iushr, 1) := by decide +kernel
theorem dJ6_numberOfLeadingZeros_0f7a4_60 : decode cJ6_numberOfLeadingZeros_0f7a4 60 = .ok (.istore_n 0, 1) := by decide +kernel
theorem dJ6_numberOfLeadingZeros_0f7a4_61 : decode cJ6_numberOfLeadingZeros_0f7a4 61 = .ok (.iload_n 0, 1) := by decide +kernel
theorem dJ6_numberOfLeadingZeros_0f7a4_62 : decode cJ6_numberOfLeadingZeros_0f7a4 62 = .ok (.iconst 4, 1) := by decide +kernel
theorem dJ6_numberOfLeadingZeros_0f7a4_63 : decode cJ6_numberOfLeadingZeros_0f7a4 63 = .ok (.if_icmp .lt 10, 3) := by decide +kernel
theorem dJ6_numberOfLeadingZeros_0f7a4_66 : decode cJ6_numberOfLeadingZeros_0f7a4 66 = .ok (.iinc 1 (-2), 3) := by decide +kernel
theorem dJ6_numberOfLeadingZeros_0f7a4_69 : decode cJ6_numberOfLeadingZeros_0f7a4 69 = .ok (.iload_n 0, 1) := by decide +kernel
theorem dJ6_numberOfLeadingZeros_0f7a4_70 : decode cJ6_numberOfLeadingZeros_0f7a4 70 = .ok (.iconst 2, 1) := by decide +kernel
theorem dJ6_numberOfLeadingZeros_0f7a4_71 : decode cJ6_numberOfLeadingZeros_0f7a4 71 = .ok (.iushr, 1) := by decide +kernel
theorem dJ6_numberOfLeadingZeros_0f7a4_72 : decode cJ6_numberOfLeadingZeros_0f7a4 72 = .ok (.istore_n 0, 1) := by decide +kernel
theorem dJ6_numberOfLeadingZeros_0f7a4_73 : decode cJ6_numberOfLeadingZeros_0f7a4 73 = .ok (.iload_n 1, 1) := by decide +kernel
theorem dJ6_numberOfLeadingZeros_0f7a4_74 : decode cJ6_numberOfLeadingZeros_0f7a4 74 = .ok (.iload_n 0, 1) := by decide +kernel
theorem dJ6_numberOfLeadingZeros_0f7a4_75 : decode cJ6_numberOfLeadingZeros_0f7a4 75 = .ok (.iconst 1, 1) := by decide +kernel
theorem dJ6_numberOfLeadingZeros_0f7a4_76 : decode cJ6_numberOfLeadingZeros_0f7a4 76 = .ok (.iushr, 1) := by decide +kernel
theorem dJ6_numberOfLeadingZeros_0f7a4_77 : decode cJ6_numberOfLeadingZeros_0f7a4 77 = .ok (.isub, 1) := by decide +kernel
theorem dJ6_numberOfLeadingZeros_0f7a4_78 : decode cJ6_numberOfLeadingZeros_0f7a4 78 = .ok (.ireturn, 1) := by decide +kernel
theorem dJ9_max_7cf53_0 : decode cJ9_max_7cf53 0 = .ok (.iload_n 0, 1) := by decide +kernel
theorem dJ9_max_7cf53_1 : decode cJ9_max_7cf53 1 = .ok (.iload_n 1, 1) := by decide +kernel
theorem dJ9_max_7cf53_2 : decode cJ9_max_7cf53 2 = .ok (.if_icmp .lt 7, 3) := by decide +kernel
theorem dJ9_max_7cf53_5 : decode cJ9_max_7cf53 5 = .ok (.iload_n 0, 1) := by decide +kernel
theorem dJ9_max_7cf53_6 : decode cJ9_max_7cf53 6 = .ok (.goto 4, 3) := by decide +kernel
theorem dJ9_max_7cf53_9 : decode cJ9_max_7cf53 9 = .ok (.iload_n 1, 1) := by decide +kernel
theorem dJ9_max_7cf53_10 : decode cJ9_max_7cf53 10 = .ok (.ireturn, 1) := by decide +kernel
theorem dJ9_min_7cf53_0 : decode cJ9_min_7cf53 0 = .ok (.iload_n 0, 1) := by decide +kernel
theorem dJ9_min_7cf53_1 : decode cJ9_min_7cf53 1 = .ok (.iload_n 1, 1) := by decide +kernel
theorem dJ9_min_7cf53_2 : decode cJ9_min_7cf53 2 = .ok (.if_icmp .gt 7, 3) := by decide +kernel
theorem dJ9_min_7cf53_5 : decode cJ9_min_7cf53 5 = .ok (.iload_n 0, 1) := by decide +kernel
theorem dJ9_min_7cf53_6 : decode cJ9_min_7cf53 6 = .ok (.goto 4, 3) := by decide +kernel
theorem dJ9_min_7cf53_9 : decode cJ9_min_7cf53 9 = .ok (.iload_n 1, 1) := by decide +kernel
theorem dJ9_min_7cf53_10 : decode cJ9_min_7cf53 10 = .ok (.ireturn, 1) := by decide +kernel
