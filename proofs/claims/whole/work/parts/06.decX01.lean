theorem dX0_init_0 : decode cX0_init 0 = .ok (.aload_n 0, 1) := by decide +kernel
theorem dX0_init_1 : decode cX0_init 1 = .ok (.invokespecial 3, 3) := by decide +kernel
theorem dX0_init_4 : decode cX0_init 4 = .ok (.aload_n 0, 1) := by decide +kernel
theorem dX0_init_5 : decode cX0_init 5 = .ok (.bipush 66, 2) := by decide +kernel
theorem dX0_init_7 : decode cX0_init 7 = .ok (.newarray .int, 2) := by decide +kernel
theorem dX0_init_9 : decode cX0_init 9 = .ok (.putfield 9, 3) := by decide +kernel
theorem dX0_init_12 : decode cX0_init 12 = .ok (.aload_n 0, 1) := by decide +kernel
theorem dX0_init_13 : decode cX0_init 13 = .ok (.bipush 66, 2) := by decide +kernel
theorem dX0_init_15 : decode cX0_init 15 = .ok (.newarray .int, 2) := by decide +kernel
theorem dX0_init_17 : decode cX0_init 17 = .ok (.putfield 15, 3) := by decide +kernel
theorem dX0_init_20 : decode cX0_init 20 = .ok (.return_, 1) := by decide +kernel
theorem dX0_divide_0 : decode cX0_divide 0 = .ok (.aload_n 1, 1) := by decide +kernel
theorem dX0_divide_1 : decode cX0_divide 1 = .ok (.getfield 18, 3) := by decide +kernel
theorem dX0_divide_4 : decode cX0_divide 4 = .ok (.aload_n 2, 1) := by decide +kernel
theorem dX0_divide_5 : decode cX0_divide 5 = .ok (.getfield 18, 3) := by decide +kernel
theorem dX0_divide_8 : decode cX0_divide 8 = .ok (.isub, 1) := by decide +kernel
theorem dX0_divide_9 : decode cX0_divide 9 = .ok (.iconst 1, 1) := by decide +kernel
theorem dX0_divide_10 : decode cX0_divide 10 = .ok (.iadd, 1) := by decide +kernel
theorem dX0_divide_11 : decode cX0_divide 11 = .ok (.istore 4, 2) := by decide +kernel
theorem dX0_divide_13 : decode cX0_divide 13 = .ok (.aload_n 2, 1) := by decide +kernel
theorem dX0_divide_14 : decode cX0_divide 14 = .ok (.invokevirtual 24, 3) := by decide +kernel
theorem dX0_divide_17 : decode cX0_divide 17 = .ok (.ifCond .ne 28, 3) := by decide +kernel
theorem dX0_divide_20 : decode cX0_divide 20 = .ok (.iload 4, 2) := by decide +kernel
theorem dX0_divide_22 : decode cX0_divide 22 = .ok (.iconst 1, 1) := by decide +kernel
theorem dX0_divide_23 : decode cX0_divide 23 = .ok (.if_icmp .lt 22, 3) := by decide +kernel
theorem dX0_divide_26 : decode cX0_divide 26 = .ok (.iload 4, 2) := by decide +kernel
theorem dX0_divide_28 : decode cX0_divide 28 = .ok (.aload_n 3, 1) := by decide +kernel
theorem dX0_divide_29 : decode cX0_divide 29 = .ok (.getfield 28, 3) := by decide +kernel
theorem dX0_divide_32 : decode cX0_divide 32 = .ok (.arraylength, 1) := by decide +kernel
theorem dX0_divide_33 : decode cX0_divide 33 = .ok (.if_icmp .gt 12, 3) := by decide +kernel
theorem dX0_divide_36 : decode cX0_divide 36 = .ok (.aload_n 1, 1) := by decide +kernel
theorem dX0_divide_37 : decode cX0_divide 37 = .ok (.getfield 18, 3) := by decide +kernel
theorem dX0_divide_40 : decode cX0_divide 40 = .ok (.bipush 65, 2) := by decide +kernel
theorem dX0_divide_42 : decode cX0_divide 42 = .ok (.if_icmp .le 9, 3) := by decide +kernel
theorem dX0_divide_45 : decode cX0_divide 45 = .ok (.aload_n 3, 1) := by decide +kernel
theorem dX0_divide_46 : decode cX0_divide 46 = .ok (.lconst 0, 1) := by decide +kernel
theorem dX0_divide_47 : decode cX0_divide 47 = .ok (.invokevirtual 31, 3) := by decide +kernel
theorem dX0_divide_50 : decode cX0_divide 50 = .ok (.return_, 1) := by decide +kernel
theorem dX0_divide_51 : decode cX0_divide 51 = .ok (.aload_n 1, 1) := by decide +kernel
theorem dX0_divide_52 : decode cX0_divide 52 = .ok (.getfield 35, 3) := by decide +kernel
theorem dX0_divide_55 : decode cX0_divide 55 = .ok (.aload_n 2, 1) := by decide +kernel
theorem dX0_divide_56 : decode cX0_divide 56 = .ok (.getfield 35, 3) := by decide +kernel
theorem dX0_divide_59 : decode cX0_divide 59 = .ok (.if_icmp .eq 7, 3) := by decide +kernel
theorem dX0_divide_62 : decode cX0_divide 62 = .ok (.iconst 1, 1) := by decide +kernel
theorem dX0_divide_63 : decode cX0_divide 63 = .ok (.goto 4, 3) := by decide +kernel
theorem dX0_divide_66 : decode cX0_divide 66 = .ok (.iconst 0, 1) := by decide +kernel
theorem dX0_divide_67 : decode cX0_divide 67 = .ok (.istore 5, 2) := by decide +kernel
theorem dX0_divide_69 : decode cX0_divide 69 = .ok (.aload_n 2, 1) := by decide +kernel
theorem dX0_divide_70 : decode cX0_divide 70 = .ok (.getfield 18, 3) := by decide +kernel
theorem dX0_divide_73 : decode cX0_divide 73 = .ok (.iconst 1, 1) := by decide +kernel
theorem dX0_divide_74 : decode cX0_divide 74 = .ok (.if_icmp .ne 30, 3) := by decide +kernel
theorem dX0_divide_77 : decode cX0_divide 77 = .ok (.aload_n 3, 1) := by decide +kernel
theorem dX0_divide_78 : decode cX0_divide 78 = .ok (.aload_n 1, 1) := by decide +kernel
theorem dX0_divide_79 : decode cX0_divide 79 = .ok (.invokevirtual 39, 3) := by decide +kernel
theorem dX0_divide_82 : decode cX0_divide 82 = .ok (.aload_n 3, 1) := by decide +kernel
theorem dX0_divide_83 : decode cX0_divide 83 = .ok (.aload_n 2, 1) := by decide +kernel
theorem dX0_divide_84 : decode cX0_divide 84 = .ok (.getfield 28, 3) := by decide +kernel
theorem dX0_divide_87 : decode cX0_divide 87 = .ok (.iconst 0, 1) := by decide +kernel
theorem dX0_divide_88 : decode cX0_divide 88 = .ok (.iaload, 1) := by decide +kernel
theorem dX0_divide_89 : decode cX0_divide 89 = .ok (.invokevirtual 43, 3) := by decide +kernel
theorem dX0_divide_92 : decode cX0_divide 92 = .ok (.pop, 1) := by decide +kernel
theorem dX0_divide_93 : decode cX0_divide 93 = .ok (.aload_n 3, 1) := by decide +kernel
theorem dX0_divide_94 : decode cX0_divide 94 = .ok (.aload_n 3, 1) := by decide +kernel
theorem dX0_divide_95 : decode cX0_divide 95 = .ok (.getfield 18, 3) := by decide +kernel
theorem dX0_divide_98 : decode cX0_divide 98 = .ok (.iload 5, 2) := by decide +kernel
theorem dX0_divide_100 : decode cX0_divide 100 = .ok (.invokevirtual 47, 3) := by decide +kernel
theorem dX0_divide_103 : decode cX0_divide 103 = .ok (.return_, 1) := by decide +kernel
theorem dX0_divide_104 : decode cX0_divide 104 = .ok (.bipush 24, 2) := by decide +kernel
theorem dX0_divide_106 : decode cX0_divide 106 = .ok (.aload_n 2, 1) := by decide +kernel
theorem dX0_divide_107 : decode cX0_divide 107 = .ok (.getfield 28, 3) := by decide +kernel
theorem dX0_divide_110 : decode cX0_divide 110 = .ok (.aload_n 2, 1) := by decide +kernel
theorem dX0_divide_111 : decode cX0_divide 111 = .ok (.getfield 18, 3) := by decide +kernel
theorem dX0_divide_114 : decode cX0_divide 114 = .ok (.iconst 1, 1) := by decide +kernel
theorem dX0_divide_115 : decode cX0_divide 115 = .ok (.isub, 1) := by decide +kernel
theorem dX0_divide_116 : decode cX0_divide 116 = .ok (.iaload, 1) := by decide +kernel
theorem dX0_divide_117 : decode cX0_divide 117 = .ok (.invokestatic 51, 3) := by decide +kernel
theorem dX0_divide_120 : decode cX0_divide 120 = .ok (.isub, 1) := by decide +kernel
theorem dX0_divide_121 : decode cX0_divide 121 = .ok (.istore 6, 2) := by decide +kernel
theorem dX0_divide_123 : decode cX0_divide 123 = .ok (.aload_n 0, 1) := by decide +kernel
theorem dX0_divide_124 : decode cX0_divide 124 = .ok (.getfield 15, 3) := by decide +kernel
theorem dX0_divide_127 : decode cX0_divide 127 = .ok (.aload_n 2, 1) := by decide +kernel
theorem dX0_divide_128 : decode cX0_divide 128 = .ok (.iload 6, 2) := by decide +kernel
theorem dX0_divide_130 : decode cX0_divide 130 = .ok (.invokestatic 54, 3) := by decide +kernel
theorem dX0_divide_133 : decode cX0_divide 133 = .ok (.aload_n 0, 1) := by decide +kernel
theorem dX0_divide_134 : decode cX0_divide 134 = .ok (.getfield 9, 3) := by decide +kernel
theorem dX0_divide_137 : decode cX0_divide 137 = .ok (.aload_n 1, 1) := by decide +kernel
theorem dX0_divide_138 : decode cX0_divide 138 = .ok (.iload 6, 2) := by decide +kernel
theorem dX0_divide_140 : decode cX0_divide 140 = .ok (.invokestatic 54, 3) := by decide +kernel
theorem dX0_divide_143 : decode cX0_divide 143 = .ok (.iload 4, 2) := by decide +kernel
theorem dX0_divide_145 : decode cX0_divide 145 = .ok (.iconst 1, 1) := by decide +kernel
theorem dX0_divide_146 : decode cX0_divide 146 = .ok (.isub, 1) := by decide +kernel
theorem dX0_divide_147 : decode cX0_divide 147 = .ok (.istore 7, 2) := by decide +kernel
theorem dX0_divide_149 : decode cX0_divide 149 = .ok (.iload 7, 2) := by decide +kernel
theorem dX0_divide_151 : decode cX0_divide 151 = .ok (.ifCond .lt 26, 3) := by decide +kernel
theorem dX0_divide_154 : decode cX0_divide 154 = .ok (.aload_n 3, 1) := by decide +kernel
theorem dX0_divide_155 : decode cX0_divide 155 = .ok (.getfield 28, 3) := by decide +kernel
theorem dX0_divide_158 : decode cX0_divide 158 = .ok (.iload 7, 2) := by decide +kernel
theorem dX0_divide_160 : decode cX0_divide 160 = .ok (.aload_n 0, 1) := by decide +kernel
theorem dX0_divide_161 : decode cX0_divide 161 = .ok (.iload 7, 2) := by decide +kernel
theorem dX0_divide_163 : decode cX0_divide 163 = .ok (.aload_n 2, 1) := by decide +kernel
theorem dX0_divide_164 : decode cX0_divide 164 = .ok (.getfield 18, 3) := by decide +kernel
theorem dX0_divide_167 : decode cX0_divide 167 = .ok (.invokevirtual 58, 3) := by decide +kernel
theorem dX0_divide_170 : decode cX0_divide 170 = .ok (.iastore, 1) := by decide +kernel
theorem dX0_divide_171 : decode cX0_divide 171 = .ok (.iinc 7 (-1), 3) := by decide +kernel
theorem dX0_divide_174 : decode cX0_divide 174 = .ok (.goto (-25), 3) := by decide +kernel
theorem dX0_divide_177 : decode cX0_divide 177 = .ok (.aload_n 3, 1) := by decide +kernel
theorem dX0_divide_178 : decode cX0_divide 178 = .ok (.iload 4, 2) := by decide +kernel
theorem dX0_divide_180 : decode cX0_divide 180 = .ok (.iload 5, 2) := by decide +kernel
theorem dX0_divide_182 : decode cX0_divide 182 = .ok (.invokevirtual 47, 3) := by decide +kernel
theorem dX0_divide_185 : decode cX0_divide 185 = .ok (.return_, 1) := by decide +kernel
theorem dX0_shiftInto_0 : decode cX0_shiftInto 0 = .ok (.lconst 0, 1) := by decide +kernel
theorem dX0_shiftInto_1 : decode cX0_shiftInto 1 = .ok (.lstore_n 3, 1) := by decide +kernel
theorem dX0_shiftInto_2 : decode cX0_shiftInto 2 = .ok (.iconst 0, 1) := by decide +kernel
theorem dX0_shiftInto_3 : decode cX0_shiftInto 3 = .ok (.istore 5, 2) := by decide +kernel
theorem dX0_shiftInto_5 : decode cX0_shiftInto 5 = .ok (.iload 5, 2) := by decide +kernel
theorem dX0_shiftInto_7 : decode cX0_shiftInto 7 = .ok (.aload_n 1, 1) := by decide +kernel
theorem dX0_shiftInto_8 : decode cX0_shiftInto 8 = .ok (.getfield 18, 3) := by decide +kernel
theorem dX0_shiftInto_11 : decode cX0_shiftInto 11 = .ok (.if_icmp .gt 43, 3) := by decide +kernel
theorem dX0_shiftInto_14 : decode cX0_shiftInto 14 = .ok (.iload 5, 2) := by decide +kernel
theorem dX0_shiftInto_16 : decode cX0_shiftInto 16 = .ok (.aload_n 0, 1) := by decide +kernel
theorem dX0_shiftInto_17 : decode cX0_shiftInto 17 = .ok (.arraylength, 1) := by decide +kernel
theorem dX0_shiftInto_18 : decode cX0_shiftInto 18 = .ok (.if_icmp .ge 36, 3) := by decide +kernel
theorem dX0_shiftInto_21 : decode cX0_shiftInto 21 = .ok (.lload_n 3, 1) := by decide +kernel
theorem dX0_shiftInto_22 : decode cX0_shiftInto 22 = .ok (.aload_n 1, 1) := by decide +kernel
theorem dX0_shiftInto_23 : decode cX0_shiftInto 23 = .ok (.iload 5, 2) := by decide +kernel
theorem dX0_shiftInto_25 : decode cX0_shiftInto 25 = .ok (.invokevirtual 62, 3) := by decide +kernel
theorem dX0_shiftInto_28 : decode cX0_shiftInto 28 = .ok (.i2l, 1) := by decide +kernel
theorem dX0_shiftInto_29 : decode cX0_shiftInto 29 = .ok (.iload_n 2, 1) := by decide +kernel
theorem dX0_shiftInto_30 : decode cX0_shiftInto 30 = .ok (.lshl, 1) := by decide +kernel
theorem dX0_shiftInto_31 : decode cX0_shiftInto 31 = .ok (.lor, 1) := by decide +kernel
theorem dX0_shiftInto_32 : decode cX0_shiftInto 32 = .ok (.lstore_n 3, 1) := by decide +kernel
theorem dX0_shiftInto_33 : decode cX0_shiftInto 33 = .ok (.aload_n 0, 1) := by decide +kernel
theorem dX0_shiftInto_34 : decode cX0_shiftInto 34 = .ok (.iload 5, 2) := by decide +kernel
theorem dX0_shiftInto_36 : decode cX0_shiftInto 36 = .ok (.lload_n 3, 1) := by decide +kernel
theorem dX0_shiftInto_37 : decode cX0_shiftInto 37 = .ok (.ldc2_w 65, 3) := by decide +kernel
theorem dX0_shiftInto_40 : decode cX0_shiftInto 40 = .ok (.land, 1) := by decide +kernel
theorem dX0_shiftInto_41 : decode cX0_shiftInto 41 = .ok (.l2i, 1) := by decide +kernel
theorem dX0_shiftInto_42 : decode cX0_shiftInto 42 = .ok (.iastore, 1) := by decide +kernel
theorem dX0_shiftInto_43 : decode cX0_shiftInto 43 = .ok (.lload_n 3, 1) := by decide +kernel
theorem dX0_shiftInto_44 : decode cX0_shiftInto 44 = .ok (.bipush 25, 2) := by decide +kernel
theorem dX0_shiftInto_46 : decode cX0_shiftInto 46 = .ok (.lshr, 1) := by decide +kernel
theorem dX0_shiftInto_47 : decode cX0_shiftInto 47 = .ok (.lstore_n 3, 1) := by decide +kernel
theorem dX0_shiftInto_48 : decode cX0_shiftInto 48 = .ok (.iinc 5 1, 3) := by decide +kernel
theorem dX0_shiftInto_51 : decode cX0_shiftInto 51 = .ok (.goto (-46), 3) := by decide +kernel
theorem dX0_shiftInto_54 : decode cX0_shiftInto 54 = .ok (.return_, 1) := by decide +kernel
theorem dX0_nextLimb_0 : decode cX0_nextLimb 0 = .ok (.aload_n 0, 1) := by decide +kernel
theorem dX0_nextLimb_1 : decode cX0_nextLimb 1 = .ok (.iload_n 1, 1) := by decide +kernel
theorem dX0_nextLimb_2 : decode cX0_nextLimb 2 = .ok (.iload_n 2, 1) := by decide +kernel
theorem dX0_nextLimb_3 : decode cX0_nextLimb 3 = .ok (.invokevirtual 67, 3) := by decide +kernel
theorem dX0_nextLimb_6 : decode cX0_nextLimb 6 = .ok (.lstore_n 3, 1) := by decide +kernel
theorem dX0_nextLimb_7 : decode cX0_nextLimb 7 = .ok (.aload_n 0, 1) := by decide +kernel
theorem dX0_nextLimb_8 : decode cX0_nextLimb 8 = .ok (.iload_n 1, 1) := by decide +kernel
theorem dX0_nextLimb_9 : decode cX0_nextLimb 9 = .ok (.iload_n 2, 1) := by decide +kernel
theorem dX0_nextLimb_10 : decode cX0_nextLimb 10 = .ok (.lload_n 3, 1) := by decide +kernel
theorem dX0_nextLimb_11 : decode cX0_nextLimb 11 = .ok (.invokevirtual 71, 3) := by decide +kernel
theorem dX0_nextLimb_14 : decode cX0_nextLimb 14 = .ok (.ifCond .eq 6, 3) := by decide +kernel
theorem dX0_nextLimb_17 : decode cX0_nextLimb 17 = .ok (.lload_n 3, 1) := by decide +kernel
theorem dX0_nextLimb_18 : decode cX0_nextLimb 18 = .ok (.l2i, 1) := by decide +kernel
theorem dX0_nextLimb_19 : decode cX0_nextLimb 19 = .ok (.ireturn, 1) := by decide +kernel
theorem dX0_nextLimb_20 : decode cX0_nextLimb 20 = .ok (.aload_n 0, 1) := by decide +kernel
theorem dX0_nextLimb_21 : decode cX0_nextLimb 21 = .ok (.iload_n 1, 1) := by decide +kernel
theorem dX0_nextLimb_22 : decode cX0_nextLimb 22 = .ok (.iload_n 2, 1) := by decide +kernel
theorem dX0_nextLimb_23 : decode cX0_nextLimb 23 = .ok (.invokevirtual 75, 3) := by decide +kernel
theorem dX0_nextLimb_26 : decode cX0_nextLimb 26 = .ok (.lload_n 3, 1) := by decide +kernel
theorem dX0_nextLimb_27 : decode cX0_nextLimb 27 = .ok (.l2i, 1) := by decide +kernel
theorem dX0_nextLimb_28 : decode cX0_nextLimb 28 = .ok (.iconst 1, 1) := by decide +kernel
theorem dX0_nextLimb_29 : decode cX0_nextLimb 29 = .ok (.isub, 1) := by decide +kernel
theorem dX0_nextLimb_30 : decode cX0_nextLimb 30 = .ok (.ireturn, 1) := by decide +kernel
theorem dX0_guessLimb_0 : decode cX0_guessLimb 0 = .ok (.aload_n 0, 1) := by decide +kernel
theorem dX0_guessLimb_1 : decode cX0_guessLimb 1 = .ok (.getfield 15, 3) := by decide +kernel
theorem dX0_guessLimb_4 : decode cX0_guessLimb 4 = .ok (.iload_n 2, 1) := by decide +kernel
theorem dX0_guessLimb_5 : decode cX0_guessLimb 5 = .ok (.iconst 1, 1) := by decide +kernel
theorem dX0_guessLimb_6 : decode cX0_guessLimb 6 = .ok (.isub, 1) := by decide +kernel
theorem dX0_guessLimb_7 : decode cX0_guessLimb 7 = .ok (.iaload, 1) := by decide +kernel
theorem dX0_guessLimb_8 : decode cX0_guessLimb 8 = .ok (.i2l, 1) := by decide +kernel
theorem dX0_guessLimb_9 : decode cX0_guessLimb 9 = .ok (.lstore_n 3, 1) := by decide +kernel
theorem dX0_guessLimb_10 : decode cX0_guessLimb 10 = .ok (.lload_n 3, 1) := by decide +kernel
theorem dX0_guessLimb_11 : decode cX0_guessLimb 11 = .ok (.lconst 1, 1) := by decide +kernel
theorem dX0_guessLimb_12 : decode cX0_guessLimb 12 = .ok (.lcmp, 1) := by decide +kernel
theorem dX0_guessLimb_13 : decode cX0_guessLimb 13 = .ok (.ifCond .ge 5, 3) := by decide +kernel
theorem dX0_guessLimb_16 : decode cX0_guessLimb 16 = .ok (.lconst 0, 1) := by decide +kernel
theorem dX0_guessLimb_17 : decode cX0_guessLimb 17 = .ok (.lreturn, 1) := by decide +kernel
theorem dX0_guessLimb_18 : decode cX0_guessLimb 18 = .ok (.aload_n 0, 1) := by decide +kernel
theorem dX0_guessLimb_19 : decode cX0_guessLimb 19 = .ok (.getfield 9, 3) := by decide +kernel
theorem dX0_guessLimb_22 : decode cX0_guessLimb 22 = .ok (.iload_n 1, 1) := by decide +kernel
theorem dX0_guessLimb_23 : decode cX0_guessLimb 23 = .ok (.iload_n 2, 1) := by decide +kernel
theorem dX0_guessLimb_24 : decode cX0_guessLimb 24 = .ok (.iadd, 1) := by decide +kernel
theorem dX0_guessLimb_25 : decode cX0_guessLimb 25 = .ok (.iaload, 1) := by decide +kernel
theorem dX0_guessLimb_26 : decode cX0_guessLimb 26 = .ok (.i2l, 1) := by decide +kernel
theorem dX0_guessLimb_27 : decode cX0_guessLimb 27 = .ok (.bipush 25, 2) := by decide +kernel
theorem dX0_guessLimb_29 : decode cX0_guessLimb 29 = .ok (.lshl, 1) := by decide +kernel
theorem dX0_guessLimb_30 : decode cX0_guessLimb 30 = .ok (.aload_n 0, 1) := by decide +kernel
theorem dX0_guessLimb_31 : decode cX0_guessLimb 31 = .ok (.getfield 9, 3) := by decide +kernel
theorem dX0_guessLimb_34 : decode cX0_guessLimb 34 = .ok (.iload_n 1, 1) := by decide +kernel
theorem dX0_guessLimb_35 : decode cX0_guessLimb 35 = .ok (.iload_n 2, 1) := by decide +kernel
theorem dX0_guessLimb_36 : decode cX0_guessLimb 36 = .ok (.iadd, 1) := by decide +kernel
theorem dX0_guessLimb_37 : decode cX0_guessLimb 37 = .ok (.iconst 1, 1) := by decide +kernel
theorem dX0_guessLimb_38 : decode cX0_guessLimb 38 = .ok (.isub, 1) := by decide +kernel
theorem dX0_guessLimb_39 : decode cX0_guessLimb 39 = .ok (.iaload, 1) := by decide +kernel
theorem dX0_guessLimb_40 : decode cX0_guessLimb 40 = .ok (.i2l, 1) := by decide +kernel
theorem dX0_guessLimb_41 : decode cX0_guessLimb 41 = .ok (.lor, 1) := by decide +kernel
theorem dX0_guessLimb_42 : decode cX0_guessLimb 42 = .ok (.lstore 5, 2) := by decide +kernel
theorem dX0_guessLimb_44 : decode cX0_guessLimb 44 = .ok (.lload 5, 2) := by decide +kernel
theorem dX0_guessLimb_46 : decode cX0_guessLimb 46 = .ok (.lload_n 3, 1) := by decide +kernel
theorem dX0_guessLimb_47 : decode cX0_guessLimb 47 = .ok (.ldiv, 1) := by decide +kernel
theorem dX0_guessLimb_48 : decode cX0_guessLimb 48 = .ok (.lstore 7, 2) := by decide +kernel
theorem dX0_guessLimb_50 : decode cX0_guessLimb 50 = .ok (.lload 5, 2) := by decide +kernel
theorem dX0_guessLimb_52 : decode cX0_guessLimb 52 = .ok (.lload 7, 2) := by decide +kernel
theorem dX0_guessLimb_54 : decode cX0_guessLimb 54 = .ok (.lload_n 3, 1) := by decide +kernel
theorem dX0_guessLimb_55 : decode cX0_guessLimb 55 = .ok (.lmul, 1) := by decide +kernel
theorem dX0_guessLimb_56 : decode cX0_guessLimb 56 = .ok (.lsub, 1) := by decide +kernel
theorem dX0_guessLimb_57 : decode cX0_guessLimb 57 = .ok (.lstore 9, 2) := by decide +kernel
theorem dX0_guessLimb_59 : decode cX0_guessLimb 59 = .ok (.iconst 0, 1) := by decide +kernel
theorem dX0_guessLimb_60 : decode cX0_guessLimb 60 = .ok (.istore 11, 2) := by decide +kernel
theorem dX0_guessLimb_62 : decode cX0_guessLimb 62 = .ok (.iload 11, 2) := by decide +kernel
theorem dX0_guessLimb_64 : decode cX0_guessLimb 64 = .ok (.iconst 2, 1) := by decide +kernel
theorem dX0_guessLimb_65 : decode cX0_guessLimb 65 = .ok (.if_icmp .ge 79, 3) := by decide +kernel
theorem dX0_guessLimb_68 : decode cX0_guessLimb 68 = .ok (.lload 9, 2) := by decide +kernel
theorem dX0_guessLimb_70 : decode cX0_guessLimb 70 = .ok (.ldc2_w 79, 3) := by decide +kernel
theorem dX0_guessLimb_73 : decode cX0_guessLimb 73 = .ok (.lcmp, 1) := by decide +kernel
theorem dX0_guessLimb_74 : decode cX0_guessLimb 74 = .ok (.ifCond .ge 70, 3) := by decide +kernel
theorem dX0_guessLimb_77 : decode cX0_guessLimb 77 = .ok (.lload 9, 2) := by decide +kernel
theorem dX0_guessLimb_79 : decode cX0_guessLimb 79 = .ok (.bipush 25, 2) := by decide +kernel
theorem dX0_guessLimb_81 : decode cX0_guessLimb 81 = .ok (.lshl, 1) := by decide +kernel
theorem dX0_guessLimb_82 : decode cX0_guessLimb 82 = .ok (.aload_n 0, 1) := by decide +kernel
theorem dX0_guessLimb_83 : decode cX0_guessLimb 83 = .ok (.getfield 9, 3) := by decide +kernel
theorem dX0_guessLimb_86 : decode cX0_guessLimb 86 = .ok (.iload_n 1, 1) := by decide +kernel
theorem dX0_guessLimb_87 : decode cX0_guessLimb 87 = .ok (.iload_n 2, 1) := by decide +kernel
theorem dX0_guessLimb_88 : decode cX0_guessLimb 88 = .ok (.iadd, 1) := by decide +kernel
theorem dX0_guessLimb_89 : decode cX0_guessLimb 89 = .ok (.iconst 2, 1) := by decide +kernel
theorem dX0_guessLimb_90 : decode cX0_guessLimb 90 = .ok (.isub, 1) := by decide +kernel
theorem dX0_guessLimb_91 : decode cX0_guessLimb 91 = .ok (.iaload, 1) := by decide +kernel
theorem dX0_guessLimb_92 : decode cX0_guessLimb 92 = .ok (.i2l, 1) := by decide +kernel
theorem dX0_guessLimb_93 : decode cX0_guessLimb 93 = .ok (.lor, 1) := by decide +kernel
theorem dX0_guessLimb_94 : decode cX0_guessLimb 94 = .ok (.lstore 12, 2) := by decide +kernel
theorem dX0_guessLimb_96 : decode cX0_guessLimb 96 = .ok (.lload 7, 2) := by decide +kernel
theorem dX0_guessLimb_98 : decode cX0_guessLimb 98 = .ok (.ldc2_w 79, 3) := by decide +kernel
theorem dX0_guessLimb_101 : decode cX0_guessLimb 101 = .ok (.lcmp, 1) := by decide +kernel
theorem dX0_guessLimb_102 : decode cX0_guessLimb 102 = .ok (.ifCond .ge 24, 3) := by decide +kernel
theorem dX0_guessLimb_105 : decode cX0_guessLimb 105 = .ok (.lload 7, 2) := by decide +kernel
theorem dX0_guessLimb_107 : decode cX0_guessLimb 107 = .ok (.aload_n 0, 1) := by decide +kernel
theorem dX0_guessLimb_108 : decode cX0_guessLimb 108 = .ok (.getfield 15, 3) := by decide +kernel
theorem dX0_guessLimb_111 : decode cX0_guessLimb 111 = .ok (.iload_n 2, 1) := by decide +kernel
theorem dX0_guessLimb_112 : decode cX0_guessLimb 112 = .ok (.iconst 2, 1) := by decide +kernel
theorem dX0_guessLimb_113 : decode cX0_guessLimb 113 = .ok (.isub, 1) := by decide +kernel
theorem dX0_guessLimb_114 : decode cX0_guessLimb 114 = .ok (.iaload, 1) := by decide +kernel
theorem dX0_guessLimb_115 : decode cX0_guessLimb 115 = .ok (.i2l, 1) := by decide +kernel
theorem dX0_guessLimb_116 : decode cX0_guessLimb 116 = .ok (.lmul, 1) := by decide +kernel
theorem dX0_guessLimb_117 : decode cX0_guessLimb 117 = .ok (.lload 12, 2) := by decide +kernel
theorem dX0_guessLimb_119 : decode cX0_guessLimb 119 = .ok (.lcmp, 1) := by decide +kernel
theorem dX0_guessLimb_120 : decode cX0_guessLimb 120 = .ok (.ifCond .gt 6, 3) := by decide +kernel
theorem dX0_guessLimb_123 : decode cX0_guessLimb 123 = .ok (.goto 21, 3) := by decide +kernel
theorem dX0_guessLimb_126 : decode cX0_guessLimb 126 = .ok (.lload 7, 2) := by decide +kernel
theorem dX0_guessLimb_128 : decode cX0_guessLimb 128 = .ok (.lconst 1, 1) := by decide +kernel
theorem dX0_guessLimb_129 : decode cX0_guessLimb 129 = .ok (.lsub, 1) := by decide +kernel
theorem dX0_guessLimb_130 : decode cX0_guessLimb 130 = .ok (.lstore 7, 2) := by decide +kernel
theorem dX0_guessLimb_132 : decode cX0_guessLimb 132 = .ok (.lload 9, 2) := by decide +kernel
theorem dX0_guessLimb_134 : decode cX0_guessLimb 134 = .ok (.lload_n 3, 1) := by decide +kernel
theorem dX0_guessLimb_135 : decode cX0_guessLimb 135 = .ok (.ladd, 1) := by decide +kernel
theorem dX0_guessLimb_136 : decode cX0_guessLimb 136 = .ok (.lstore 9, 2) := by decide +kernel
theorem dX0_guessLimb_138 : decode cX0_guessLimb 138 = .ok (.iinc 11 1, 3) := by decide +kernel
theorem dX0_guessLimb_141 : decode cX0_guessLimb 141 = .ok (.goto (-79), 3) := by decide +kernel
theorem dX0_guessLimb_144 : decode cX0_guessLimb 144 = .ok (.lload 7, 2) := by decide +kernel
theorem dX0_guessLimb_146 : decode cX0_guessLimb 146 = .ok (.lreturn, 1) := by decide +kernel
theorem dX0_takeAway_0 : decode cX0_takeAway 0 = .ok (.lconst 0, 1) := by decide +kernel
theorem dX0_takeAway_1 : decode cX0_takeAway 1 = .ok (.lstore 5, 2) := by decide +kernel
theorem dX0_takeAway_3 : decode cX0_takeAway 3 = .ok (.iconst 0, 1) := by decide +kernel
theorem dX0_takeAway_4 : decode cX0_takeAway 4 = .ok (.istore 7, 2) := by decide +kernel
theorem dX0_takeAway_6 : decode cX0_takeAway 6 = .ok (.iload 7, 2) := by decide +kernel
theorem dX0_takeAway_8 : decode cX0_takeAway 8 = .ok (.iload_n 2, 1) := by decide +kernel
theorem dX0_takeAway_9 : decode cX0_takeAway 9 = .ok (.if_icmp .ge 58, 3) := by decide +kernel
theorem dX0_takeAway_12 : decode cX0_takeAway 12 = .ok (.lload 5, 2) := by decide +kernel
theorem dX0_takeAway_14 : decode cX0_takeAway 14 = .ok (.aload_n 0, 1) := by decide +kernel
theorem dX0_takeAway_15 : decode cX0_takeAway 15 = .ok (.getfield 9, 3) := by decide +kernel
theorem dX0_takeAway_18 : decode cX0_takeAway 18 = .ok (.iload_n 1, 1) := by decide +kernel
theorem dX0_takeAway_19 : decode cX0_takeAway 19 = .ok (.iload 7, 2) := by decide +kernel
theorem dX0_takeAway_21 : decode cX0_takeAway 21 = .ok (.iadd, 1) := by decide +kernel
theorem dX0_takeAway_22 : decode cX0_takeAway 22 = .ok (.iaload, 1) := by decide +kernel
theorem dX0_takeAway_23 : decode cX0_takeAway 23 = .ok (.i2l, 1) := by decide +kernel
theorem dX0_takeAway_24 : decode cX0_takeAway 24 = .ok (.lload_n 3, 1) := by decide +kernel
theorem dX0_takeAway_25 : decode cX0_takeAway 25 = .ok (.aload_n 0, 1) := by decide +kernel
theorem dX0_takeAway_26 : decode cX0_takeAway 26 = .ok (.getfield 15, 3) := by decide +kernel
theorem dX0_takeAway_29 : decode cX0_takeAway 29 = .ok (.iload 7, 2) := by decide +kernel
theorem dX0_takeAway_31 : decode cX0_takeAway 31 = .ok (.iaload, 1) := by decide +kernel
theorem dX0_takeAway_32 : decode cX0_takeAway 32 = .ok (.i2l, 1) := by decide +kernel
theorem dX0_takeAway_33 : decode cX0_takeAway 33 = .ok (.lmul, 1) := by decide +kernel
theorem dX0_takeAway_34 : decode cX0_takeAway 34 = .ok (.lsub, 1) := by decide +kernel
theorem dX0_takeAway_35 : decode cX0_takeAway 35 = .ok (.ladd, 1) := by decide +kernel
theorem dX0_takeAway_36 : decode cX0_takeAway 36 = .ok (.lstore 5, 2) := by decide +kernel
theorem dX0_takeAway_38 : decode cX0_takeAway 38 = .ok (.aload_n 0, 1) := by decide +kernel
theorem dX0_takeAway_39 : decode cX0_takeAway 39 = .ok (.getfield 9, 3) := by decide +kernel
theorem dX0_takeAway_42 : decode cX0_takeAway 42 = .ok (.iload_n 1, 1) := by decide +kernel
theorem dX0_takeAway_43 : decode cX0_takeAway 43 = .ok (.iload 7, 2) := by decide +kernel
theorem dX0_takeAway_45 : decode cX0_takeAway 45 = .ok (.iadd, 1) := by decide +kernel
theorem dX0_takeAway_46 : decode cX0_takeAway 46 = .ok (.lload 5, 2) := by decide +kernel
theorem dX0_takeAway_48 : decode cX0_takeAway 48 = .ok (.ldc2_w 65, 3) := by decide +kernel
theorem dX0_takeAway_51 : decode cX0_takeAway 51 = .ok (.land, 1) := by decide +kernel
theorem dX0_takeAway_52 : decode cX0_takeAway 52 = .ok (.l2i, 1) := by decide +kernel
theorem dX0_takeAway_53 : decode cX0_takeAway 53 = .ok (.iastore, 1) := by decide +kernel
theorem dX0_takeAway_54 : decode cX0_takeAway 54 = .ok (.lload 5, 2) := by decide +kernel
theorem dX0_takeAway_56 : decode cX0_takeAway 56 = .ok (.bipush 25, 2) := by decide +kernel
theorem dX0_takeAway_58 : decode cX0_takeAway 58 = .ok (.lshr, 1) := by decide +kernel
theorem dX0_takeAway_59 : decode cX0_takeAway 59 = .ok (.lstore 5, 2) := by decide +kernel
theorem dX0_takeAway_61 : decode cX0_takeAway 61 = .ok (.iinc 7 1, 3) := by decide +kernel
theorem dX0_takeAway_64 : decode cX0_takeAway 64 = .ok (.goto (-58), 3) := by decide +kernel
theorem dX0_takeAway_67 : decode cX0_takeAway 67 = .ok (.lload 5, 2) := by decide +kernel
theorem dX0_takeAway_69 : decode cX0_takeAway 69 = .ok (.aload_n 0, 1) := by decide +kernel
theorem dX0_takeAway_70 : decode cX0_takeAway 70 = .ok (.getfield 9, 3) := by decide +kernel
theorem dX0_takeAway_73 : decode cX0_takeAway 73 = .ok (.iload_n 1, 1) := by decide +kernel
theorem dX0_takeAway_74 : decode cX0_takeAway 74 = .ok (.iload_n 2, 1) := by decide +kernel
theorem dX0_takeAway_75 : decode cX0_takeAway 75 = .ok (.iadd, 1) := by decide +kernel
theorem dX0_takeAway_76 : decode cX0_takeAway 76 = .ok (.iaload, 1) := by decide +kernel
theorem dX0_takeAway_77 : decode cX0_takeAway 77 = .ok (.i2l, 1) := by decide +kernel
theorem dX0_takeAway_78 : decode cX0_takeAway 78 = .ok (.ladd, 1) := by decide +kernel
theorem dX0_takeAway_79 : decode cX0_takeAway 79 = .ok (.lconst 0, 1) := by decide +kernel
theorem dX0_takeAway_80 : decode cX0_takeAway 80 = .ok (.lcmp, 1) := by decide +kernel
theorem dX0_takeAway_81 : decode cX0_takeAway 81 = .ok (.ifCond .lt 7, 3) := by decide +kernel
theorem dX0_takeAway_84 : decode cX0_takeAway 84 = .ok (.iconst 1, 1) := by decide +kernel
theorem dX0_takeAway_85 : decode cX0_takeAway 85 = .ok (.goto 4, 3) := by decide +kernel
theorem dX0_takeAway_88 : decode cX0_takeAway 88 = .ok (.iconst 0, 1) := by decide +kernel
theorem dX0_takeAway_89 : decode cX0_takeAway 89 = .ok (.ireturn, 1) := by decide +kernel
theorem dX0_giveBack_0 : decode cX0_giveBack 0 = .ok (.iconst 0, 1) := by decide +kernel
theorem dX0_giveBack_1 : decode cX0_giveBack 1 = .ok (.istore_n 3, 1) := by decide +kernel
theorem dX0_giveBack_2 : decode cX0_giveBack 2 = .ok (.iconst 0, 1) := by decide +kernel
theorem dX0_giveBack_3 : decode cX0_giveBack 3 = .ok (.istore 4, 2) := by decide +kernel
theorem dX0_giveBack_5 : decode cX0_giveBack 5 = .ok (.iload 4, 2) := by decide +kernel
theorem dX0_giveBack_7 : decode cX0_giveBack 7 = .ok (.iload_n 2, 1) := by decide +kernel
theorem dX0_giveBack_8 : decode cX0_giveBack 8 = .ok (.if_icmp .ge 47, 3) := by decide +kernel
theorem dX0_giveBack_11 : decode cX0_giveBack 11 = .ok (.iload_n 3, 1) := by decide +kernel
theorem dX0_giveBack_12 : decode cX0_giveBack 12 = .ok (.aload_n 0, 1) := by decide +kernel
theorem dX0_giveBack_13 : decode cX0_giveBack 13 = .ok (.getfield 9, 3) := by decide +kernel
theorem dX0_giveBack_16 : decode cX0_giveBack 16 = .ok (.iload_n 1, 1) := by decide +kernel
theorem dX0_giveBack_17 : decode cX0_giveBack 17 = .ok (.iload 4, 2) := by decide +kernel
theorem dX0_giveBack_19 : decode cX0_giveBack 19 = .ok (.iadd, 1) := by decide +kernel
theorem dX0_giveBack_20 : decode cX0_giveBack 20 = .ok (.iaload, 1) := by decide +kernel
theorem dX0_giveBack_21 : decode cX0_giveBack 21 = .ok (.aload_n 0, 1) := by decide +kernel
theorem dX0_giveBack_22 : decode cX0_giveBack 22 = .ok (.getfield 15, 3) := by decide +kernel
theorem dX0_giveBack_25 : decode cX0_giveBack 25 = .ok (.iload 4, 2) := by decide +kernel
theorem dX0_giveBack_27 : decode cX0_giveBack 27 = .ok (.iaload, 1) := by decide +kernel
theorem dX0_giveBack_28 : decode cX0_giveBack 28 = .ok (.iadd, 1) := by decide +kernel
theorem dX0_giveBack_29 : decode cX0_giveBack 29 = .ok (.iadd, 1) := by decide +kernel
theorem dX0_giveBack_30 : decode cX0_giveBack 30 = .ok (.istore_n 3, 1) := by decide +kernel
theorem dX0_giveBack_31 : decode cX0_giveBack 31 = .ok (.aload_n 0, 1) := by decide +kernel
theorem dX0_giveBack_32 : decode cX0_giveBack 32 = .ok (.getfield 9, 3) := by decide +kernel
theorem dX0_giveBack_35 : decode cX0_giveBack 35 = .ok (.iload_n 1, 1) := by decide +kernel
theorem dX0_giveBack_36 : decode cX0_giveBack 36 = .ok (.iload 4, 2) := by decide +kernel
theorem dX0_giveBack_38 : decode cX0_giveBack 38 = .ok (.iadd, 1) := by decide +kernel
theorem dX0_giveBack_39 : decode cX0_giveBack 39 = .ok (.iload_n 3, 1) := by decide +kernel
theorem dX0_giveBack_40 : decode cX0_giveBack 40 = .ok (.ldc 81, 2) := by decide +kernel
theorem dX0_giveBack_42 : decode cX0_giveBack 42 = .ok (.iand, 1) := by decide +kernel
theorem dX0_giveBack_43 : decode cX0_giveBack 43 = .ok (.iastore, 1) := by decide +kernel
theorem dX0_giveBack_44 : decode cX0_giveBack 44 = .ok (.iload_n 3, 1) := by decide +kernel
theorem dX0_giveBack_45 : decode cX0_giveBack 45 = .ok (.bipush 25, 2) := by decide +kernel
theorem dX0_giveBack_47 : decode cX0_giveBack 47 = .ok (.ishr, 1) := by decide +kernel
theorem dX0_giveBack_48 : decode cX0_giveBack 48 = .ok (.istore_n 3, 1) := by decide +kernel
theorem dX0_giveBack_49 : decode cX0_giveBack 49 = .ok (.iinc 4 1, 3) := by decide +kernel
theorem dX0_giveBack_52 : decode cX0_giveBack 52 = .ok (.goto (-47), 3) := by decide +kernel
theorem dX0_giveBack_55 : decode cX0_giveBack 55 = .ok (.return_, 1) := by decide +kernel
theorem dX1_init_0 : decode cX1_init 0 = .ok (.aload_n 0, 1) := by decide +kernel
theorem dX1_init_1 : decode cX1_init 1 = .ok (.invokespecial 3, 3) := by decide +kernel
theorem dX1_init_4 : decode cX1_init 4 = .ok (.aload_n 0, 1) := by decide +kernel
theorem dX1_init_5 : decode cX1_init 5 = .ok (.sipush 144, 3) := by decide +kernel
theorem dX1_init_8 : decode cX1_init 8 = .ok (.anewarray 9, 3) := by decide +kernel
theorem dX1_init_11 : decode cX1_init 11 = .ok (.putfield 11, 3) := by decide +kernel
theorem dX1_init_14 : decode cX1_init 14 = .ok (.aload_n 0, 1) := by decide +kernel
theorem dX1_init_15 : decode cX1_init 15 = .ok (.new 9, 3) := by decide +kernel
theorem dX1_init_18 : decode cX1_init 18 = .ok (.dup, 1) := by decide +kernel
theorem dX1_init_19 : decode cX1_init 19 = .ok (.bipush 65, 2) := by decide +kernel
theorem dX1_init_21 : decode cX1_init 21 = .ok (.invokespecial 17, 3) := by decide +kernel
theorem dX1_init_24 : decode cX1_init 24 = .ok (.putfield 20, 3) := by decide +kernel
theorem dX1_init_27 : decode cX1_init 27 = .ok (.aload_n 0, 1) := by decide +kernel
theorem dX1_init_28 : decode cX1_init 28 = .ok (.new 9, 3) := by decide +kernel
theorem dX1_init_31 : decode cX1_init 31 = .ok (.dup, 1) := by decide +kernel
theorem dX1_init_32 : decode cX1_init 32 = .ok (.bipush 65, 2) := by decide +kernel
theorem dX1_init_34 : decode cX1_init 34 = .ok (.invokespecial 17, 3) := by decide +kernel
theorem dX1_init_37 : decode cX1_init 37 = .ok (.putfield 24, 3) := by decide +kernel
theorem dX1_init_40 : decode cX1_init 40 = .ok (.aload_n 0, 1) := by decide +kernel
theorem dX1_init_41 : decode cX1_init 41 = .ok (.aload_n 1, 1) := by decide +kernel
theorem dX1_init_42 : decode cX1_init 42 = .ok (.putfield 27, 3) := by decide +kernel
theorem dX1_init_45 : decode cX1_init 45 = .ok (.iconst 0, 1) := by decide +kernel
theorem dX1_init_46 : decode cX1_init 46 = .ok (.istore_n 2, 1) := by decide +kernel
theorem dX1_init_47 : decode cX1_init 47 = .ok (.iload_n 2, 1) := by decide +kernel
theorem dX1_init_48 : decode cX1_init 48 = .ok (.aload_n 0, 1) := by decide +kernel
theorem dX1_init_49 : decode cX1_init 49 = .ok (.getfield 11, 3) := by decide +kernel
theorem dX1_init_52 : decode cX1_init 52 = .ok (.arraylength, 1) := by decide +kernel
theorem dX1_init_53 : decode cX1_init 53 = .ok (.if_icmp .ge 24, 3) := by decide +kernel
theorem dX1_init_56 : decode cX1_init 56 = .ok (.aload_n 0, 1) := by decide +kernel
theorem dX1_init_57 : decode cX1_init 57 = .ok (.getfield 11, 3) := by decide +kernel
theorem dX1_init_60 : decode cX1_init 60 = .ok (.iload_n 2, 1) := by decide +kernel
theorem dX1_init_61 : decode cX1_init 61 = .ok (.new 9, 3) := by decide +kernel
theorem dX1_init_64 : decode cX1_init 64 = .ok (.dup, 1) := by decide +kernel
theorem dX1_init_65 : decode cX1_init 65 = .ok (.bipush 34, 2) := by decide +kernel
theorem dX1_init_67 : decode cX1_init 67 = .ok (.invokespecial 17, 3) := by decide +kernel
theorem dX1_init_70 : decode cX1_init 70 = .ok (.aastore, 1) := by decide +kernel
theorem dX1_init_71 : decode cX1_init 71 = .ok (.iinc 2 1, 3) := by decide +kernel
theorem dX1_init_74 : decode cX1_init 74 = .ok (.goto (-27), 3) := by decide +kernel
theorem dX1_init_77 : decode cX1_init 77 = .ok (.return_, 1) := by decide +kernel
theorem dX1_solve_0 : decode cX1_solve 0 = .ok (.aload_n 0, 1) := by decide +kernel
theorem dX1_solve_1 : decode cX1_solve 1 = .ok (.aload_n 1, 1) := by decide +kernel
theorem dX1_solve_2 : decode cX1_solve 2 = .ok (.iload_n 2, 1) := by decide +kernel
theorem dX1_solve_3 : decode cX1_solve 3 = .ok (.invokevirtual 31, 3) := by decide +kernel
theorem dX1_solve_6 : decode cX1_solve 6 = .ok (.iconst 0, 1) := by decide +kernel
theorem dX1_solve_7 : decode cX1_solve 7 = .ok (.istore 4, 2) := by decide +kernel
theorem dX1_solve_9 : decode cX1_solve 9 = .ok (.iconst 0, 1) := by decide +kernel
theorem dX1_solve_10 : decode cX1_solve 10 = .ok (.istore 5, 2) := by decide +kernel
theorem dX1_solve_12 : decode cX1_solve 12 = .ok (.iload 5, 2) := by decide +kernel
theorem dX1_solve_14 : decode cX1_solve 14 = .ok (.iload_n 2, 1) := by decide +kernel
theorem dX1_solve_15 : decode cX1_solve 15 = .ok (.if_icmp .ge 64, 3) := by decide +kernel
theorem dX1_solve_18 : decode cX1_solve 18 = .ok (.aload_n 0, 1) := by decide +kernel
theorem dX1_solve_19 : decode cX1_solve 19 = .ok (.iload 5, 2) := by decide +kernel
theorem dX1_solve_21 : decode cX1_solve 21 = .ok (.iload_n 2, 1) := by decide +kernel
theorem dX1_solve_22 : decode cX1_solve 22 = .ok (.invokevirtual 35, 3) := by decide +kernel
theorem dX1_solve_25 : decode cX1_solve 25 = .ok (.istore 6, 2) := by decide +kernel
theorem dX1_solve_27 : decode cX1_solve 27 = .ok (.iload 6, 2) := by decide +kernel
theorem dX1_solve_29 : decode cX1_solve 29 = .ok (.ifCond .ge 9, 3) := by decide +kernel
theorem dX1_solve_32 : decode cX1_solve 32 = .ok (.aload_n 3, 1) := by decide +kernel
theorem dX1_solve_33 : decode cX1_solve 33 = .ok (.lconst 0, 1) := by decide +kernel
theorem dX1_solve_34 : decode cX1_solve 34 = .ok (.invokevirtual 39, 3) := by decide +kernel
theorem dX1_solve_37 : decode cX1_solve 37 = .ok (.return_, 1) := by decide +kernel
theorem dX1_solve_38 : decode cX1_solve 38 = .ok (.iload 6, 2) := by decide +kernel
theorem dX1_solve_40 : decode cX1_solve 40 = .ok (.iload 5, 2) := by decide +kernel
theorem dX1_solve_42 : decode cX1_solve 42 = .ok (.if_icmp .eq 24, 3) := by decide +kernel
theorem dX1_solve_45 : decode cX1_solve 45 = .ok (.aload_n 0, 1) := by decide +kernel
theorem dX1_solve_46 : decode cX1_solve 46 = .ok (.iload 6, 2) := by decide +kernel
theorem dX1_solve_48 : decode cX1_solve 48 = .ok (.iload 5, 2) := by decide +kernel
theorem dX1_solve_50 : decode cX1_solve 50 = .ok (.iload_n 2, 1) := by decide +kernel
theorem dX1_solve_51 : decode cX1_solve 51 = .ok (.invokevirtual 43, 3) := by decide +kernel
theorem dX1_solve_54 : decode cX1_solve 54 = .ok (.iload 4, 2) := by decide +kernel
theorem dX1_solve_56 : decode cX1_solve 56 = .ok (.ifCond .ne 7, 3) := by decide +kernel
theorem dX1_solve_59 : decode cX1_solve 59 = .ok (.iconst 1, 1) := by decide +kernel
theorem dX1_solve_60 : decode cX1_solve 60 = .ok (.goto 4, 3) := by decide +kernel
theorem dX1_solve_63 : decode cX1_solve 63 = .ok (.iconst 0, 1) := by decide +kernel
theorem dX1_solve_64 : decode cX1_solve 64 = .ok (.istore 4, 2) := by decide +kernel
theorem dX1_solve_66 : decode cX1_solve 66 = .ok (.aload_n 0, 1) := by decide +kernel
theorem dX1_solve_67 : decode cX1_solve 67 = .ok (.iload 5, 2) := by decide +kernel
theorem dX1_solve_69 : decode cX1_solve 69 = .ok (.iload_n 2, 1) := by decide +kernel
theorem dX1_solve_70 : decode cX1_solve 70 = .ok (.invokevirtual 47, 3) := by decide +kernel
theorem dX1_solve_73 : decode cX1_solve 73 = .ok (.iinc 5 1, 3) := by decide +kernel
theorem dX1_solve_76 : decode cX1_solve 76 = .ok (.goto (-64), 3) := by decide +kernel
theorem dX1_solve_79 : decode cX1_solve 79 = .ok (.aload_n 3, 1) := by decide +kernel
theorem dX1_solve_80 : decode cX1_solve 80 = .ok (.aload_n 0, 1) := by decide +kernel
theorem dX1_solve_81 : decode cX1_solve 81 = .ok (.iload_n 2, 1) := by decide +kernel
theorem dX1_solve_82 : decode cX1_solve 82 = .ok (.iconst 1, 1) := by decide +kernel
theorem dX1_solve_83 : decode cX1_solve 83 = .ok (.isub, 1) := by decide +kernel
theorem dX1_solve_84 : decode cX1_solve 84 = .ok (.iload_n 2, 1) := by decide +kernel
theorem dX1_solve_85 : decode cX1_solve 85 = .ok (.iconst 1, 1) := by decide +kernel
theorem dX1_solve_86 : decode cX1_solve 86 = .ok (.isub, 1) := by decide +kernel
theorem dX1_solve_87 : decode cX1_solve 87 = .ok (.invokevirtual 51, 3) := by decide +kernel
theorem dX1_solve_90 : decode cX1_solve 90 = .ok (.invokevirtual 55, 3) := by decide +kernel
theorem dX1_solve_93 : decode cX1_solve 93 = .ok (.iload 4, 2) := by decide +kernel
theorem dX1_solve_95 : decode cX1_solve 95 = .ok (.ifCond .eq 7, 3) := by decide +kernel
theorem dX1_solve_98 : decode cX1_solve 98 = .ok (.aload_n 3, 1) := by decide +kernel
theorem dX1_solve_99 : decode cX1_solve 99 = .ok (.invokevirtual 59, 3) := by decide +kernel
theorem dX1_solve_102 : decode cX1_solve 102 = .ok (.return_, 1) := by decide +kernel
theorem dX1_cell_0 : decode cX1_cell 0 = .ok (.aload_n 0, 1) := by decide +kernel
theorem dX1_cell_1 : decode cX1_cell 1 = .ok (.getfield 11, 3) := by decide +kernel
theorem dX1_cell_4 : decode cX1_cell 4 = .ok (.iload_n 1, 1) := by decide +kernel
theorem dX1_cell_5 : decode cX1_cell 5 = .ok (.bipush 12, 2) := by decide +kernel
theorem dX1_cell_7 : decode cX1_cell 7 = .ok (.imul, 1) := by decide +kernel
theorem dX1_cell_8 : decode cX1_cell 8 = .ok (.iload_n 2, 1) := by decide +kernel
theorem dX1_cell_9 : decode cX1_cell 9 = .ok (.iadd, 1) := by decide +kernel
theorem dX1_cell_10 : decode cX1_cell 10 = .ok (.aaload, 1) := by decide +kernel
theorem dX1_cell_11 : decode cX1_cell 11 = .ok (.areturn, 1) := by decide +kernel
theorem dX1_load_0 : decode cX1_load 0 = .ok (.iconst 0, 1) := by decide +kernel
theorem dX1_load_1 : decode cX1_load 1 = .ok (.istore_n 3, 1) := by decide +kernel
theorem dX1_load_2 : decode cX1_load 2 = .ok (.iload_n 3, 1) := by decide +kernel
theorem dX1_load_3 : decode cX1_load 3 = .ok (.iload_n 2, 1) := by decide +kernel
theorem dX1_load_4 : decode cX1_load 4 = .ok (.if_icmp .ge 40, 3) := by decide +kernel
theorem dX1_load_7 : decode cX1_load 7 = .ok (.iconst 0, 1) := by decide +kernel
theorem dX1_load_8 : decode cX1_load 8 = .ok (.istore 4, 2) := by decide +kernel
theorem dX1_load_10 : decode cX1_load 10 = .ok (.iload 4, 2) := by decide +kernel
theorem dX1_load_12 : decode cX1_load 12 = .ok (.iload_n 2, 1) := by decide +kernel
theorem dX1_load_13 : decode cX1_load 13 = .ok (.if_icmp .ge 25, 3) := by decide +kernel
theorem dX1_load_16 : decode cX1_load 16 = .ok (.aload_n 0, 1) := by decide +kernel
theorem dX1_load_17 : decode cX1_load 17 = .ok (.iload_n 3, 1) := by decide +kernel
theorem dX1_load_18 : decode cX1_load 18 = .ok (.iload 4, 2) := by decide +kernel
theorem dX1_load_20 : decode cX1_load 20 = .ok (.invokevirtual 51, 3) := by decide +kernel
theorem dX1_load_23 : decode cX1_load 23 = .ok (.aload_n 1, 1) := by decide +kernel
theorem dX1_load_24 : decode cX1_load 24 = .ok (.iload_n 3, 1) := by decide +kernel
theorem dX1_load_25 : decode cX1_load 25 = .ok (.aaload, 1) := by decide +kernel
theorem dX1_load_26 : decode cX1_load 26 = .ok (.iload 4, 2) := by decide +kernel
theorem dX1_load_28 : decode cX1_load 28 = .ok (.laload, 1) := by decide +kernel
theorem dX1_load_29 : decode cX1_load 29 = .ok (.invokevirtual 39, 3) := by decide +kernel
theorem dX1_load_32 : decode cX1_load 32 = .ok (.iinc 4 1, 3) := by decide +kernel
theorem dX1_load_35 : decode cX1_load 35 = .ok (.goto (-25), 3) := by decide +kernel
theorem dX1_load_38 : decode cX1_load 38 = .ok (.iinc 3 1, 3) := by decide +kernel
theorem dX1_load_41 : decode cX1_load 41 = .ok (.goto (-39), 3) := by decide +kernel
theorem dX1_load_44 : decode cX1_load 44 = .ok (.return_, 1) := by decide +kernel
theorem dX1_pivotRow_0 : decode cX1_pivotRow 0 = .ok (.iload_n 1, 1) := by decide +kernel
theorem dX1_pivotRow_1 : decode cX1_pivotRow 1 = .ok (.istore_n 3, 1) := by decide +kernel
theorem dX1_pivotRow_2 : decode cX1_pivotRow 2 = .ok (.iload_n 3, 1) := by decide +kernel
theorem dX1_pivotRow_3 : decode cX1_pivotRow 3 = .ok (.iload_n 2, 1) := by decide +kernel
theorem dX1_pivotRow_4 : decode cX1_pivotRow 4 = .ok (.if_icmp .ge 23, 3) := by decide +kernel
theorem dX1_pivotRow_7 : decode cX1_pivotRow 7 = .ok (.aload_n 0, 1) := by decide +kernel
theorem dX1_pivotRow_8 : decode cX1_pivotRow 8 = .ok (.iload_n 3, 1) := by decide +kernel
theorem dX1_pivotRow_9 : decode cX1_pivotRow 9 = .ok (.iload_n 1, 1) := by decide +kernel
theorem dX1_pivotRow_10 : decode cX1_pivotRow 10 = .ok (.invokevirtual 51, 3) := by decide +kernel
theorem dX1_pivotRow_13 : decode cX1_pivotRow 13 = .ok (.invokevirtual 62, 3) := by decide +kernel
theorem dX1_pivotRow_16 : decode cX1_pivotRow 16 = .ok (.ifCond .ne 5, 3) := by decide +kernel
theorem dX1_pivotRow_19 : decode cX1_pivotRow 19 = .ok (.iload_n 3, 1) := by decide +kernel
theorem dX1_pivotRow_20 : decode cX1_pivotRow 20 = .ok (.ireturn, 1) := by decide +kernel
theorem dX1_pivotRow_21 : decode cX1_pivotRow 21 = .ok (.iinc 3 1, 3) := by decide +kernel
theorem dX1_pivotRow_24 : decode cX1_pivotRow 24 = .ok (.goto (-22), 3) := by decide +kernel
theorem dX1_pivotRow_27 : decode cX1_pivotRow 27 = .ok (.iconst (-1), 1) := by decide +kernel
theorem dX1_pivotRow_28 : decode cX1_pivotRow 28 = .ok (.ireturn, 1) := by decide +kernel
theorem dX1_swapRows_0 : decode cX1_swapRows 0 = .ok (.iconst 0, 1) := by decide +kernel
theorem dX1_swapRows_1 : decode cX1_swapRows 1 = .ok (.istore 4, 2) := by decide +kernel
theorem dX1_swapRows_3 : decode cX1_swapRows 3 = .ok (.iload 4, 2) := by decide +kernel
theorem dX1_swapRows_5 : decode cX1_swapRows 5 = .ok (.iload_n 3, 1) := by decide +kernel
theorem dX1_swapRows_6 : decode cX1_swapRows 6 = .ok (.if_icmp .ge 51, 3) := by decide +kernel
theorem dX1_swapRows_9 : decode cX1_swapRows 9 = .ok (.aload_n 0, 1) := by decide +kernel
theorem dX1_swapRows_10 : decode cX1_swapRows 10 = .ok (.iload_n 1, 1) := by decide +kernel
theorem dX1_swapRows_11 : decode cX1_swapRows 11 = .ok (.iload 4, 2) := by decide +kernel
theorem dX1_swapRows_13 : decode cX1_swapRows 13 = .ok (.invokevirtual 51, 3) := by decide +kernel
theorem dX1_swapRows_16 : decode cX1_swapRows 16 = .ok (.astore 5, 2) := by decide +kernel
theorem dX1_swapRows_18 : decode cX1_swapRows 18 = .ok (.aload_n 0, 1) := by decide +kernel
theorem dX1_swapRows_19 : decode cX1_swapRows 19 = .ok (.getfield 11, 3) := by decide +kernel
theorem dX1_swapRows_22 : decode cX1_swapRows 22 = .ok (.iload_n 1, 1) := by decide +kernel
theorem dX1_swapRows_23 : decode cX1_swapRows 23 = .ok (.bipush 12, 2) := by decide +kernel
theorem dX1_swapRows_25 : decode cX1_swapRows 25 = .ok (.imul, 1) := by decide +kernel
theorem dX1_swapRows_26 : decode cX1_swapRows 26 = .ok (.iload 4, 2) := by decide +kernel
theorem dX1_swapRows_28 : decode cX1_swapRows 28 = .ok (.iadd, 1) := by decide +kernel
theorem dX1_swapRows_29 : decode cX1_swapRows 29 = .ok (.aload_n 0, 1) := by decide +kernel
theorem dX1_swapRows_30 : decode cX1_swapRows 30 = .ok (.iload_n 2, 1) := by decide +kernel
theorem dX1_swapRows_31 : decode cX1_swapRows 31 = .ok (.iload 4, 2) := by decide +kernel
theorem dX1_swapRows_33 : decode cX1_swapRows 33 = .ok (.invokevirtual 51, 3) := by decide +kernel
theorem dX1_swapRows_36 : decode cX1_swapRows 36 = .ok (.aastore, 1) := by decide +kernel
theorem dX1_swapRows_37 : decode cX1_swapRows 37 = .ok (.aload_n 0, 1) := by decide +kernel
theorem dX1_swapRows_38 : decode cX1_swapRows 38 = .ok (.getfield 11, 3) := by decide +kernel
theorem dX1_swapRows_41 : decode cX1_swapRows 41 = .ok (.iload_n 2, 1) := by decide +kernel
theorem dX1_swapRows_42 : decode cX1_swapRows 42 = .ok (.bipush 12, 2) := by decide +kernel
theorem dX1_swapRows_44 : decode cX1_swapRows 44 = .ok (.imul, 1) := by decide +kernel
theorem dX1_swapRows_45 : decode cX1_swapRows 45 = .ok (.iload 4, 2) := by decide +kernel
theorem dX1_swapRows_47 : decode cX1_swapRows 47 = .ok (.iadd, 1) := by decide +kernel
theorem dX1_swapRows_48 : decode cX1_swapRows 48 = .ok (.aload 5, 2) := by decide +kernel
theorem dX1_swapRows_50 : decode cX1_swapRows 50 = .ok (.aastore, 1) := by decide +kernel
theorem dX1_swapRows_51 : decode cX1_swapRows 51 = .ok (.iinc 4 1, 3) := by decide +kernel
theorem dX1_swapRows_54 : decode cX1_swapRows 54 = .ok (.goto (-51), 3) := by decide +kernel
theorem dX1_swapRows_57 : decode cX1_swapRows 57 = .ok (.return_, 1) := by decide +kernel
theorem dX1_clearBelow_0 : decode cX1_clearBelow 0 = .ok (.iload_n 1, 1) := by decide +kernel
theorem dX1_clearBelow_1 : decode cX1_clearBelow 1 = .ok (.iconst 1, 1) := by decide +kernel
theorem dX1_clearBelow_2 : decode cX1_clearBelow 2 = .ok (.iadd, 1) := by decide +kernel
theorem dX1_clearBelow_3 : decode cX1_clearBelow 3 = .ok (.istore_n 3, 1) := by decide +kernel
theorem dX1_clearBelow_4 : decode cX1_clearBelow 4 = .ok (.iload_n 3, 1) := by decide +kernel
theorem dX1_clearBelow_5 : decode cX1_clearBelow 5 = .ok (.iload_n 2, 1) := by decide +kernel
theorem dX1_clearBelow_6 : decode cX1_clearBelow 6 = .ok (.if_icmp .ge 34, 3) := by decide +kernel
theorem dX1_clearBelow_9 : decode cX1_clearBelow 9 = .ok (.iload_n 1, 1) := by decide +kernel
theorem dX1_clearBelow_10 : decode cX1_clearBelow 10 = .ok (.iconst 1, 1) := by decide +kernel
theorem dX1_clearBelow_11 : decode cX1_clearBelow 11 = .ok (.iadd, 1) := by decide +kernel
theorem dX1_clearBelow_12 : decode cX1_clearBelow 12 = .ok (.istore 4, 2) := by decide +kernel
theorem dX1_clearBelow_14 : decode cX1_clearBelow 14 = .ok (.iload 4, 2) := by decide +kernel
theorem dX1_clearBelow_16 : decode cX1_clearBelow 16 = .ok (.iload_n 2, 1) := by decide +kernel
theorem dX1_clearBelow_17 : decode cX1_clearBelow 17 = .ok (.if_icmp .ge 17, 3) := by decide +kernel
theorem dX1_clearBelow_20 : decode cX1_clearBelow 20 = .ok (.aload_n 0, 1) := by decide +kernel
theorem dX1_clearBelow_21 : decode cX1_clearBelow 21 = .ok (.iload_n 3, 1) := by decide +kernel
theorem dX1_clearBelow_22 : decode cX1_clearBelow 22 = .ok (.iload 4, 2) := by decide +kernel
theorem dX1_clearBelow_24 : decode cX1_clearBelow 24 = .ok (.iload_n 1, 1) := by decide +kernel
theorem dX1_clearBelow_25 : decode cX1_clearBelow 25 = .ok (.invokevirtual 66, 3) := by decide +kernel
theorem dX1_clearBelow_28 : decode cX1_clearBelow 28 = .ok (.iinc 4 1, 3) := by decide +kernel
theorem dX1_clearBelow_31 : decode cX1_clearBelow 31 = .ok (.goto (-17), 3) := by decide +kernel
theorem dX1_clearBelow_34 : decode cX1_clearBelow 34 = .ok (.iinc 3 1, 3) := by decide +kernel
theorem dX1_clearBelow_37 : decode cX1_clearBelow 37 = .ok (.goto (-33), 3) := by decide +kernel
theorem dX1_clearBelow_40 : decode cX1_clearBelow 40 = .ok (.return_, 1) := by decide +kernel
theorem dX1_reduce_0 : decode cX1_reduce 0 = .ok (.aload_n 0, 1) := by decide +kernel
theorem dX1_reduce_1 : decode cX1_reduce 1 = .ok (.iload_n 1, 1) := by decide +kernel
theorem dX1_reduce_2 : decode cX1_reduce 2 = .ok (.iload_n 2, 1) := by decide +kernel
theorem dX1_reduce_3 : decode cX1_reduce 3 = .ok (.invokevirtual 51, 3) := by decide +kernel
theorem dX1_reduce_6 : decode cX1_reduce 6 = .ok (.astore 4, 2) := by decide +kernel
theorem dX1_reduce_8 : decode cX1_reduce 8 = .ok (.aload_n 0, 1) := by decide +kernel
theorem dX1_reduce_9 : decode cX1_reduce 9 = .ok (.getfield 20, 3) := by decide +kernel
theorem dX1_reduce_12 : decode cX1_reduce 12 = .ok (.aload 4, 2) := by decide +kernel
theorem dX1_reduce_14 : decode cX1_reduce 14 = .ok (.aload_n 0, 1) := by decide +kernel
theorem dX1_reduce_15 : decode cX1_reduce 15 = .ok (.iload_n 3, 1) := by decide +kernel
theorem dX1_reduce_16 : decode cX1_reduce 16 = .ok (.iload_n 3, 1) := by decide +kernel
theorem dX1_reduce_17 : decode cX1_reduce 17 = .ok (.invokevirtual 51, 3) := by decide +kernel
theorem dX1_reduce_20 : decode cX1_reduce 20 = .ok (.invokevirtual 69, 3) := by decide +kernel
theorem dX1_reduce_23 : decode cX1_reduce 23 = .ok (.pop, 1) := by decide +kernel
theorem dX1_reduce_24 : decode cX1_reduce 24 = .ok (.aload_n 0, 1) := by decide +kernel
theorem dX1_reduce_25 : decode cX1_reduce 25 = .ok (.getfield 24, 3) := by decide +kernel
theorem dX1_reduce_28 : decode cX1_reduce 28 = .ok (.aload_n 0, 1) := by decide +kernel
theorem dX1_reduce_29 : decode cX1_reduce 29 = .ok (.iload_n 1, 1) := by decide +kernel
theorem dX1_reduce_30 : decode cX1_reduce 30 = .ok (.iload_n 3, 1) := by decide +kernel
theorem dX1_reduce_31 : decode cX1_reduce 31 = .ok (.invokevirtual 51, 3) := by decide +kernel
theorem dX1_reduce_34 : decode cX1_reduce 34 = .ok (.aload_n 0, 1) := by decide +kernel
theorem dX1_reduce_35 : decode cX1_reduce 35 = .ok (.iload_n 3, 1) := by decide +kernel
theorem dX1_reduce_36 : decode cX1_reduce 36 = .ok (.iload_n 2, 1) := by decide +kernel
theorem dX1_reduce_37 : decode cX1_reduce 37 = .ok (.invokevirtual 51, 3) := by decide +kernel
theorem dX1_reduce_40 : decode cX1_reduce 40 = .ok (.invokevirtual 69, 3) := by decide +kernel
theorem dX1_reduce_43 : decode cX1_reduce 43 = .ok (.pop, 1) := by decide +kernel
theorem dX1_reduce_44 : decode cX1_reduce 44 = .ok (.aload_n 0, 1) := by decide +kernel
theorem dX1_reduce_45 : decode cX1_reduce 45 = .ok (.getfield 20, 3) := by decide +kernel
theorem dX1_reduce_48 : decode cX1_reduce 48 = .ok (.aload_n 0, 1) := by decide +kernel
theorem dX1_reduce_49 : decode cX1_reduce 49 = .ok (.getfield 20, 3) := by decide +kernel
theorem dX1_reduce_52 : decode cX1_reduce 52 = .ok (.aload_n 0, 1) := by decide +kernel
theorem dX1_reduce_53 : decode cX1_reduce 53 = .ok (.getfield 24, 3) := by decide +kernel
theorem dX1_reduce_56 : decode cX1_reduce 56 = .ok (.aload_n 0, 1) := by decide +kernel
theorem dX1_reduce_57 : decode cX1_reduce 57 = .ok (.getfield 24, 3) := by decide +kernel
theorem dX1_reduce_60 : decode cX1_reduce 60 = .ok (.getfield 73, 3) := by decide +kernel
theorem dX1_reduce_63 : decode cX1_reduce 63 = .ok (.ifCond .ne 7, 3) := by decide +kernel
theorem dX1_reduce_66 : decode cX1_reduce 66 = .ok (.iconst 1, 1) := by decide +kernel
theorem dX1_reduce_67 : decode cX1_reduce 67 = .ok (.goto 4, 3) := by decide +kernel
theorem dX1_reduce_70 : decode cX1_reduce 70 = .ok (.iconst 0, 1) := by decide +kernel
theorem dX1_reduce_71 : decode cX1_reduce 71 = .ok (.invokevirtual 77, 3) := by decide +kernel
theorem dX1_reduce_74 : decode cX1_reduce 74 = .ok (.iload_n 3, 1) := by decide +kernel
theorem dX1_reduce_75 : decode cX1_reduce 75 = .ok (.ifCond .ne 15, 3) := by decide +kernel
theorem dX1_reduce_78 : decode cX1_reduce 78 = .ok (.aload 4, 2) := by decide +kernel
theorem dX1_reduce_80 : decode cX1_reduce 80 = .ok (.aload_n 0, 1) := by decide +kernel
theorem dX1_reduce_81 : decode cX1_reduce 81 = .ok (.getfield 20, 3) := by decide +kernel
theorem dX1_reduce_84 : decode cX1_reduce 84 = .ok (.invokevirtual 55, 3) := by decide +kernel
theorem dX1_reduce_87 : decode cX1_reduce 87 = .ok (.goto 26, 3) := by decide +kernel
theorem dX1_reduce_90 : decode cX1_reduce 90 = .ok (.aload_n 0, 1) := by decide +kernel
theorem dX1_reduce_91 : decode cX1_reduce 91 = .ok (.getfield 27, 3) := by decide +kernel
theorem dX1_reduce_94 : decode cX1_reduce 94 = .ok (.aload_n 0, 1) := by decide +kernel
theorem dX1_reduce_95 : decode cX1_reduce 95 = .ok (.getfield 20, 3) := by decide +kernel
theorem dX1_reduce_98 : decode cX1_reduce 98 = .ok (.aload_n 0, 1) := by decide +kernel
theorem dX1_reduce_99 : decode cX1_reduce 99 = .ok (.iload_n 3, 1) := by decide +kernel
theorem dX1_reduce_100 : decode cX1_reduce 100 = .ok (.iconst 1, 1) := by decide +kernel
theorem dX1_reduce_101 : decode cX1_reduce 101 = .ok (.isub, 1) := by decide +kernel
theorem dX1_reduce_102 : decode cX1_reduce 102 = .ok (.iload_n 3, 1) := by decide +kernel
theorem dX1_reduce_103 : decode cX1_reduce 103 = .ok (.iconst 1, 1) := by decide +kernel
theorem dX1_reduce_104 : decode cX1_reduce 104 = .ok (.isub, 1) := by decide +kernel
theorem dX1_reduce_105 : decode cX1_reduce 105 = .ok (.invokevirtual 51, 3) := by decide +kernel
theorem dX1_reduce_108 : decode cX1_reduce 108 = .ok (.aload 4, 2) := by decide +kernel
theorem dX1_reduce_110 : decode cX1_reduce 110 = .ok (.invokevirtual 81, 3) := by decide +kernel
theorem dX1_reduce_113 : decode cX1_reduce 113 = .ok (.return_, 1) := by decide +kernel
