theorem dX11_init_0 : decode cX11_init 0 = .ok (.aload_n 0, 1) := by decide +kernel
theorem dX11_init_1 : decode cX11_init 1 = .ok (.invokespecial 1, 3) := by decide +kernel
theorem dX11_init_4 : decode cX11_init 4 = .ok (.aload_n 0, 1) := by decide +kernel
theorem dX11_init_5 : decode cX11_init 5 = .ok (.bipush 64, 2) := by decide +kernel
theorem dX11_init_7 : decode cX11_init 7 = .ok (.newarray .int, 2) := by decide +kernel
theorem dX11_init_9 : decode cX11_init 9 = .ok (.putfield 7, 3) := by decide +kernel
theorem dX11_init_12 : decode cX11_init 12 = .ok (.aload_n 0, 1) := by decide +kernel
theorem dX11_init_13 : decode cX11_init 13 = .ok (.bipush 56, 2) := by decide +kernel
theorem dX11_init_15 : decode cX11_init 15 = .ok (.newarray .int, 2) := by decide +kernel
theorem dX11_init_17 : decode cX11_init 17 = .ok (.putfield 13, 3) := by decide +kernel
theorem dX11_init_20 : decode cX11_init 20 = .ok (.aload_n 0, 1) := by decide +kernel
theorem dX11_init_21 : decode cX11_init 21 = .ok (.bipush 56, 2) := by decide +kernel
theorem dX11_init_23 : decode cX11_init 23 = .ok (.newarray .int, 2) := by decide +kernel
theorem dX11_init_25 : decode cX11_init 25 = .ok (.putfield 16, 3) := by decide +kernel
theorem dX11_init_28 : decode cX11_init 28 = .ok (.aload_n 0, 1) := by decide +kernel
theorem dX11_init_29 : decode cX11_init 29 = .ok (.bipush 24, 2) := by decide +kernel
theorem dX11_init_31 : decode cX11_init 31 = .ok (.newarray .int, 2) := by decide +kernel
theorem dX11_init_33 : decode cX11_init 33 = .ok (.putfield 19, 3) := by decide +kernel
theorem dX11_init_36 : decode cX11_init 36 = .ok (.aload_n 0, 1) := by decide +kernel
theorem dX11_init_37 : decode cX11_init 37 = .ok (.iconst 4, 1) := by decide +kernel
theorem dX11_init_38 : decode cX11_init 38 = .ok (.newarray .int, 2) := by decide +kernel
theorem dX11_init_40 : decode cX11_init 40 = .ok (.putfield 22, 3) := by decide +kernel
theorem dX11_init_43 : decode cX11_init 43 = .ok (.aload_n 0, 1) := by decide +kernel
theorem dX11_init_44 : decode cX11_init 44 = .ok (.iconst 4, 1) := by decide +kernel
theorem dX11_init_45 : decode cX11_init 45 = .ok (.newarray .int, 2) := by decide +kernel
theorem dX11_init_47 : decode cX11_init 47 = .ok (.putfield 25, 3) := by decide +kernel
theorem dX11_init_50 : decode cX11_init 50 = .ok (.aload_n 0, 1) := by decide +kernel
theorem dX11_init_51 : decode cX11_init 51 = .ok (.iconst 4, 1) := by decide +kernel
theorem dX11_init_52 : decode cX11_init 52 = .ok (.newarray .int, 2) := by decide +kernel
theorem dX11_init_54 : decode cX11_init 54 = .ok (.putfield 28, 3) := by decide +kernel
theorem dX11_init_57 : decode cX11_init 57 = .ok (.aload_n 0, 1) := by decide +kernel
theorem dX11_init_58 : decode cX11_init 58 = .ok (.bipush 24, 2) := by decide +kernel
theorem dX11_init_60 : decode cX11_init 60 = .ok (.newarray .int, 2) := by decide +kernel
theorem dX11_init_62 : decode cX11_init 62 = .ok (.putfield 31, 3) := by decide +kernel
theorem dX11_init_65 : decode cX11_init 65 = .ok (.aload_n 0, 1) := by decide +kernel
theorem dX11_init_66 : decode cX11_init 66 = .ok (.sipush 128, 3) := by decide +kernel
theorem dX11_init_69 : decode cX11_init 69 = .ok (.newarray .int, 2) := by decide +kernel
theorem dX11_init_71 : decode cX11_init 71 = .ok (.putfield 34, 3) := by decide +kernel
theorem dX11_init_74 : decode cX11_init 74 = .ok (.aload_n 0, 1) := by decide +kernel
theorem dX11_init_75 : decode cX11_init 75 = .ok (.bipush 16, 2) := by decide +kernel
theorem dX11_init_77 : decode cX11_init 77 = .ok (.newarray .int, 2) := by decide +kernel
theorem dX11_init_79 : decode cX11_init 79 = .ok (.putfield 37, 3) := by decide +kernel
theorem dX11_init_82 : decode cX11_init 82 = .ok (.aload_n 0, 1) := by decide +kernel
theorem dX11_init_83 : decode cX11_init 83 = .ok (.iconst 2, 1) := by decide +kernel
theorem dX11_init_84 : decode cX11_init 84 = .ok (.newarray .boolean, 2) := by decide +kernel
theorem dX11_init_86 : decode cX11_init 86 = .ok (.putfield 40, 3) := by decide +kernel
theorem dX11_init_89 : decode cX11_init 89 = .ok (.aload_n 0, 1) := by decide +kernel
theorem dX11_init_90 : decode cX11_init 90 = .ok (.bipush 8, 2) := by decide +kernel
theorem dX11_init_92 : decode cX11_init 92 = .ok (.newarray .int, 2) := by decide +kernel
theorem dX11_init_94 : decode cX11_init 94 = .ok (.putfield 44, 3) := by decide +kernel
theorem dX11_init_97 : decode cX11_init 97 = .ok (.aload_n 0, 1) := by decide +kernel
theorem dX11_init_98 : decode cX11_init 98 = .ok (.bipush 8, 2) := by decide +kernel
theorem dX11_init_100 : decode cX11_init 100 = .ok (.newarray .boolean, 2) := by decide +kernel
theorem dX11_init_102 : decode cX11_init 102 = .ok (.putfield 47, 3) := by decide +kernel
theorem dX11_init_105 : decode cX11_init 105 = .ok (.aload_n 0, 1) := by decide +kernel
theorem dX11_init_106 : decode cX11_init 106 = .ok (.bipush 14, 2) := by decide +kernel
theorem dX11_init_108 : decode cX11_init 108 = .ok (.newarray .int, 2) := by decide +kernel
theorem dX11_init_110 : decode cX11_init 110 = .ok (.putfield 50, 3) := by decide +kernel
theorem dX11_init_113 : decode cX11_init 113 = .ok (.aload_n 0, 1) := by decide +kernel
theorem dX11_init_114 : decode cX11_init 114 = .ok (.bipush 14, 2) := by decide +kernel
theorem dX11_init_116 : decode cX11_init 116 = .ok (.newarray .int, 2) := by decide +kernel
theorem dX11_init_118 : decode cX11_init 118 = .ok (.putfield 53, 3) := by decide +kernel
theorem dX11_init_121 : decode cX11_init 121 = .ok (.aload_n 0, 1) := by decide +kernel
theorem dX11_init_122 : decode cX11_init 122 = .ok (.iconst 4, 1) := by decide +kernel
theorem dX11_init_123 : decode cX11_init 123 = .ok (.newarray .int, 2) := by decide +kernel
theorem dX11_init_125 : decode cX11_init 125 = .ok (.putfield 56, 3) := by decide +kernel
theorem dX11_init_128 : decode cX11_init 128 = .ok (.aload_n 0, 1) := by decide +kernel
theorem dX11_init_129 : decode cX11_init 129 = .ok (.iconst 4, 1) := by decide +kernel
theorem dX11_init_130 : decode cX11_init 130 = .ok (.newarray .int, 2) := by decide +kernel
theorem dX11_init_132 : decode cX11_init 132 = .ok (.putfield 59, 3) := by decide +kernel
theorem dX11_init_135 : decode cX11_init 135 = .ok (.aload_n 0, 1) := by decide +kernel
theorem dX11_init_136 : decode cX11_init 136 = .ok (.bipush 28, 2) := by decide +kernel
theorem dX11_init_138 : decode cX11_init 138 = .ok (.newarray .int, 2) := by decide +kernel
theorem dX11_init_140 : decode cX11_init 140 = .ok (.putfield 62, 3) := by decide +kernel
theorem dX11_init_143 : decode cX11_init 143 = .ok (.aload_n 0, 1) := by decide +kernel
theorem dX11_init_144 : decode cX11_init 144 = .ok (.bipush 7, 2) := by decide +kernel
theorem dX11_init_146 : decode cX11_init 146 = .ok (.newarray .int, 2) := by decide +kernel
theorem dX11_init_148 : decode cX11_init 148 = .ok (.putfield 65, 3) := by decide +kernel
theorem dX11_init_151 : decode cX11_init 151 = .ok (.aload_n 0, 1) := by decide +kernel
theorem dX11_init_152 : decode cX11_init 152 = .ok (.bipush 7, 2) := by decide +kernel
theorem dX11_init_154 : decode cX11_init 154 = .ok (.newarray .int, 2) := by decide +kernel
theorem dX11_init_156 : decode cX11_init 156 = .ok (.putfield 68, 3) := by decide +kernel
theorem dX11_init_159 : decode cX11_init 159 = .ok (.iconst 0, 1) := by decide +kernel
theorem dX11_init_160 : decode cX11_init 160 = .ok (.istore_n 1, 1) := by decide +kernel
theorem dX11_init_161 : decode cX11_init 161 = .ok (.iload_n 1, 1) := by decide +kernel
theorem dX11_init_162 : decode cX11_init 162 = .ok (.iconst 4, 1) := by decide +kernel
theorem dX11_init_163 : decode cX11_init 163 = .ok (.if_icmp .ge 17, 3) := by decide +kernel
theorem dX11_init_166 : decode cX11_init 166 = .ok (.aload_n 0, 1) := by decide +kernel
theorem dX11_init_167 : decode cX11_init 167 = .ok (.getfield 22, 3) := by decide +kernel
theorem dX11_init_170 : decode cX11_init 170 = .ok (.iload_n 1, 1) := by decide +kernel
theorem dX11_init_171 : decode cX11_init 171 = .ok (.bipush (-9), 2) := by decide +kernel
theorem dX11_init_173 : decode cX11_init 173 = .ok (.iastore, 1) := by decide +kernel
theorem dX11_init_174 : decode cX11_init 174 = .ok (.iinc 1 1, 3) := by decide +kernel
theorem dX11_init_177 : decode cX11_init 177 = .ok (.goto (-16), 3) := by decide +kernel
theorem dX11_init_180 : decode cX11_init 180 = .ok (.return_, 1) := by decide +kernel
theorem dX11_in_0 : decode cX11_in 0 = .ok (.lload_n 0, 1) := by decide +kernel
theorem dX11_in_1 : decode cX11_in 1 = .ok (.lload_n 2, 1) := by decide +kernel
theorem dX11_in_2 : decode cX11_in 2 = .ok (.lcmp, 1) := by decide +kernel
theorem dX11_in_3 : decode cX11_in 3 = .ok (.ifCond .lt 14, 3) := by decide +kernel
theorem dX11_in_6 : decode cX11_in 6 = .ok (.lload_n 0, 1) := by decide +kernel
theorem dX11_in_7 : decode cX11_in 7 = .ok (.lload 4, 2) := by decide +kernel
theorem dX11_in_9 : decode cX11_in 9 = .ok (.lcmp, 1) := by decide +kernel
theorem dX11_in_10 : decode cX11_in 10 = .ok (.ifCond .gt 7, 3) := by decide +kernel
theorem dX11_in_13 : decode cX11_in 13 = .ok (.iconst 1, 1) := by decide +kernel
theorem dX11_in_14 : decode cX11_in 14 = .ok (.goto 4, 3) := by decide +kernel
theorem dX11_in_17 : decode cX11_in 17 = .ok (.iconst 0, 1) := by decide +kernel
theorem dX11_in_18 : decode cX11_in 18 = .ok (.ireturn, 1) := by decide +kernel
theorem dX11_has_0 : decode cX11_has 0 = .ok (.iload_n 0, 1) := by decide +kernel
theorem dX11_has_1 : decode cX11_has 1 = .ok (.iload_n 1, 1) := by decide +kernel
theorem dX11_has_2 : decode cX11_has 2 = .ok (.ishr, 1) := by decide +kernel
theorem dX11_has_3 : decode cX11_has 3 = .ok (.iconst 1, 1) := by decide +kernel
theorem dX11_has_4 : decode cX11_has 4 = .ok (.iand, 1) := by decide +kernel
theorem dX11_has_5 : decode cX11_has 5 = .ok (.iconst 1, 1) := by decide +kernel
theorem dX11_has_6 : decode cX11_has 6 = .ok (.if_icmp .ne 7, 3) := by decide +kernel
theorem dX11_has_9 : decode cX11_has 9 = .ok (.iconst 1, 1) := by decide +kernel
theorem dX11_has_10 : decode cX11_has 10 = .ok (.goto 4, 3) := by decide +kernel
theorem dX11_has_13 : decode cX11_has 13 = .ok (.iconst 0, 1) := by decide +kernel
theorem dX11_has_14 : decode cX11_has 14 = .ok (.ireturn, 1) := by decide +kernel
theorem dX11_noOne_0 : decode cX11_noOne 0 = .ok (.iload_n 1, 1) := by decide +kernel
theorem dX11_noOne_1 : decode cX11_noOne 1 = .ok (.i2l, 1) := by decide +kernel
theorem dX11_noOne_2 : decode cX11_noOne 2 = .ok (.lconst 0, 1) := by decide +kernel
theorem dX11_noOne_3 : decode cX11_noOne 3 = .ok (.aload_n 0, 1) := by decide +kernel
theorem dX11_noOne_4 : decode cX11_noOne 4 = .ok (.getfield 75, 3) := by decide +kernel
theorem dX11_noOne_7 : decode cX11_noOne 7 = .ok (.iconst 1, 1) := by decide +kernel
theorem dX11_noOne_8 : decode cX11_noOne 8 = .ok (.isub, 1) := by decide +kernel
theorem dX11_noOne_9 : decode cX11_noOne 9 = .ok (.i2l, 1) := by decide +kernel
theorem dX11_noOne_10 : decode cX11_noOne 10 = .ok (.invokestatic 78, 3) := by decide +kernel
theorem dX11_noOne_13 : decode cX11_noOne 13 = .ok (.ifCond .ne 7, 3) := by decide +kernel
theorem dX11_noOne_16 : decode cX11_noOne 16 = .ok (.iconst 1, 1) := by decide +kernel
theorem dX11_noOne_17 : decode cX11_noOne 17 = .ok (.goto 4, 3) := by decide +kernel
theorem dX11_noOne_20 : decode cX11_noOne 20 = .ok (.iconst 0, 1) := by decide +kernel
theorem dX11_noOne_21 : decode cX11_noOne 21 = .ok (.ireturn, 1) := by decide +kernel
theorem dX11_noSort_0 : decode cX11_noSort 0 = .ok (.iload_n 0, 1) := by decide +kernel
theorem dX11_noSort_1 : decode cX11_noSort 1 = .ok (.i2l, 1) := by decide +kernel
theorem dX11_noSort_2 : decode cX11_noSort 2 = .ok (.lconst 0, 1) := by decide +kernel
theorem dX11_noSort_3 : decode cX11_noSort 3 = .ok (.ldc2_w 82, 3) := by decide +kernel
theorem dX11_noSort_6 : decode cX11_noSort 6 = .ok (.invokestatic 78, 3) := by decide +kernel
theorem dX11_noSort_9 : decode cX11_noSort 9 = .ok (.ifCond .ne 7, 3) := by decide +kernel
theorem dX11_noSort_12 : decode cX11_noSort 12 = .ok (.iconst 1, 1) := by decide +kernel
theorem dX11_noSort_13 : decode cX11_noSort 13 = .ok (.goto 4, 3) := by decide +kernel
theorem dX11_noSort_16 : decode cX11_noSort 16 = .ok (.iconst 0, 1) := by decide +kernel
theorem dX11_noSort_17 : decode cX11_noSort 17 = .ok (.ireturn, 1) := by decide +kernel
theorem dX11_write_0 : decode cX11_write 0 = .ok (.aload_n 0, 1) := by decide +kernel
theorem dX11_write_1 : decode cX11_write 1 = .ok (.iconst 0, 1) := by decide +kernel
theorem dX11_write_2 : decode cX11_write 2 = .ok (.putfield 71, 3) := by decide +kernel
theorem dX11_write_5 : decode cX11_write 5 = .ok (.iload_n 1, 1) := by decide +kernel
theorem dX11_write_6 : decode cX11_write 6 = .ok (.i2l, 1) := by decide +kernel
theorem dX11_write_7 : decode cX11_write 7 = .ok (.lconst 1, 1) := by decide +kernel
theorem dX11_write_8 : decode cX11_write 8 = .ok (.ldc2_w 84, 3) := by decide +kernel
theorem dX11_write_11 : decode cX11_write 11 = .ok (.invokestatic 78, 3) := by decide +kernel
theorem dX11_write_14 : decode cX11_write 14 = .ok (.ifCond .ne 6, 3) := by decide +kernel
theorem dX11_write_17 : decode cX11_write 17 = .ok (.bipush (-2), 2) := by decide +kernel
theorem dX11_write_19 : decode cX11_write 19 = .ok (.ireturn, 1) := by decide +kernel
theorem dX11_write_20 : decode cX11_write 20 = .ok (.aload_n 0, 1) := by decide +kernel
theorem dX11_write_21 : decode cX11_write 21 = .ok (.getfield 86, 3) := by decide +kernel
theorem dX11_write_24 : decode cX11_write 24 = .ok (.iload_n 1, 1) := by decide +kernel
theorem dX11_write_25 : decode cX11_write 25 = .ok (.iadd, 1) := by decide +kernel
theorem dX11_write_26 : decode cX11_write 26 = .ok (.bipush 64, 2) := by decide +kernel
theorem dX11_write_28 : decode cX11_write 28 = .ok (.if_icmp .le 6, 3) := by decide +kernel
theorem dX11_write_31 : decode cX11_write 31 = .ok (.bipush (-4), 2) := by decide +kernel
theorem dX11_write_33 : decode cX11_write 33 = .ok (.ireturn, 1) := by decide +kernel
theorem dX11_write_34 : decode cX11_write 34 = .ok (.iload_n 1, 1) := by decide +kernel
theorem dX11_write_35 : decode cX11_write 35 = .ok (.iconst 1, 1) := by decide +kernel
theorem dX11_write_36 : decode cX11_write 36 = .ok (.isub, 1) := by decide +kernel
theorem dX11_write_37 : decode cX11_write 37 = .ok (.istore 4, 2) := by decide +kernel
theorem dX11_write_39 : decode cX11_write 39 = .ok (.iload 4, 2) := by decide +kernel
theorem dX11_write_41 : decode cX11_write 41 = .ok (.ifCond .lt 40, 3) := by decide +kernel
theorem dX11_write_44 : decode cX11_write 44 = .ok (.aload_n 0, 1) := by decide +kernel
theorem dX11_write_45 : decode cX11_write 45 = .ok (.getfield 7, 3) := by decide +kernel
theorem dX11_write_48 : decode cX11_write 48 = .ok (.aload_n 0, 1) := by decide +kernel
theorem dX11_write_49 : decode cX11_write 49 = .ok (.getfield 86, 3) := by decide +kernel
theorem dX11_write_52 : decode cX11_write 52 = .ok (.lload_n 2, 1) := by decide +kernel
theorem dX11_write_53 : decode cX11_write 53 = .ok (.bipush 8, 2) := by decide +kernel
theorem dX11_write_55 : decode cX11_write 55 = .ok (.iload 4, 2) := by decide +kernel
theorem dX11_write_57 : decode cX11_write 57 = .ok (.imul, 1) := by decide +kernel
theorem dX11_write_58 : decode cX11_write 58 = .ok (.lshr, 1) := by decide +kernel
theorem dX11_write_59 : decode cX11_write 59 = .ok (.l2i, 1) := by decide +kernel
theorem dX11_write_60 : decode cX11_write 60 = .ok (.sipush 255, 3) := by decide +kernel
theorem dX11_write_63 : decode cX11_write 63 = .ok (.iand, 1) := by decide +kernel
theorem dX11_write_64 : decode cX11_write 64 = .ok (.iastore, 1) := by decide +kernel
theorem dX11_write_65 : decode cX11_write 65 = .ok (.aload_n 0, 1) := by decide +kernel
theorem dX11_write_66 : decode cX11_write 66 = .ok (.dup, 1) := by decide +kernel
theorem dX11_write_67 : decode cX11_write 67 = .ok (.getfield 86, 3) := by decide +kernel
theorem dX11_write_70 : decode cX11_write 70 = .ok (.iconst 1, 1) := by decide +kernel
theorem dX11_write_71 : decode cX11_write 71 = .ok (.iadd, 1) := by decide +kernel
theorem dX11_write_72 : decode cX11_write 72 = .ok (.putfield 86, 3) := by decide +kernel
theorem dX11_write_75 : decode cX11_write 75 = .ok (.iinc 4 (-1), 3) := by decide +kernel
theorem dX11_write_78 : decode cX11_write 78 = .ok (.goto (-39), 3) := by decide +kernel
theorem dX11_write_81 : decode cX11_write 81 = .ok (.aload_n 0, 1) := by decide +kernel
theorem dX11_write_82 : decode cX11_write 82 = .ok (.getfield 86, 3) := by decide +kernel
theorem dX11_write_85 : decode cX11_write 85 = .ok (.ireturn, 1) := by decide +kernel
theorem dX11_wipe_0 : decode cX11_wipe 0 = .ok (.aload_n 0, 1) := by decide +kernel
theorem dX11_wipe_1 : decode cX11_wipe 1 = .ok (.iconst 0, 1) := by decide +kernel
theorem dX11_wipe_2 : decode cX11_wipe 2 = .ok (.putfield 71, 3) := by decide +kernel
theorem dX11_wipe_5 : decode cX11_wipe 5 = .ok (.aload_n 0, 1) := by decide +kernel
theorem dX11_wipe_6 : decode cX11_wipe 6 = .ok (.getfield 86, 3) := by decide +kernel
theorem dX11_wipe_9 : decode cX11_wipe 9 = .ok (.istore_n 1, 1) := by decide +kernel
theorem dX11_wipe_10 : decode cX11_wipe 10 = .ok (.aload_n 0, 1) := by decide +kernel
theorem dX11_wipe_11 : decode cX11_wipe 11 = .ok (.iconst 0, 1) := by decide +kernel
theorem dX11_wipe_12 : decode cX11_wipe 12 = .ok (.putfield 86, 3) := by decide +kernel
theorem dX11_wipe_15 : decode cX11_wipe 15 = .ok (.iload_n 1, 1) := by decide +kernel
theorem dX11_wipe_16 : decode cX11_wipe 16 = .ok (.ireturn, 1) := by decide +kernel
theorem dX11_sign_0 : decode cX11_sign 0 = .ok (.aload_n 0, 1) := by decide +kernel
theorem dX11_sign_1 : decode cX11_sign 1 = .ok (.getfield 89, 3) := by decide +kernel
theorem dX11_sign_4 : decode cX11_sign 4 = .ok (.aload_n 0, 1) := by decide +kernel
theorem dX11_sign_5 : decode cX11_sign 5 = .ok (.getfield 86, 3) := by decide +kernel
theorem dX11_sign_8 : decode cX11_sign 8 = .ok (.if_icmp .ne 6, 3) := by decide +kernel
theorem dX11_sign_11 : decode cX11_sign 11 = .ok (.bipush (-9), 2) := by decide +kernel
theorem dX11_sign_13 : decode cX11_sign 13 = .ok (.ireturn, 1) := by decide +kernel
theorem dX11_sign_14 : decode cX11_sign 14 = .ok (.aload_n 0, 1) := by decide +kernel
theorem dX11_sign_15 : decode cX11_sign 15 = .ok (.getfield 7, 3) := by decide +kernel
theorem dX11_sign_18 : decode cX11_sign 18 = .ok (.aload_n 0, 1) := by decide +kernel
theorem dX11_sign_19 : decode cX11_sign 19 = .ok (.getfield 89, 3) := by decide +kernel
theorem dX11_sign_22 : decode cX11_sign 22 = .ok (.iaload, 1) := by decide +kernel
theorem dX11_sign_23 : decode cX11_sign 23 = .ok (.istore_n 1, 1) := by decide +kernel
theorem dX11_sign_24 : decode cX11_sign 24 = .ok (.iload_n 1, 1) := by decide +kernel
theorem dX11_sign_25 : decode cX11_sign 25 = .ok (.i2l, 1) := by decide +kernel
theorem dX11_sign_26 : decode cX11_sign 26 = .ok (.ldc2_w 92, 3) := by decide +kernel
theorem dX11_sign_29 : decode cX11_sign 29 = .ok (.ldc2_w 94, 3) := by decide +kernel
theorem dX11_sign_32 : decode cX11_sign 32 = .ok (.invokestatic 78, 3) := by decide +kernel
theorem dX11_sign_35 : decode cX11_sign 35 = .ok (.ifCond .eq 10, 3) := by decide +kernel
theorem dX11_sign_38 : decode cX11_sign 38 = .ok (.iload_n 1, 1) := by decide +kernel
theorem dX11_sign_39 : decode cX11_sign 39 = .ok (.bipush 97, 2) := by decide +kernel
theorem dX11_sign_41 : decode cX11_sign 41 = .ok (.isub, 1) := by decide +kernel
theorem dX11_sign_42 : decode cX11_sign 42 = .ok (.goto 16, 3) := by decide +kernel
theorem dX11_sign_45 : decode cX11_sign 45 = .ok (.iload_n 1, 1) := by decide +kernel
theorem dX11_sign_46 : decode cX11_sign 46 = .ok (.bipush 45, 2) := by decide +kernel
theorem dX11_sign_48 : decode cX11_sign 48 = .ok (.if_icmp .ne 8, 3) := by decide +kernel
theorem dX11_sign_51 : decode cX11_sign 51 = .ok (.bipush 6, 2) := by decide +kernel
theorem dX11_sign_53 : decode cX11_sign 53 = .ok (.goto 5, 3) := by decide +kernel
theorem dX11_sign_56 : decode cX11_sign 56 = .ok (.bipush (-9), 2) := by decide +kernel
theorem dX11_sign_58 : decode cX11_sign 58 = .ok (.ireturn, 1) := by decide +kernel
theorem dX11_readPerson_0 : decode cX11_readPerson 0 = .ok (.aload_n 0, 1) := by decide +kernel
theorem dX11_readPerson_1 : decode cX11_readPerson 1 = .ok (.invokevirtual 96, 3) := by decide +kernel
theorem dX11_readPerson_4 : decode cX11_readPerson 4 = .ok (.istore_n 1, 1) := by decide +kernel
theorem dX11_readPerson_5 : decode cX11_readPerson 5 = .ok (.iload_n 1, 1) := by decide +kernel
theorem dX11_readPerson_6 : decode cX11_readPerson 6 = .ok (.bipush (-9), 2) := by decide +kernel
theorem dX11_readPerson_8 : decode cX11_readPerson 8 = .ok (.if_icmp .ne 5, 3) := by decide +kernel
theorem dX11_readPerson_11 : decode cX11_readPerson 11 = .ok (.iconst 0, 1) := by decide +kernel
theorem dX11_readPerson_12 : decode cX11_readPerson 12 = .ok (.ireturn, 1) := by decide +kernel
theorem dX11_readPerson_13 : decode cX11_readPerson 13 = .ok (.aload_n 0, 1) := by decide +kernel
theorem dX11_readPerson_14 : decode cX11_readPerson 14 = .ok (.dup, 1) := by decide +kernel
theorem dX11_readPerson_15 : decode cX11_readPerson 15 = .ok (.getfield 89, 3) := by decide +kernel
theorem dX11_readPerson_18 : decode cX11_readPerson 18 = .ok (.iconst 1, 1) := by decide +kernel
theorem dX11_readPerson_19 : decode cX11_readPerson 19 = .ok (.iadd, 1) := by decide +kernel
theorem dX11_readPerson_20 : decode cX11_readPerson 20 = .ok (.putfield 89, 3) := by decide +kernel
theorem dX11_readPerson_23 : decode cX11_readPerson 23 = .ok (.iconst 0, 1) := by decide +kernel
theorem dX11_readPerson_24 : decode cX11_readPerson 24 = .ok (.istore_n 2, 1) := by decide +kernel
theorem dX11_readPerson_25 : decode cX11_readPerson 25 = .ok (.iload_n 2, 1) := by decide +kernel
theorem dX11_readPerson_26 : decode cX11_readPerson 26 = .ok (.bipush 6, 2) := by decide +kernel
theorem dX11_readPerson_28 : decode cX11_readPerson 28 = .ok (.if_icmp .ge 80, 3) := by decide +kernel
theorem dX11_readPerson_31 : decode cX11_readPerson 31 = .ok (.aload_n 0, 1) := by decide +kernel
theorem dX11_readPerson_32 : decode cX11_readPerson 32 = .ok (.getfield 89, 3) := by decide +kernel
theorem dX11_readPerson_35 : decode cX11_readPerson 35 = .ok (.aload_n 0, 1) := by decide +kernel
theorem dX11_readPerson_36 : decode cX11_readPerson 36 = .ok (.getfield 86, 3) := by decide +kernel
theorem dX11_readPerson_39 : decode cX11_readPerson 39 = .ok (.if_icmp .eq 25, 3) := by decide +kernel
theorem dX11_readPerson_42 : decode cX11_readPerson 42 = .ok (.aload_n 0, 1) := by decide +kernel
theorem dX11_readPerson_43 : decode cX11_readPerson 43 = .ok (.getfield 7, 3) := by decide +kernel
theorem dX11_readPerson_46 : decode cX11_readPerson 46 = .ok (.aload_n 0, 1) := by decide +kernel
theorem dX11_readPerson_47 : decode cX11_readPerson 47 = .ok (.getfield 89, 3) := by decide +kernel
theorem dX11_readPerson_50 : decode cX11_readPerson 50 = .ok (.iaload, 1) := by decide +kernel
theorem dX11_readPerson_51 : decode cX11_readPerson 51 = .ok (.i2l, 1) := by decide +kernel
theorem dX11_readPerson_52 : decode cX11_readPerson 52 = .ok (.ldc2_w 100, 3) := by decide +kernel
theorem dX11_readPerson_55 : decode cX11_readPerson 55 = .ok (.ldc2_w 102, 3) := by decide +kernel
theorem dX11_readPerson_58 : decode cX11_readPerson 58 = .ok (.invokestatic 78, 3) := by decide +kernel
theorem dX11_readPerson_61 : decode cX11_readPerson 61 = .ok (.ifCond .ne 5, 3) := by decide +kernel
theorem dX11_readPerson_64 : decode cX11_readPerson 64 = .ok (.iconst 0, 1) := by decide +kernel
theorem dX11_readPerson_65 : decode cX11_readPerson 65 = .ok (.ireturn, 1) := by decide +kernel
theorem dX11_readPerson_66 : decode cX11_readPerson 66 = .ok (.aload_n 0, 1) := by decide +kernel
theorem dX11_readPerson_67 : decode cX11_readPerson 67 = .ok (.getfield 31, 3) := by decide +kernel
theorem dX11_readPerson_70 : decode cX11_readPerson 70 = .ok (.bipush 6, 2) := by decide +kernel
theorem dX11_readPerson_72 : decode cX11_readPerson 72 = .ok (.aload_n 0, 1) := by decide +kernel
theorem dX11_readPerson_73 : decode cX11_readPerson 73 = .ok (.getfield 104, 3) := by decide +kernel
theorem dX11_readPerson_76 : decode cX11_readPerson 76 = .ok (.imul, 1) := by decide +kernel
theorem dX11_readPerson_77 : decode cX11_readPerson 77 = .ok (.iload_n 2, 1) := by decide +kernel
theorem dX11_readPerson_78 : decode cX11_readPerson 78 = .ok (.iadd, 1) := by decide +kernel
theorem dX11_readPerson_79 : decode cX11_readPerson 79 = .ok (.aload_n 0, 1) := by decide +kernel
theorem dX11_readPerson_80 : decode cX11_readPerson 80 = .ok (.getfield 7, 3) := by decide +kernel
theorem dX11_readPerson_83 : decode cX11_readPerson 83 = .ok (.aload_n 0, 1) := by decide +kernel
theorem dX11_readPerson_84 : decode cX11_readPerson 84 = .ok (.getfield 89, 3) := by decide +kernel
theorem dX11_readPerson_87 : decode cX11_readPerson 87 = .ok (.iaload, 1) := by decide +kernel
theorem dX11_readPerson_88 : decode cX11_readPerson 88 = .ok (.bipush 48, 2) := by decide +kernel
theorem dX11_readPerson_90 : decode cX11_readPerson 90 = .ok (.isub, 1) := by decide +kernel
theorem dX11_readPerson_91 : decode cX11_readPerson 91 = .ok (.iastore, 1) := by decide +kernel
theorem dX11_readPerson_92 : decode cX11_readPerson 92 = .ok (.aload_n 0, 1) := by decide +kernel
theorem dX11_readPerson_93 : decode cX11_readPerson 93 = .ok (.dup, 1) := by decide +kernel
theorem dX11_readPerson_94 : decode cX11_readPerson 94 = .ok (.getfield 89, 3) := by decide +kernel
theorem dX11_readPerson_97 : decode cX11_readPerson 97 = .ok (.iconst 1, 1) := by decide +kernel
theorem dX11_readPerson_98 : decode cX11_readPerson 98 = .ok (.iadd, 1) := by decide +kernel
theorem dX11_readPerson_99 : decode cX11_readPerson 99 = .ok (.putfield 89, 3) := by decide +kernel
theorem dX11_readPerson_102 : decode cX11_readPerson 102 = .ok (.iinc 2 1, 3) := by decide +kernel
theorem dX11_readPerson_105 : decode cX11_readPerson 105 = .ok (.goto (-80), 3) := by decide +kernel
theorem dX11_readPerson_108 : decode cX11_readPerson 108 = .ok (.iload_n 1, 1) := by decide +kernel
theorem dX11_readPerson_109 : decode cX11_readPerson 109 = .ok (.bipush 6, 2) := by decide +kernel
theorem dX11_readPerson_111 : decode cX11_readPerson 111 = .ok (.if_icmp .ne 7, 3) := by decide +kernel
theorem dX11_readPerson_114 : decode cX11_readPerson 114 = .ok (.iconst 0, 1) := by decide +kernel
theorem dX11_readPerson_115 : decode cX11_readPerson 115 = .ok (.goto 6, 3) := by decide +kernel
theorem dX11_readPerson_118 : decode cX11_readPerson 118 = .ok (.iconst 1, 1) := by decide +kernel
theorem dX11_readPerson_119 : decode cX11_readPerson 119 = .ok (.iload_n 1, 1) := by decide +kernel
theorem dX11_readPerson_120 : decode cX11_readPerson 120 = .ok (.ishl, 1) := by decide +kernel
theorem dX11_readPerson_121 : decode cX11_readPerson 121 = .ok (.istore_n 2, 1) := by decide +kernel
theorem dX11_readPerson_122 : decode cX11_readPerson 122 = .ok (.aload_n 0, 1) := by decide +kernel
theorem dX11_readPerson_123 : decode cX11_readPerson 123 = .ok (.invokevirtual 96, 3) := by decide +kernel
theorem dX11_readPerson_126 : decode cX11_readPerson 126 = .ok (.bipush (-9), 2) := by decide +kernel
theorem dX11_readPerson_128 : decode cX11_readPerson 128 = .ok (.if_icmp .eq 47, 3) := by decide +kernel
theorem dX11_readPerson_131 : decode cX11_readPerson 131 = .ok (.aload_n 0, 1) := by decide +kernel
theorem dX11_readPerson_132 : decode cX11_readPerson 132 = .ok (.invokevirtual 96, 3) := by decide +kernel
theorem dX11_readPerson_135 : decode cX11_readPerson 135 = .ok (.bipush 6, 2) := by decide +kernel
theorem dX11_readPerson_137 : decode cX11_readPerson 137 = .ok (.if_icmp .eq 38, 3) := by decide +kernel
theorem dX11_readPerson_140 : decode cX11_readPerson 140 = .ok (.iload_n 2, 1) := by decide +kernel
theorem dX11_readPerson_141 : decode cX11_readPerson 141 = .ok (.aload_n 0, 1) := by decide +kernel
theorem dX11_readPerson_142 : decode cX11_readPerson 142 = .ok (.invokevirtual 96, 3) := by decide +kernel
theorem dX11_readPerson_145 : decode cX11_readPerson 145 = .ok (.invokestatic 107, 3) := by decide +kernel
theorem dX11_readPerson_148 : decode cX11_readPerson 148 = .ok (.ifCond .eq 5, 3) := by decide +kernel
theorem dX11_readPerson_151 : decode cX11_readPerson 151 = .ok (.iconst 0, 1) := by decide +kernel
theorem dX11_readPerson_152 : decode cX11_readPerson 152 = .ok (.ireturn, 1) := by decide +kernel
theorem dX11_readPerson_153 : decode cX11_readPerson 153 = .ok (.iload_n 2, 1) := by decide +kernel
theorem dX11_readPerson_154 : decode cX11_readPerson 154 = .ok (.iconst 1, 1) := by decide +kernel
theorem dX11_readPerson_155 : decode cX11_readPerson 155 = .ok (.aload_n 0, 1) := by decide +kernel
theorem dX11_readPerson_156 : decode cX11_readPerson 156 = .ok (.invokevirtual 96, 3) := by decide +kernel
theorem dX11_readPerson_159 : decode cX11_readPerson 159 = .ok (.ishl, 1) := by decide +kernel
theorem dX11_readPerson_160 : decode cX11_readPerson 160 = .ok (.ior, 1) := by decide +kernel
theorem dX11_readPerson_161 : decode cX11_readPerson 161 = .ok (.istore_n 2, 1) := by decide +kernel
theorem dX11_readPerson_162 : decode cX11_readPerson 162 = .ok (.aload_n 0, 1) := by decide +kernel
theorem dX11_readPerson_163 : decode cX11_readPerson 163 = .ok (.dup, 1) := by decide +kernel
theorem dX11_readPerson_164 : decode cX11_readPerson 164 = .ok (.getfield 89, 3) := by decide +kernel
theorem dX11_readPerson_167 : decode cX11_readPerson 167 = .ok (.iconst 1, 1) := by decide +kernel
theorem dX11_readPerson_168 : decode cX11_readPerson 168 = .ok (.iadd, 1) := by decide +kernel
theorem dX11_readPerson_169 : decode cX11_readPerson 169 = .ok (.putfield 89, 3) := by decide +kernel
theorem dX11_readPerson_172 : decode cX11_readPerson 172 = .ok (.goto (-50), 3) := by decide +kernel
theorem dX11_readPerson_175 : decode cX11_readPerson 175 = .ok (.aload_n 0, 1) := by decide +kernel
theorem dX11_readPerson_176 : decode cX11_readPerson 176 = .ok (.getfield 25, 3) := by decide +kernel
theorem dX11_readPerson_179 : decode cX11_readPerson 179 = .ok (.aload_n 0, 1) := by decide +kernel
theorem dX11_readPerson_180 : decode cX11_readPerson 180 = .ok (.getfield 104, 3) := by decide +kernel
theorem dX11_readPerson_183 : decode cX11_readPerson 183 = .ok (.iload_n 1, 1) := by decide +kernel
theorem dX11_readPerson_184 : decode cX11_readPerson 184 = .ok (.iastore, 1) := by decide +kernel
theorem dX11_readPerson_185 : decode cX11_readPerson 185 = .ok (.aload_n 0, 1) := by decide +kernel
theorem dX11_readPerson_186 : decode cX11_readPerson 186 = .ok (.getfield 28, 3) := by decide +kernel
theorem dX11_readPerson_189 : decode cX11_readPerson 189 = .ok (.aload_n 0, 1) := by decide +kernel
theorem dX11_readPerson_190 : decode cX11_readPerson 190 = .ok (.getfield 104, 3) := by decide +kernel
theorem dX11_readPerson_193 : decode cX11_readPerson 193 = .ok (.iload_n 2, 1) := by decide +kernel
theorem dX11_readPerson_194 : decode cX11_readPerson 194 = .ok (.iastore, 1) := by decide +kernel
theorem dX11_readPerson_195 : decode cX11_readPerson 195 = .ok (.aload_n 0, 1) := by decide +kernel
theorem dX11_readPerson_196 : decode cX11_readPerson 196 = .ok (.dup, 1) := by decide +kernel
theorem dX11_readPerson_197 : decode cX11_readPerson 197 = .ok (.getfield 104, 3) := by decide +kernel
theorem dX11_readPerson_200 : decode cX11_readPerson 200 = .ok (.iconst 1, 1) := by decide +kernel
theorem dX11_readPerson_201 : decode cX11_readPerson 201 = .ok (.iadd, 1) := by decide +kernel
theorem dX11_readPerson_202 : decode cX11_readPerson 202 = .ok (.putfield 104, 3) := by decide +kernel
theorem dX11_readPerson_205 : decode cX11_readPerson 205 = .ok (.iconst 1, 1) := by decide +kernel
theorem dX11_readPerson_206 : decode cX11_readPerson 206 = .ok (.ireturn, 1) := by decide +kernel
theorem dX11_readFair_0 : decode cX11_readFair 0 = .ok (.aload_n 0, 1) := by decide +kernel
theorem dX11_readFair_1 : decode cX11_readFair 1 = .ok (.iconst 0, 1) := by decide +kernel
theorem dX11_readFair_2 : decode cX11_readFair 2 = .ok (.putfield 89, 3) := by decide +kernel
theorem dX11_readFair_5 : decode cX11_readFair 5 = .ok (.aload_n 0, 1) := by decide +kernel
theorem dX11_readFair_6 : decode cX11_readFair 6 = .ok (.iconst 0, 1) := by decide +kernel
theorem dX11_readFair_7 : decode cX11_readFair 7 = .ok (.putfield 104, 3) := by decide +kernel
theorem dX11_readFair_10 : decode cX11_readFair 10 = .ok (.aload_n 0, 1) := by decide +kernel
theorem dX11_readFair_11 : decode cX11_readFair 11 = .ok (.getfield 89, 3) := by decide +kernel
theorem dX11_readFair_14 : decode cX11_readFair 14 = .ok (.aload_n 0, 1) := by decide +kernel
theorem dX11_readFair_15 : decode cX11_readFair 15 = .ok (.getfield 86, 3) := by decide +kernel
theorem dX11_readFair_18 : decode cX11_readFair 18 = .ok (.if_icmp .ge 52, 3) := by decide +kernel
theorem dX11_readFair_21 : decode cX11_readFair 21 = .ok (.aload_n 0, 1) := by decide +kernel
theorem dX11_readFair_22 : decode cX11_readFair 22 = .ok (.getfield 7, 3) := by decide +kernel
theorem dX11_readFair_25 : decode cX11_readFair 25 = .ok (.aload_n 0, 1) := by decide +kernel
theorem dX11_readFair_26 : decode cX11_readFair 26 = .ok (.getfield 89, 3) := by decide +kernel
theorem dX11_readFair_29 : decode cX11_readFair 29 = .ok (.iaload, 1) := by decide +kernel
theorem dX11_readFair_30 : decode cX11_readFair 30 = .ok (.bipush 80, 2) := by decide +kernel
theorem dX11_readFair_32 : decode cX11_readFair 32 = .ok (.if_icmp .ne 11, 3) := by decide +kernel
theorem dX11_readFair_35 : decode cX11_readFair 35 = .ok (.aload_n 0, 1) := by decide +kernel
theorem dX11_readFair_36 : decode cX11_readFair 36 = .ok (.getfield 104, 3) := by decide +kernel
theorem dX11_readFair_39 : decode cX11_readFair 39 = .ok (.iconst 4, 1) := by decide +kernel
theorem dX11_readFair_40 : decode cX11_readFair 40 = .ok (.if_icmp .ne 8, 3) := by decide +kernel
theorem dX11_readFair_43 : decode cX11_readFair 43 = .ok (.aload_n 0, 1) := by decide +kernel
theorem dX11_readFair_44 : decode cX11_readFair 44 = .ok (.getfield 89, 3) := by decide +kernel
theorem dX11_readFair_47 : decode cX11_readFair 47 = .ok (.ireturn, 1) := by decide +kernel
theorem dX11_readFair_48 : decode cX11_readFair 48 = .ok (.aload_n 0, 1) := by decide +kernel
theorem dX11_readFair_49 : decode cX11_readFair 49 = .ok (.dup, 1) := by decide +kernel
theorem dX11_readFair_50 : decode cX11_readFair 50 = .ok (.getfield 89, 3) := by decide +kernel
theorem dX11_readFair_53 : decode cX11_readFair 53 = .ok (.iconst 1, 1) := by decide +kernel
theorem dX11_readFair_54 : decode cX11_readFair 54 = .ok (.iadd, 1) := by decide +kernel
theorem dX11_readFair_55 : decode cX11_readFair 55 = .ok (.putfield 89, 3) := by decide +kernel
theorem dX11_readFair_58 : decode cX11_readFair 58 = .ok (.aload_n 0, 1) := by decide +kernel
theorem dX11_readFair_59 : decode cX11_readFair 59 = .ok (.invokevirtual 111, 3) := by decide +kernel
theorem dX11_readFair_62 : decode cX11_readFair 62 = .ok (.ifCond .ne (-52), 3) := by decide +kernel
theorem dX11_readFair_65 : decode cX11_readFair 65 = .ok (.aload_n 0, 1) := by decide +kernel
theorem dX11_readFair_66 : decode cX11_readFair 66 = .ok (.getfield 89, 3) := by decide +kernel
theorem dX11_readFair_69 : decode cX11_readFair 69 = .ok (.ireturn, 1) := by decide +kernel
theorem dX11_readFair_70 : decode cX11_readFair 70 = .ok (.bipush (-9), 2) := by decide +kernel
theorem dX11_readFair_72 : decode cX11_readFair 72 = .ok (.ireturn, 1) := by decide +kernel
theorem dX11_fault_0 : decode cX11_fault 0 = .ok (.aload_n 0, 1) := by decide +kernel
theorem dX11_fault_1 : decode cX11_fault 1 = .ok (.iconst 0, 1) := by decide +kernel
theorem dX11_fault_2 : decode cX11_fault 2 = .ok (.putfield 71, 3) := by decide +kernel
theorem dX11_fault_5 : decode cX11_fault 5 = .ok (.aload_n 0, 1) := by decide +kernel
theorem dX11_fault_6 : decode cX11_fault 6 = .ok (.invokevirtual 115, 3) := by decide +kernel
theorem dX11_fault_9 : decode cX11_fault 9 = .ok (.ireturn, 1) := by decide +kernel
theorem dX11_fair_0 : decode cX11_fair 0 = .ok (.aload_n 0, 1) := by decide +kernel
theorem dX11_fair_1 : decode cX11_fair 1 = .ok (.iconst 0, 1) := by decide +kernel
theorem dX11_fair_2 : decode cX11_fair 2 = .ok (.putfield 71, 3) := by decide +kernel
theorem dX11_fair_5 : decode cX11_fair 5 = .ok (.aload_n 0, 1) := by decide +kernel
theorem dX11_fair_6 : decode cX11_fair 6 = .ok (.invokevirtual 115, 3) := by decide +kernel
theorem dX11_fair_9 : decode cX11_fair 9 = .ok (.bipush (-9), 2) := by decide +kernel
theorem dX11_fair_11 : decode cX11_fair 11 = .ok (.if_icmp .eq 6, 3) := by decide +kernel
theorem dX11_fair_14 : decode cX11_fair 14 = .ok (.bipush (-3), 2) := by decide +kernel
theorem dX11_fair_16 : decode cX11_fair 16 = .ok (.ireturn, 1) := by decide +kernel
theorem dX11_fair_17 : decode cX11_fair 17 = .ok (.aload_n 0, 1) := by decide +kernel
theorem dX11_fair_18 : decode cX11_fair 18 = .ok (.aload_n 0, 1) := by decide +kernel
theorem dX11_fair_19 : decode cX11_fair 19 = .ok (.getfield 104, 3) := by decide +kernel
theorem dX11_fair_22 : decode cX11_fair 22 = .ok (.putfield 75, 3) := by decide +kernel
theorem dX11_fair_25 : decode cX11_fair 25 = .ok (.iconst 0, 1) := by decide +kernel
theorem dX11_fair_26 : decode cX11_fair 26 = .ok (.istore_n 1, 1) := by decide +kernel
theorem dX11_fair_27 : decode cX11_fair 27 = .ok (.iload_n 1, 1) := by decide +kernel
theorem dX11_fair_28 : decode cX11_fair 28 = .ok (.aload_n 0, 1) := by decide +kernel
theorem dX11_fair_29 : decode cX11_fair 29 = .ok (.getfield 75, 3) := by decide +kernel
theorem dX11_fair_32 : decode cX11_fair 32 = .ok (.if_icmp .ge 33, 3) := by decide +kernel
theorem dX11_fair_35 : decode cX11_fair 35 = .ok (.aload_n 0, 1) := by decide +kernel
theorem dX11_fair_36 : decode cX11_fair 36 = .ok (.getfield 13, 3) := by decide +kernel
theorem dX11_fair_39 : decode cX11_fair 39 = .ok (.iload_n 1, 1) := by decide +kernel
theorem dX11_fair_40 : decode cX11_fair 40 = .ok (.aload_n 0, 1) := by decide +kernel
theorem dX11_fair_41 : decode cX11_fair 41 = .ok (.getfield 25, 3) := by decide +kernel
theorem dX11_fair_44 : decode cX11_fair 44 = .ok (.iload_n 1, 1) := by decide +kernel
theorem dX11_fair_45 : decode cX11_fair 45 = .ok (.iaload, 1) := by decide +kernel
theorem dX11_fair_46 : decode cX11_fair 46 = .ok (.iastore, 1) := by decide +kernel
theorem dX11_fair_47 : decode cX11_fair 47 = .ok (.aload_n 0, 1) := by decide +kernel
theorem dX11_fair_48 : decode cX11_fair 48 = .ok (.getfield 16, 3) := by decide +kernel
theorem dX11_fair_51 : decode cX11_fair 51 = .ok (.iload_n 1, 1) := by decide +kernel
theorem dX11_fair_52 : decode cX11_fair 52 = .ok (.aload_n 0, 1) := by decide +kernel
theorem dX11_fair_53 : decode cX11_fair 53 = .ok (.getfield 28, 3) := by decide +kernel
theorem dX11_fair_56 : decode cX11_fair 56 = .ok (.iload_n 1, 1) := by decide +kernel
theorem dX11_fair_57 : decode cX11_fair 57 = .ok (.iaload, 1) := by decide +kernel
theorem dX11_fair_58 : decode cX11_fair 58 = .ok (.iastore, 1) := by decide +kernel
theorem dX11_fair_59 : decode cX11_fair 59 = .ok (.iinc 1 1, 3) := by decide +kernel
theorem dX11_fair_62 : decode cX11_fair 62 = .ok (.goto (-35), 3) := by decide +kernel
theorem dX11_fair_65 : decode cX11_fair 65 = .ok (.iconst 0, 1) := by decide +kernel
theorem dX11_fair_66 : decode cX11_fair 66 = .ok (.istore_n 1, 1) := by decide +kernel
theorem dX11_fair_67 : decode cX11_fair 67 = .ok (.iload_n 1, 1) := by decide +kernel
theorem dX11_fair_68 : decode cX11_fair 68 = .ok (.iconst 4, 1) := by decide +kernel
theorem dX11_fair_69 : decode cX11_fair 69 = .ok (.if_icmp .ge 17, 3) := by decide +kernel
theorem dX11_fair_72 : decode cX11_fair 72 = .ok (.aload_n 0, 1) := by decide +kernel
theorem dX11_fair_73 : decode cX11_fair 73 = .ok (.getfield 22, 3) := by decide +kernel
theorem dX11_fair_76 : decode cX11_fair 76 = .ok (.iload_n 1, 1) := by decide +kernel
theorem dX11_fair_77 : decode cX11_fair 77 = .ok (.bipush (-9), 2) := by decide +kernel
theorem dX11_fair_79 : decode cX11_fair 79 = .ok (.iastore, 1) := by decide +kernel
theorem dX11_fair_80 : decode cX11_fair 80 = .ok (.iinc 1 1, 3) := by decide +kernel
theorem dX11_fair_83 : decode cX11_fair 83 = .ok (.goto (-16), 3) := by decide +kernel
theorem dX11_fair_86 : decode cX11_fair 86 = .ok (.iconst 0, 1) := by decide +kernel
theorem dX11_fair_87 : decode cX11_fair 87 = .ok (.istore_n 1, 1) := by decide +kernel
theorem dX11_fair_88 : decode cX11_fair 88 = .ok (.iload_n 1, 1) := by decide +kernel
theorem dX11_fair_89 : decode cX11_fair 89 = .ok (.bipush 24, 2) := by decide +kernel
theorem dX11_fair_91 : decode cX11_fair 91 = .ok (.if_icmp .ge 21, 3) := by decide +kernel
theorem dX11_fair_94 : decode cX11_fair 94 = .ok (.aload_n 0, 1) := by decide +kernel
theorem dX11_fair_95 : decode cX11_fair 95 = .ok (.getfield 19, 3) := by decide +kernel
theorem dX11_fair_98 : decode cX11_fair 98 = .ok (.iload_n 1, 1) := by decide +kernel
theorem dX11_fair_99 : decode cX11_fair 99 = .ok (.aload_n 0, 1) := by decide +kernel
theorem dX11_fair_100 : decode cX11_fair 100 = .ok (.getfield 31, 3) := by decide +kernel
theorem dX11_fair_103 : decode cX11_fair 103 = .ok (.iload_n 1, 1) := by decide +kernel
theorem dX11_fair_104 : decode cX11_fair 104 = .ok (.iaload, 1) := by decide +kernel
theorem dX11_fair_105 : decode cX11_fair 105 = .ok (.iastore, 1) := by decide +kernel
theorem dX11_fair_106 : decode cX11_fair 106 = .ok (.iinc 1 1, 3) := by decide +kernel
theorem dX11_fair_109 : decode cX11_fair 109 = .ok (.goto (-21), 3) := by decide +kernel
theorem dX11_fair_112 : decode cX11_fair 112 = .ok (.aload_n 0, 1) := by decide +kernel
theorem dX11_fair_113 : decode cX11_fair 113 = .ok (.iconst 0, 1) := by decide +kernel
theorem dX11_fair_114 : decode cX11_fair 114 = .ok (.putfield 118, 3) := by decide +kernel
theorem dX11_fair_117 : decode cX11_fair 117 = .ok (.aload_n 0, 1) := by decide +kernel
theorem dX11_fair_118 : decode cX11_fair 118 = .ok (.getfield 40, 3) := by decide +kernel
theorem dX11_fair_121 : decode cX11_fair 121 = .ok (.iconst 0, 1) := by decide +kernel
theorem dX11_fair_122 : decode cX11_fair 122 = .ok (.iconst 0, 1) := by decide +kernel
theorem dX11_fair_123 : decode cX11_fair 123 = .ok (.bastore, 1) := by decide +kernel
theorem dX11_fair_124 : decode cX11_fair 124 = .ok (.aload_n 0, 1) := by decide +kernel
theorem dX11_fair_125 : decode cX11_fair 125 = .ok (.getfield 40, 3) := by decide +kernel
theorem dX11_fair_128 : decode cX11_fair 128 = .ok (.iconst 1, 1) := by decide +kernel
theorem dX11_fair_129 : decode cX11_fair 129 = .ok (.iconst 0, 1) := by decide +kernel
theorem dX11_fair_130 : decode cX11_fair 130 = .ok (.bastore, 1) := by decide +kernel
theorem dX11_fair_131 : decode cX11_fair 131 = .ok (.aload_n 0, 1) := by decide +kernel
theorem dX11_fair_132 : decode cX11_fair 132 = .ok (.getfield 75, 3) := by decide +kernel
theorem dX11_fair_135 : decode cX11_fair 135 = .ok (.ireturn, 1) := by decide +kernel
theorem dX11_holding_0 : decode cX11_holding 0 = .ok (.iconst 0, 1) := by decide +kernel
theorem dX11_holding_1 : decode cX11_holding 1 = .ok (.istore_n 1, 1) := by decide +kernel
theorem dX11_holding_2 : decode cX11_holding 2 = .ok (.iconst 0, 1) := by decide +kernel
theorem dX11_holding_3 : decode cX11_holding 3 = .ok (.istore_n 2, 1) := by decide +kernel
theorem dX11_holding_4 : decode cX11_holding 4 = .ok (.iload_n 2, 1) := by decide +kernel
theorem dX11_holding_5 : decode cX11_holding 5 = .ok (.aload_n 0, 1) := by decide +kernel
theorem dX11_holding_6 : decode cX11_holding 6 = .ok (.getfield 75, 3) := by decide +kernel
theorem dX11_holding_9 : decode cX11_holding 9 = .ok (.if_icmp .ge 28, 3) := by decide +kernel
theorem dX11_holding_12 : decode cX11_holding 12 = .ok (.iload_n 1, 1) := by decide +kernel
theorem dX11_holding_13 : decode cX11_holding 13 = .ok (.aload_n 0, 1) := by decide +kernel
theorem dX11_holding_14 : decode cX11_holding 14 = .ok (.getfield 13, 3) := by decide +kernel
theorem dX11_holding_17 : decode cX11_holding 17 = .ok (.iload_n 2, 1) := by decide +kernel
theorem dX11_holding_18 : decode cX11_holding 18 = .ok (.iaload, 1) := by decide +kernel
theorem dX11_holding_19 : decode cX11_holding 19 = .ok (.bipush 6, 2) := by decide +kernel
theorem dX11_holding_21 : decode cX11_holding 21 = .ok (.if_icmp .ne 7, 3) := by decide +kernel
theorem dX11_holding_24 : decode cX11_holding 24 = .ok (.iconst 0, 1) := by decide +kernel
theorem dX11_holding_25 : decode cX11_holding 25 = .ok (.goto 4, 3) := by decide +kernel
theorem dX11_holding_28 : decode cX11_holding 28 = .ok (.iconst 1, 1) := by decide +kernel
theorem dX11_holding_29 : decode cX11_holding 29 = .ok (.iadd, 1) := by decide +kernel
theorem dX11_holding_30 : decode cX11_holding 30 = .ok (.istore_n 1, 1) := by decide +kernel
theorem dX11_holding_31 : decode cX11_holding 31 = .ok (.iinc 2 1, 3) := by decide +kernel
theorem dX11_holding_34 : decode cX11_holding 34 = .ok (.goto (-30), 3) := by decide +kernel
theorem dX11_holding_37 : decode cX11_holding 37 = .ok (.iload_n 1, 1) := by decide +kernel
theorem dX11_holding_38 : decode cX11_holding 38 = .ok (.ireturn, 1) := by decide +kernel
theorem dX11_isDead_0 : decode cX11_isDead 0 = .ok (.aload_n 0, 1) := by decide +kernel
theorem dX11_isDead_1 : decode cX11_isDead 1 = .ok (.getfield 13, 3) := by decide +kernel
theorem dX11_isDead_4 : decode cX11_isDead 4 = .ok (.iload_n 1, 1) := by decide +kernel
theorem dX11_isDead_5 : decode cX11_isDead 5 = .ok (.iaload, 1) := by decide +kernel
theorem dX11_isDead_6 : decode cX11_isDead 6 = .ok (.bipush 6, 2) := by decide +kernel
theorem dX11_isDead_8 : decode cX11_isDead 8 = .ok (.if_icmp .eq 7, 3) := by decide +kernel
theorem dX11_isDead_11 : decode cX11_isDead 11 = .ok (.iconst 1, 1) := by decide +kernel
theorem dX11_isDead_12 : decode cX11_isDead 12 = .ok (.goto 4, 3) := by decide +kernel
theorem dX11_isDead_15 : decode cX11_isDead 15 = .ok (.iconst 0, 1) := by decide +kernel
theorem dX11_isDead_16 : decode cX11_isDead 16 = .ok (.istore_n 2, 1) := by decide +kernel
theorem dX11_isDead_17 : decode cX11_isDead 17 = .ok (.iconst 0, 1) := by decide +kernel
theorem dX11_isDead_18 : decode cX11_isDead 18 = .ok (.istore_n 3, 1) := by decide +kernel
theorem dX11_isDead_19 : decode cX11_isDead 19 = .ok (.iload_n 3, 1) := by decide +kernel
theorem dX11_isDead_20 : decode cX11_isDead 20 = .ok (.aload_n 0, 1) := by decide +kernel
theorem dX11_isDead_21 : decode cX11_isDead 21 = .ok (.getfield 75, 3) := by decide +kernel
theorem dX11_isDead_24 : decode cX11_isDead 24 = .ok (.if_icmp .ge 42, 3) := by decide +kernel
theorem dX11_isDead_27 : decode cX11_isDead 27 = .ok (.iload_n 2, 1) := by decide +kernel
theorem dX11_isDead_28 : decode cX11_isDead 28 = .ok (.ifCond .eq 30, 3) := by decide +kernel
theorem dX11_isDead_31 : decode cX11_isDead 31 = .ok (.iload_n 3, 1) := by decide +kernel
theorem dX11_isDead_32 : decode cX11_isDead 32 = .ok (.iload_n 1, 1) := by decide +kernel
theorem dX11_isDead_33 : decode cX11_isDead 33 = .ok (.if_icmp .eq 21, 3) := by decide +kernel
theorem dX11_isDead_36 : decode cX11_isDead 36 = .ok (.aload_n 0, 1) := by decide +kernel
theorem dX11_isDead_37 : decode cX11_isDead 37 = .ok (.getfield 16, 3) := by decide +kernel
theorem dX11_isDead_40 : decode cX11_isDead 40 = .ok (.iload_n 3, 1) := by decide +kernel
theorem dX11_isDead_41 : decode cX11_isDead 41 = .ok (.iaload, 1) := by decide +kernel
theorem dX11_isDead_42 : decode cX11_isDead 42 = .ok (.aload_n 0, 1) := by decide +kernel
theorem dX11_isDead_43 : decode cX11_isDead 43 = .ok (.getfield 13, 3) := by decide +kernel
theorem dX11_isDead_46 : decode cX11_isDead 46 = .ok (.iload_n 1, 1) := by decide +kernel
theorem dX11_isDead_47 : decode cX11_isDead 47 = .ok (.iaload, 1) := by decide +kernel
theorem dX11_isDead_48 : decode cX11_isDead 48 = .ok (.invokestatic 107, 3) := by decide +kernel
theorem dX11_isDead_51 : decode cX11_isDead 51 = .ok (.ifCond .eq 7, 3) := by decide +kernel
theorem dX11_isDead_54 : decode cX11_isDead 54 = .ok (.iconst 1, 1) := by decide +kernel
theorem dX11_isDead_55 : decode cX11_isDead 55 = .ok (.goto 4, 3) := by decide +kernel
theorem dX11_isDead_58 : decode cX11_isDead 58 = .ok (.iconst 0, 1) := by decide +kernel
theorem dX11_isDead_59 : decode cX11_isDead 59 = .ok (.istore_n 2, 1) := by decide +kernel
theorem dX11_isDead_60 : decode cX11_isDead 60 = .ok (.iinc 3 1, 3) := by decide +kernel
theorem dX11_isDead_63 : decode cX11_isDead 63 = .ok (.goto (-44), 3) := by decide +kernel
theorem dX11_isDead_66 : decode cX11_isDead 66 = .ok (.iload_n 2, 1) := by decide +kernel
theorem dX11_isDead_67 : decode cX11_isDead 67 = .ok (.ireturn, 1) := by decide +kernel
theorem dX11_worthOf_0 : decode cX11_worthOf 0 = .ok (.iload_n 2, 1) := by decide +kernel
theorem dX11_worthOf_1 : decode cX11_worthOf 1 = .ok (.bipush 6, 2) := by decide +kernel
theorem dX11_worthOf_3 : decode cX11_worthOf 3 = .ok (.if_icmp .ne 7, 3) := by decide +kernel
theorem dX11_worthOf_6 : decode cX11_worthOf 6 = .ok (.iconst 0, 1) := by decide +kernel
theorem dX11_worthOf_7 : decode cX11_worthOf 7 = .ok (.goto 14, 3) := by decide +kernel
theorem dX11_worthOf_10 : decode cX11_worthOf 10 = .ok (.aload_n 0, 1) := by decide +kernel
theorem dX11_worthOf_11 : decode cX11_worthOf 11 = .ok (.getfield 19, 3) := by decide +kernel
theorem dX11_worthOf_14 : decode cX11_worthOf 14 = .ok (.bipush 6, 2) := by decide +kernel
theorem dX11_worthOf_16 : decode cX11_worthOf 16 = .ok (.iload_n 1, 1) := by decide +kernel
theorem dX11_worthOf_17 : decode cX11_worthOf 17 = .ok (.imul, 1) := by decide +kernel
theorem dX11_worthOf_18 : decode cX11_worthOf 18 = .ok (.iload_n 2, 1) := by decide +kernel
theorem dX11_worthOf_19 : decode cX11_worthOf 19 = .ok (.iadd, 1) := by decide +kernel
theorem dX11_worthOf_20 : decode cX11_worthOf 20 = .ok (.iaload, 1) := by decide +kernel
theorem dX11_worthOf_21 : decode cX11_worthOf 21 = .ok (.ireturn, 1) := by decide +kernel
theorem dX11_about_0 : decode cX11_about 0 = .ok (.aload_n 0, 1) := by decide +kernel
theorem dX11_about_1 : decode cX11_about 1 = .ok (.iconst 0, 1) := by decide +kernel
theorem dX11_about_2 : decode cX11_about 2 = .ok (.putfield 71, 3) := by decide +kernel
theorem dX11_about_5 : decode cX11_about 5 = .ok (.iconst 0, 1) := by decide +kernel
theorem dX11_about_6 : decode cX11_about 6 = .ok (.istore_n 2, 1) := by decide +kernel
theorem dX11_about_7 : decode cX11_about 7 = .ok (.iconst 0, 1) := by decide +kernel
theorem dX11_about_8 : decode cX11_about 8 = .ok (.istore_n 3, 1) := by decide +kernel
theorem dX11_about_9 : decode cX11_about 9 = .ok (.iconst 0, 1) := by decide +kernel
theorem dX11_about_10 : decode cX11_about 10 = .ok (.istore 4, 2) := by decide +kernel
theorem dX11_about_12 : decode cX11_about 12 = .ok (.iconst 0, 1) := by decide +kernel
theorem dX11_about_13 : decode cX11_about 13 = .ok (.istore 5, 2) := by decide +kernel
theorem dX11_about_15 : decode cX11_about 15 = .ok (.iload 5, 2) := by decide +kernel
theorem dX11_about_17 : decode cX11_about 17 = .ok (.aload_n 0, 1) := by decide +kernel
theorem dX11_about_18 : decode cX11_about 18 = .ok (.getfield 75, 3) := by decide +kernel
theorem dX11_about_21 : decode cX11_about 21 = .ok (.if_icmp .ge 64, 3) := by decide +kernel
theorem dX11_about_24 : decode cX11_about 24 = .ok (.iload_n 2, 1) := by decide +kernel
theorem dX11_about_25 : decode cX11_about 25 = .ok (.aload_n 0, 1) := by decide +kernel
theorem dX11_about_26 : decode cX11_about 26 = .ok (.iload 5, 2) := by decide +kernel
theorem dX11_about_28 : decode cX11_about 28 = .ok (.invokevirtual 121, 3) := by decide +kernel
theorem dX11_about_31 : decode cX11_about 31 = .ok (.ifCond .eq 7, 3) := by decide +kernel
theorem dX11_about_34 : decode cX11_about 34 = .ok (.iconst 1, 1) := by decide +kernel
theorem dX11_about_35 : decode cX11_about 35 = .ok (.goto 4, 3) := by decide +kernel
theorem dX11_about_38 : decode cX11_about 38 = .ok (.iconst 0, 1) := by decide +kernel
theorem dX11_about_39 : decode cX11_about 39 = .ok (.iadd, 1) := by decide +kernel
theorem dX11_about_40 : decode cX11_about 40 = .ok (.istore_n 2, 1) := by decide +kernel
theorem dX11_about_41 : decode cX11_about 41 = .ok (.iload_n 3, 1) := by decide +kernel
theorem dX11_about_42 : decode cX11_about 42 = .ok (.aload_n 0, 1) := by decide +kernel
theorem dX11_about_43 : decode cX11_about 43 = .ok (.getfield 22, 3) := by decide +kernel
theorem dX11_about_46 : decode cX11_about 46 = .ok (.iload 5, 2) := by decide +kernel
theorem dX11_about_48 : decode cX11_about 48 = .ok (.iaload, 1) := by decide +kernel
theorem dX11_about_49 : decode cX11_about 49 = .ok (.bipush (-9), 2) := by decide +kernel
theorem dX11_about_51 : decode cX11_about 51 = .ok (.if_icmp .ne 7, 3) := by decide +kernel
theorem dX11_about_54 : decode cX11_about 54 = .ok (.iconst 0, 1) := by decide +kernel
theorem dX11_about_55 : decode cX11_about 55 = .ok (.goto 4, 3) := by decide +kernel
theorem dX11_about_58 : decode cX11_about 58 = .ok (.iconst 1, 1) := by decide +kernel
theorem dX11_about_59 : decode cX11_about 59 = .ok (.iadd, 1) := by decide +kernel
theorem dX11_about_60 : decode cX11_about 60 = .ok (.istore_n 3, 1) := by decide +kernel
theorem dX11_about_61 : decode cX11_about 61 = .ok (.iload 4, 2) := by decide +kernel
theorem dX11_about_63 : decode cX11_about 63 = .ok (.aload_n 0, 1) := by decide +kernel
theorem dX11_about_64 : decode cX11_about 64 = .ok (.iload 5, 2) := by decide +kernel
theorem dX11_about_66 : decode cX11_about 66 = .ok (.aload_n 0, 1) := by decide +kernel
theorem dX11_about_67 : decode cX11_about 67 = .ok (.getfield 13, 3) := by decide +kernel
theorem dX11_about_70 : decode cX11_about 70 = .ok (.iload 5, 2) := by decide +kernel
theorem dX11_about_72 : decode cX11_about 72 = .ok (.iaload, 1) := by decide +kernel
theorem dX11_about_73 : decode cX11_about 73 = .ok (.invokevirtual 125, 3) := by decide +kernel
theorem dX11_about_76 : decode cX11_about 76 = .ok (.iadd, 1) := by decide +kernel
theorem dX11_about_77 : decode cX11_about 77 = .ok (.istore 4, 2) := by decide +kernel
theorem dX11_about_79 : decode cX11_about 79 = .ok (.iinc 5 1, 3) := by decide +kernel
theorem dX11_about_82 : decode cX11_about 82 = .ok (.goto (-67), 3) := by decide +kernel
theorem dX11_about_85 : decode cX11_about 85 = .ok (.iload_n 1, 1) := by decide +kernel
theorem dX11_about_86 : decode cX11_about 86 = .ok (.tableswitch 78 0 7 #[46, 51, 56, 58, 63, 65, 70, 73], 46) := by decide +kernel
theorem dX11_about_132 : decode cX11_about 132 = .ok (.aload_n 0, 1) := by decide +kernel
theorem dX11_about_133 : decode cX11_about 133 = .ok (.getfield 75, 3) := by decide +kernel
theorem dX11_about_136 : decode cX11_about 136 = .ok (.ireturn, 1) := by decide +kernel
theorem dX11_about_137 : decode cX11_about 137 = .ok (.aload_n 0, 1) := by decide +kernel
theorem dX11_about_138 : decode cX11_about 138 = .ok (.invokevirtual 129, 3) := by decide +kernel
theorem dX11_about_141 : decode cX11_about 141 = .ok (.ireturn, 1) := by decide +kernel
theorem dX11_about_142 : decode cX11_about 142 = .ok (.iload_n 2, 1) := by decide +kernel
theorem dX11_about_143 : decode cX11_about 143 = .ok (.ireturn, 1) := by decide +kernel
theorem dX11_about_144 : decode cX11_about 144 = .ok (.aload_n 0, 1) := by decide +kernel
theorem dX11_about_145 : decode cX11_about 145 = .ok (.getfield 118, 3) := by decide +kernel
theorem dX11_about_148 : decode cX11_about 148 = .ok (.ireturn, 1) := by decide +kernel
theorem dX11_about_149 : decode cX11_about 149 = .ok (.iload_n 3, 1) := by decide +kernel
theorem dX11_about_150 : decode cX11_about 150 = .ok (.ireturn, 1) := by decide +kernel
theorem dX11_about_151 : decode cX11_about 151 = .ok (.aload_n 0, 1) := by decide +kernel
theorem dX11_about_152 : decode cX11_about 152 = .ok (.getfield 132, 3) := by decide +kernel
theorem dX11_about_155 : decode cX11_about 155 = .ok (.ireturn, 1) := by decide +kernel
theorem dX11_about_156 : decode cX11_about 156 = .ok (.iload 4, 2) := by decide +kernel
theorem dX11_about_158 : decode cX11_about 158 = .ok (.ireturn, 1) := by decide +kernel
theorem dX11_about_159 : decode cX11_about 159 = .ok (.aload_n 0, 1) := by decide +kernel
theorem dX11_about_160 : decode cX11_about 160 = .ok (.getfield 86, 3) := by decide +kernel
theorem dX11_about_163 : decode cX11_about 163 = .ok (.ireturn, 1) := by decide +kernel
theorem dX11_about_164 : decode cX11_about 164 = .ok (.bipush (-2), 2) := by decide +kernel
theorem dX11_about_166 : decode cX11_about 166 = .ok (.ireturn, 1) := by decide +kernel
theorem dX11_holds_0 : decode cX11_holds 0 = .ok (.aload_n 0, 1) := by decide +kernel
theorem dX11_holds_1 : decode cX11_holds 1 = .ok (.iconst 0, 1) := by decide +kernel
theorem dX11_holds_2 : decode cX11_holds 2 = .ok (.putfield 71, 3) := by decide +kernel
theorem dX11_holds_5 : decode cX11_holds 5 = .ok (.aload_n 0, 1) := by decide +kernel
theorem dX11_holds_6 : decode cX11_holds 6 = .ok (.iload_n 1, 1) := by decide +kernel
theorem dX11_holds_7 : decode cX11_holds 7 = .ok (.invokevirtual 135, 3) := by decide +kernel
theorem dX11_holds_10 : decode cX11_holds 10 = .ok (.ifCond .eq 5, 3) := by decide +kernel
theorem dX11_holds_13 : decode cX11_holds 13 = .ok (.iconst (-1), 1) := by decide +kernel
theorem dX11_holds_14 : decode cX11_holds 14 = .ok (.ireturn, 1) := by decide +kernel
theorem dX11_holds_15 : decode cX11_holds 15 = .ok (.aload_n 0, 1) := by decide +kernel
theorem dX11_holds_16 : decode cX11_holds 16 = .ok (.getfield 13, 3) := by decide +kernel
theorem dX11_holds_19 : decode cX11_holds 19 = .ok (.iload_n 1, 1) := by decide +kernel
theorem dX11_holds_20 : decode cX11_holds 20 = .ok (.iaload, 1) := by decide +kernel
theorem dX11_holds_21 : decode cX11_holds 21 = .ok (.bipush 6, 2) := by decide +kernel
theorem dX11_holds_23 : decode cX11_holds 23 = .ok (.if_icmp .ne 8, 3) := by decide +kernel
theorem dX11_holds_26 : decode cX11_holds 26 = .ok (.bipush (-9), 2) := by decide +kernel
theorem dX11_holds_28 : decode cX11_holds 28 = .ok (.goto 9, 3) := by decide +kernel
theorem dX11_holds_31 : decode cX11_holds 31 = .ok (.aload_n 0, 1) := by decide +kernel
theorem dX11_holds_32 : decode cX11_holds 32 = .ok (.getfield 13, 3) := by decide +kernel
theorem dX11_holds_35 : decode cX11_holds 35 = .ok (.iload_n 1, 1) := by decide +kernel
theorem dX11_holds_36 : decode cX11_holds 36 = .ok (.iaload, 1) := by decide +kernel
theorem dX11_holds_37 : decode cX11_holds 37 = .ok (.ireturn, 1) := by decide +kernel
theorem dX11_had_0 : decode cX11_had 0 = .ok (.aload_n 0, 1) := by decide +kernel
theorem dX11_had_1 : decode cX11_had 1 = .ok (.iconst 0, 1) := by decide +kernel
theorem dX11_had_2 : decode cX11_had 2 = .ok (.putfield 71, 3) := by decide +kernel
theorem dX11_had_5 : decode cX11_had 5 = .ok (.aload_n 0, 1) := by decide +kernel
theorem dX11_had_6 : decode cX11_had 6 = .ok (.iload_n 1, 1) := by decide +kernel
theorem dX11_had_7 : decode cX11_had 7 = .ok (.invokevirtual 135, 3) := by decide +kernel
theorem dX11_had_10 : decode cX11_had 10 = .ok (.ifCond .eq 7, 3) := by decide +kernel
theorem dX11_had_13 : decode cX11_had 13 = .ok (.iconst (-1), 1) := by decide +kernel
theorem dX11_had_14 : decode cX11_had 14 = .ok (.goto 9, 3) := by decide +kernel
theorem dX11_had_17 : decode cX11_had 17 = .ok (.aload_n 0, 1) := by decide +kernel
theorem dX11_had_18 : decode cX11_had 18 = .ok (.getfield 16, 3) := by decide +kernel
theorem dX11_had_21 : decode cX11_had 21 = .ok (.iload_n 1, 1) := by decide +kernel
theorem dX11_had_22 : decode cX11_had 22 = .ok (.iaload, 1) := by decide +kernel
theorem dX11_had_23 : decode cX11_had 23 = .ok (.ireturn, 1) := by decide +kernel
theorem dX11_worth_0 : decode cX11_worth 0 = .ok (.aload_n 0, 1) := by decide +kernel
theorem dX11_worth_1 : decode cX11_worth 1 = .ok (.iconst 0, 1) := by decide +kernel
theorem dX11_worth_2 : decode cX11_worth 2 = .ok (.putfield 71, 3) := by decide +kernel
theorem dX11_worth_5 : decode cX11_worth 5 = .ok (.aload_n 0, 1) := by decide +kernel
theorem dX11_worth_6 : decode cX11_worth 6 = .ok (.iload_n 1, 1) := by decide +kernel
theorem dX11_worth_7 : decode cX11_worth 7 = .ok (.invokevirtual 135, 3) := by decide +kernel
theorem dX11_worth_10 : decode cX11_worth 10 = .ok (.ifCond .ne 10, 3) := by decide +kernel
theorem dX11_worth_13 : decode cX11_worth 13 = .ok (.iload_n 2, 1) := by decide +kernel
theorem dX11_worth_14 : decode cX11_worth 14 = .ok (.invokestatic 138, 3) := by decide +kernel
theorem dX11_worth_17 : decode cX11_worth 17 = .ok (.ifCond .eq 7, 3) := by decide +kernel
theorem dX11_worth_20 : decode cX11_worth 20 = .ok (.iconst (-1), 1) := by decide +kernel
theorem dX11_worth_21 : decode cX11_worth 21 = .ok (.goto 14, 3) := by decide +kernel
theorem dX11_worth_24 : decode cX11_worth 24 = .ok (.aload_n 0, 1) := by decide +kernel
theorem dX11_worth_25 : decode cX11_worth 25 = .ok (.getfield 19, 3) := by decide +kernel
theorem dX11_worth_28 : decode cX11_worth 28 = .ok (.bipush 6, 2) := by decide +kernel
theorem dX11_worth_30 : decode cX11_worth 30 = .ok (.iload_n 1, 1) := by decide +kernel
theorem dX11_worth_31 : decode cX11_worth 31 = .ok (.imul, 1) := by decide +kernel
theorem dX11_worth_32 : decode cX11_worth 32 = .ok (.iload_n 2, 1) := by decide +kernel
theorem dX11_worth_33 : decode cX11_worth 33 = .ok (.iadd, 1) := by decide +kernel
theorem dX11_worth_34 : decode cX11_worth 34 = .ok (.iaload, 1) := by decide +kernel
theorem dX11_worth_35 : decode cX11_worth 35 = .ok (.ireturn, 1) := by decide +kernel
theorem dX11_value_0 : decode cX11_value 0 = .ok (.aload_n 0, 1) := by decide +kernel
theorem dX11_value_1 : decode cX11_value 1 = .ok (.iconst 0, 1) := by decide +kernel
theorem dX11_value_2 : decode cX11_value 2 = .ok (.putfield 71, 3) := by decide +kernel
theorem dX11_value_5 : decode cX11_value 5 = .ok (.aload_n 0, 1) := by decide +kernel
theorem dX11_value_6 : decode cX11_value 6 = .ok (.iload_n 1, 1) := by decide +kernel
theorem dX11_value_7 : decode cX11_value 7 = .ok (.invokevirtual 135, 3) := by decide +kernel
theorem dX11_value_10 : decode cX11_value 10 = .ok (.ifCond .ne 10, 3) := by decide +kernel
theorem dX11_value_13 : decode cX11_value 13 = .ok (.iload_n 2, 1) := by decide +kernel
theorem dX11_value_14 : decode cX11_value 14 = .ok (.invokestatic 138, 3) := by decide +kernel
theorem dX11_value_17 : decode cX11_value 17 = .ok (.ifCond .eq 5, 3) := by decide +kernel
theorem dX11_value_20 : decode cX11_value 20 = .ok (.iconst (-1), 1) := by decide +kernel
theorem dX11_value_21 : decode cX11_value 21 = .ok (.ireturn, 1) := by decide +kernel
theorem dX11_value_22 : decode cX11_value 22 = .ok (.iload_n 3, 1) := by decide +kernel
theorem dX11_value_23 : decode cX11_value 23 = .ok (.i2l, 1) := by decide +kernel
theorem dX11_value_24 : decode cX11_value 24 = .ok (.lconst 0, 1) := by decide +kernel
theorem dX11_value_25 : decode cX11_value 25 = .ok (.ldc2_w 141, 3) := by decide +kernel
theorem dX11_value_28 : decode cX11_value 28 = .ok (.invokestatic 78, 3) := by decide +kernel
theorem dX11_value_31 : decode cX11_value 31 = .ok (.ifCond .ne 6, 3) := by decide +kernel
theorem dX11_value_34 : decode cX11_value 34 = .ok (.bipush (-2), 2) := by decide +kernel
theorem dX11_value_36 : decode cX11_value 36 = .ok (.ireturn, 1) := by decide +kernel
theorem dX11_value_37 : decode cX11_value 37 = .ok (.aload_n 0, 1) := by decide +kernel
theorem dX11_value_38 : decode cX11_value 38 = .ok (.getfield 19, 3) := by decide +kernel
theorem dX11_value_41 : decode cX11_value 41 = .ok (.bipush 6, 2) := by decide +kernel
theorem dX11_value_43 : decode cX11_value 43 = .ok (.iload_n 1, 1) := by decide +kernel
theorem dX11_value_44 : decode cX11_value 44 = .ok (.imul, 1) := by decide +kernel
theorem dX11_value_45 : decode cX11_value 45 = .ok (.iload_n 2, 1) := by decide +kernel
theorem dX11_value_46 : decode cX11_value 46 = .ok (.iadd, 1) := by decide +kernel
theorem dX11_value_47 : decode cX11_value 47 = .ok (.iaload, 1) := by decide +kernel
theorem dX11_value_48 : decode cX11_value 48 = .ok (.istore 4, 2) := by decide +kernel
theorem dX11_value_50 : decode cX11_value 50 = .ok (.aload_n 0, 1) := by decide +kernel
theorem dX11_value_51 : decode cX11_value 51 = .ok (.getfield 19, 3) := by decide +kernel
theorem dX11_value_54 : decode cX11_value 54 = .ok (.bipush 6, 2) := by decide +kernel
theorem dX11_value_56 : decode cX11_value 56 = .ok (.iload_n 1, 1) := by decide +kernel
theorem dX11_value_57 : decode cX11_value 57 = .ok (.imul, 1) := by decide +kernel
theorem dX11_value_58 : decode cX11_value 58 = .ok (.iload_n 2, 1) := by decide +kernel
theorem dX11_value_59 : decode cX11_value 59 = .ok (.iadd, 1) := by decide +kernel
theorem dX11_value_60 : decode cX11_value 60 = .ok (.iload_n 3, 1) := by decide +kernel
theorem dX11_value_61 : decode cX11_value 61 = .ok (.iastore, 1) := by decide +kernel
theorem dX11_value_62 : decode cX11_value 62 = .ok (.iload 4, 2) := by decide +kernel
theorem dX11_value_64 : decode cX11_value 64 = .ok (.ireturn, 1) := by decide +kernel
theorem dX11_mayAt_0 : decode cX11_mayAt 0 = .ok (.aload_n 0, 1) := by decide +kernel
theorem dX11_mayAt_1 : decode cX11_mayAt 1 = .ok (.getfield 13, 3) := by decide +kernel
theorem dX11_mayAt_4 : decode cX11_mayAt 4 = .ok (.iconst 4, 1) := by decide +kernel
theorem dX11_mayAt_5 : decode cX11_mayAt 5 = .ok (.iload_n 1, 1) := by decide +kernel
theorem dX11_mayAt_6 : decode cX11_mayAt 6 = .ok (.imul, 1) := by decide +kernel
theorem dX11_mayAt_7 : decode cX11_mayAt 7 = .ok (.iload_n 2, 1) := by decide +kernel
theorem dX11_mayAt_8 : decode cX11_mayAt 8 = .ok (.iadd, 1) := by decide +kernel
theorem dX11_mayAt_9 : decode cX11_mayAt 9 = .ok (.iaload, 1) := by decide +kernel
theorem dX11_mayAt_10 : decode cX11_mayAt 10 = .ok (.istore 4, 2) := by decide +kernel
theorem dX11_mayAt_12 : decode cX11_mayAt 12 = .ok (.aload_n 0, 1) := by decide +kernel
theorem dX11_mayAt_13 : decode cX11_mayAt 13 = .ok (.getfield 13, 3) := by decide +kernel
theorem dX11_mayAt_16 : decode cX11_mayAt 16 = .ok (.iconst 4, 1) := by decide +kernel
theorem dX11_mayAt_17 : decode cX11_mayAt 17 = .ok (.iload_n 1, 1) := by decide +kernel
theorem dX11_mayAt_18 : decode cX11_mayAt 18 = .ok (.imul, 1) := by decide +kernel
theorem dX11_mayAt_19 : decode cX11_mayAt 19 = .ok (.iload_n 3, 1) := by decide +kernel
theorem dX11_mayAt_20 : decode cX11_mayAt 20 = .ok (.iadd, 1) := by decide +kernel
theorem dX11_mayAt_21 : decode cX11_mayAt 21 = .ok (.iaload, 1) := by decide +kernel
theorem dX11_mayAt_22 : decode cX11_mayAt 22 = .ok (.istore 5, 2) := by decide +kernel
theorem dX11_mayAt_24 : decode cX11_mayAt 24 = .ok (.iload_n 2, 1) := by decide +kernel
theorem dX11_mayAt_25 : decode cX11_mayAt 25 = .ok (.iload_n 3, 1) := by decide +kernel
theorem dX11_mayAt_26 : decode cX11_mayAt 26 = .ok (.if_icmp .eq 57, 3) := by decide +kernel
theorem dX11_mayAt_29 : decode cX11_mayAt 29 = .ok (.iload 4, 2) := by decide +kernel
theorem dX11_mayAt_31 : decode cX11_mayAt 31 = .ok (.bipush 6, 2) := by decide +kernel
theorem dX11_mayAt_33 : decode cX11_mayAt 33 = .ok (.if_icmp .eq 50, 3) := by decide +kernel
theorem dX11_mayAt_36 : decode cX11_mayAt 36 = .ok (.iload 5, 2) := by decide +kernel
theorem dX11_mayAt_38 : decode cX11_mayAt 38 = .ok (.bipush 6, 2) := by decide +kernel
theorem dX11_mayAt_40 : decode cX11_mayAt 40 = .ok (.if_icmp .eq 43, 3) := by decide +kernel
theorem dX11_mayAt_43 : decode cX11_mayAt 43 = .ok (.aload_n 0, 1) := by decide +kernel
theorem dX11_mayAt_44 : decode cX11_mayAt 44 = .ok (.getfield 16, 3) := by decide +kernel
theorem dX11_mayAt_47 : decode cX11_mayAt 47 = .ok (.iconst 4, 1) := by decide +kernel
theorem dX11_mayAt_48 : decode cX11_mayAt 48 = .ok (.iload_n 1, 1) := by decide +kernel
theorem dX11_mayAt_49 : decode cX11_mayAt 49 = .ok (.imul, 1) := by decide +kernel
theorem dX11_mayAt_50 : decode cX11_mayAt 50 = .ok (.iload_n 2, 1) := by decide +kernel
theorem dX11_mayAt_51 : decode cX11_mayAt 51 = .ok (.iadd, 1) := by decide +kernel
theorem dX11_mayAt_52 : decode cX11_mayAt 52 = .ok (.iaload, 1) := by decide +kernel
theorem dX11_mayAt_53 : decode cX11_mayAt 53 = .ok (.iload 5, 2) := by decide +kernel
theorem dX11_mayAt_55 : decode cX11_mayAt 55 = .ok (.invokestatic 107, 3) := by decide +kernel
theorem dX11_mayAt_58 : decode cX11_mayAt 58 = .ok (.ifCond .ne 25, 3) := by decide +kernel
theorem dX11_mayAt_61 : decode cX11_mayAt 61 = .ok (.aload_n 0, 1) := by decide +kernel
theorem dX11_mayAt_62 : decode cX11_mayAt 62 = .ok (.getfield 16, 3) := by decide +kernel
theorem dX11_mayAt_65 : decode cX11_mayAt 65 = .ok (.iconst 4, 1) := by decide +kernel
theorem dX11_mayAt_66 : decode cX11_mayAt 66 = .ok (.iload_n 1, 1) := by decide +kernel
theorem dX11_mayAt_67 : decode cX11_mayAt 67 = .ok (.imul, 1) := by decide +kernel
theorem dX11_mayAt_68 : decode cX11_mayAt 68 = .ok (.iload_n 3, 1) := by decide +kernel
theorem dX11_mayAt_69 : decode cX11_mayAt 69 = .ok (.iadd, 1) := by decide +kernel
theorem dX11_mayAt_70 : decode cX11_mayAt 70 = .ok (.iaload, 1) := by decide +kernel
theorem dX11_mayAt_71 : decode cX11_mayAt 71 = .ok (.iload 4, 2) := by decide +kernel
theorem dX11_mayAt_73 : decode cX11_mayAt 73 = .ok (.invokestatic 107, 3) := by decide +kernel
theorem dX11_mayAt_76 : decode cX11_mayAt 76 = .ok (.ifCond .ne 7, 3) := by decide +kernel
theorem dX11_mayAt_79 : decode cX11_mayAt 79 = .ok (.iconst 1, 1) := by decide +kernel
theorem dX11_mayAt_80 : decode cX11_mayAt 80 = .ok (.goto 4, 3) := by decide +kernel
theorem dX11_mayAt_83 : decode cX11_mayAt 83 = .ok (.iconst 0, 1) := by decide +kernel
theorem dX11_mayAt_84 : decode cX11_mayAt 84 = .ok (.ireturn, 1) := by decide +kernel
theorem dX11_layAt_0 : decode cX11_layAt 0 = .ok (.iconst 0, 1) := by decide +kernel
theorem dX11_layAt_1 : decode cX11_layAt 1 = .ok (.istore_n 3, 1) := by decide +kernel
theorem dX11_layAt_2 : decode cX11_layAt 2 = .ok (.iload_n 3, 1) := by decide +kernel
theorem dX11_layAt_3 : decode cX11_layAt 3 = .ok (.aload_n 0, 1) := by decide +kernel
theorem dX11_layAt_4 : decode cX11_layAt 4 = .ok (.getfield 75, 3) := by decide +kernel
theorem dX11_layAt_7 : decode cX11_layAt 7 = .ok (.if_icmp .ge 49, 3) := by decide +kernel
theorem dX11_layAt_10 : decode cX11_layAt 10 = .ok (.aload_n 0, 1) := by decide +kernel
theorem dX11_layAt_11 : decode cX11_layAt 11 = .ok (.getfield 13, 3) := by decide +kernel
theorem dX11_layAt_14 : decode cX11_layAt 14 = .ok (.iconst 4, 1) := by decide +kernel
theorem dX11_layAt_15 : decode cX11_layAt 15 = .ok (.iload_n 2, 1) := by decide +kernel
theorem dX11_layAt_16 : decode cX11_layAt 16 = .ok (.imul, 1) := by decide +kernel
theorem dX11_layAt_17 : decode cX11_layAt 17 = .ok (.iload_n 3, 1) := by decide +kernel
theorem dX11_layAt_18 : decode cX11_layAt 18 = .ok (.iadd, 1) := by decide +kernel
theorem dX11_layAt_19 : decode cX11_layAt 19 = .ok (.aload_n 0, 1) := by decide +kernel
theorem dX11_layAt_20 : decode cX11_layAt 20 = .ok (.getfield 13, 3) := by decide +kernel
theorem dX11_layAt_23 : decode cX11_layAt 23 = .ok (.iconst 4, 1) := by decide +kernel
theorem dX11_layAt_24 : decode cX11_layAt 24 = .ok (.iload_n 1, 1) := by decide +kernel
theorem dX11_layAt_25 : decode cX11_layAt 25 = .ok (.imul, 1) := by decide +kernel
theorem dX11_layAt_26 : decode cX11_layAt 26 = .ok (.iload_n 3, 1) := by decide +kernel
theorem dX11_layAt_27 : decode cX11_layAt 27 = .ok (.iadd, 1) := by decide +kernel
theorem dX11_layAt_28 : decode cX11_layAt 28 = .ok (.iaload, 1) := by decide +kernel
theorem dX11_layAt_29 : decode cX11_layAt 29 = .ok (.iastore, 1) := by decide +kernel
theorem dX11_layAt_30 : decode cX11_layAt 30 = .ok (.aload_n 0, 1) := by decide +kernel
theorem dX11_layAt_31 : decode cX11_layAt 31 = .ok (.getfield 16, 3) := by decide +kernel
theorem dX11_layAt_34 : decode cX11_layAt 34 = .ok (.iconst 4, 1) := by decide +kernel
theorem dX11_layAt_35 : decode cX11_layAt 35 = .ok (.iload_n 2, 1) := by decide +kernel
theorem dX11_layAt_36 : decode cX11_layAt 36 = .ok (.imul, 1) := by decide +kernel
theorem dX11_layAt_37 : decode cX11_layAt 37 = .ok (.iload_n 3, 1) := by decide +kernel
theorem dX11_layAt_38 : decode cX11_layAt 38 = .ok (.iadd, 1) := by decide +kernel
theorem dX11_layAt_39 : decode cX11_layAt 39 = .ok (.aload_n 0, 1) := by decide +kernel
theorem dX11_layAt_40 : decode cX11_layAt 40 = .ok (.getfield 16, 3) := by decide +kernel
theorem dX11_layAt_43 : decode cX11_layAt 43 = .ok (.iconst 4, 1) := by decide +kernel
theorem dX11_layAt_44 : decode cX11_layAt 44 = .ok (.iload_n 1, 1) := by decide +kernel
theorem dX11_layAt_45 : decode cX11_layAt 45 = .ok (.imul, 1) := by decide +kernel
theorem dX11_layAt_46 : decode cX11_layAt 46 = .ok (.iload_n 3, 1) := by decide +kernel
theorem dX11_layAt_47 : decode cX11_layAt 47 = .ok (.iadd, 1) := by decide +kernel
theorem dX11_layAt_48 : decode cX11_layAt 48 = .ok (.iaload, 1) := by decide +kernel
theorem dX11_layAt_49 : decode cX11_layAt 49 = .ok (.iastore, 1) := by decide +kernel
theorem dX11_layAt_50 : decode cX11_layAt 50 = .ok (.iinc 3 1, 3) := by decide +kernel
theorem dX11_layAt_53 : decode cX11_layAt 53 = .ok (.goto (-51), 3) := by decide +kernel
theorem dX11_layAt_56 : decode cX11_layAt 56 = .ok (.return_, 1) := by decide +kernel
theorem dX11_goAt_0 : decode cX11_goAt 0 = .ok (.aload_n 0, 1) := by decide +kernel
theorem dX11_goAt_1 : decode cX11_goAt 1 = .ok (.getfield 13, 3) := by decide +kernel
theorem dX11_goAt_4 : decode cX11_goAt 4 = .ok (.iconst 4, 1) := by decide +kernel
theorem dX11_goAt_5 : decode cX11_goAt 5 = .ok (.iload_n 1, 1) := by decide +kernel
theorem dX11_goAt_6 : decode cX11_goAt 6 = .ok (.imul, 1) := by decide +kernel
theorem dX11_goAt_7 : decode cX11_goAt 7 = .ok (.iload_n 2, 1) := by decide +kernel
theorem dX11_goAt_8 : decode cX11_goAt 8 = .ok (.iadd, 1) := by decide +kernel
theorem dX11_goAt_9 : decode cX11_goAt 9 = .ok (.iaload, 1) := by decide +kernel
theorem dX11_goAt_10 : decode cX11_goAt 10 = .ok (.istore 4, 2) := by decide +kernel
theorem dX11_goAt_12 : decode cX11_goAt 12 = .ok (.aload_n 0, 1) := by decide +kernel
theorem dX11_goAt_13 : decode cX11_goAt 13 = .ok (.getfield 13, 3) := by decide +kernel
theorem dX11_goAt_16 : decode cX11_goAt 16 = .ok (.iconst 4, 1) := by decide +kernel
theorem dX11_goAt_17 : decode cX11_goAt 17 = .ok (.iload_n 1, 1) := by decide +kernel
theorem dX11_goAt_18 : decode cX11_goAt 18 = .ok (.imul, 1) := by decide +kernel
theorem dX11_goAt_19 : decode cX11_goAt 19 = .ok (.iload_n 2, 1) := by decide +kernel
theorem dX11_goAt_20 : decode cX11_goAt 20 = .ok (.iadd, 1) := by decide +kernel
theorem dX11_goAt_21 : decode cX11_goAt 21 = .ok (.aload_n 0, 1) := by decide +kernel
theorem dX11_goAt_22 : decode cX11_goAt 22 = .ok (.getfield 13, 3) := by decide +kernel
theorem dX11_goAt_25 : decode cX11_goAt 25 = .ok (.iconst 4, 1) := by decide +kernel
theorem dX11_goAt_26 : decode cX11_goAt 26 = .ok (.iload_n 1, 1) := by decide +kernel
theorem dX11_goAt_27 : decode cX11_goAt 27 = .ok (.imul, 1) := by decide +kernel
theorem dX11_goAt_28 : decode cX11_goAt 28 = .ok (.iload_n 3, 1) := by decide +kernel
theorem dX11_goAt_29 : decode cX11_goAt 29 = .ok (.iadd, 1) := by decide +kernel
theorem dX11_goAt_30 : decode cX11_goAt 30 = .ok (.iaload, 1) := by decide +kernel
theorem dX11_goAt_31 : decode cX11_goAt 31 = .ok (.iastore, 1) := by decide +kernel
theorem dX11_goAt_32 : decode cX11_goAt 32 = .ok (.aload_n 0, 1) := by decide +kernel
theorem dX11_goAt_33 : decode cX11_goAt 33 = .ok (.getfield 13, 3) := by decide +kernel
theorem dX11_goAt_36 : decode cX11_goAt 36 = .ok (.iconst 4, 1) := by decide +kernel
theorem dX11_goAt_37 : decode cX11_goAt 37 = .ok (.iload_n 1, 1) := by decide +kernel
theorem dX11_goAt_38 : decode cX11_goAt 38 = .ok (.imul, 1) := by decide +kernel
theorem dX11_goAt_39 : decode cX11_goAt 39 = .ok (.iload_n 3, 1) := by decide +kernel
theorem dX11_goAt_40 : decode cX11_goAt 40 = .ok (.iadd, 1) := by decide +kernel
theorem dX11_goAt_41 : decode cX11_goAt 41 = .ok (.iload 4, 2) := by decide +kernel
theorem dX11_goAt_43 : decode cX11_goAt 43 = .ok (.iastore, 1) := by decide +kernel
theorem dX11_goAt_44 : decode cX11_goAt 44 = .ok (.aload_n 0, 1) := by decide +kernel
theorem dX11_goAt_45 : decode cX11_goAt 45 = .ok (.getfield 16, 3) := by decide +kernel
theorem dX11_goAt_48 : decode cX11_goAt 48 = .ok (.iconst 4, 1) := by decide +kernel
theorem dX11_goAt_49 : decode cX11_goAt 49 = .ok (.iload_n 1, 1) := by decide +kernel
theorem dX11_goAt_50 : decode cX11_goAt 50 = .ok (.imul, 1) := by decide +kernel
theorem dX11_goAt_51 : decode cX11_goAt 51 = .ok (.iload_n 2, 1) := by decide +kernel
theorem dX11_goAt_52 : decode cX11_goAt 52 = .ok (.iadd, 1) := by decide +kernel
theorem dX11_goAt_53 : decode cX11_goAt 53 = .ok (.dup2, 1) := by decide +kernel
theorem dX11_goAt_54 : decode cX11_goAt 54 = .ok (.iaload, 1) := by decide +kernel
theorem dX11_goAt_55 : decode cX11_goAt 55 = .ok (.iconst 1, 1) := by decide +kernel
theorem dX11_goAt_56 : decode cX11_goAt 56 = .ok (.aload_n 0, 1) := by decide +kernel
theorem dX11_goAt_57 : decode cX11_goAt 57 = .ok (.getfield 13, 3) := by decide +kernel
theorem dX11_goAt_60 : decode cX11_goAt 60 = .ok (.iconst 4, 1) := by decide +kernel
theorem dX11_goAt_61 : decode cX11_goAt 61 = .ok (.iload_n 1, 1) := by decide +kernel
theorem dX11_goAt_62 : decode cX11_goAt 62 = .ok (.imul, 1) := by decide +kernel
theorem dX11_goAt_63 : decode cX11_goAt 63 = .ok (.iload_n 2, 1) := by decide +kernel
theorem dX11_goAt_64 : decode cX11_goAt 64 = .ok (.iadd, 1) := by decide +kernel
theorem dX11_goAt_65 : decode cX11_goAt 65 = .ok (.iaload, 1) := by decide +kernel
theorem dX11_goAt_66 : decode cX11_goAt 66 = .ok (.ishl, 1) := by decide +kernel
theorem dX11_goAt_67 : decode cX11_goAt 67 = .ok (.ior, 1) := by decide +kernel
theorem dX11_goAt_68 : decode cX11_goAt 68 = .ok (.iastore, 1) := by decide +kernel
theorem dX11_goAt_69 : decode cX11_goAt 69 = .ok (.aload_n 0, 1) := by decide +kernel
theorem dX11_goAt_70 : decode cX11_goAt 70 = .ok (.getfield 16, 3) := by decide +kernel
theorem dX11_goAt_73 : decode cX11_goAt 73 = .ok (.iconst 4, 1) := by decide +kernel
theorem dX11_goAt_74 : decode cX11_goAt 74 = .ok (.iload_n 1, 1) := by decide +kernel
theorem dX11_goAt_75 : decode cX11_goAt 75 = .ok (.imul, 1) := by decide +kernel
theorem dX11_goAt_76 : decode cX11_goAt 76 = .ok (.iload_n 3, 1) := by decide +kernel
theorem dX11_goAt_77 : decode cX11_goAt 77 = .ok (.iadd, 1) := by decide +kernel
theorem dX11_goAt_78 : decode cX11_goAt 78 = .ok (.dup2, 1) := by decide +kernel
theorem dX11_goAt_79 : decode cX11_goAt 79 = .ok (.iaload, 1) := by decide +kernel
theorem dX11_goAt_80 : decode cX11_goAt 80 = .ok (.iconst 1, 1) := by decide +kernel
theorem dX11_goAt_81 : decode cX11_goAt 81 = .ok (.iload 4, 2) := by decide +kernel
theorem dX11_goAt_83 : decode cX11_goAt 83 = .ok (.ishl, 1) := by decide +kernel
theorem dX11_goAt_84 : decode cX11_goAt 84 = .ok (.ior, 1) := by decide +kernel
theorem dX11_goAt_85 : decode cX11_goAt 85 = .ok (.iastore, 1) := by decide +kernel
theorem dX11_goAt_86 : decode cX11_goAt 86 = .ok (.return_, 1) := by decide +kernel
theorem dX11_may_0 : decode cX11_may 0 = .ok (.aload_n 0, 1) := by decide +kernel
theorem dX11_may_1 : decode cX11_may 1 = .ok (.iconst 0, 1) := by decide +kernel
theorem dX11_may_2 : decode cX11_may 2 = .ok (.putfield 71, 3) := by decide +kernel
theorem dX11_may_5 : decode cX11_may 5 = .ok (.aload_n 0, 1) := by decide +kernel
theorem dX11_may_6 : decode cX11_may 6 = .ok (.iload_n 1, 1) := by decide +kernel
theorem dX11_may_7 : decode cX11_may 7 = .ok (.invokevirtual 135, 3) := by decide +kernel
theorem dX11_may_10 : decode cX11_may 10 = .ok (.ifCond .ne 11, 3) := by decide +kernel
theorem dX11_may_13 : decode cX11_may 13 = .ok (.aload_n 0, 1) := by decide +kernel
theorem dX11_may_14 : decode cX11_may 14 = .ok (.iload_n 2, 1) := by decide +kernel
theorem dX11_may_15 : decode cX11_may 15 = .ok (.invokevirtual 135, 3) := by decide +kernel
theorem dX11_may_18 : decode cX11_may 18 = .ok (.ifCond .eq 5, 3) := by decide +kernel
theorem dX11_may_21 : decode cX11_may 21 = .ok (.iconst (-1), 1) := by decide +kernel
theorem dX11_may_22 : decode cX11_may 22 = .ok (.ireturn, 1) := by decide +kernel
theorem dX11_may_23 : decode cX11_may 23 = .ok (.iload_n 1, 1) := by decide +kernel
theorem dX11_may_24 : decode cX11_may 24 = .ok (.iload_n 2, 1) := by decide +kernel
theorem dX11_may_25 : decode cX11_may 25 = .ok (.if_icmp .ne 8, 3) := by decide +kernel
theorem dX11_may_28 : decode cX11_may 28 = .ok (.bipush (-2), 2) := by decide +kernel
theorem dX11_may_30 : decode cX11_may 30 = .ok (.goto 18, 3) := by decide +kernel
theorem dX11_may_33 : decode cX11_may 33 = .ok (.aload_n 0, 1) := by decide +kernel
theorem dX11_may_34 : decode cX11_may 34 = .ok (.iconst 0, 1) := by decide +kernel
theorem dX11_may_35 : decode cX11_may 35 = .ok (.iload_n 1, 1) := by decide +kernel
theorem dX11_may_36 : decode cX11_may 36 = .ok (.iload_n 2, 1) := by decide +kernel
theorem dX11_may_37 : decode cX11_may 37 = .ok (.invokevirtual 143, 3) := by decide +kernel
theorem dX11_may_40 : decode cX11_may 40 = .ok (.ifCond .eq 7, 3) := by decide +kernel
theorem dX11_may_43 : decode cX11_may 43 = .ok (.iconst 1, 1) := by decide +kernel
theorem dX11_may_44 : decode cX11_may 44 = .ok (.goto 4, 3) := by decide +kernel
theorem dX11_may_47 : decode cX11_may 47 = .ok (.iconst 0, 1) := by decide +kernel
theorem dX11_may_48 : decode cX11_may 48 = .ok (.ireturn, 1) := by decide +kernel
theorem dX11_note_0 : decode cX11_note 0 = .ok (.aload_n 0, 1) := by decide +kernel
theorem dX11_note_1 : decode cX11_note 1 = .ok (.getfield 118, 3) := by decide +kernel
theorem dX11_note_4 : decode cX11_note 4 = .ok (.bipush 16, 2) := by decide +kernel
theorem dX11_note_6 : decode cX11_note 6 = .ok (.if_icmp .ne 42, 3) := by decide +kernel
theorem dX11_note_9 : decode cX11_note 9 = .ok (.iconst 0, 1) := by decide +kernel
theorem dX11_note_10 : decode cX11_note 10 = .ok (.istore_n 1, 1) := by decide +kernel
theorem dX11_note_11 : decode cX11_note 11 = .ok (.iload_n 1, 1) := by decide +kernel
theorem dX11_note_12 : decode cX11_note 12 = .ok (.bipush 120, 2) := by decide +kernel
theorem dX11_note_14 : decode cX11_note 14 = .ok (.if_icmp .ge 24, 3) := by decide +kernel
theorem dX11_note_17 : decode cX11_note 17 = .ok (.aload_n 0, 1) := by decide +kernel
theorem dX11_note_18 : decode cX11_note 18 = .ok (.getfield 34, 3) := by decide +kernel
theorem dX11_note_21 : decode cX11_note 21 = .ok (.iload_n 1, 1) := by decide +kernel
theorem dX11_note_22 : decode cX11_note 22 = .ok (.aload_n 0, 1) := by decide +kernel
theorem dX11_note_23 : decode cX11_note 23 = .ok (.getfield 34, 3) := by decide +kernel
theorem dX11_note_26 : decode cX11_note 26 = .ok (.iload_n 1, 1) := by decide +kernel
theorem dX11_note_27 : decode cX11_note 27 = .ok (.bipush 8, 2) := by decide +kernel
theorem dX11_note_29 : decode cX11_note 29 = .ok (.iadd, 1) := by decide +kernel
theorem dX11_note_30 : decode cX11_note 30 = .ok (.iaload, 1) := by decide +kernel
theorem dX11_note_31 : decode cX11_note 31 = .ok (.iastore, 1) := by decide +kernel
theorem dX11_note_32 : decode cX11_note 32 = .ok (.iinc 1 1, 3) := by decide +kernel
theorem dX11_note_35 : decode cX11_note 35 = .ok (.goto (-24), 3) := by decide +kernel
theorem dX11_note_38 : decode cX11_note 38 = .ok (.aload_n 0, 1) := by decide +kernel
theorem dX11_note_39 : decode cX11_note 39 = .ok (.dup, 1) := by decide +kernel
theorem dX11_note_40 : decode cX11_note 40 = .ok (.getfield 118, 3) := by decide +kernel
theorem dX11_note_43 : decode cX11_note 43 = .ok (.iconst 1, 1) := by decide +kernel
theorem dX11_note_44 : decode cX11_note 44 = .ok (.isub, 1) := by decide +kernel
theorem dX11_note_45 : decode cX11_note 45 = .ok (.putfield 118, 3) := by decide +kernel
theorem dX11_note_48 : decode cX11_note 48 = .ok (.iconst 0, 1) := by decide +kernel
theorem dX11_note_49 : decode cX11_note 49 = .ok (.istore_n 1, 1) := by decide +kernel
theorem dX11_note_50 : decode cX11_note 50 = .ok (.iload_n 1, 1) := by decide +kernel
theorem dX11_note_51 : decode cX11_note 51 = .ok (.iconst 4, 1) := by decide +kernel
theorem dX11_note_52 : decode cX11_note 52 = .ok (.if_icmp .ge 51, 3) := by decide +kernel
theorem dX11_note_55 : decode cX11_note 55 = .ok (.aload_n 0, 1) := by decide +kernel
theorem dX11_note_56 : decode cX11_note 56 = .ok (.getfield 34, 3) := by decide +kernel
theorem dX11_note_59 : decode cX11_note 59 = .ok (.bipush 8, 2) := by decide +kernel
theorem dX11_note_61 : decode cX11_note 61 = .ok (.aload_n 0, 1) := by decide +kernel
theorem dX11_note_62 : decode cX11_note 62 = .ok (.getfield 118, 3) := by decide +kernel
theorem dX11_note_65 : decode cX11_note 65 = .ok (.imul, 1) := by decide +kernel
theorem dX11_note_66 : decode cX11_note 66 = .ok (.iload_n 1, 1) := by decide +kernel
theorem dX11_note_67 : decode cX11_note 67 = .ok (.iadd, 1) := by decide +kernel
theorem dX11_note_68 : decode cX11_note 68 = .ok (.aload_n 0, 1) := by decide +kernel
theorem dX11_note_69 : decode cX11_note 69 = .ok (.getfield 13, 3) := by decide +kernel
theorem dX11_note_72 : decode cX11_note 72 = .ok (.iload_n 1, 1) := by decide +kernel
theorem dX11_note_73 : decode cX11_note 73 = .ok (.iaload, 1) := by decide +kernel
theorem dX11_note_74 : decode cX11_note 74 = .ok (.iastore, 1) := by decide +kernel
theorem dX11_note_75 : decode cX11_note 75 = .ok (.aload_n 0, 1) := by decide +kernel
theorem dX11_note_76 : decode cX11_note 76 = .ok (.getfield 34, 3) := by decide +kernel
theorem dX11_note_79 : decode cX11_note 79 = .ok (.bipush 8, 2) := by decide +kernel
theorem dX11_note_81 : decode cX11_note 81 = .ok (.aload_n 0, 1) := by decide +kernel
theorem dX11_note_82 : decode cX11_note 82 = .ok (.getfield 118, 3) := by decide +kernel
theorem dX11_note_85 : decode cX11_note 85 = .ok (.imul, 1) := by decide +kernel
theorem dX11_note_86 : decode cX11_note 86 = .ok (.iconst 4, 1) := by decide +kernel
theorem dX11_note_87 : decode cX11_note 87 = .ok (.iadd, 1) := by decide +kernel
theorem dX11_note_88 : decode cX11_note 88 = .ok (.iload_n 1, 1) := by decide +kernel
theorem dX11_note_89 : decode cX11_note 89 = .ok (.iadd, 1) := by decide +kernel
theorem dX11_note_90 : decode cX11_note 90 = .ok (.aload_n 0, 1) := by decide +kernel
theorem dX11_note_91 : decode cX11_note 91 = .ok (.getfield 16, 3) := by decide +kernel
theorem dX11_note_94 : decode cX11_note 94 = .ok (.iload_n 1, 1) := by decide +kernel
theorem dX11_note_95 : decode cX11_note 95 = .ok (.iaload, 1) := by decide +kernel
theorem dX11_note_96 : decode cX11_note 96 = .ok (.iastore, 1) := by decide +kernel
theorem dX11_note_97 : decode cX11_note 97 = .ok (.iinc 1 1, 3) := by decide +kernel
theorem dX11_note_100 : decode cX11_note 100 = .ok (.goto (-50), 3) := by decide +kernel
theorem dX11_note_103 : decode cX11_note 103 = .ok (.aload_n 0, 1) := by decide +kernel
theorem dX11_note_104 : decode cX11_note 104 = .ok (.dup, 1) := by decide +kernel
theorem dX11_note_105 : decode cX11_note 105 = .ok (.getfield 118, 3) := by decide +kernel
theorem dX11_note_108 : decode cX11_note 108 = .ok (.iconst 1, 1) := by decide +kernel
theorem dX11_note_109 : decode cX11_note 109 = .ok (.iadd, 1) := by decide +kernel
theorem dX11_note_110 : decode cX11_note 110 = .ok (.putfield 118, 3) := by decide +kernel
theorem dX11_note_113 : decode cX11_note 113 = .ok (.return_, 1) := by decide +kernel
theorem dX11_exchange_0 : decode cX11_exchange 0 = .ok (.aload_n 0, 1) := by decide +kernel
theorem dX11_exchange_1 : decode cX11_exchange 1 = .ok (.iconst 0, 1) := by decide +kernel
theorem dX11_exchange_2 : decode cX11_exchange 2 = .ok (.putfield 71, 3) := by decide +kernel
theorem dX11_exchange_5 : decode cX11_exchange 5 = .ok (.aload_n 0, 1) := by decide +kernel
theorem dX11_exchange_6 : decode cX11_exchange 6 = .ok (.iload_n 1, 1) := by decide +kernel
theorem dX11_exchange_7 : decode cX11_exchange 7 = .ok (.invokevirtual 135, 3) := by decide +kernel
theorem dX11_exchange_10 : decode cX11_exchange 10 = .ok (.ifCond .ne 11, 3) := by decide +kernel
theorem dX11_exchange_13 : decode cX11_exchange 13 = .ok (.aload_n 0, 1) := by decide +kernel
theorem dX11_exchange_14 : decode cX11_exchange 14 = .ok (.iload_n 2, 1) := by decide +kernel
theorem dX11_exchange_15 : decode cX11_exchange 15 = .ok (.invokevirtual 135, 3) := by decide +kernel
theorem dX11_exchange_18 : decode cX11_exchange 18 = .ok (.ifCond .eq 5, 3) := by decide +kernel
theorem dX11_exchange_21 : decode cX11_exchange 21 = .ok (.iconst (-1), 1) := by decide +kernel
theorem dX11_exchange_22 : decode cX11_exchange 22 = .ok (.ireturn, 1) := by decide +kernel
theorem dX11_exchange_23 : decode cX11_exchange 23 = .ok (.iload_n 1, 1) := by decide +kernel
theorem dX11_exchange_24 : decode cX11_exchange 24 = .ok (.iload_n 2, 1) := by decide +kernel
theorem dX11_exchange_25 : decode cX11_exchange 25 = .ok (.if_icmp .ne 6, 3) := by decide +kernel
theorem dX11_exchange_28 : decode cX11_exchange 28 = .ok (.bipush (-2), 2) := by decide +kernel
theorem dX11_exchange_30 : decode cX11_exchange 30 = .ok (.ireturn, 1) := by decide +kernel
theorem dX11_exchange_31 : decode cX11_exchange 31 = .ok (.aload_n 0, 1) := by decide +kernel
theorem dX11_exchange_32 : decode cX11_exchange 32 = .ok (.iconst 0, 1) := by decide +kernel
theorem dX11_exchange_33 : decode cX11_exchange 33 = .ok (.iload_n 1, 1) := by decide +kernel
theorem dX11_exchange_34 : decode cX11_exchange 34 = .ok (.iload_n 2, 1) := by decide +kernel
theorem dX11_exchange_35 : decode cX11_exchange 35 = .ok (.invokevirtual 143, 3) := by decide +kernel
theorem dX11_exchange_38 : decode cX11_exchange 38 = .ok (.ifCond .ne 6, 3) := by decide +kernel
theorem dX11_exchange_41 : decode cX11_exchange 41 = .ok (.bipush (-3), 2) := by decide +kernel
theorem dX11_exchange_43 : decode cX11_exchange 43 = .ok (.ireturn, 1) := by decide +kernel
theorem dX11_exchange_44 : decode cX11_exchange 44 = .ok (.aload_n 0, 1) := by decide +kernel
theorem dX11_exchange_45 : decode cX11_exchange 45 = .ok (.invokevirtual 147, 3) := by decide +kernel
theorem dX11_exchange_48 : decode cX11_exchange 48 = .ok (.aload_n 0, 1) := by decide +kernel
theorem dX11_exchange_49 : decode cX11_exchange 49 = .ok (.iload_n 1, 1) := by decide +kernel
theorem dX11_exchange_50 : decode cX11_exchange 50 = .ok (.aload_n 0, 1) := by decide +kernel
theorem dX11_exchange_51 : decode cX11_exchange 51 = .ok (.getfield 13, 3) := by decide +kernel
theorem dX11_exchange_54 : decode cX11_exchange 54 = .ok (.iload_n 1, 1) := by decide +kernel
theorem dX11_exchange_55 : decode cX11_exchange 55 = .ok (.iaload, 1) := by decide +kernel
theorem dX11_exchange_56 : decode cX11_exchange 56 = .ok (.invokevirtual 125, 3) := by decide +kernel
theorem dX11_exchange_59 : decode cX11_exchange 59 = .ok (.aload_n 0, 1) := by decide +kernel
theorem dX11_exchange_60 : decode cX11_exchange 60 = .ok (.iload_n 2, 1) := by decide +kernel
theorem dX11_exchange_61 : decode cX11_exchange 61 = .ok (.aload_n 0, 1) := by decide +kernel
theorem dX11_exchange_62 : decode cX11_exchange 62 = .ok (.getfield 13, 3) := by decide +kernel
theorem dX11_exchange_65 : decode cX11_exchange 65 = .ok (.iload_n 2, 1) := by decide +kernel
theorem dX11_exchange_66 : decode cX11_exchange 66 = .ok (.iaload, 1) := by decide +kernel
theorem dX11_exchange_67 : decode cX11_exchange 67 = .ok (.invokevirtual 125, 3) := by decide +kernel
theorem dX11_exchange_70 : decode cX11_exchange 70 = .ok (.iadd, 1) := by decide +kernel
theorem dX11_exchange_71 : decode cX11_exchange 71 = .ok (.istore_n 3, 1) := by decide +kernel
theorem dX11_exchange_72 : decode cX11_exchange 72 = .ok (.aload_n 0, 1) := by decide +kernel
theorem dX11_exchange_73 : decode cX11_exchange 73 = .ok (.iconst 0, 1) := by decide +kernel
theorem dX11_exchange_74 : decode cX11_exchange 74 = .ok (.iload_n 1, 1) := by decide +kernel
theorem dX11_exchange_75 : decode cX11_exchange 75 = .ok (.iload_n 2, 1) := by decide +kernel
theorem dX11_exchange_76 : decode cX11_exchange 76 = .ok (.invokevirtual 150, 3) := by decide +kernel
theorem dX11_exchange_79 : decode cX11_exchange 79 = .ok (.bipush 100, 2) := by decide +kernel
theorem dX11_exchange_81 : decode cX11_exchange 81 = .ok (.aload_n 0, 1) := by decide +kernel
theorem dX11_exchange_82 : decode cX11_exchange 82 = .ok (.iload_n 1, 1) := by decide +kernel
theorem dX11_exchange_83 : decode cX11_exchange 83 = .ok (.aload_n 0, 1) := by decide +kernel
theorem dX11_exchange_84 : decode cX11_exchange 84 = .ok (.getfield 13, 3) := by decide +kernel
theorem dX11_exchange_87 : decode cX11_exchange 87 = .ok (.iload_n 1, 1) := by decide +kernel
theorem dX11_exchange_88 : decode cX11_exchange 88 = .ok (.iaload, 1) := by decide +kernel
theorem dX11_exchange_89 : decode cX11_exchange 89 = .ok (.invokevirtual 125, 3) := by decide +kernel
theorem dX11_exchange_92 : decode cX11_exchange 92 = .ok (.iadd, 1) := by decide +kernel
theorem dX11_exchange_93 : decode cX11_exchange 93 = .ok (.aload_n 0, 1) := by decide +kernel
theorem dX11_exchange_94 : decode cX11_exchange 94 = .ok (.iload_n 2, 1) := by decide +kernel
theorem dX11_exchange_95 : decode cX11_exchange 95 = .ok (.aload_n 0, 1) := by decide +kernel
theorem dX11_exchange_96 : decode cX11_exchange 96 = .ok (.getfield 13, 3) := by decide +kernel
theorem dX11_exchange_99 : decode cX11_exchange 99 = .ok (.iload_n 2, 1) := by decide +kernel
theorem dX11_exchange_100 : decode cX11_exchange 100 = .ok (.iaload, 1) := by decide +kernel
theorem dX11_exchange_101 : decode cX11_exchange 101 = .ok (.invokevirtual 125, 3) := by decide +kernel
theorem dX11_exchange_104 : decode cX11_exchange 104 = .ok (.iadd, 1) := by decide +kernel
theorem dX11_exchange_105 : decode cX11_exchange 105 = .ok (.iload_n 3, 1) := by decide +kernel
theorem dX11_exchange_106 : decode cX11_exchange 106 = .ok (.isub, 1) := by decide +kernel
theorem dX11_exchange_107 : decode cX11_exchange 107 = .ok (.ireturn, 1) := by decide +kernel
theorem dX11_sea_0 : decode cX11_sea 0 = .ok (.aload_n 0, 1) := by decide +kernel
theorem dX11_sea_1 : decode cX11_sea 1 = .ok (.iconst 0, 1) := by decide +kernel
theorem dX11_sea_2 : decode cX11_sea 2 = .ok (.putfield 71, 3) := by decide +kernel
theorem dX11_sea_5 : decode cX11_sea 5 = .ok (.aload_n 0, 1) := by decide +kernel
theorem dX11_sea_6 : decode cX11_sea 6 = .ok (.iload_n 1, 1) := by decide +kernel
theorem dX11_sea_7 : decode cX11_sea 7 = .ok (.invokevirtual 135, 3) := by decide +kernel
theorem dX11_sea_10 : decode cX11_sea 10 = .ok (.ifCond .eq 5, 3) := by decide +kernel
theorem dX11_sea_13 : decode cX11_sea 13 = .ok (.iconst (-1), 1) := by decide +kernel
theorem dX11_sea_14 : decode cX11_sea 14 = .ok (.ireturn, 1) := by decide +kernel
theorem dX11_sea_15 : decode cX11_sea 15 = .ok (.aload_n 0, 1) := by decide +kernel
theorem dX11_sea_16 : decode cX11_sea 16 = .ok (.iload_n 1, 1) := by decide +kernel
theorem dX11_sea_17 : decode cX11_sea 17 = .ok (.invokevirtual 121, 3) := by decide +kernel
theorem dX11_sea_20 : decode cX11_sea 20 = .ok (.ifCond .ne 6, 3) := by decide +kernel
theorem dX11_sea_23 : decode cX11_sea 23 = .ok (.bipush (-3), 2) := by decide +kernel
theorem dX11_sea_25 : decode cX11_sea 25 = .ok (.ireturn, 1) := by decide +kernel
theorem dX11_sea_26 : decode cX11_sea 26 = .ok (.aload_n 0, 1) := by decide +kernel
theorem dX11_sea_27 : decode cX11_sea 27 = .ok (.invokevirtual 147, 3) := by decide +kernel
theorem dX11_sea_30 : decode cX11_sea 30 = .ok (.aload_n 0, 1) := by decide +kernel
theorem dX11_sea_31 : decode cX11_sea 31 = .ok (.getfield 13, 3) := by decide +kernel
theorem dX11_sea_34 : decode cX11_sea 34 = .ok (.iload_n 1, 1) := by decide +kernel
theorem dX11_sea_35 : decode cX11_sea 35 = .ok (.iaload, 1) := by decide +kernel
theorem dX11_sea_36 : decode cX11_sea 36 = .ok (.istore_n 2, 1) := by decide +kernel
theorem dX11_sea_37 : decode cX11_sea 37 = .ok (.aload_n 0, 1) := by decide +kernel
theorem dX11_sea_38 : decode cX11_sea 38 = .ok (.getfield 13, 3) := by decide +kernel
theorem dX11_sea_41 : decode cX11_sea 41 = .ok (.iload_n 1, 1) := by decide +kernel
theorem dX11_sea_42 : decode cX11_sea 42 = .ok (.bipush 6, 2) := by decide +kernel
theorem dX11_sea_44 : decode cX11_sea 44 = .ok (.iastore, 1) := by decide +kernel
theorem dX11_sea_45 : decode cX11_sea 45 = .ok (.iload_n 2, 1) := by decide +kernel
theorem dX11_sea_46 : decode cX11_sea 46 = .ok (.ireturn, 1) := by decide +kernel
theorem dX11_undo_0 : decode cX11_undo 0 = .ok (.aload_n 0, 1) := by decide +kernel
theorem dX11_undo_1 : decode cX11_undo 1 = .ok (.iconst 0, 1) := by decide +kernel
theorem dX11_undo_2 : decode cX11_undo 2 = .ok (.putfield 71, 3) := by decide +kernel
theorem dX11_undo_5 : decode cX11_undo 5 = .ok (.aload_n 0, 1) := by decide +kernel
theorem dX11_undo_6 : decode cX11_undo 6 = .ok (.getfield 118, 3) := by decide +kernel
theorem dX11_undo_9 : decode cX11_undo 9 = .ok (.ifCond .ne 6, 3) := by decide +kernel
theorem dX11_undo_12 : decode cX11_undo 12 = .ok (.bipush (-3), 2) := by decide +kernel
theorem dX11_undo_14 : decode cX11_undo 14 = .ok (.ireturn, 1) := by decide +kernel
theorem dX11_undo_15 : decode cX11_undo 15 = .ok (.aload_n 0, 1) := by decide +kernel
theorem dX11_undo_16 : decode cX11_undo 16 = .ok (.dup, 1) := by decide +kernel
theorem dX11_undo_17 : decode cX11_undo 17 = .ok (.getfield 118, 3) := by decide +kernel
theorem dX11_undo_20 : decode cX11_undo 20 = .ok (.iconst 1, 1) := by decide +kernel
theorem dX11_undo_21 : decode cX11_undo 21 = .ok (.isub, 1) := by decide +kernel
theorem dX11_undo_22 : decode cX11_undo 22 = .ok (.putfield 118, 3) := by decide +kernel
theorem dX11_undo_25 : decode cX11_undo 25 = .ok (.iconst 0, 1) := by decide +kernel
theorem dX11_undo_26 : decode cX11_undo 26 = .ok (.istore_n 1, 1) := by decide +kernel
theorem dX11_undo_27 : decode cX11_undo 27 = .ok (.iload_n 1, 1) := by decide +kernel
theorem dX11_undo_28 : decode cX11_undo 28 = .ok (.iconst 4, 1) := by decide +kernel
theorem dX11_undo_29 : decode cX11_undo 29 = .ok (.if_icmp .ge 51, 3) := by decide +kernel
theorem dX11_undo_32 : decode cX11_undo 32 = .ok (.aload_n 0, 1) := by decide +kernel
theorem dX11_undo_33 : decode cX11_undo 33 = .ok (.getfield 13, 3) := by decide +kernel
theorem dX11_undo_36 : decode cX11_undo 36 = .ok (.iload_n 1, 1) := by decide +kernel
theorem dX11_undo_37 : decode cX11_undo 37 = .ok (.aload_n 0, 1) := by decide +kernel
theorem dX11_undo_38 : decode cX11_undo 38 = .ok (.getfield 34, 3) := by decide +kernel
theorem dX11_undo_41 : decode cX11_undo 41 = .ok (.bipush 8, 2) := by decide +kernel
theorem dX11_undo_43 : decode cX11_undo 43 = .ok (.aload_n 0, 1) := by decide +kernel
theorem dX11_undo_44 : decode cX11_undo 44 = .ok (.getfield 118, 3) := by decide +kernel
theorem dX11_undo_47 : decode cX11_undo 47 = .ok (.imul, 1) := by decide +kernel
theorem dX11_undo_48 : decode cX11_undo 48 = .ok (.iload_n 1, 1) := by decide +kernel
theorem dX11_undo_49 : decode cX11_undo 49 = .ok (.iadd, 1) := by decide +kernel
theorem dX11_undo_50 : decode cX11_undo 50 = .ok (.iaload, 1) := by decide +kernel
theorem dX11_undo_51 : decode cX11_undo 51 = .ok (.iastore, 1) := by decide +kernel
theorem dX11_undo_52 : decode cX11_undo 52 = .ok (.aload_n 0, 1) := by decide +kernel
theorem dX11_undo_53 : decode cX11_undo 53 = .ok (.getfield 16, 3) := by decide +kernel
theorem dX11_undo_56 : decode cX11_undo 56 = .ok (.iload_n 1, 1) := by decide +kernel
theorem dX11_undo_57 : decode cX11_undo 57 = .ok (.aload_n 0, 1) := by decide +kernel
theorem dX11_undo_58 : decode cX11_undo 58 = .ok (.getfield 34, 3) := by decide +kernel
theorem dX11_undo_61 : decode cX11_undo 61 = .ok (.bipush 8, 2) := by decide +kernel
theorem dX11_undo_63 : decode cX11_undo 63 = .ok (.aload_n 0, 1) := by decide +kernel
theorem dX11_undo_64 : decode cX11_undo 64 = .ok (.getfield 118, 3) := by decide +kernel
theorem dX11_undo_67 : decode cX11_undo 67 = .ok (.imul, 1) := by decide +kernel
theorem dX11_undo_68 : decode cX11_undo 68 = .ok (.iconst 4, 1) := by decide +kernel
theorem dX11_undo_69 : decode cX11_undo 69 = .ok (.iadd, 1) := by decide +kernel
theorem dX11_undo_70 : decode cX11_undo 70 = .ok (.iload_n 1, 1) := by decide +kernel
theorem dX11_undo_71 : decode cX11_undo 71 = .ok (.iadd, 1) := by decide +kernel
theorem dX11_undo_72 : decode cX11_undo 72 = .ok (.iaload, 1) := by decide +kernel
theorem dX11_undo_73 : decode cX11_undo 73 = .ok (.iastore, 1) := by decide +kernel
theorem dX11_undo_74 : decode cX11_undo 74 = .ok (.iinc 1 1, 3) := by decide +kernel
theorem dX11_undo_77 : decode cX11_undo 77 = .ok (.goto (-50), 3) := by decide +kernel
theorem dX11_undo_80 : decode cX11_undo 80 = .ok (.aload_n 0, 1) := by decide +kernel
theorem dX11_undo_81 : decode cX11_undo 81 = .ok (.getfield 118, 3) := by decide +kernel
theorem dX11_undo_84 : decode cX11_undo 84 = .ok (.ireturn, 1) := by decide +kernel
theorem dX11_judge_0 : decode cX11_judge 0 = .ok (.aload_n 0, 1) := by decide +kernel
theorem dX11_judge_1 : decode cX11_judge 1 = .ok (.iconst 0, 1) := by decide +kernel
theorem dX11_judge_2 : decode cX11_judge 2 = .ok (.putfield 71, 3) := by decide +kernel
theorem dX11_judge_5 : decode cX11_judge 5 = .ok (.iconst 1, 1) := by decide +kernel
theorem dX11_judge_6 : decode cX11_judge 6 = .ok (.istore_n 3, 1) := by decide +kernel
theorem dX11_judge_7 : decode cX11_judge 7 = .ok (.iconst 0, 1) := by decide +kernel
theorem dX11_judge_8 : decode cX11_judge 8 = .ok (.istore 4, 2) := by decide +kernel
theorem dX11_judge_10 : decode cX11_judge 10 = .ok (.iload 4, 2) := by decide +kernel
theorem dX11_judge_12 : decode cX11_judge 12 = .ok (.iload_n 1, 1) := by decide +kernel
theorem dX11_judge_13 : decode cX11_judge 13 = .ok (.if_icmp .ge 20, 3) := by decide +kernel
theorem dX11_judge_16 : decode cX11_judge 16 = .ok (.iload 4, 2) := by decide +kernel
theorem dX11_judge_18 : decode cX11_judge 18 = .ok (.iconst 4, 1) := by decide +kernel
theorem dX11_judge_19 : decode cX11_judge 19 = .ok (.if_icmp .ge 14, 3) := by decide +kernel
theorem dX11_judge_22 : decode cX11_judge 22 = .ok (.iload_n 3, 1) := by decide +kernel
theorem dX11_judge_23 : decode cX11_judge 23 = .ok (.bipush 100, 2) := by decide +kernel
theorem dX11_judge_25 : decode cX11_judge 25 = .ok (.imul, 1) := by decide +kernel
theorem dX11_judge_26 : decode cX11_judge 26 = .ok (.istore_n 3, 1) := by decide +kernel
theorem dX11_judge_27 : decode cX11_judge 27 = .ok (.iinc 4 1, 3) := by decide +kernel
theorem dX11_judge_30 : decode cX11_judge 30 = .ok (.goto (-20), 3) := by decide +kernel
theorem dX11_judge_33 : decode cX11_judge 33 = .ok (.iload_n 1, 1) := by decide +kernel
theorem dX11_judge_34 : decode cX11_judge 34 = .ok (.i2l, 1) := by decide +kernel
theorem dX11_judge_35 : decode cX11_judge 35 = .ok (.lconst 1, 1) := by decide +kernel
theorem dX11_judge_36 : decode cX11_judge 36 = .ok (.ldc2_w 154, 3) := by decide +kernel
theorem dX11_judge_39 : decode cX11_judge 39 = .ok (.invokestatic 78, 3) := by decide +kernel
theorem dX11_judge_42 : decode cX11_judge 42 = .ok (.ifCond .eq 16, 3) := by decide +kernel
theorem dX11_judge_45 : decode cX11_judge 45 = .ok (.iload_n 2, 1) := by decide +kernel
theorem dX11_judge_46 : decode cX11_judge 46 = .ok (.i2l, 1) := by decide +kernel
theorem dX11_judge_47 : decode cX11_judge 47 = .ok (.lconst 0, 1) := by decide +kernel
theorem dX11_judge_48 : decode cX11_judge 48 = .ok (.iload_n 3, 1) := by decide +kernel
theorem dX11_judge_49 : decode cX11_judge 49 = .ok (.iconst 1, 1) := by decide +kernel
theorem dX11_judge_50 : decode cX11_judge 50 = .ok (.isub, 1) := by decide +kernel
theorem dX11_judge_51 : decode cX11_judge 51 = .ok (.i2l, 1) := by decide +kernel
theorem dX11_judge_52 : decode cX11_judge 52 = .ok (.invokestatic 78, 3) := by decide +kernel
theorem dX11_judge_55 : decode cX11_judge 55 = .ok (.ifCond .ne 6, 3) := by decide +kernel
theorem dX11_judge_58 : decode cX11_judge 58 = .ok (.bipush (-2), 2) := by decide +kernel
theorem dX11_judge_60 : decode cX11_judge 60 = .ok (.ireturn, 1) := by decide +kernel
theorem dX11_judge_61 : decode cX11_judge 61 = .ok (.aload_n 0, 1) := by decide +kernel
theorem dX11_judge_62 : decode cX11_judge 62 = .ok (.iconst 0, 1) := by decide +kernel
theorem dX11_judge_63 : decode cX11_judge 63 = .ok (.iconst 1, 1) := by decide +kernel
theorem dX11_judge_64 : decode cX11_judge 64 = .ok (.invokevirtual 156, 3) := by decide +kernel
theorem dX11_judge_67 : decode cX11_judge 67 = .ok (.iconst 0, 1) := by decide +kernel
theorem dX11_judge_68 : decode cX11_judge 68 = .ok (.istore 4, 2) := by decide +kernel
theorem dX11_judge_70 : decode cX11_judge 70 = .ok (.iload 4, 2) := by decide +kernel
theorem dX11_judge_72 : decode cX11_judge 72 = .ok (.iload_n 1, 1) := by decide +kernel
theorem dX11_judge_73 : decode cX11_judge 73 = .ok (.if_icmp .ge 78, 3) := by decide +kernel
theorem dX11_judge_76 : decode cX11_judge 76 = .ok (.iload_n 3, 1) := by decide +kernel
theorem dX11_judge_77 : decode cX11_judge 77 = .ok (.bipush 100, 2) := by decide +kernel
theorem dX11_judge_79 : decode cX11_judge 79 = .ok (.idiv, 1) := by decide +kernel
theorem dX11_judge_80 : decode cX11_judge 80 = .ok (.istore_n 3, 1) := by decide +kernel
theorem dX11_judge_81 : decode cX11_judge 81 = .ok (.iload_n 2, 1) := by decide +kernel
theorem dX11_judge_82 : decode cX11_judge 82 = .ok (.iload_n 3, 1) := by decide +kernel
theorem dX11_judge_83 : decode cX11_judge 83 = .ok (.idiv, 1) := by decide +kernel
theorem dX11_judge_84 : decode cX11_judge 84 = .ok (.bipush 100, 2) := by decide +kernel
theorem dX11_judge_86 : decode cX11_judge 86 = .ok (.irem, 1) := by decide +kernel
theorem dX11_judge_87 : decode cX11_judge 87 = .ok (.istore 5, 2) := by decide +kernel
theorem dX11_judge_89 : decode cX11_judge 89 = .ok (.iload 5, 2) := by decide +kernel
theorem dX11_judge_91 : decode cX11_judge 91 = .ok (.bipush 10, 2) := by decide +kernel
theorem dX11_judge_93 : decode cX11_judge 93 = .ok (.idiv, 1) := by decide +kernel
theorem dX11_judge_94 : decode cX11_judge 94 = .ok (.istore 6, 2) := by decide +kernel
theorem dX11_judge_96 : decode cX11_judge 96 = .ok (.iload 5, 2) := by decide +kernel
theorem dX11_judge_98 : decode cX11_judge 98 = .ok (.bipush 10, 2) := by decide +kernel
theorem dX11_judge_100 : decode cX11_judge 100 = .ok (.irem, 1) := by decide +kernel
theorem dX11_judge_101 : decode cX11_judge 101 = .ok (.istore 7, 2) := by decide +kernel
theorem dX11_judge_103 : decode cX11_judge 103 = .ok (.aload_n 0, 1) := by decide +kernel
theorem dX11_judge_104 : decode cX11_judge 104 = .ok (.iload 6, 2) := by decide +kernel
theorem dX11_judge_106 : decode cX11_judge 106 = .ok (.invokevirtual 135, 3) := by decide +kernel
theorem dX11_judge_109 : decode cX11_judge 109 = .ok (.ifCond .ne 24, 3) := by decide +kernel
theorem dX11_judge_112 : decode cX11_judge 112 = .ok (.aload_n 0, 1) := by decide +kernel
theorem dX11_judge_113 : decode cX11_judge 113 = .ok (.iload 7, 2) := by decide +kernel
theorem dX11_judge_115 : decode cX11_judge 115 = .ok (.invokevirtual 135, 3) := by decide +kernel
theorem dX11_judge_118 : decode cX11_judge 118 = .ok (.ifCond .ne 15, 3) := by decide +kernel
theorem dX11_judge_121 : decode cX11_judge 121 = .ok (.aload_n 0, 1) := by decide +kernel
theorem dX11_judge_122 : decode cX11_judge 122 = .ok (.iconst 1, 1) := by decide +kernel
theorem dX11_judge_123 : decode cX11_judge 123 = .ok (.iload 6, 2) := by decide +kernel
theorem dX11_judge_125 : decode cX11_judge 125 = .ok (.iload 7, 2) := by decide +kernel
theorem dX11_judge_127 : decode cX11_judge 127 = .ok (.invokevirtual 143, 3) := by decide +kernel
theorem dX11_judge_130 : decode cX11_judge 130 = .ok (.ifCond .ne 6, 3) := by decide +kernel
theorem dX11_judge_133 : decode cX11_judge 133 = .ok (.iload 4, 2) := by decide +kernel
theorem dX11_judge_135 : decode cX11_judge 135 = .ok (.ireturn, 1) := by decide +kernel
theorem dX11_judge_136 : decode cX11_judge 136 = .ok (.aload_n 0, 1) := by decide +kernel
theorem dX11_judge_137 : decode cX11_judge 137 = .ok (.iconst 1, 1) := by decide +kernel
theorem dX11_judge_138 : decode cX11_judge 138 = .ok (.iload 6, 2) := by decide +kernel
theorem dX11_judge_140 : decode cX11_judge 140 = .ok (.iload 7, 2) := by decide +kernel
theorem dX11_judge_142 : decode cX11_judge 142 = .ok (.invokevirtual 150, 3) := by decide +kernel
theorem dX11_judge_145 : decode cX11_judge 145 = .ok (.iinc 4 1, 3) := by decide +kernel
theorem dX11_judge_148 : decode cX11_judge 148 = .ok (.goto (-78), 3) := by decide +kernel
theorem dX11_judge_151 : decode cX11_judge 151 = .ok (.bipush (-9), 2) := by decide +kernel
theorem dX11_judge_153 : decode cX11_judge 153 = .ok (.ireturn, 1) := by decide +kernel
theorem dX11_next_0 : decode cX11_next 0 = .ok (.aload_n 0, 1) := by decide +kernel
theorem dX11_next_1 : decode cX11_next 1 = .ok (.getfield 50, 3) := by decide +kernel
theorem dX11_next_4 : decode cX11_next 4 = .ok (.iload_n 1, 1) := by decide +kernel
theorem dX11_next_5 : decode cX11_next 5 = .ok (.iaload, 1) := by decide +kernel
theorem dX11_next_6 : decode cX11_next 6 = .ok (.iconst 1, 1) := by decide +kernel
theorem dX11_next_7 : decode cX11_next 7 = .ok (.iadd, 1) := by decide +kernel
theorem dX11_next_8 : decode cX11_next 8 = .ok (.istore_n 2, 1) := by decide +kernel
theorem dX11_next_9 : decode cX11_next 9 = .ok (.iload_n 2, 1) := by decide +kernel
theorem dX11_next_10 : decode cX11_next 10 = .ok (.bipush 40, 2) := by decide +kernel
theorem dX11_next_12 : decode cX11_next 12 = .ok (.if_icmp .ge 73, 3) := by decide +kernel
theorem dX11_next_15 : decode cX11_next 15 = .ok (.iload_n 2, 1) := by decide +kernel
theorem dX11_next_16 : decode cX11_next 16 = .ok (.bipush 10, 2) := by decide +kernel
theorem dX11_next_18 : decode cX11_next 18 = .ok (.idiv, 1) := by decide +kernel
theorem dX11_next_19 : decode cX11_next 19 = .ok (.istore_n 3, 1) := by decide +kernel
theorem dX11_next_20 : decode cX11_next 20 = .ok (.iload_n 2, 1) := by decide +kernel
theorem dX11_next_21 : decode cX11_next 21 = .ok (.bipush 10, 2) := by decide +kernel
theorem dX11_next_23 : decode cX11_next 23 = .ok (.irem, 1) := by decide +kernel
theorem dX11_next_24 : decode cX11_next 24 = .ok (.istore 4, 2) := by decide +kernel
theorem dX11_next_26 : decode cX11_next 26 = .ok (.iload_n 3, 1) := by decide +kernel
theorem dX11_next_27 : decode cX11_next 27 = .ok (.iload 4, 2) := by decide +kernel
theorem dX11_next_29 : decode cX11_next 29 = .ok (.if_icmp .ge 50, 3) := by decide +kernel
theorem dX11_next_32 : decode cX11_next 32 = .ok (.iload 4, 2) := by decide +kernel
theorem dX11_next_34 : decode cX11_next 34 = .ok (.aload_n 0, 1) := by decide +kernel
theorem dX11_next_35 : decode cX11_next 35 = .ok (.getfield 75, 3) := by decide +kernel
theorem dX11_next_38 : decode cX11_next 38 = .ok (.if_icmp .ge 41, 3) := by decide +kernel
theorem dX11_next_41 : decode cX11_next 41 = .ok (.aload_n 0, 1) := by decide +kernel
theorem dX11_next_42 : decode cX11_next 42 = .ok (.iload_n 1, 1) := by decide +kernel
theorem dX11_next_43 : decode cX11_next 43 = .ok (.iload_n 3, 1) := by decide +kernel
theorem dX11_next_44 : decode cX11_next 44 = .ok (.iload 4, 2) := by decide +kernel
theorem dX11_next_46 : decode cX11_next 46 = .ok (.invokevirtual 143, 3) := by decide +kernel
theorem dX11_next_49 : decode cX11_next 49 = .ok (.ifCond .eq 30, 3) := by decide +kernel
theorem dX11_next_52 : decode cX11_next 52 = .ok (.aload_n 0, 1) := by decide +kernel
theorem dX11_next_53 : decode cX11_next 53 = .ok (.getfield 50, 3) := by decide +kernel
theorem dX11_next_56 : decode cX11_next 56 = .ok (.iload_n 1, 1) := by decide +kernel
theorem dX11_next_57 : decode cX11_next 57 = .ok (.iload_n 2, 1) := by decide +kernel
theorem dX11_next_58 : decode cX11_next 58 = .ok (.iastore, 1) := by decide +kernel
theorem dX11_next_59 : decode cX11_next 59 = .ok (.aload_n 0, 1) := by decide +kernel
theorem dX11_next_60 : decode cX11_next 60 = .ok (.iload_n 1, 1) := by decide +kernel
theorem dX11_next_61 : decode cX11_next 61 = .ok (.iload_n 1, 1) := by decide +kernel
theorem dX11_next_62 : decode cX11_next 62 = .ok (.iconst 1, 1) := by decide +kernel
theorem dX11_next_63 : decode cX11_next 63 = .ok (.iadd, 1) := by decide +kernel
theorem dX11_next_64 : decode cX11_next 64 = .ok (.invokevirtual 156, 3) := by decide +kernel
theorem dX11_next_67 : decode cX11_next 67 = .ok (.aload_n 0, 1) := by decide +kernel
theorem dX11_next_68 : decode cX11_next 68 = .ok (.iload_n 1, 1) := by decide +kernel
theorem dX11_next_69 : decode cX11_next 69 = .ok (.iconst 1, 1) := by decide +kernel
theorem dX11_next_70 : decode cX11_next 70 = .ok (.iadd, 1) := by decide +kernel
theorem dX11_next_71 : decode cX11_next 71 = .ok (.iload_n 3, 1) := by decide +kernel
theorem dX11_next_72 : decode cX11_next 72 = .ok (.iload 4, 2) := by decide +kernel
theorem dX11_next_74 : decode cX11_next 74 = .ok (.invokevirtual 150, 3) := by decide +kernel
theorem dX11_next_77 : decode cX11_next 77 = .ok (.iconst 1, 1) := by decide +kernel
theorem dX11_next_78 : decode cX11_next 78 = .ok (.ireturn, 1) := by decide +kernel
theorem dX11_next_79 : decode cX11_next 79 = .ok (.iinc 2 1, 3) := by decide +kernel
theorem dX11_next_82 : decode cX11_next 82 = .ok (.goto (-73), 3) := by decide +kernel
theorem dX11_next_85 : decode cX11_next 85 = .ok (.iconst 0, 1) := by decide +kernel
theorem dX11_next_86 : decode cX11_next 86 = .ok (.ireturn, 1) := by decide +kernel
theorem dX11_goRuns_0 : decode cX11_goRuns 0 = .ok (.aload_n 0, 1) := by decide +kernel
theorem dX11_goRuns_1 : decode cX11_goRuns 1 = .ok (.iconst 0, 1) := by decide +kernel
theorem dX11_goRuns_2 : decode cX11_goRuns 2 = .ok (.putfield 160, 3) := by decide +kernel
theorem dX11_goRuns_5 : decode cX11_goRuns 5 = .ok (.aload_n 0, 1) := by decide +kernel
theorem dX11_goRuns_6 : decode cX11_goRuns 6 = .ok (.ldc 163, 2) := by decide +kernel
theorem dX11_goRuns_8 : decode cX11_goRuns 8 = .ok (.putfield 164, 3) := by decide +kernel
theorem dX11_goRuns_11 : decode cX11_goRuns 11 = .ok (.aload_n 0, 1) := by decide +kernel
theorem dX11_goRuns_12 : decode cX11_goRuns 12 = .ok (.iconst 0, 1) := by decide +kernel
theorem dX11_goRuns_13 : decode cX11_goRuns 13 = .ok (.putfield 167, 3) := by decide +kernel
theorem dX11_goRuns_16 : decode cX11_goRuns 16 = .ok (.aload_n 0, 1) := by decide +kernel
theorem dX11_goRuns_17 : decode cX11_goRuns 17 = .ok (.iload_n 1, 1) := by decide +kernel
theorem dX11_goRuns_18 : decode cX11_goRuns 18 = .ok (.bipush (-9), 2) := by decide +kernel
theorem dX11_goRuns_20 : decode cX11_goRuns 20 = .ok (.if_icmp .eq 14, 3) := by decide +kernel
theorem dX11_goRuns_23 : decode cX11_goRuns 23 = .ok (.aload_n 0, 1) := by decide +kernel
theorem dX11_goRuns_24 : decode cX11_goRuns 24 = .ok (.getfield 13, 3) := by decide +kernel
theorem dX11_goRuns_27 : decode cX11_goRuns 27 = .ok (.iload_n 1, 1) := by decide +kernel
theorem dX11_goRuns_28 : decode cX11_goRuns 28 = .ok (.iaload, 1) := by decide +kernel
theorem dX11_goRuns_29 : decode cX11_goRuns 29 = .ok (.bipush 6, 2) := by decide +kernel
theorem dX11_goRuns_31 : decode cX11_goRuns 31 = .ok (.if_icmp .ne 7, 3) := by decide +kernel
theorem dX11_goRuns_34 : decode cX11_goRuns 34 = .ok (.iconst 0, 1) := by decide +kernel
theorem dX11_goRuns_35 : decode cX11_goRuns 35 = .ok (.goto 11, 3) := by decide +kernel
theorem dX11_goRuns_38 : decode cX11_goRuns 38 = .ok (.iconst 1, 1) := by decide +kernel
theorem dX11_goRuns_39 : decode cX11_goRuns 39 = .ok (.aload_n 0, 1) := by decide +kernel
theorem dX11_goRuns_40 : decode cX11_goRuns 40 = .ok (.getfield 13, 3) := by decide +kernel
theorem dX11_goRuns_43 : decode cX11_goRuns 43 = .ok (.iload_n 1, 1) := by decide +kernel
theorem dX11_goRuns_44 : decode cX11_goRuns 44 = .ok (.iaload, 1) := by decide +kernel
theorem dX11_goRuns_45 : decode cX11_goRuns 45 = .ok (.ishl, 1) := by decide +kernel
theorem dX11_goRuns_46 : decode cX11_goRuns 46 = .ok (.putfield 170, 3) := by decide +kernel
theorem dX11_goRuns_49 : decode cX11_goRuns 49 = .ok (.iconst 0, 1) := by decide +kernel
theorem dX11_goRuns_50 : decode cX11_goRuns 50 = .ok (.istore_n 2, 1) := by decide +kernel
theorem dX11_goRuns_51 : decode cX11_goRuns 51 = .ok (.aload_n 0, 1) := by decide +kernel
theorem dX11_goRuns_52 : decode cX11_goRuns 52 = .ok (.getfield 50, 3) := by decide +kernel
theorem dX11_goRuns_55 : decode cX11_goRuns 55 = .ok (.iconst 0, 1) := by decide +kernel
theorem dX11_goRuns_56 : decode cX11_goRuns 56 = .ok (.bipush (-9), 2) := by decide +kernel
theorem dX11_goRuns_58 : decode cX11_goRuns 58 = .ok (.iastore, 1) := by decide +kernel
theorem dX11_goRuns_59 : decode cX11_goRuns 59 = .ok (.iload_n 2, 1) := by decide +kernel
theorem dX11_goRuns_60 : decode cX11_goRuns 60 = .ok (.ifCond .lt 148, 3) := by decide +kernel
theorem dX11_goRuns_63 : decode cX11_goRuns 63 = .ok (.aload_n 0, 1) := by decide +kernel
theorem dX11_goRuns_64 : decode cX11_goRuns 64 = .ok (.getfield 50, 3) := by decide +kernel
theorem dX11_goRuns_67 : decode cX11_goRuns 67 = .ok (.iload_n 2, 1) := by decide +kernel
theorem dX11_goRuns_68 : decode cX11_goRuns 68 = .ok (.iaload, 1) := by decide +kernel
theorem dX11_goRuns_69 : decode cX11_goRuns 69 = .ok (.bipush (-9), 2) := by decide +kernel
theorem dX11_goRuns_71 : decode cX11_goRuns 71 = .ok (.if_icmp .ne 7, 3) := by decide +kernel
theorem dX11_goRuns_74 : decode cX11_goRuns 74 = .ok (.iconst 1, 1) := by decide +kernel
theorem dX11_goRuns_75 : decode cX11_goRuns 75 = .ok (.goto 4, 3) := by decide +kernel
theorem dX11_goRuns_78 : decode cX11_goRuns 78 = .ok (.iconst 0, 1) := by decide +kernel
theorem dX11_goRuns_79 : decode cX11_goRuns 79 = .ok (.istore_n 3, 1) := by decide +kernel
theorem dX11_goRuns_80 : decode cX11_goRuns 80 = .ok (.aload_n 0, 1) := by decide +kernel
theorem dX11_goRuns_81 : decode cX11_goRuns 81 = .ok (.iload_n 2, 1) := by decide +kernel
theorem dX11_goRuns_82 : decode cX11_goRuns 82 = .ok (.invokevirtual 173, 3) := by decide +kernel
theorem dX11_goRuns_85 : decode cX11_goRuns 85 = .ok (.ifCond .eq 63, 3) := by decide +kernel
theorem dX11_goRuns_88 : decode cX11_goRuns 88 = .ok (.iinc 2 1, 3) := by decide +kernel
theorem dX11_goRuns_91 : decode cX11_goRuns 91 = .ok (.aload_n 0, 1) := by decide +kernel
theorem dX11_goRuns_92 : decode cX11_goRuns 92 = .ok (.getfield 50, 3) := by decide +kernel
theorem dX11_goRuns_95 : decode cX11_goRuns 95 = .ok (.iload_n 2, 1) := by decide +kernel
theorem dX11_goRuns_96 : decode cX11_goRuns 96 = .ok (.bipush (-9), 2) := by decide +kernel
theorem dX11_goRuns_98 : decode cX11_goRuns 98 = .ok (.iastore, 1) := by decide +kernel
theorem dX11_goRuns_99 : decode cX11_goRuns 99 = .ok (.aload_n 0, 1) := by decide +kernel
theorem dX11_goRuns_100 : decode cX11_goRuns 100 = .ok (.dup, 1) := by decide +kernel
theorem dX11_goRuns_101 : decode cX11_goRuns 101 = .ok (.getfield 170, 3) := by decide +kernel
theorem dX11_goRuns_104 : decode cX11_goRuns 104 = .ok (.iload_n 1, 1) := by decide +kernel
theorem dX11_goRuns_105 : decode cX11_goRuns 105 = .ok (.bipush (-9), 2) := by decide +kernel
theorem dX11_goRuns_107 : decode cX11_goRuns 107 = .ok (.if_icmp .eq 18, 3) := by decide +kernel
theorem dX11_goRuns_110 : decode cX11_goRuns 110 = .ok (.aload_n 0, 1) := by decide +kernel
theorem dX11_goRuns_111 : decode cX11_goRuns 111 = .ok (.getfield 13, 3) := by decide +kernel
theorem dX11_goRuns_114 : decode cX11_goRuns 114 = .ok (.iconst 4, 1) := by decide +kernel
theorem dX11_goRuns_115 : decode cX11_goRuns 115 = .ok (.iload_n 2, 1) := by decide +kernel
theorem dX11_goRuns_116 : decode cX11_goRuns 116 = .ok (.imul, 1) := by decide +kernel
theorem dX11_goRuns_117 : decode cX11_goRuns 117 = .ok (.iload_n 1, 1) := by decide +kernel
theorem dX11_goRuns_118 : decode cX11_goRuns 118 = .ok (.iadd, 1) := by decide +kernel
theorem dX11_goRuns_119 : decode cX11_goRuns 119 = .ok (.iaload, 1) := by decide +kernel
theorem dX11_goRuns_120 : decode cX11_goRuns 120 = .ok (.bipush 6, 2) := by decide +kernel
theorem dX11_goRuns_122 : decode cX11_goRuns 122 = .ok (.if_icmp .ne 7, 3) := by decide +kernel
theorem dX11_goRuns_125 : decode cX11_goRuns 125 = .ok (.iconst 0, 1) := by decide +kernel
theorem dX11_goRuns_126 : decode cX11_goRuns 126 = .ok (.goto 15, 3) := by decide +kernel
theorem dX11_goRuns_129 : decode cX11_goRuns 129 = .ok (.iconst 1, 1) := by decide +kernel
theorem dX11_goRuns_130 : decode cX11_goRuns 130 = .ok (.aload_n 0, 1) := by decide +kernel
theorem dX11_goRuns_131 : decode cX11_goRuns 131 = .ok (.getfield 13, 3) := by decide +kernel
theorem dX11_goRuns_134 : decode cX11_goRuns 134 = .ok (.iconst 4, 1) := by decide +kernel
theorem dX11_goRuns_135 : decode cX11_goRuns 135 = .ok (.iload_n 2, 1) := by decide +kernel
theorem dX11_goRuns_136 : decode cX11_goRuns 136 = .ok (.imul, 1) := by decide +kernel
theorem dX11_goRuns_137 : decode cX11_goRuns 137 = .ok (.iload_n 1, 1) := by decide +kernel
theorem dX11_goRuns_138 : decode cX11_goRuns 138 = .ok (.iadd, 1) := by decide +kernel
theorem dX11_goRuns_139 : decode cX11_goRuns 139 = .ok (.iaload, 1) := by decide +kernel
theorem dX11_goRuns_140 : decode cX11_goRuns 140 = .ok (.ishl, 1) := by decide +kernel
theorem dX11_goRuns_141 : decode cX11_goRuns 141 = .ok (.ior, 1) := by decide +kernel
theorem dX11_goRuns_142 : decode cX11_goRuns 142 = .ok (.putfield 170, 3) := by decide +kernel
theorem dX11_goRuns_145 : decode cX11_goRuns 145 = .ok (.goto 60, 3) := by decide +kernel
theorem dX11_goRuns_148 : decode cX11_goRuns 148 = .ok (.iload_n 3, 1) := by decide +kernel
theorem dX11_goRuns_149 : decode cX11_goRuns 149 = .ok (.ifCond .eq 53, 3) := by decide +kernel
theorem dX11_goRuns_152 : decode cX11_goRuns 152 = .ok (.aload_n 0, 1) := by decide +kernel
theorem dX11_goRuns_153 : decode cX11_goRuns 153 = .ok (.dup, 1) := by decide +kernel
theorem dX11_goRuns_154 : decode cX11_goRuns 154 = .ok (.getfield 167, 3) := by decide +kernel
theorem dX11_goRuns_157 : decode cX11_goRuns 157 = .ok (.iconst 1, 1) := by decide +kernel
theorem dX11_goRuns_158 : decode cX11_goRuns 158 = .ok (.iadd, 1) := by decide +kernel
theorem dX11_goRuns_159 : decode cX11_goRuns 159 = .ok (.putfield 167, 3) := by decide +kernel
theorem dX11_goRuns_162 : decode cX11_goRuns 162 = .ok (.aload_n 0, 1) := by decide +kernel
theorem dX11_goRuns_163 : decode cX11_goRuns 163 = .ok (.iload_n 2, 1) := by decide +kernel
theorem dX11_goRuns_164 : decode cX11_goRuns 164 = .ok (.aload_n 0, 1) := by decide +kernel
theorem dX11_goRuns_165 : decode cX11_goRuns 165 = .ok (.getfield 160, 3) := by decide +kernel
theorem dX11_goRuns_168 : decode cX11_goRuns 168 = .ok (.if_icmp .le 7, 3) := by decide +kernel
theorem dX11_goRuns_171 : decode cX11_goRuns 171 = .ok (.iload_n 2, 1) := by decide +kernel
theorem dX11_goRuns_172 : decode cX11_goRuns 172 = .ok (.goto 7, 3) := by decide +kernel
theorem dX11_goRuns_175 : decode cX11_goRuns 175 = .ok (.aload_n 0, 1) := by decide +kernel
theorem dX11_goRuns_176 : decode cX11_goRuns 176 = .ok (.getfield 160, 3) := by decide +kernel
theorem dX11_goRuns_179 : decode cX11_goRuns 179 = .ok (.putfield 160, 3) := by decide +kernel
theorem dX11_goRuns_182 : decode cX11_goRuns 182 = .ok (.aload_n 0, 1) := by decide +kernel
theorem dX11_goRuns_183 : decode cX11_goRuns 183 = .ok (.iload_n 2, 1) := by decide +kernel
theorem dX11_goRuns_184 : decode cX11_goRuns 184 = .ok (.aload_n 0, 1) := by decide +kernel
theorem dX11_goRuns_185 : decode cX11_goRuns 185 = .ok (.getfield 164, 3) := by decide +kernel
theorem dX11_goRuns_188 : decode cX11_goRuns 188 = .ok (.if_icmp .ge 7, 3) := by decide +kernel
theorem dX11_goRuns_191 : decode cX11_goRuns 191 = .ok (.iload_n 2, 1) := by decide +kernel
theorem dX11_goRuns_192 : decode cX11_goRuns 192 = .ok (.goto 7, 3) := by decide +kernel
theorem dX11_goRuns_195 : decode cX11_goRuns 195 = .ok (.aload_n 0, 1) := by decide +kernel
theorem dX11_goRuns_196 : decode cX11_goRuns 196 = .ok (.getfield 164, 3) := by decide +kernel
theorem dX11_goRuns_199 : decode cX11_goRuns 199 = .ok (.putfield 164, 3) := by decide +kernel
theorem dX11_goRuns_202 : decode cX11_goRuns 202 = .ok (.iinc 2 (-1), 3) := by decide +kernel
theorem dX11_goRuns_205 : decode cX11_goRuns 205 = .ok (.goto (-146), 3) := by decide +kernel
theorem dX11_goRuns_208 : decode cX11_goRuns 208 = .ok (.return_, 1) := by decide +kernel
theorem dX11_longest_0 : decode cX11_longest 0 = .ok (.aload_n 0, 1) := by decide +kernel
theorem dX11_longest_1 : decode cX11_longest 1 = .ok (.iconst 0, 1) := by decide +kernel
theorem dX11_longest_2 : decode cX11_longest 2 = .ok (.putfield 71, 3) := by decide +kernel
theorem dX11_longest_5 : decode cX11_longest 5 = .ok (.aload_n 0, 1) := by decide +kernel
theorem dX11_longest_6 : decode cX11_longest 6 = .ok (.bipush (-9), 2) := by decide +kernel
theorem dX11_longest_8 : decode cX11_longest 8 = .ok (.invokevirtual 176, 3) := by decide +kernel
theorem dX11_longest_11 : decode cX11_longest 11 = .ok (.aload_n 0, 1) := by decide +kernel
theorem dX11_longest_12 : decode cX11_longest 12 = .ok (.getfield 160, 3) := by decide +kernel
theorem dX11_longest_15 : decode cX11_longest 15 = .ok (.ireturn, 1) := by decide +kernel
theorem dX11_shortest_0 : decode cX11_shortest 0 = .ok (.aload_n 0, 1) := by decide +kernel
theorem dX11_shortest_1 : decode cX11_shortest 1 = .ok (.iconst 0, 1) := by decide +kernel
theorem dX11_shortest_2 : decode cX11_shortest 2 = .ok (.putfield 71, 3) := by decide +kernel
theorem dX11_shortest_5 : decode cX11_shortest 5 = .ok (.aload_n 0, 1) := by decide +kernel
theorem dX11_shortest_6 : decode cX11_shortest 6 = .ok (.bipush (-9), 2) := by decide +kernel
theorem dX11_shortest_8 : decode cX11_shortest 8 = .ok (.invokevirtual 176, 3) := by decide +kernel
theorem dX11_shortest_11 : decode cX11_shortest 11 = .ok (.aload_n 0, 1) := by decide +kernel
theorem dX11_shortest_12 : decode cX11_shortest 12 = .ok (.getfield 164, 3) := by decide +kernel
theorem dX11_shortest_15 : decode cX11_shortest 15 = .ok (.ireturn, 1) := by decide +kernel
theorem dX11_runs_0 : decode cX11_runs 0 = .ok (.aload_n 0, 1) := by decide +kernel
theorem dX11_runs_1 : decode cX11_runs 1 = .ok (.iconst 0, 1) := by decide +kernel
theorem dX11_runs_2 : decode cX11_runs 2 = .ok (.putfield 71, 3) := by decide +kernel
theorem dX11_runs_5 : decode cX11_runs 5 = .ok (.aload_n 0, 1) := by decide +kernel
theorem dX11_runs_6 : decode cX11_runs 6 = .ok (.bipush (-9), 2) := by decide +kernel
theorem dX11_runs_8 : decode cX11_runs 8 = .ok (.invokevirtual 176, 3) := by decide +kernel
theorem dX11_runs_11 : decode cX11_runs 11 = .ok (.aload_n 0, 1) := by decide +kernel
theorem dX11_runs_12 : decode cX11_runs 12 = .ok (.getfield 167, 3) := by decide +kernel
theorem dX11_runs_15 : decode cX11_runs 15 = .ok (.ireturn, 1) := by decide +kernel
theorem dX11_want_0 : decode cX11_want 0 = .ok (.aload_n 0, 1) := by decide +kernel
theorem dX11_want_1 : decode cX11_want 1 = .ok (.iconst 0, 1) := by decide +kernel
theorem dX11_want_2 : decode cX11_want 2 = .ok (.putfield 71, 3) := by decide +kernel
theorem dX11_want_5 : decode cX11_want 5 = .ok (.aload_n 0, 1) := by decide +kernel
theorem dX11_want_6 : decode cX11_want 6 = .ok (.iload_n 1, 1) := by decide +kernel
theorem dX11_want_7 : decode cX11_want 7 = .ok (.invokevirtual 135, 3) := by decide +kernel
theorem dX11_want_10 : decode cX11_want 10 = .ok (.ifCond .ne 16, 3) := by decide +kernel
theorem dX11_want_13 : decode cX11_want 13 = .ok (.iload_n 2, 1) := by decide +kernel
theorem dX11_want_14 : decode cX11_want 14 = .ok (.bipush (-9), 2) := by decide +kernel
theorem dX11_want_16 : decode cX11_want 16 = .ok (.if_icmp .eq 12, 3) := by decide +kernel
theorem dX11_want_19 : decode cX11_want 19 = .ok (.iload_n 2, 1) := by decide +kernel
theorem dX11_want_20 : decode cX11_want 20 = .ok (.invokestatic 138, 3) := by decide +kernel
theorem dX11_want_23 : decode cX11_want 23 = .ok (.ifCond .eq 5, 3) := by decide +kernel
theorem dX11_want_26 : decode cX11_want 26 = .ok (.iconst (-1), 1) := by decide +kernel
theorem dX11_want_27 : decode cX11_want 27 = .ok (.ireturn, 1) := by decide +kernel
theorem dX11_want_28 : decode cX11_want 28 = .ok (.aload_n 0, 1) := by decide +kernel
theorem dX11_want_29 : decode cX11_want 29 = .ok (.getfield 22, 3) := by decide +kernel
theorem dX11_want_32 : decode cX11_want 32 = .ok (.iload_n 1, 1) := by decide +kernel
theorem dX11_want_33 : decode cX11_want 33 = .ok (.iaload, 1) := by decide +kernel
theorem dX11_want_34 : decode cX11_want 34 = .ok (.istore_n 3, 1) := by decide +kernel
theorem dX11_want_35 : decode cX11_want 35 = .ok (.aload_n 0, 1) := by decide +kernel
theorem dX11_want_36 : decode cX11_want 36 = .ok (.getfield 22, 3) := by decide +kernel
theorem dX11_want_39 : decode cX11_want 39 = .ok (.iload_n 1, 1) := by decide +kernel
theorem dX11_want_40 : decode cX11_want 40 = .ok (.iload_n 2, 1) := by decide +kernel
theorem dX11_want_41 : decode cX11_want 41 = .ok (.iastore, 1) := by decide +kernel
theorem dX11_want_42 : decode cX11_want 42 = .ok (.iload_n 3, 1) := by decide +kernel
theorem dX11_want_43 : decode cX11_want 43 = .ok (.ireturn, 1) := by decide +kernel
theorem dX11_areHad_0 : decode cX11_areHad 0 = .ok (.iconst 1, 1) := by decide +kernel
theorem dX11_areHad_1 : decode cX11_areHad 1 = .ok (.istore_n 2, 1) := by decide +kernel
theorem dX11_areHad_2 : decode cX11_areHad 2 = .ok (.iconst 0, 1) := by decide +kernel
theorem dX11_areHad_3 : decode cX11_areHad 3 = .ok (.istore_n 3, 1) := by decide +kernel
theorem dX11_areHad_4 : decode cX11_areHad 4 = .ok (.iload_n 3, 1) := by decide +kernel
theorem dX11_areHad_5 : decode cX11_areHad 5 = .ok (.aload_n 0, 1) := by decide +kernel
theorem dX11_areHad_6 : decode cX11_areHad 6 = .ok (.getfield 75, 3) := by decide +kernel
theorem dX11_areHad_9 : decode cX11_areHad 9 = .ok (.if_icmp .ge 49, 3) := by decide +kernel
theorem dX11_areHad_12 : decode cX11_areHad 12 = .ok (.iload_n 2, 1) := by decide +kernel
theorem dX11_areHad_13 : decode cX11_areHad 13 = .ok (.ifCond .eq 37, 3) := by decide +kernel
theorem dX11_areHad_16 : decode cX11_areHad 16 = .ok (.aload_n 0, 1) := by decide +kernel
theorem dX11_areHad_17 : decode cX11_areHad 17 = .ok (.getfield 22, 3) := by decide +kernel
theorem dX11_areHad_20 : decode cX11_areHad 20 = .ok (.iload_n 3, 1) := by decide +kernel
theorem dX11_areHad_21 : decode cX11_areHad 21 = .ok (.iaload, 1) := by decide +kernel
theorem dX11_areHad_22 : decode cX11_areHad 22 = .ok (.bipush (-9), 2) := by decide +kernel
theorem dX11_areHad_24 : decode cX11_areHad 24 = .ok (.if_icmp .eq 22, 3) := by decide +kernel
theorem dX11_areHad_27 : decode cX11_areHad 27 = .ok (.aload_n 0, 1) := by decide +kernel
theorem dX11_areHad_28 : decode cX11_areHad 28 = .ok (.getfield 13, 3) := by decide +kernel
theorem dX11_areHad_31 : decode cX11_areHad 31 = .ok (.iconst 4, 1) := by decide +kernel
theorem dX11_areHad_32 : decode cX11_areHad 32 = .ok (.iload_n 1, 1) := by decide +kernel
theorem dX11_areHad_33 : decode cX11_areHad 33 = .ok (.imul, 1) := by decide +kernel
theorem dX11_areHad_34 : decode cX11_areHad 34 = .ok (.iload_n 3, 1) := by decide +kernel
theorem dX11_areHad_35 : decode cX11_areHad 35 = .ok (.iadd, 1) := by decide +kernel
theorem dX11_areHad_36 : decode cX11_areHad 36 = .ok (.iaload, 1) := by decide +kernel
theorem dX11_areHad_37 : decode cX11_areHad 37 = .ok (.aload_n 0, 1) := by decide +kernel
theorem dX11_areHad_38 : decode cX11_areHad 38 = .ok (.getfield 22, 3) := by decide +kernel
theorem dX11_areHad_41 : decode cX11_areHad 41 = .ok (.iload_n 3, 1) := by decide +kernel
theorem dX11_areHad_42 : decode cX11_areHad 42 = .ok (.iaload, 1) := by decide +kernel
theorem dX11_areHad_43 : decode cX11_areHad 43 = .ok (.if_icmp .ne 7, 3) := by decide +kernel
theorem dX11_areHad_46 : decode cX11_areHad 46 = .ok (.iconst 1, 1) := by decide +kernel
theorem dX11_areHad_47 : decode cX11_areHad 47 = .ok (.goto 4, 3) := by decide +kernel
theorem dX11_areHad_50 : decode cX11_areHad 50 = .ok (.iconst 0, 1) := by decide +kernel
theorem dX11_areHad_51 : decode cX11_areHad 51 = .ok (.istore_n 2, 1) := by decide +kernel
theorem dX11_areHad_52 : decode cX11_areHad 52 = .ok (.iinc 3 1, 3) := by decide +kernel
theorem dX11_areHad_55 : decode cX11_areHad 55 = .ok (.goto (-51), 3) := by decide +kernel
theorem dX11_areHad_58 : decode cX11_areHad 58 = .ok (.iload_n 2, 1) := by decide +kernel
theorem dX11_areHad_59 : decode cX11_areHad 59 = .ok (.ireturn, 1) := by decide +kernel
theorem dX11_findPlan_0 : decode cX11_findPlan 0 = .ok (.iconst 0, 1) := by decide +kernel
theorem dX11_findPlan_1 : decode cX11_findPlan 1 = .ok (.istore_n 2, 1) := by decide +kernel
theorem dX11_findPlan_2 : decode cX11_findPlan 2 = .ok (.aload_n 0, 1) := by decide +kernel
theorem dX11_findPlan_3 : decode cX11_findPlan 3 = .ok (.getfield 50, 3) := by decide +kernel
theorem dX11_findPlan_6 : decode cX11_findPlan 6 = .ok (.iconst 0, 1) := by decide +kernel
theorem dX11_findPlan_7 : decode cX11_findPlan 7 = .ok (.bipush (-9), 2) := by decide +kernel
theorem dX11_findPlan_9 : decode cX11_findPlan 9 = .ok (.iastore, 1) := by decide +kernel
theorem dX11_findPlan_10 : decode cX11_findPlan 10 = .ok (.iload_n 2, 1) := by decide +kernel
theorem dX11_findPlan_11 : decode cX11_findPlan 11 = .ok (.ifCond .lt 76, 3) := by decide +kernel
theorem dX11_findPlan_14 : decode cX11_findPlan 14 = .ok (.iload_n 2, 1) := by decide +kernel
theorem dX11_findPlan_15 : decode cX11_findPlan 15 = .ok (.iload_n 1, 1) := by decide +kernel
theorem dX11_findPlan_16 : decode cX11_findPlan 16 = .ok (.if_icmp .ne 38, 3) := by decide +kernel
theorem dX11_findPlan_19 : decode cX11_findPlan 19 = .ok (.aload_n 0, 1) := by decide +kernel
theorem dX11_findPlan_20 : decode cX11_findPlan 20 = .ok (.iload_n 2, 1) := by decide +kernel
theorem dX11_findPlan_21 : decode cX11_findPlan 21 = .ok (.invokevirtual 180, 3) := by decide +kernel
theorem dX11_findPlan_24 : decode cX11_findPlan 24 = .ok (.ifCond .eq 30, 3) := by decide +kernel
theorem dX11_findPlan_27 : decode cX11_findPlan 27 = .ok (.iconst 0, 1) := by decide +kernel
theorem dX11_findPlan_28 : decode cX11_findPlan 28 = .ok (.istore_n 3, 1) := by decide +kernel
theorem dX11_findPlan_29 : decode cX11_findPlan 29 = .ok (.iload_n 3, 1) := by decide +kernel
theorem dX11_findPlan_30 : decode cX11_findPlan 30 = .ok (.iload_n 1, 1) := by decide +kernel
theorem dX11_findPlan_31 : decode cX11_findPlan 31 = .ok (.if_icmp .ge 21, 3) := by decide +kernel
theorem dX11_findPlan_34 : decode cX11_findPlan 34 = .ok (.aload_n 0, 1) := by decide +kernel
theorem dX11_findPlan_35 : decode cX11_findPlan 35 = .ok (.getfield 53, 3) := by decide +kernel
theorem dX11_findPlan_38 : decode cX11_findPlan 38 = .ok (.iload_n 3, 1) := by decide +kernel
theorem dX11_findPlan_39 : decode cX11_findPlan 39 = .ok (.aload_n 0, 1) := by decide +kernel
theorem dX11_findPlan_40 : decode cX11_findPlan 40 = .ok (.getfield 50, 3) := by decide +kernel
theorem dX11_findPlan_43 : decode cX11_findPlan 43 = .ok (.iload_n 3, 1) := by decide +kernel
theorem dX11_findPlan_44 : decode cX11_findPlan 44 = .ok (.iaload, 1) := by decide +kernel
theorem dX11_findPlan_45 : decode cX11_findPlan 45 = .ok (.iastore, 1) := by decide +kernel
theorem dX11_findPlan_46 : decode cX11_findPlan 46 = .ok (.iinc 3 1, 3) := by decide +kernel
theorem dX11_findPlan_49 : decode cX11_findPlan 49 = .ok (.goto (-20), 3) := by decide +kernel
theorem dX11_findPlan_52 : decode cX11_findPlan 52 = .ok (.iconst 1, 1) := by decide +kernel
theorem dX11_findPlan_53 : decode cX11_findPlan 53 = .ok (.ireturn, 1) := by decide +kernel
theorem dX11_findPlan_54 : decode cX11_findPlan 54 = .ok (.iload_n 2, 1) := by decide +kernel
theorem dX11_findPlan_55 : decode cX11_findPlan 55 = .ok (.iload_n 1, 1) := by decide +kernel
theorem dX11_findPlan_56 : decode cX11_findPlan 56 = .ok (.if_icmp .ge 25, 3) := by decide +kernel
theorem dX11_findPlan_59 : decode cX11_findPlan 59 = .ok (.aload_n 0, 1) := by decide +kernel
theorem dX11_findPlan_60 : decode cX11_findPlan 60 = .ok (.iload_n 2, 1) := by decide +kernel
theorem dX11_findPlan_61 : decode cX11_findPlan 61 = .ok (.invokevirtual 173, 3) := by decide +kernel
theorem dX11_findPlan_64 : decode cX11_findPlan 64 = .ok (.ifCond .eq 17, 3) := by decide +kernel
theorem dX11_findPlan_67 : decode cX11_findPlan 67 = .ok (.iinc 2 1, 3) := by decide +kernel
theorem dX11_findPlan_70 : decode cX11_findPlan 70 = .ok (.aload_n 0, 1) := by decide +kernel
theorem dX11_findPlan_71 : decode cX11_findPlan 71 = .ok (.getfield 50, 3) := by decide +kernel
theorem dX11_findPlan_74 : decode cX11_findPlan 74 = .ok (.iload_n 2, 1) := by decide +kernel
theorem dX11_findPlan_75 : decode cX11_findPlan 75 = .ok (.bipush (-9), 2) := by decide +kernel
theorem dX11_findPlan_77 : decode cX11_findPlan 77 = .ok (.iastore, 1) := by decide +kernel
theorem dX11_findPlan_78 : decode cX11_findPlan 78 = .ok (.goto (-68), 3) := by decide +kernel
theorem dX11_findPlan_81 : decode cX11_findPlan 81 = .ok (.iinc 2 (-1), 3) := by decide +kernel
theorem dX11_findPlan_84 : decode cX11_findPlan 84 = .ok (.goto (-74), 3) := by decide +kernel
theorem dX11_findPlan_87 : decode cX11_findPlan 87 = .ok (.iconst 0, 1) := by decide +kernel
theorem dX11_findPlan_88 : decode cX11_findPlan 88 = .ok (.ireturn, 1) := by decide +kernel
theorem dX11_fewestNow_0 : decode cX11_fewestNow 0 = .ok (.iconst 0, 1) := by decide +kernel
theorem dX11_fewestNow_1 : decode cX11_fewestNow 1 = .ok (.istore_n 1, 1) := by decide +kernel
theorem dX11_fewestNow_2 : decode cX11_fewestNow 2 = .ok (.iload_n 1, 1) := by decide +kernel
theorem dX11_fewestNow_3 : decode cX11_fewestNow 3 = .ok (.bipush 13, 2) := by decide +kernel
theorem dX11_fewestNow_5 : decode cX11_fewestNow 5 = .ok (.if_icmp .ge 19, 3) := by decide +kernel
theorem dX11_fewestNow_8 : decode cX11_fewestNow 8 = .ok (.aload_n 0, 1) := by decide +kernel
theorem dX11_fewestNow_9 : decode cX11_fewestNow 9 = .ok (.iload_n 1, 1) := by decide +kernel
theorem dX11_fewestNow_10 : decode cX11_fewestNow 10 = .ok (.invokevirtual 183, 3) := by decide +kernel
theorem dX11_fewestNow_13 : decode cX11_fewestNow 13 = .ok (.ifCond .eq 5, 3) := by decide +kernel
theorem dX11_fewestNow_16 : decode cX11_fewestNow 16 = .ok (.iload_n 1, 1) := by decide +kernel
theorem dX11_fewestNow_17 : decode cX11_fewestNow 17 = .ok (.ireturn, 1) := by decide +kernel
theorem dX11_fewestNow_18 : decode cX11_fewestNow 18 = .ok (.iinc 1 1, 3) := by decide +kernel
theorem dX11_fewestNow_21 : decode cX11_fewestNow 21 = .ok (.goto (-19), 3) := by decide +kernel
theorem dX11_fewestNow_24 : decode cX11_fewestNow 24 = .ok (.bipush (-9), 2) := by decide +kernel
theorem dX11_fewestNow_26 : decode cX11_fewestNow 26 = .ok (.ireturn, 1) := by decide +kernel
theorem dX11_fewest_0 : decode cX11_fewest 0 = .ok (.aload_n 0, 1) := by decide +kernel
theorem dX11_fewest_1 : decode cX11_fewest 1 = .ok (.iconst 0, 1) := by decide +kernel
theorem dX11_fewest_2 : decode cX11_fewest 2 = .ok (.putfield 71, 3) := by decide +kernel
theorem dX11_fewest_5 : decode cX11_fewest 5 = .ok (.aload_n 0, 1) := by decide +kernel
theorem dX11_fewest_6 : decode cX11_fewest 6 = .ok (.invokevirtual 186, 3) := by decide +kernel
theorem dX11_fewest_9 : decode cX11_fewest 9 = .ok (.ireturn, 1) := by decide +kernel
theorem dX11_plan_0 : decode cX11_plan 0 = .ok (.aload_n 0, 1) := by decide +kernel
theorem dX11_plan_1 : decode cX11_plan 1 = .ok (.iconst 0, 1) := by decide +kernel
theorem dX11_plan_2 : decode cX11_plan 2 = .ok (.putfield 71, 3) := by decide +kernel
theorem dX11_plan_5 : decode cX11_plan 5 = .ok (.aload_n 0, 1) := by decide +kernel
theorem dX11_plan_6 : decode cX11_plan 6 = .ok (.invokevirtual 186, 3) := by decide +kernel
theorem dX11_plan_9 : decode cX11_plan 9 = .ok (.istore_n 2, 1) := by decide +kernel
theorem dX11_plan_10 : decode cX11_plan 10 = .ok (.iload_n 1, 1) := by decide +kernel
theorem dX11_plan_11 : decode cX11_plan 11 = .ok (.i2l, 1) := by decide +kernel
theorem dX11_plan_12 : decode cX11_plan 12 = .ok (.lconst 0, 1) := by decide +kernel
theorem dX11_plan_13 : decode cX11_plan 13 = .ok (.iload_n 2, 1) := by decide +kernel
theorem dX11_plan_14 : decode cX11_plan 14 = .ok (.iconst 1, 1) := by decide +kernel
theorem dX11_plan_15 : decode cX11_plan 15 = .ok (.isub, 1) := by decide +kernel
theorem dX11_plan_16 : decode cX11_plan 16 = .ok (.i2l, 1) := by decide +kernel
theorem dX11_plan_17 : decode cX11_plan 17 = .ok (.invokestatic 78, 3) := by decide +kernel
theorem dX11_plan_20 : decode cX11_plan 20 = .ok (.ifCond .eq 12, 3) := by decide +kernel
theorem dX11_plan_23 : decode cX11_plan 23 = .ok (.aload_n 0, 1) := by decide +kernel
theorem dX11_plan_24 : decode cX11_plan 24 = .ok (.getfield 53, 3) := by decide +kernel
theorem dX11_plan_27 : decode cX11_plan 27 = .ok (.iload_n 1, 1) := by decide +kernel
theorem dX11_plan_28 : decode cX11_plan 28 = .ok (.iaload, 1) := by decide +kernel
theorem dX11_plan_29 : decode cX11_plan 29 = .ok (.goto 5, 3) := by decide +kernel
theorem dX11_plan_32 : decode cX11_plan 32 = .ok (.bipush (-9), 2) := by decide +kernel
theorem dX11_plan_34 : decode cX11_plan 34 = .ok (.ireturn, 1) := by decide +kernel
theorem dX11_mayComeTo_0 : decode cX11_mayComeTo 0 = .ok (.aload_n 0, 1) := by decide +kernel
theorem dX11_mayComeTo_1 : decode cX11_mayComeTo 1 = .ok (.iconst 0, 1) := by decide +kernel
theorem dX11_mayComeTo_2 : decode cX11_mayComeTo 2 = .ok (.putfield 71, 3) := by decide +kernel
theorem dX11_mayComeTo_5 : decode cX11_mayComeTo 5 = .ok (.aload_n 0, 1) := by decide +kernel
theorem dX11_mayComeTo_6 : decode cX11_mayComeTo 6 = .ok (.iload_n 1, 1) := by decide +kernel
theorem dX11_mayComeTo_7 : decode cX11_mayComeTo 7 = .ok (.invokevirtual 135, 3) := by decide +kernel
theorem dX11_mayComeTo_10 : decode cX11_mayComeTo 10 = .ok (.ifCond .eq 5, 3) := by decide +kernel
theorem dX11_mayComeTo_13 : decode cX11_mayComeTo 13 = .ok (.iconst (-1), 1) := by decide +kernel
theorem dX11_mayComeTo_14 : decode cX11_mayComeTo 14 = .ok (.ireturn, 1) := by decide +kernel
theorem dX11_mayComeTo_15 : decode cX11_mayComeTo 15 = .ok (.aload_n 0, 1) := by decide +kernel
theorem dX11_mayComeTo_16 : decode cX11_mayComeTo 16 = .ok (.iload_n 1, 1) := by decide +kernel
theorem dX11_mayComeTo_17 : decode cX11_mayComeTo 17 = .ok (.invokevirtual 176, 3) := by decide +kernel
theorem dX11_mayComeTo_20 : decode cX11_mayComeTo 20 = .ok (.aload_n 0, 1) := by decide +kernel
theorem dX11_mayComeTo_21 : decode cX11_mayComeTo 21 = .ok (.getfield 170, 3) := by decide +kernel
theorem dX11_mayComeTo_24 : decode cX11_mayComeTo 24 = .ok (.ireturn, 1) := by decide +kernel
theorem dX11_begin_0 : decode cX11_begin 0 = .ok (.aload_n 0, 1) := by decide +kernel
theorem dX11_begin_1 : decode cX11_begin 1 = .ok (.iconst 0, 1) := by decide +kernel
theorem dX11_begin_2 : decode cX11_begin 2 = .ok (.putfield 71, 3) := by decide +kernel
theorem dX11_begin_5 : decode cX11_begin 5 = .ok (.aload_n 0, 1) := by decide +kernel
theorem dX11_begin_6 : decode cX11_begin 6 = .ok (.iload_n 1, 1) := by decide +kernel
theorem dX11_begin_7 : decode cX11_begin 7 = .ok (.invokevirtual 135, 3) := by decide +kernel
theorem dX11_begin_10 : decode cX11_begin 10 = .ok (.ifCond .eq 5, 3) := by decide +kernel
theorem dX11_begin_13 : decode cX11_begin 13 = .ok (.iconst (-1), 1) := by decide +kernel
theorem dX11_begin_14 : decode cX11_begin 14 = .ok (.ireturn, 1) := by decide +kernel
theorem dX11_begin_15 : decode cX11_begin 15 = .ok (.aload_n 0, 1) := by decide +kernel
theorem dX11_begin_16 : decode cX11_begin 16 = .ok (.getfield 13, 3) := by decide +kernel
theorem dX11_begin_19 : decode cX11_begin 19 = .ok (.iload_n 1, 1) := by decide +kernel
theorem dX11_begin_20 : decode cX11_begin 20 = .ok (.iaload, 1) := by decide +kernel
theorem dX11_begin_21 : decode cX11_begin 21 = .ok (.bipush 6, 2) := by decide +kernel
theorem dX11_begin_23 : decode cX11_begin 23 = .ok (.if_icmp .ne 6, 3) := by decide +kernel
theorem dX11_begin_26 : decode cX11_begin 26 = .ok (.bipush (-3), 2) := by decide +kernel
theorem dX11_begin_28 : decode cX11_begin 28 = .ok (.ireturn, 1) := by decide +kernel
theorem dX11_begin_29 : decode cX11_begin 29 = .ok (.aload_n 0, 1) := by decide +kernel
theorem dX11_begin_30 : decode cX11_begin 30 = .ok (.getfield 13, 3) := by decide +kernel
theorem dX11_begin_33 : decode cX11_begin 33 = .ok (.iload_n 1, 1) := by decide +kernel
theorem dX11_begin_34 : decode cX11_begin 34 = .ok (.iaload, 1) := by decide +kernel
theorem dX11_begin_35 : decode cX11_begin 35 = .ok (.istore_n 2, 1) := by decide +kernel
theorem dX11_begin_36 : decode cX11_begin 36 = .ok (.aload_n 0, 1) := by decide +kernel
theorem dX11_begin_37 : decode cX11_begin 37 = .ok (.getfield 16, 3) := by decide +kernel
theorem dX11_begin_40 : decode cX11_begin 40 = .ok (.iload_n 1, 1) := by decide +kernel
theorem dX11_begin_41 : decode cX11_begin 41 = .ok (.iaload, 1) := by decide +kernel
theorem dX11_begin_42 : decode cX11_begin 42 = .ok (.istore_n 3, 1) := by decide +kernel
theorem dX11_begin_43 : decode cX11_begin 43 = .ok (.bipush (-9), 2) := by decide +kernel
theorem dX11_begin_45 : decode cX11_begin 45 = .ok (.istore 4, 2) := by decide +kernel
theorem dX11_begin_47 : decode cX11_begin 47 = .ok (.iconst 0, 1) := by decide +kernel
theorem dX11_begin_48 : decode cX11_begin 48 = .ok (.istore 5, 2) := by decide +kernel
theorem dX11_begin_50 : decode cX11_begin 50 = .ok (.iconst 0, 1) := by decide +kernel
theorem dX11_begin_51 : decode cX11_begin 51 = .ok (.istore 6, 2) := by decide +kernel
theorem dX11_begin_53 : decode cX11_begin 53 = .ok (.iload 6, 2) := by decide +kernel
theorem dX11_begin_55 : decode cX11_begin 55 = .ok (.bipush 6, 2) := by decide +kernel
theorem dX11_begin_57 : decode cX11_begin 57 = .ok (.if_icmp .ge 97, 3) := by decide +kernel
theorem dX11_begin_60 : decode cX11_begin 60 = .ok (.aload_n 0, 1) := by decide +kernel
theorem dX11_begin_61 : decode cX11_begin 61 = .ok (.getfield 13, 3) := by decide +kernel
theorem dX11_begin_64 : decode cX11_begin 64 = .ok (.iload_n 1, 1) := by decide +kernel
theorem dX11_begin_65 : decode cX11_begin 65 = .ok (.iload 6, 2) := by decide +kernel
theorem dX11_begin_67 : decode cX11_begin 67 = .ok (.iastore, 1) := by decide +kernel
theorem dX11_begin_68 : decode cX11_begin 68 = .ok (.aload_n 0, 1) := by decide +kernel
theorem dX11_begin_69 : decode cX11_begin 69 = .ok (.getfield 16, 3) := by decide +kernel
theorem dX11_begin_72 : decode cX11_begin 72 = .ok (.iload_n 1, 1) := by decide +kernel
theorem dX11_begin_73 : decode cX11_begin 73 = .ok (.iconst 1, 1) := by decide +kernel
theorem dX11_begin_74 : decode cX11_begin 74 = .ok (.iload 6, 2) := by decide +kernel
theorem dX11_begin_76 : decode cX11_begin 76 = .ok (.ishl, 1) := by decide +kernel
theorem dX11_begin_77 : decode cX11_begin 77 = .ok (.iastore, 1) := by decide +kernel
theorem dX11_begin_78 : decode cX11_begin 78 = .ok (.aload_n 0, 1) := by decide +kernel
theorem dX11_begin_79 : decode cX11_begin 79 = .ok (.iload_n 1, 1) := by decide +kernel
theorem dX11_begin_80 : decode cX11_begin 80 = .ok (.invokevirtual 176, 3) := by decide +kernel
theorem dX11_begin_83 : decode cX11_begin 83 = .ok (.iconst 0, 1) := by decide +kernel
theorem dX11_begin_84 : decode cX11_begin 84 = .ok (.istore 7, 2) := by decide +kernel
theorem dX11_begin_86 : decode cX11_begin 86 = .ok (.iconst 0, 1) := by decide +kernel
theorem dX11_begin_87 : decode cX11_begin 87 = .ok (.istore 8, 2) := by decide +kernel
theorem dX11_begin_89 : decode cX11_begin 89 = .ok (.iload 8, 2) := by decide +kernel
theorem dX11_begin_91 : decode cX11_begin 91 = .ok (.bipush 6, 2) := by decide +kernel
theorem dX11_begin_93 : decode cX11_begin 93 = .ok (.if_icmp .ge 23, 3) := by decide +kernel
theorem dX11_begin_96 : decode cX11_begin 96 = .ok (.iload 7, 2) := by decide +kernel
theorem dX11_begin_98 : decode cX11_begin 98 = .ok (.aload_n 0, 1) := by decide +kernel
theorem dX11_begin_99 : decode cX11_begin 99 = .ok (.getfield 170, 3) := by decide +kernel
theorem dX11_begin_102 : decode cX11_begin 102 = .ok (.iload 8, 2) := by decide +kernel
theorem dX11_begin_104 : decode cX11_begin 104 = .ok (.ishr, 1) := by decide +kernel
theorem dX11_begin_105 : decode cX11_begin 105 = .ok (.iconst 1, 1) := by decide +kernel
theorem dX11_begin_106 : decode cX11_begin 106 = .ok (.iand, 1) := by decide +kernel
theorem dX11_begin_107 : decode cX11_begin 107 = .ok (.iadd, 1) := by decide +kernel
theorem dX11_begin_108 : decode cX11_begin 108 = .ok (.istore 7, 2) := by decide +kernel
theorem dX11_begin_110 : decode cX11_begin 110 = .ok (.iinc 8 1, 3) := by decide +kernel
theorem dX11_begin_113 : decode cX11_begin 113 = .ok (.goto (-24), 3) := by decide +kernel
theorem dX11_begin_116 : decode cX11_begin 116 = .ok (.iload 7, 2) := by decide +kernel
theorem dX11_begin_118 : decode cX11_begin 118 = .ok (.iload 5, 2) := by decide +kernel
theorem dX11_begin_120 : decode cX11_begin 120 = .ok (.if_icmp .le 8, 3) := by decide +kernel
theorem dX11_begin_123 : decode cX11_begin 123 = .ok (.iload 6, 2) := by decide +kernel
theorem dX11_begin_125 : decode cX11_begin 125 = .ok (.goto 5, 3) := by decide +kernel
theorem dX11_begin_128 : decode cX11_begin 128 = .ok (.iload 4, 2) := by decide +kernel
theorem dX11_begin_130 : decode cX11_begin 130 = .ok (.istore 4, 2) := by decide +kernel
theorem dX11_begin_132 : decode cX11_begin 132 = .ok (.iload 7, 2) := by decide +kernel
theorem dX11_begin_134 : decode cX11_begin 134 = .ok (.iload 5, 2) := by decide +kernel
theorem dX11_begin_136 : decode cX11_begin 136 = .ok (.if_icmp .le 8, 3) := by decide +kernel
theorem dX11_begin_139 : decode cX11_begin 139 = .ok (.iload 7, 2) := by decide +kernel
theorem dX11_begin_141 : decode cX11_begin 141 = .ok (.goto 5, 3) := by decide +kernel
theorem dX11_begin_144 : decode cX11_begin 144 = .ok (.iload 5, 2) := by decide +kernel
theorem dX11_begin_146 : decode cX11_begin 146 = .ok (.istore 5, 2) := by decide +kernel
theorem dX11_begin_148 : decode cX11_begin 148 = .ok (.iinc 6 1, 3) := by decide +kernel
theorem dX11_begin_151 : decode cX11_begin 151 = .ok (.goto (-98), 3) := by decide +kernel
theorem dX11_begin_154 : decode cX11_begin 154 = .ok (.aload_n 0, 1) := by decide +kernel
theorem dX11_begin_155 : decode cX11_begin 155 = .ok (.getfield 13, 3) := by decide +kernel
theorem dX11_begin_158 : decode cX11_begin 158 = .ok (.iload_n 1, 1) := by decide +kernel
theorem dX11_begin_159 : decode cX11_begin 159 = .ok (.iload_n 2, 1) := by decide +kernel
theorem dX11_begin_160 : decode cX11_begin 160 = .ok (.iastore, 1) := by decide +kernel
theorem dX11_begin_161 : decode cX11_begin 161 = .ok (.aload_n 0, 1) := by decide +kernel
theorem dX11_begin_162 : decode cX11_begin 162 = .ok (.getfield 16, 3) := by decide +kernel
theorem dX11_begin_165 : decode cX11_begin 165 = .ok (.iload_n 1, 1) := by decide +kernel
theorem dX11_begin_166 : decode cX11_begin 166 = .ok (.iload_n 3, 1) := by decide +kernel
theorem dX11_begin_167 : decode cX11_begin 167 = .ok (.iastore, 1) := by decide +kernel
theorem dX11_begin_168 : decode cX11_begin 168 = .ok (.iload 4, 2) := by decide +kernel
theorem dX11_begin_170 : decode cX11_begin 170 = .ok (.ireturn, 1) := by decide +kernel
theorem dX11_moreBy_0 : decode cX11_moreBy 0 = .ok (.iconst 0, 1) := by decide +kernel
theorem dX11_moreBy_1 : decode cX11_moreBy 1 = .ok (.istore_n 1, 1) := by decide +kernel
theorem dX11_moreBy_2 : decode cX11_moreBy 2 = .ok (.iconst 0, 1) := by decide +kernel
theorem dX11_moreBy_3 : decode cX11_moreBy 3 = .ok (.istore_n 2, 1) := by decide +kernel
theorem dX11_moreBy_4 : decode cX11_moreBy 4 = .ok (.iconst 0, 1) := by decide +kernel
theorem dX11_moreBy_5 : decode cX11_moreBy 5 = .ok (.istore_n 3, 1) := by decide +kernel
theorem dX11_moreBy_6 : decode cX11_moreBy 6 = .ok (.iload_n 3, 1) := by decide +kernel
theorem dX11_moreBy_7 : decode cX11_moreBy 7 = .ok (.aload_n 0, 1) := by decide +kernel
theorem dX11_moreBy_8 : decode cX11_moreBy 8 = .ok (.getfield 75, 3) := by decide +kernel
theorem dX11_moreBy_11 : decode cX11_moreBy 11 = .ok (.if_icmp .ge 125, 3) := by decide +kernel
theorem dX11_moreBy_14 : decode cX11_moreBy 14 = .ok (.aload_n 0, 1) := by decide +kernel
theorem dX11_moreBy_15 : decode cX11_moreBy 15 = .ok (.getfield 56, 3) := by decide +kernel
theorem dX11_moreBy_18 : decode cX11_moreBy 18 = .ok (.iload_n 3, 1) := by decide +kernel
theorem dX11_moreBy_19 : decode cX11_moreBy 19 = .ok (.iaload, 1) := by decide +kernel
theorem dX11_moreBy_20 : decode cX11_moreBy 20 = .ok (.istore 4, 2) := by decide +kernel
theorem dX11_moreBy_22 : decode cX11_moreBy 22 = .ok (.iload_n 2, 1) := by decide +kernel
theorem dX11_moreBy_23 : decode cX11_moreBy 23 = .ok (.iload 4, 2) := by decide +kernel
theorem dX11_moreBy_25 : decode cX11_moreBy 25 = .ok (.invokestatic 107, 3) := by decide +kernel
theorem dX11_moreBy_28 : decode cX11_moreBy 28 = .ok (.ifCond .eq 6, 3) := by decide +kernel
theorem dX11_moreBy_31 : decode cX11_moreBy 31 = .ok (.bipush (-9), 2) := by decide +kernel
theorem dX11_moreBy_33 : decode cX11_moreBy 33 = .ok (.ireturn, 1) := by decide +kernel
theorem dX11_moreBy_34 : decode cX11_moreBy 34 = .ok (.iload_n 2, 1) := by decide +kernel
theorem dX11_moreBy_35 : decode cX11_moreBy 35 = .ok (.iconst 1, 1) := by decide +kernel
theorem dX11_moreBy_36 : decode cX11_moreBy 36 = .ok (.iload 4, 2) := by decide +kernel
theorem dX11_moreBy_38 : decode cX11_moreBy 38 = .ok (.ishl, 1) := by decide +kernel
theorem dX11_moreBy_39 : decode cX11_moreBy 39 = .ok (.ior, 1) := by decide +kernel
theorem dX11_moreBy_40 : decode cX11_moreBy 40 = .ok (.istore_n 2, 1) := by decide +kernel
theorem dX11_moreBy_41 : decode cX11_moreBy 41 = .ok (.iload 4, 2) := by decide +kernel
theorem dX11_moreBy_43 : decode cX11_moreBy 43 = .ok (.iload_n 3, 1) := by decide +kernel
theorem dX11_moreBy_44 : decode cX11_moreBy 44 = .ok (.if_icmp .eq 86, 3) := by decide +kernel
theorem dX11_moreBy_47 : decode cX11_moreBy 47 = .ok (.aload_n 0, 1) := by decide +kernel
theorem dX11_moreBy_48 : decode cX11_moreBy 48 = .ok (.getfield 13, 3) := by decide +kernel
theorem dX11_moreBy_51 : decode cX11_moreBy 51 = .ok (.iload_n 3, 1) := by decide +kernel
theorem dX11_moreBy_52 : decode cX11_moreBy 52 = .ok (.iaload, 1) := by decide +kernel
theorem dX11_moreBy_53 : decode cX11_moreBy 53 = .ok (.istore 5, 2) := by decide +kernel
theorem dX11_moreBy_55 : decode cX11_moreBy 55 = .ok (.aload_n 0, 1) := by decide +kernel
theorem dX11_moreBy_56 : decode cX11_moreBy 56 = .ok (.getfield 13, 3) := by decide +kernel
theorem dX11_moreBy_59 : decode cX11_moreBy 59 = .ok (.iload 4, 2) := by decide +kernel
theorem dX11_moreBy_61 : decode cX11_moreBy 61 = .ok (.iaload, 1) := by decide +kernel
theorem dX11_moreBy_62 : decode cX11_moreBy 62 = .ok (.istore 6, 2) := by decide +kernel
theorem dX11_moreBy_64 : decode cX11_moreBy 64 = .ok (.iload 5, 2) := by decide +kernel
theorem dX11_moreBy_66 : decode cX11_moreBy 66 = .ok (.bipush 6, 2) := by decide +kernel
theorem dX11_moreBy_68 : decode cX11_moreBy 68 = .ok (.if_icmp .eq 41, 3) := by decide +kernel
theorem dX11_moreBy_71 : decode cX11_moreBy 71 = .ok (.iload 6, 2) := by decide +kernel
theorem dX11_moreBy_73 : decode cX11_moreBy 73 = .ok (.bipush 6, 2) := by decide +kernel
theorem dX11_moreBy_75 : decode cX11_moreBy 75 = .ok (.if_icmp .eq 34, 3) := by decide +kernel
theorem dX11_moreBy_78 : decode cX11_moreBy 78 = .ok (.aload_n 0, 1) := by decide +kernel
theorem dX11_moreBy_79 : decode cX11_moreBy 79 = .ok (.getfield 16, 3) := by decide +kernel
theorem dX11_moreBy_82 : decode cX11_moreBy 82 = .ok (.iload_n 3, 1) := by decide +kernel
theorem dX11_moreBy_83 : decode cX11_moreBy 83 = .ok (.iaload, 1) := by decide +kernel
theorem dX11_moreBy_84 : decode cX11_moreBy 84 = .ok (.iload 6, 2) := by decide +kernel
theorem dX11_moreBy_86 : decode cX11_moreBy 86 = .ok (.invokestatic 107, 3) := by decide +kernel
theorem dX11_moreBy_89 : decode cX11_moreBy 89 = .ok (.ifCond .ne 20, 3) := by decide +kernel
theorem dX11_moreBy_92 : decode cX11_moreBy 92 = .ok (.aload_n 0, 1) := by decide +kernel
theorem dX11_moreBy_93 : decode cX11_moreBy 93 = .ok (.iload_n 3, 1) := by decide +kernel
theorem dX11_moreBy_94 : decode cX11_moreBy 94 = .ok (.iload 6, 2) := by decide +kernel
theorem dX11_moreBy_96 : decode cX11_moreBy 96 = .ok (.invokevirtual 125, 3) := by decide +kernel
theorem dX11_moreBy_99 : decode cX11_moreBy 99 = .ok (.aload_n 0, 1) := by decide +kernel
theorem dX11_moreBy_100 : decode cX11_moreBy 100 = .ok (.iload_n 3, 1) := by decide +kernel
theorem dX11_moreBy_101 : decode cX11_moreBy 101 = .ok (.iload 5, 2) := by decide +kernel
theorem dX11_moreBy_103 : decode cX11_moreBy 103 = .ok (.invokevirtual 125, 3) := by decide +kernel
theorem dX11_moreBy_106 : decode cX11_moreBy 106 = .ok (.if_icmp .gt 6, 3) := by decide +kernel
theorem dX11_moreBy_109 : decode cX11_moreBy 109 = .ok (.bipush (-9), 2) := by decide +kernel
theorem dX11_moreBy_111 : decode cX11_moreBy 111 = .ok (.ireturn, 1) := by decide +kernel
theorem dX11_moreBy_112 : decode cX11_moreBy 112 = .ok (.iload_n 1, 1) := by decide +kernel
theorem dX11_moreBy_113 : decode cX11_moreBy 113 = .ok (.aload_n 0, 1) := by decide +kernel
theorem dX11_moreBy_114 : decode cX11_moreBy 114 = .ok (.iload_n 3, 1) := by decide +kernel
theorem dX11_moreBy_115 : decode cX11_moreBy 115 = .ok (.iload 6, 2) := by decide +kernel
theorem dX11_moreBy_117 : decode cX11_moreBy 117 = .ok (.invokevirtual 125, 3) := by decide +kernel
theorem dX11_moreBy_120 : decode cX11_moreBy 120 = .ok (.aload_n 0, 1) := by decide +kernel
theorem dX11_moreBy_121 : decode cX11_moreBy 121 = .ok (.iload_n 3, 1) := by decide +kernel
theorem dX11_moreBy_122 : decode cX11_moreBy 122 = .ok (.iload 5, 2) := by decide +kernel
theorem dX11_moreBy_124 : decode cX11_moreBy 124 = .ok (.invokevirtual 125, 3) := by decide +kernel
theorem dX11_moreBy_127 : decode cX11_moreBy 127 = .ok (.isub, 1) := by decide +kernel
theorem dX11_moreBy_128 : decode cX11_moreBy 128 = .ok (.iadd, 1) := by decide +kernel
theorem dX11_moreBy_129 : decode cX11_moreBy 129 = .ok (.istore_n 1, 1) := by decide +kernel
theorem dX11_moreBy_130 : decode cX11_moreBy 130 = .ok (.iinc 3 1, 3) := by decide +kernel
theorem dX11_moreBy_133 : decode cX11_moreBy 133 = .ok (.goto (-127), 3) := by decide +kernel
theorem dX11_moreBy_136 : decode cX11_moreBy 136 = .ok (.iload_n 1, 1) := by decide +kernel
theorem dX11_moreBy_137 : decode cX11_moreBy 137 = .ok (.ireturn, 1) := by decide +kernel
theorem dX11_movers_0 : decode cX11_movers 0 = .ok (.iconst 0, 1) := by decide +kernel
theorem dX11_movers_1 : decode cX11_movers 1 = .ok (.istore_n 1, 1) := by decide +kernel
theorem dX11_movers_2 : decode cX11_movers 2 = .ok (.iconst 0, 1) := by decide +kernel
theorem dX11_movers_3 : decode cX11_movers 3 = .ok (.istore_n 2, 1) := by decide +kernel
theorem dX11_movers_4 : decode cX11_movers 4 = .ok (.iload_n 2, 1) := by decide +kernel
theorem dX11_movers_5 : decode cX11_movers 5 = .ok (.aload_n 0, 1) := by decide +kernel
theorem dX11_movers_6 : decode cX11_movers 6 = .ok (.getfield 75, 3) := by decide +kernel
theorem dX11_movers_9 : decode cX11_movers 9 = .ok (.if_icmp .ge 27, 3) := by decide +kernel
theorem dX11_movers_12 : decode cX11_movers 12 = .ok (.iload_n 1, 1) := by decide +kernel
theorem dX11_movers_13 : decode cX11_movers 13 = .ok (.aload_n 0, 1) := by decide +kernel
theorem dX11_movers_14 : decode cX11_movers 14 = .ok (.getfield 56, 3) := by decide +kernel
theorem dX11_movers_17 : decode cX11_movers 17 = .ok (.iload_n 2, 1) := by decide +kernel
theorem dX11_movers_18 : decode cX11_movers 18 = .ok (.iaload, 1) := by decide +kernel
theorem dX11_movers_19 : decode cX11_movers 19 = .ok (.iload_n 2, 1) := by decide +kernel
theorem dX11_movers_20 : decode cX11_movers 20 = .ok (.if_icmp .ne 7, 3) := by decide +kernel
theorem dX11_movers_23 : decode cX11_movers 23 = .ok (.iconst 0, 1) := by decide +kernel
theorem dX11_movers_24 : decode cX11_movers 24 = .ok (.goto 4, 3) := by decide +kernel
theorem dX11_movers_27 : decode cX11_movers 27 = .ok (.iconst 1, 1) := by decide +kernel
theorem dX11_movers_28 : decode cX11_movers 28 = .ok (.iadd, 1) := by decide +kernel
theorem dX11_movers_29 : decode cX11_movers 29 = .ok (.istore_n 1, 1) := by decide +kernel
theorem dX11_movers_30 : decode cX11_movers 30 = .ok (.iinc 2 1, 3) := by decide +kernel
theorem dX11_movers_33 : decode cX11_movers 33 = .ok (.goto (-29), 3) := by decide +kernel
theorem dX11_movers_36 : decode cX11_movers 36 = .ok (.iload_n 1, 1) := by decide +kernel
theorem dX11_movers_37 : decode cX11_movers 37 = .ok (.ireturn, 1) := by decide +kernel
theorem dX11_findRings_0 : decode cX11_findRings 0 = .ok (.aload_n 0, 1) := by decide +kernel
theorem dX11_findRings_1 : decode cX11_findRings 1 = .ok (.bipush (-9), 2) := by decide +kernel
theorem dX11_findRings_3 : decode cX11_findRings 3 = .ok (.putfield 189, 3) := by decide +kernel
theorem dX11_findRings_6 : decode cX11_findRings 6 = .ok (.iconst 0, 1) := by decide +kernel
theorem dX11_findRings_7 : decode cX11_findRings 7 = .ok (.istore_n 1, 1) := by decide +kernel
theorem dX11_findRings_8 : decode cX11_findRings 8 = .ok (.iconst 1, 1) := by decide +kernel
theorem dX11_findRings_9 : decode cX11_findRings 9 = .ok (.istore_n 2, 1) := by decide +kernel
theorem dX11_findRings_10 : decode cX11_findRings 10 = .ok (.iconst 0, 1) := by decide +kernel
theorem dX11_findRings_11 : decode cX11_findRings 11 = .ok (.istore_n 3, 1) := by decide +kernel
theorem dX11_findRings_12 : decode cX11_findRings 12 = .ok (.iload_n 3, 1) := by decide +kernel
theorem dX11_findRings_13 : decode cX11_findRings 13 = .ok (.aload_n 0, 1) := by decide +kernel
theorem dX11_findRings_14 : decode cX11_findRings 14 = .ok (.getfield 75, 3) := by decide +kernel
theorem dX11_findRings_17 : decode cX11_findRings 17 = .ok (.if_icmp .ge 16, 3) := by decide +kernel
theorem dX11_findRings_20 : decode cX11_findRings 20 = .ok (.iload_n 2, 1) := by decide +kernel
theorem dX11_findRings_21 : decode cX11_findRings 21 = .ok (.aload_n 0, 1) := by decide +kernel
theorem dX11_findRings_22 : decode cX11_findRings 22 = .ok (.getfield 75, 3) := by decide +kernel
theorem dX11_findRings_25 : decode cX11_findRings 25 = .ok (.imul, 1) := by decide +kernel
theorem dX11_findRings_26 : decode cX11_findRings 26 = .ok (.istore_n 2, 1) := by decide +kernel
theorem dX11_findRings_27 : decode cX11_findRings 27 = .ok (.iinc 3 1, 3) := by decide +kernel
theorem dX11_findRings_30 : decode cX11_findRings 30 = .ok (.goto (-18), 3) := by decide +kernel
theorem dX11_findRings_33 : decode cX11_findRings 33 = .ok (.iconst 0, 1) := by decide +kernel
theorem dX11_findRings_34 : decode cX11_findRings 34 = .ok (.istore_n 3, 1) := by decide +kernel
theorem dX11_findRings_35 : decode cX11_findRings 35 = .ok (.iload_n 3, 1) := by decide +kernel
theorem dX11_findRings_36 : decode cX11_findRings 36 = .ok (.iload_n 2, 1) := by decide +kernel
theorem dX11_findRings_37 : decode cX11_findRings 37 = .ok (.if_icmp .ge 136, 3) := by decide +kernel
theorem dX11_findRings_40 : decode cX11_findRings 40 = .ok (.iload_n 3, 1) := by decide +kernel
theorem dX11_findRings_41 : decode cX11_findRings 41 = .ok (.istore 4, 2) := by decide +kernel
theorem dX11_findRings_43 : decode cX11_findRings 43 = .ok (.aload_n 0, 1) := by decide +kernel
theorem dX11_findRings_44 : decode cX11_findRings 44 = .ok (.getfield 75, 3) := by decide +kernel
theorem dX11_findRings_47 : decode cX11_findRings 47 = .ok (.iconst 1, 1) := by decide +kernel
theorem dX11_findRings_48 : decode cX11_findRings 48 = .ok (.isub, 1) := by decide +kernel
theorem dX11_findRings_49 : decode cX11_findRings 49 = .ok (.istore 5, 2) := by decide +kernel
theorem dX11_findRings_51 : decode cX11_findRings 51 = .ok (.iload 5, 2) := by decide +kernel
theorem dX11_findRings_53 : decode cX11_findRings 53 = .ok (.ifCond .lt 32, 3) := by decide +kernel
theorem dX11_findRings_56 : decode cX11_findRings 56 = .ok (.aload_n 0, 1) := by decide +kernel
theorem dX11_findRings_57 : decode cX11_findRings 57 = .ok (.getfield 56, 3) := by decide +kernel
theorem dX11_findRings_60 : decode cX11_findRings 60 = .ok (.iload 5, 2) := by decide +kernel
theorem dX11_findRings_62 : decode cX11_findRings 62 = .ok (.iload 4, 2) := by decide +kernel
theorem dX11_findRings_64 : decode cX11_findRings 64 = .ok (.aload_n 0, 1) := by decide +kernel
theorem dX11_findRings_65 : decode cX11_findRings 65 = .ok (.getfield 75, 3) := by decide +kernel
theorem dX11_findRings_68 : decode cX11_findRings 68 = .ok (.irem, 1) := by decide +kernel
theorem dX11_findRings_69 : decode cX11_findRings 69 = .ok (.iastore, 1) := by decide +kernel
theorem dX11_findRings_70 : decode cX11_findRings 70 = .ok (.iload 4, 2) := by decide +kernel
theorem dX11_findRings_72 : decode cX11_findRings 72 = .ok (.aload_n 0, 1) := by decide +kernel
theorem dX11_findRings_73 : decode cX11_findRings 73 = .ok (.getfield 75, 3) := by decide +kernel
theorem dX11_findRings_76 : decode cX11_findRings 76 = .ok (.idiv, 1) := by decide +kernel
theorem dX11_findRings_77 : decode cX11_findRings 77 = .ok (.istore 4, 2) := by decide +kernel
theorem dX11_findRings_79 : decode cX11_findRings 79 = .ok (.iinc 5 (-1), 3) := by decide +kernel
theorem dX11_findRings_82 : decode cX11_findRings 82 = .ok (.goto (-31), 3) := by decide +kernel
theorem dX11_findRings_85 : decode cX11_findRings 85 = .ok (.aload_n 0, 1) := by decide +kernel
theorem dX11_findRings_86 : decode cX11_findRings 86 = .ok (.invokevirtual 192, 3) := by decide +kernel
theorem dX11_findRings_89 : decode cX11_findRings 89 = .ok (.istore 5, 2) := by decide +kernel
theorem dX11_findRings_91 : decode cX11_findRings 91 = .ok (.iload 5, 2) := by decide +kernel
theorem dX11_findRings_93 : decode cX11_findRings 93 = .ok (.aload_n 0, 1) := by decide +kernel
theorem dX11_findRings_94 : decode cX11_findRings 94 = .ok (.getfield 189, 3) := by decide +kernel
theorem dX11_findRings_97 : decode cX11_findRings 97 = .ok (.if_icmp .gt 27, 3) := by decide +kernel
theorem dX11_findRings_100 : decode cX11_findRings 100 = .ok (.iload 5, 2) := by decide +kernel
theorem dX11_findRings_102 : decode cX11_findRings 102 = .ok (.aload_n 0, 1) := by decide +kernel
theorem dX11_findRings_103 : decode cX11_findRings 103 = .ok (.getfield 189, 3) := by decide +kernel
theorem dX11_findRings_106 : decode cX11_findRings 106 = .ok (.if_icmp .ne 61, 3) := by decide +kernel
theorem dX11_findRings_109 : decode cX11_findRings 109 = .ok (.iload 5, 2) := by decide +kernel
theorem dX11_findRings_111 : decode cX11_findRings 111 = .ok (.bipush (-9), 2) := by decide +kernel
theorem dX11_findRings_113 : decode cX11_findRings 113 = .ok (.if_icmp .eq 54, 3) := by decide +kernel
theorem dX11_findRings_116 : decode cX11_findRings 116 = .ok (.aload_n 0, 1) := by decide +kernel
theorem dX11_findRings_117 : decode cX11_findRings 117 = .ok (.invokevirtual 195, 3) := by decide +kernel
theorem dX11_findRings_120 : decode cX11_findRings 120 = .ok (.iload_n 1, 1) := by decide +kernel
theorem dX11_findRings_121 : decode cX11_findRings 121 = .ok (.if_icmp .ge 46, 3) := by decide +kernel
theorem dX11_findRings_124 : decode cX11_findRings 124 = .ok (.aload_n 0, 1) := by decide +kernel
theorem dX11_findRings_125 : decode cX11_findRings 125 = .ok (.iload 5, 2) := by decide +kernel
theorem dX11_findRings_127 : decode cX11_findRings 127 = .ok (.putfield 189, 3) := by decide +kernel
theorem dX11_findRings_130 : decode cX11_findRings 130 = .ok (.aload_n 0, 1) := by decide +kernel
theorem dX11_findRings_131 : decode cX11_findRings 131 = .ok (.invokevirtual 195, 3) := by decide +kernel
theorem dX11_findRings_134 : decode cX11_findRings 134 = .ok (.istore_n 1, 1) := by decide +kernel
theorem dX11_findRings_135 : decode cX11_findRings 135 = .ok (.iconst 0, 1) := by decide +kernel
theorem dX11_findRings_136 : decode cX11_findRings 136 = .ok (.istore 6, 2) := by decide +kernel
theorem dX11_findRings_138 : decode cX11_findRings 138 = .ok (.iload 6, 2) := by decide +kernel
theorem dX11_findRings_140 : decode cX11_findRings 140 = .ok (.aload_n 0, 1) := by decide +kernel
theorem dX11_findRings_141 : decode cX11_findRings 141 = .ok (.getfield 75, 3) := by decide +kernel
theorem dX11_findRings_144 : decode cX11_findRings 144 = .ok (.if_icmp .ge 23, 3) := by decide +kernel
theorem dX11_findRings_147 : decode cX11_findRings 147 = .ok (.aload_n 0, 1) := by decide +kernel
theorem dX11_findRings_148 : decode cX11_findRings 148 = .ok (.getfield 59, 3) := by decide +kernel
theorem dX11_findRings_151 : decode cX11_findRings 151 = .ok (.iload 6, 2) := by decide +kernel
theorem dX11_findRings_153 : decode cX11_findRings 153 = .ok (.aload_n 0, 1) := by decide +kernel
theorem dX11_findRings_154 : decode cX11_findRings 154 = .ok (.getfield 56, 3) := by decide +kernel
theorem dX11_findRings_157 : decode cX11_findRings 157 = .ok (.iload 6, 2) := by decide +kernel
theorem dX11_findRings_159 : decode cX11_findRings 159 = .ok (.iaload, 1) := by decide +kernel
theorem dX11_findRings_160 : decode cX11_findRings 160 = .ok (.iastore, 1) := by decide +kernel
theorem dX11_findRings_161 : decode cX11_findRings 161 = .ok (.iinc 6 1, 3) := by decide +kernel
theorem dX11_findRings_164 : decode cX11_findRings 164 = .ok (.goto (-26), 3) := by decide +kernel
theorem dX11_findRings_167 : decode cX11_findRings 167 = .ok (.iinc 3 1, 3) := by decide +kernel
theorem dX11_findRings_170 : decode cX11_findRings 170 = .ok (.goto (-135), 3) := by decide +kernel
theorem dX11_findRings_173 : decode cX11_findRings 173 = .ok (.return_, 1) := by decide +kernel
theorem dX11_rings_0 : decode cX11_rings 0 = .ok (.aload_n 0, 1) := by decide +kernel
theorem dX11_rings_1 : decode cX11_rings 1 = .ok (.iconst 0, 1) := by decide +kernel
theorem dX11_rings_2 : decode cX11_rings 2 = .ok (.putfield 71, 3) := by decide +kernel
theorem dX11_rings_5 : decode cX11_rings 5 = .ok (.aload_n 0, 1) := by decide +kernel
theorem dX11_rings_6 : decode cX11_rings 6 = .ok (.invokevirtual 198, 3) := by decide +kernel
theorem dX11_rings_9 : decode cX11_rings 9 = .ok (.aload_n 0, 1) := by decide +kernel
theorem dX11_rings_10 : decode cX11_rings 10 = .ok (.getfield 189, 3) := by decide +kernel
theorem dX11_rings_13 : decode cX11_rings 13 = .ok (.ireturn, 1) := by decide +kernel
theorem dX11_ringAt_0 : decode cX11_ringAt 0 = .ok (.aload_n 0, 1) := by decide +kernel
theorem dX11_ringAt_1 : decode cX11_ringAt 1 = .ok (.iconst 0, 1) := by decide +kernel
theorem dX11_ringAt_2 : decode cX11_ringAt 2 = .ok (.putfield 71, 3) := by decide +kernel
theorem dX11_ringAt_5 : decode cX11_ringAt 5 = .ok (.aload_n 0, 1) := by decide +kernel
theorem dX11_ringAt_6 : decode cX11_ringAt 6 = .ok (.iload_n 1, 1) := by decide +kernel
theorem dX11_ringAt_7 : decode cX11_ringAt 7 = .ok (.invokevirtual 135, 3) := by decide +kernel
theorem dX11_ringAt_10 : decode cX11_ringAt 10 = .ok (.ifCond .eq 5, 3) := by decide +kernel
theorem dX11_ringAt_13 : decode cX11_ringAt 13 = .ok (.iconst (-1), 1) := by decide +kernel
theorem dX11_ringAt_14 : decode cX11_ringAt 14 = .ok (.ireturn, 1) := by decide +kernel
theorem dX11_ringAt_15 : decode cX11_ringAt 15 = .ok (.aload_n 0, 1) := by decide +kernel
theorem dX11_ringAt_16 : decode cX11_ringAt 16 = .ok (.invokevirtual 198, 3) := by decide +kernel
theorem dX11_ringAt_19 : decode cX11_ringAt 19 = .ok (.aload_n 0, 1) := by decide +kernel
theorem dX11_ringAt_20 : decode cX11_ringAt 20 = .ok (.getfield 59, 3) := by decide +kernel
theorem dX11_ringAt_23 : decode cX11_ringAt 23 = .ok (.iload_n 1, 1) := by decide +kernel
theorem dX11_ringAt_24 : decode cX11_ringAt 24 = .ok (.iaload, 1) := by decide +kernel
theorem dX11_ringAt_25 : decode cX11_ringAt 25 = .ok (.ireturn, 1) := by decide +kernel
theorem dX11_frees_0 : decode cX11_frees 0 = .ok (.aload_n 0, 1) := by decide +kernel
theorem dX11_frees_1 : decode cX11_frees 1 = .ok (.iconst 0, 1) := by decide +kernel
theorem dX11_frees_2 : decode cX11_frees 2 = .ok (.putfield 71, 3) := by decide +kernel
theorem dX11_frees_5 : decode cX11_frees 5 = .ok (.iload_n 1, 1) := by decide +kernel
theorem dX11_frees_6 : decode cX11_frees 6 = .ok (.invokestatic 138, 3) := by decide +kernel
theorem dX11_frees_9 : decode cX11_frees 9 = .ok (.ifCond .eq 5, 3) := by decide +kernel
theorem dX11_frees_12 : decode cX11_frees 12 = .ok (.iconst (-1), 1) := by decide +kernel
theorem dX11_frees_13 : decode cX11_frees 13 = .ok (.ireturn, 1) := by decide +kernel
theorem dX11_frees_14 : decode cX11_frees 14 = .ok (.iconst 0, 1) := by decide +kernel
theorem dX11_frees_15 : decode cX11_frees 15 = .ok (.istore_n 2, 1) := by decide +kernel
theorem dX11_frees_16 : decode cX11_frees 16 = .ok (.iconst 0, 1) := by decide +kernel
theorem dX11_frees_17 : decode cX11_frees 17 = .ok (.istore_n 3, 1) := by decide +kernel
theorem dX11_frees_18 : decode cX11_frees 18 = .ok (.iload_n 3, 1) := by decide +kernel
theorem dX11_frees_19 : decode cX11_frees 19 = .ok (.aload_n 0, 1) := by decide +kernel
theorem dX11_frees_20 : decode cX11_frees 20 = .ok (.getfield 75, 3) := by decide +kernel
theorem dX11_frees_23 : decode cX11_frees 23 = .ok (.if_icmp .ge 106, 3) := by decide +kernel
theorem dX11_frees_26 : decode cX11_frees 26 = .ok (.aload_n 0, 1) := by decide +kernel
theorem dX11_frees_27 : decode cX11_frees 27 = .ok (.getfield 13, 3) := by decide +kernel
theorem dX11_frees_30 : decode cX11_frees 30 = .ok (.iload_n 3, 1) := by decide +kernel
theorem dX11_frees_31 : decode cX11_frees 31 = .ok (.iaload, 1) := by decide +kernel
theorem dX11_frees_32 : decode cX11_frees 32 = .ok (.bipush 6, 2) := by decide +kernel
theorem dX11_frees_34 : decode cX11_frees 34 = .ok (.if_icmp .eq 30, 3) := by decide +kernel
theorem dX11_frees_37 : decode cX11_frees 37 = .ok (.aload_n 0, 1) := by decide +kernel
theorem dX11_frees_38 : decode cX11_frees 38 = .ok (.getfield 13, 3) := by decide +kernel
theorem dX11_frees_41 : decode cX11_frees 41 = .ok (.iload_n 3, 1) := by decide +kernel
theorem dX11_frees_42 : decode cX11_frees 42 = .ok (.iaload, 1) := by decide +kernel
theorem dX11_frees_43 : decode cX11_frees 43 = .ok (.iload_n 1, 1) := by decide +kernel
theorem dX11_frees_44 : decode cX11_frees 44 = .ok (.if_icmp .eq 20, 3) := by decide +kernel
theorem dX11_frees_47 : decode cX11_frees 47 = .ok (.aload_n 0, 1) := by decide +kernel
theorem dX11_frees_48 : decode cX11_frees 48 = .ok (.getfield 16, 3) := by decide +kernel
theorem dX11_frees_51 : decode cX11_frees 51 = .ok (.iload_n 3, 1) := by decide +kernel
theorem dX11_frees_52 : decode cX11_frees 52 = .ok (.iaload, 1) := by decide +kernel
theorem dX11_frees_53 : decode cX11_frees 53 = .ok (.iload_n 1, 1) := by decide +kernel
theorem dX11_frees_54 : decode cX11_frees 54 = .ok (.invokestatic 107, 3) := by decide +kernel
theorem dX11_frees_57 : decode cX11_frees 57 = .ok (.ifCond .ne 7, 3) := by decide +kernel
theorem dX11_frees_60 : decode cX11_frees 60 = .ok (.iconst 1, 1) := by decide +kernel
theorem dX11_frees_61 : decode cX11_frees 61 = .ok (.goto 4, 3) := by decide +kernel
theorem dX11_frees_64 : decode cX11_frees 64 = .ok (.iconst 0, 1) := by decide +kernel
theorem dX11_frees_65 : decode cX11_frees 65 = .ok (.istore 4, 2) := by decide +kernel
theorem dX11_frees_67 : decode cX11_frees 67 = .ok (.iconst 0, 1) := by decide +kernel
theorem dX11_frees_68 : decode cX11_frees 68 = .ok (.istore 5, 2) := by decide +kernel
theorem dX11_frees_70 : decode cX11_frees 70 = .ok (.iload 5, 2) := by decide +kernel
theorem dX11_frees_72 : decode cX11_frees 72 = .ok (.aload_n 0, 1) := by decide +kernel
theorem dX11_frees_73 : decode cX11_frees 73 = .ok (.getfield 75, 3) := by decide +kernel
theorem dX11_frees_76 : decode cX11_frees 76 = .ok (.if_icmp .ge 32, 3) := by decide +kernel
theorem dX11_frees_79 : decode cX11_frees 79 = .ok (.iload 4, 2) := by decide +kernel
theorem dX11_frees_81 : decode cX11_frees 81 = .ok (.ifCond .eq 18, 3) := by decide +kernel
theorem dX11_frees_84 : decode cX11_frees 84 = .ok (.aload_n 0, 1) := by decide +kernel
theorem dX11_frees_85 : decode cX11_frees 85 = .ok (.iconst 0, 1) := by decide +kernel
theorem dX11_frees_86 : decode cX11_frees 86 = .ok (.iload_n 3, 1) := by decide +kernel
theorem dX11_frees_87 : decode cX11_frees 87 = .ok (.iload 5, 2) := by decide +kernel
theorem dX11_frees_89 : decode cX11_frees 89 = .ok (.invokevirtual 143, 3) := by decide +kernel
theorem dX11_frees_92 : decode cX11_frees 92 = .ok (.ifCond .ne 7, 3) := by decide +kernel
theorem dX11_frees_95 : decode cX11_frees 95 = .ok (.iconst 1, 1) := by decide +kernel
theorem dX11_frees_96 : decode cX11_frees 96 = .ok (.goto 4, 3) := by decide +kernel
theorem dX11_frees_99 : decode cX11_frees 99 = .ok (.iconst 0, 1) := by decide +kernel
theorem dX11_frees_100 : decode cX11_frees 100 = .ok (.istore 4, 2) := by decide +kernel
theorem dX11_frees_102 : decode cX11_frees 102 = .ok (.iinc 5 1, 3) := by decide +kernel
theorem dX11_frees_105 : decode cX11_frees 105 = .ok (.goto (-35), 3) := by decide +kernel
theorem dX11_frees_108 : decode cX11_frees 108 = .ok (.iload_n 2, 1) := by decide +kernel
theorem dX11_frees_109 : decode cX11_frees 109 = .ok (.iload 4, 2) := by decide +kernel
theorem dX11_frees_111 : decode cX11_frees 111 = .ok (.ifCond .eq 9, 3) := by decide +kernel
theorem dX11_frees_114 : decode cX11_frees 114 = .ok (.iconst 1, 1) := by decide +kernel
theorem dX11_frees_115 : decode cX11_frees 115 = .ok (.iload_n 3, 1) := by decide +kernel
theorem dX11_frees_116 : decode cX11_frees 116 = .ok (.ishl, 1) := by decide +kernel
theorem dX11_frees_117 : decode cX11_frees 117 = .ok (.goto 4, 3) := by decide +kernel
theorem dX11_frees_120 : decode cX11_frees 120 = .ok (.iconst 0, 1) := by decide +kernel
theorem dX11_frees_121 : decode cX11_frees 121 = .ok (.ior, 1) := by decide +kernel
theorem dX11_frees_122 : decode cX11_frees 122 = .ok (.istore_n 2, 1) := by decide +kernel
theorem dX11_frees_123 : decode cX11_frees 123 = .ok (.iinc 3 1, 3) := by decide +kernel
theorem dX11_frees_126 : decode cX11_frees 126 = .ok (.goto (-108), 3) := by decide +kernel
theorem dX11_frees_129 : decode cX11_frees 129 = .ok (.iload_n 2, 1) := by decide +kernel
theorem dX11_frees_130 : decode cX11_frees 130 = .ok (.ireturn, 1) := by decide +kernel
theorem dX11_takes_0 : decode cX11_takes 0 = .ok (.aload_n 0, 1) := by decide +kernel
theorem dX11_takes_1 : decode cX11_takes 1 = .ok (.iload_n 1, 1) := by decide +kernel
theorem dX11_takes_2 : decode cX11_takes 2 = .ok (.iload_n 2, 1) := by decide +kernel
theorem dX11_takes_3 : decode cX11_takes 3 = .ok (.iload_n 3, 1) := by decide +kernel
theorem dX11_takes_4 : decode cX11_takes 4 = .ok (.invokevirtual 143, 3) := by decide +kernel
theorem dX11_takes_7 : decode cX11_takes 7 = .ok (.ifCond .eq 40, 3) := by decide +kernel
theorem dX11_takes_10 : decode cX11_takes 10 = .ok (.aload_n 0, 1) := by decide +kernel
theorem dX11_takes_11 : decode cX11_takes 11 = .ok (.iload_n 3, 1) := by decide +kernel
theorem dX11_takes_12 : decode cX11_takes 12 = .ok (.aload_n 0, 1) := by decide +kernel
theorem dX11_takes_13 : decode cX11_takes 13 = .ok (.getfield 13, 3) := by decide +kernel
theorem dX11_takes_16 : decode cX11_takes 16 = .ok (.iconst 4, 1) := by decide +kernel
theorem dX11_takes_17 : decode cX11_takes 17 = .ok (.iload_n 1, 1) := by decide +kernel
theorem dX11_takes_18 : decode cX11_takes 18 = .ok (.imul, 1) := by decide +kernel
theorem dX11_takes_19 : decode cX11_takes 19 = .ok (.iload_n 2, 1) := by decide +kernel
theorem dX11_takes_20 : decode cX11_takes 20 = .ok (.iadd, 1) := by decide +kernel
theorem dX11_takes_21 : decode cX11_takes 21 = .ok (.iaload, 1) := by decide +kernel
theorem dX11_takes_22 : decode cX11_takes 22 = .ok (.invokevirtual 125, 3) := by decide +kernel
theorem dX11_takes_25 : decode cX11_takes 25 = .ok (.aload_n 0, 1) := by decide +kernel
theorem dX11_takes_26 : decode cX11_takes 26 = .ok (.iload_n 3, 1) := by decide +kernel
theorem dX11_takes_27 : decode cX11_takes 27 = .ok (.aload_n 0, 1) := by decide +kernel
theorem dX11_takes_28 : decode cX11_takes 28 = .ok (.getfield 13, 3) := by decide +kernel
theorem dX11_takes_31 : decode cX11_takes 31 = .ok (.iconst 4, 1) := by decide +kernel
theorem dX11_takes_32 : decode cX11_takes 32 = .ok (.iload_n 1, 1) := by decide +kernel
theorem dX11_takes_33 : decode cX11_takes 33 = .ok (.imul, 1) := by decide +kernel
theorem dX11_takes_34 : decode cX11_takes 34 = .ok (.iload_n 3, 1) := by decide +kernel
theorem dX11_takes_35 : decode cX11_takes 35 = .ok (.iadd, 1) := by decide +kernel
theorem dX11_takes_36 : decode cX11_takes 36 = .ok (.iaload, 1) := by decide +kernel
theorem dX11_takes_37 : decode cX11_takes 37 = .ok (.invokevirtual 125, 3) := by decide +kernel
theorem dX11_takes_40 : decode cX11_takes 40 = .ok (.if_icmp .lt 7, 3) := by decide +kernel
theorem dX11_takes_43 : decode cX11_takes 43 = .ok (.iconst 1, 1) := by decide +kernel
theorem dX11_takes_44 : decode cX11_takes 44 = .ok (.goto 4, 3) := by decide +kernel
theorem dX11_takes_47 : decode cX11_takes 47 = .ok (.iconst 0, 1) := by decide +kernel
theorem dX11_takes_48 : decode cX11_takes 48 = .ok (.ireturn, 1) := by decide +kernel
theorem dX11_nextTurn_0 : decode cX11_nextTurn 0 = .ok (.iload_n 1, 1) := by decide +kernel
theorem dX11_nextTurn_1 : decode cX11_nextTurn 1 = .ok (.aload_n 0, 1) := by decide +kernel
theorem dX11_nextTurn_2 : decode cX11_nextTurn 2 = .ok (.getfield 75, 3) := by decide +kernel
theorem dX11_nextTurn_5 : decode cX11_nextTurn 5 = .ok (.irem, 1) := by decide +kernel
theorem dX11_nextTurn_6 : decode cX11_nextTurn 6 = .ok (.istore_n 2, 1) := by decide +kernel
theorem dX11_nextTurn_7 : decode cX11_nextTurn 7 = .ok (.aload_n 0, 1) := by decide +kernel
theorem dX11_nextTurn_8 : decode cX11_nextTurn 8 = .ok (.getfield 50, 3) := by decide +kernel
theorem dX11_nextTurn_11 : decode cX11_nextTurn 11 = .ok (.iload_n 1, 1) := by decide +kernel
theorem dX11_nextTurn_12 : decode cX11_nextTurn 12 = .ok (.iaload, 1) := by decide +kernel
theorem dX11_nextTurn_13 : decode cX11_nextTurn 13 = .ok (.bipush (-9), 2) := by decide +kernel
theorem dX11_nextTurn_15 : decode cX11_nextTurn 15 = .ok (.if_icmp .ne 20, 3) := by decide +kernel
theorem dX11_nextTurn_18 : decode cX11_nextTurn 18 = .ok (.aload_n 0, 1) := by decide +kernel
theorem dX11_nextTurn_19 : decode cX11_nextTurn 19 = .ok (.getfield 50, 3) := by decide +kernel
theorem dX11_nextTurn_22 : decode cX11_nextTurn 22 = .ok (.iload_n 1, 1) := by decide +kernel
theorem dX11_nextTurn_23 : decode cX11_nextTurn 23 = .ok (.iconst (-1), 1) := by decide +kernel
theorem dX11_nextTurn_24 : decode cX11_nextTurn 24 = .ok (.iastore, 1) := by decide +kernel
theorem dX11_nextTurn_25 : decode cX11_nextTurn 25 = .ok (.aload_n 0, 1) := by decide +kernel
theorem dX11_nextTurn_26 : decode cX11_nextTurn 26 = .ok (.iload_n 1, 1) := by decide +kernel
theorem dX11_nextTurn_27 : decode cX11_nextTurn 27 = .ok (.iload_n 1, 1) := by decide +kernel
theorem dX11_nextTurn_28 : decode cX11_nextTurn 28 = .ok (.iconst 1, 1) := by decide +kernel
theorem dX11_nextTurn_29 : decode cX11_nextTurn 29 = .ok (.iadd, 1) := by decide +kernel
theorem dX11_nextTurn_30 : decode cX11_nextTurn 30 = .ok (.invokevirtual 156, 3) := by decide +kernel
theorem dX11_nextTurn_33 : decode cX11_nextTurn 33 = .ok (.iconst 1, 1) := by decide +kernel
theorem dX11_nextTurn_34 : decode cX11_nextTurn 34 = .ok (.ireturn, 1) := by decide +kernel
theorem dX11_nextTurn_35 : decode cX11_nextTurn 35 = .ok (.aload_n 0, 1) := by decide +kernel
theorem dX11_nextTurn_36 : decode cX11_nextTurn 36 = .ok (.getfield 50, 3) := by decide +kernel
theorem dX11_nextTurn_39 : decode cX11_nextTurn 39 = .ok (.iload_n 1, 1) := by decide +kernel
theorem dX11_nextTurn_40 : decode cX11_nextTurn 40 = .ok (.iaload, 1) := by decide +kernel
theorem dX11_nextTurn_41 : decode cX11_nextTurn 41 = .ok (.iconst 1, 1) := by decide +kernel
theorem dX11_nextTurn_42 : decode cX11_nextTurn 42 = .ok (.iadd, 1) := by decide +kernel
theorem dX11_nextTurn_43 : decode cX11_nextTurn 43 = .ok (.istore_n 3, 1) := by decide +kernel
theorem dX11_nextTurn_44 : decode cX11_nextTurn 44 = .ok (.iload_n 3, 1) := by decide +kernel
theorem dX11_nextTurn_45 : decode cX11_nextTurn 45 = .ok (.aload_n 0, 1) := by decide +kernel
theorem dX11_nextTurn_46 : decode cX11_nextTurn 46 = .ok (.getfield 75, 3) := by decide +kernel
theorem dX11_nextTurn_49 : decode cX11_nextTurn 49 = .ok (.if_icmp .ge 45, 3) := by decide +kernel
theorem dX11_nextTurn_52 : decode cX11_nextTurn 52 = .ok (.aload_n 0, 1) := by decide +kernel
theorem dX11_nextTurn_53 : decode cX11_nextTurn 53 = .ok (.iload_n 1, 1) := by decide +kernel
theorem dX11_nextTurn_54 : decode cX11_nextTurn 54 = .ok (.iload_n 2, 1) := by decide +kernel
theorem dX11_nextTurn_55 : decode cX11_nextTurn 55 = .ok (.iload_n 3, 1) := by decide +kernel
theorem dX11_nextTurn_56 : decode cX11_nextTurn 56 = .ok (.invokevirtual 201, 3) := by decide +kernel
theorem dX11_nextTurn_59 : decode cX11_nextTurn 59 = .ok (.ifCond .eq 29, 3) := by decide +kernel
theorem dX11_nextTurn_62 : decode cX11_nextTurn 62 = .ok (.aload_n 0, 1) := by decide +kernel
theorem dX11_nextTurn_63 : decode cX11_nextTurn 63 = .ok (.getfield 50, 3) := by decide +kernel
theorem dX11_nextTurn_66 : decode cX11_nextTurn 66 = .ok (.iload_n 1, 1) := by decide +kernel
theorem dX11_nextTurn_67 : decode cX11_nextTurn 67 = .ok (.iload_n 3, 1) := by decide +kernel
theorem dX11_nextTurn_68 : decode cX11_nextTurn 68 = .ok (.iastore, 1) := by decide +kernel
theorem dX11_nextTurn_69 : decode cX11_nextTurn 69 = .ok (.aload_n 0, 1) := by decide +kernel
theorem dX11_nextTurn_70 : decode cX11_nextTurn 70 = .ok (.iload_n 1, 1) := by decide +kernel
theorem dX11_nextTurn_71 : decode cX11_nextTurn 71 = .ok (.iload_n 1, 1) := by decide +kernel
theorem dX11_nextTurn_72 : decode cX11_nextTurn 72 = .ok (.iconst 1, 1) := by decide +kernel
theorem dX11_nextTurn_73 : decode cX11_nextTurn 73 = .ok (.iadd, 1) := by decide +kernel
theorem dX11_nextTurn_74 : decode cX11_nextTurn 74 = .ok (.invokevirtual 156, 3) := by decide +kernel
theorem dX11_nextTurn_77 : decode cX11_nextTurn 77 = .ok (.aload_n 0, 1) := by decide +kernel
theorem dX11_nextTurn_78 : decode cX11_nextTurn 78 = .ok (.iload_n 1, 1) := by decide +kernel
theorem dX11_nextTurn_79 : decode cX11_nextTurn 79 = .ok (.iconst 1, 1) := by decide +kernel
theorem dX11_nextTurn_80 : decode cX11_nextTurn 80 = .ok (.iadd, 1) := by decide +kernel
theorem dX11_nextTurn_81 : decode cX11_nextTurn 81 = .ok (.iload_n 2, 1) := by decide +kernel
theorem dX11_nextTurn_82 : decode cX11_nextTurn 82 = .ok (.iload_n 3, 1) := by decide +kernel
theorem dX11_nextTurn_83 : decode cX11_nextTurn 83 = .ok (.invokevirtual 150, 3) := by decide +kernel
theorem dX11_nextTurn_86 : decode cX11_nextTurn 86 = .ok (.iconst 1, 1) := by decide +kernel
theorem dX11_nextTurn_87 : decode cX11_nextTurn 87 = .ok (.ireturn, 1) := by decide +kernel
theorem dX11_nextTurn_88 : decode cX11_nextTurn 88 = .ok (.iinc 3 1, 3) := by decide +kernel
theorem dX11_nextTurn_91 : decode cX11_nextTurn 91 = .ok (.goto (-47), 3) := by decide +kernel
theorem dX11_nextTurn_94 : decode cX11_nextTurn 94 = .ok (.iconst 0, 1) := by decide +kernel
theorem dX11_nextTurn_95 : decode cX11_nextTurn 95 = .ok (.ireturn, 1) := by decide +kernel
theorem dX11_offer_0 : decode cX11_offer 0 = .ok (.iload_n 1, 1) := by decide +kernel
theorem dX11_offer_1 : decode cX11_offer 1 = .ok (.iconst 1, 1) := by decide +kernel
theorem dX11_offer_2 : decode cX11_offer 2 = .ok (.isub, 1) := by decide +kernel
theorem dX11_offer_3 : decode cX11_offer 3 = .ok (.istore_n 2, 1) := by decide +kernel
theorem dX11_offer_4 : decode cX11_offer 4 = .ok (.iload_n 2, 1) := by decide +kernel
theorem dX11_offer_5 : decode cX11_offer 5 = .ok (.aload_n 0, 1) := by decide +kernel
theorem dX11_offer_6 : decode cX11_offer 6 = .ok (.getfield 75, 3) := by decide +kernel
theorem dX11_offer_9 : decode cX11_offer 9 = .ok (.irem, 1) := by decide +kernel
theorem dX11_offer_10 : decode cX11_offer 10 = .ok (.istore_n 3, 1) := by decide +kernel
theorem dX11_offer_11 : decode cX11_offer 11 = .ok (.aload_n 0, 1) := by decide +kernel
theorem dX11_offer_12 : decode cX11_offer 12 = .ok (.iload_n 3, 1) := by decide +kernel
theorem dX11_offer_13 : decode cX11_offer 13 = .ok (.aload_n 0, 1) := by decide +kernel
theorem dX11_offer_14 : decode cX11_offer 14 = .ok (.getfield 62, 3) := by decide +kernel
theorem dX11_offer_17 : decode cX11_offer 17 = .ok (.iconst 4, 1) := by decide +kernel
theorem dX11_offer_18 : decode cX11_offer 18 = .ok (.iload_n 1, 1) := by decide +kernel
theorem dX11_offer_19 : decode cX11_offer 19 = .ok (.imul, 1) := by decide +kernel
theorem dX11_offer_20 : decode cX11_offer 20 = .ok (.iload_n 3, 1) := by decide +kernel
theorem dX11_offer_21 : decode cX11_offer 21 = .ok (.iadd, 1) := by decide +kernel
theorem dX11_offer_22 : decode cX11_offer 22 = .ok (.iaload, 1) := by decide +kernel
theorem dX11_offer_23 : decode cX11_offer 23 = .ok (.invokevirtual 125, 3) := by decide +kernel
theorem dX11_offer_26 : decode cX11_offer 26 = .ok (.istore 4, 2) := by decide +kernel
theorem dX11_offer_28 : decode cX11_offer 28 = .ok (.iload 4, 2) := by decide +kernel
theorem dX11_offer_30 : decode cX11_offer 30 = .ok (.aload_n 0, 1) := by decide +kernel
theorem dX11_offer_31 : decode cX11_offer 31 = .ok (.getfield 65, 3) := by decide +kernel
theorem dX11_offer_34 : decode cX11_offer 34 = .ok (.iload_n 2, 1) := by decide +kernel
theorem dX11_offer_35 : decode cX11_offer 35 = .ok (.iaload, 1) := by decide +kernel
theorem dX11_offer_36 : decode cX11_offer 36 = .ok (.if_icmp .le 63, 3) := by decide +kernel
theorem dX11_offer_39 : decode cX11_offer 39 = .ok (.aload_n 0, 1) := by decide +kernel
theorem dX11_offer_40 : decode cX11_offer 40 = .ok (.getfield 65, 3) := by decide +kernel
theorem dX11_offer_43 : decode cX11_offer 43 = .ok (.iload_n 2, 1) := by decide +kernel
theorem dX11_offer_44 : decode cX11_offer 44 = .ok (.iload 4, 2) := by decide +kernel
theorem dX11_offer_46 : decode cX11_offer 46 = .ok (.iastore, 1) := by decide +kernel
theorem dX11_offer_47 : decode cX11_offer 47 = .ok (.aload_n 0, 1) := by decide +kernel
theorem dX11_offer_48 : decode cX11_offer 48 = .ok (.getfield 68, 3) := by decide +kernel
theorem dX11_offer_51 : decode cX11_offer 51 = .ok (.iload_n 2, 1) := by decide +kernel
theorem dX11_offer_52 : decode cX11_offer 52 = .ok (.aload_n 0, 1) := by decide +kernel
theorem dX11_offer_53 : decode cX11_offer 53 = .ok (.getfield 50, 3) := by decide +kernel
theorem dX11_offer_56 : decode cX11_offer 56 = .ok (.iload_n 2, 1) := by decide +kernel
theorem dX11_offer_57 : decode cX11_offer 57 = .ok (.iaload, 1) := by decide +kernel
theorem dX11_offer_58 : decode cX11_offer 58 = .ok (.iastore, 1) := by decide +kernel
theorem dX11_offer_59 : decode cX11_offer 59 = .ok (.iconst 0, 1) := by decide +kernel
theorem dX11_offer_60 : decode cX11_offer 60 = .ok (.istore 5, 2) := by decide +kernel
theorem dX11_offer_62 : decode cX11_offer 62 = .ok (.iload 5, 2) := by decide +kernel
theorem dX11_offer_64 : decode cX11_offer 64 = .ok (.aload_n 0, 1) := by decide +kernel
theorem dX11_offer_65 : decode cX11_offer 65 = .ok (.getfield 75, 3) := by decide +kernel
theorem dX11_offer_68 : decode cX11_offer 68 = .ok (.if_icmp .ge 31, 3) := by decide +kernel
theorem dX11_offer_71 : decode cX11_offer 71 = .ok (.aload_n 0, 1) := by decide +kernel
theorem dX11_offer_72 : decode cX11_offer 72 = .ok (.getfield 62, 3) := by decide +kernel
theorem dX11_offer_75 : decode cX11_offer 75 = .ok (.iconst 4, 1) := by decide +kernel
theorem dX11_offer_76 : decode cX11_offer 76 = .ok (.iload_n 2, 1) := by decide +kernel
theorem dX11_offer_77 : decode cX11_offer 77 = .ok (.imul, 1) := by decide +kernel
theorem dX11_offer_78 : decode cX11_offer 78 = .ok (.iload 5, 2) := by decide +kernel
theorem dX11_offer_80 : decode cX11_offer 80 = .ok (.iadd, 1) := by decide +kernel
theorem dX11_offer_81 : decode cX11_offer 81 = .ok (.aload_n 0, 1) := by decide +kernel
theorem dX11_offer_82 : decode cX11_offer 82 = .ok (.getfield 62, 3) := by decide +kernel
theorem dX11_offer_85 : decode cX11_offer 85 = .ok (.iconst 4, 1) := by decide +kernel
theorem dX11_offer_86 : decode cX11_offer 86 = .ok (.iload_n 1, 1) := by decide +kernel
theorem dX11_offer_87 : decode cX11_offer 87 = .ok (.imul, 1) := by decide +kernel
theorem dX11_offer_88 : decode cX11_offer 88 = .ok (.iload 5, 2) := by decide +kernel
theorem dX11_offer_90 : decode cX11_offer 90 = .ok (.iadd, 1) := by decide +kernel
theorem dX11_offer_91 : decode cX11_offer 91 = .ok (.iaload, 1) := by decide +kernel
theorem dX11_offer_92 : decode cX11_offer 92 = .ok (.iastore, 1) := by decide +kernel
theorem dX11_offer_93 : decode cX11_offer 93 = .ok (.iinc 5 1, 3) := by decide +kernel
theorem dX11_offer_96 : decode cX11_offer 96 = .ok (.goto (-34), 3) := by decide +kernel
theorem dX11_offer_99 : decode cX11_offer 99 = .ok (.return_, 1) := by decide +kernel
theorem dX11_goTurns_0 : decode cX11_goTurns 0 = .ok (.iconst 0, 1) := by decide +kernel
theorem dX11_goTurns_1 : decode cX11_goTurns 1 = .ok (.istore_n 2, 1) := by decide +kernel
theorem dX11_goTurns_2 : decode cX11_goTurns 2 = .ok (.aload_n 0, 1) := by decide +kernel
theorem dX11_goTurns_3 : decode cX11_goTurns 3 = .ok (.getfield 50, 3) := by decide +kernel
theorem dX11_goTurns_6 : decode cX11_goTurns 6 = .ok (.iconst 0, 1) := by decide +kernel
theorem dX11_goTurns_7 : decode cX11_goTurns 7 = .ok (.bipush (-9), 2) := by decide +kernel
theorem dX11_goTurns_9 : decode cX11_goTurns 9 = .ok (.iastore, 1) := by decide +kernel
theorem dX11_goTurns_10 : decode cX11_goTurns 10 = .ok (.aload_n 0, 1) := by decide +kernel
theorem dX11_goTurns_11 : decode cX11_goTurns 11 = .ok (.getfield 65, 3) := by decide +kernel
theorem dX11_goTurns_14 : decode cX11_goTurns 14 = .ok (.iconst 0, 1) := by decide +kernel
theorem dX11_goTurns_15 : decode cX11_goTurns 15 = .ok (.iconst (-1), 1) := by decide +kernel
theorem dX11_goTurns_16 : decode cX11_goTurns 16 = .ok (.iastore, 1) := by decide +kernel
theorem dX11_goTurns_17 : decode cX11_goTurns 17 = .ok (.iconst 0, 1) := by decide +kernel
theorem dX11_goTurns_18 : decode cX11_goTurns 18 = .ok (.istore_n 3, 1) := by decide +kernel
theorem dX11_goTurns_19 : decode cX11_goTurns 19 = .ok (.iload_n 3, 1) := by decide +kernel
theorem dX11_goTurns_20 : decode cX11_goTurns 20 = .ok (.ifCond .ne 112, 3) := by decide +kernel
theorem dX11_goTurns_23 : decode cX11_goTurns 23 = .ok (.iload_n 2, 1) := by decide +kernel
theorem dX11_goTurns_24 : decode cX11_goTurns 24 = .ok (.iload_n 1, 1) := by decide +kernel
theorem dX11_goTurns_25 : decode cX11_goTurns 25 = .ok (.if_icmp .ge 37, 3) := by decide +kernel
theorem dX11_goTurns_28 : decode cX11_goTurns 28 = .ok (.aload_n 0, 1) := by decide +kernel
theorem dX11_goTurns_29 : decode cX11_goTurns 29 = .ok (.iload_n 2, 1) := by decide +kernel
theorem dX11_goTurns_30 : decode cX11_goTurns 30 = .ok (.invokevirtual 204, 3) := by decide +kernel
theorem dX11_goTurns_33 : decode cX11_goTurns 33 = .ok (.ifCond .eq 29, 3) := by decide +kernel
theorem dX11_goTurns_36 : decode cX11_goTurns 36 = .ok (.iinc 2 1, 3) := by decide +kernel
theorem dX11_goTurns_39 : decode cX11_goTurns 39 = .ok (.iload_n 2, 1) := by decide +kernel
theorem dX11_goTurns_40 : decode cX11_goTurns 40 = .ok (.iload_n 1, 1) := by decide +kernel
theorem dX11_goTurns_41 : decode cX11_goTurns 41 = .ok (.if_icmp .ge (-22), 3) := by decide +kernel
theorem dX11_goTurns_44 : decode cX11_goTurns 44 = .ok (.aload_n 0, 1) := by decide +kernel
theorem dX11_goTurns_45 : decode cX11_goTurns 45 = .ok (.getfield 50, 3) := by decide +kernel
theorem dX11_goTurns_48 : decode cX11_goTurns 48 = .ok (.iload_n 2, 1) := by decide +kernel
theorem dX11_goTurns_49 : decode cX11_goTurns 49 = .ok (.bipush (-9), 2) := by decide +kernel
theorem dX11_goTurns_51 : decode cX11_goTurns 51 = .ok (.iastore, 1) := by decide +kernel
theorem dX11_goTurns_52 : decode cX11_goTurns 52 = .ok (.aload_n 0, 1) := by decide +kernel
theorem dX11_goTurns_53 : decode cX11_goTurns 53 = .ok (.getfield 65, 3) := by decide +kernel
theorem dX11_goTurns_56 : decode cX11_goTurns 56 = .ok (.iload_n 2, 1) := by decide +kernel
theorem dX11_goTurns_57 : decode cX11_goTurns 57 = .ok (.iconst (-1), 1) := by decide +kernel
theorem dX11_goTurns_58 : decode cX11_goTurns 58 = .ok (.iastore, 1) := by decide +kernel
theorem dX11_goTurns_59 : decode cX11_goTurns 59 = .ok (.goto (-40), 3) := by decide +kernel
theorem dX11_goTurns_62 : decode cX11_goTurns 62 = .ok (.iload_n 2, 1) := by decide +kernel
theorem dX11_goTurns_63 : decode cX11_goTurns 63 = .ok (.iload_n 1, 1) := by decide +kernel
theorem dX11_goTurns_64 : decode cX11_goTurns 64 = .ok (.if_icmp .ne 43, 3) := by decide +kernel
theorem dX11_goTurns_67 : decode cX11_goTurns 67 = .ok (.iconst 0, 1) := by decide +kernel
theorem dX11_goTurns_68 : decode cX11_goTurns 68 = .ok (.istore 4, 2) := by decide +kernel
theorem dX11_goTurns_70 : decode cX11_goTurns 70 = .ok (.iload 4, 2) := by decide +kernel
theorem dX11_goTurns_72 : decode cX11_goTurns 72 = .ok (.aload_n 0, 1) := by decide +kernel
theorem dX11_goTurns_73 : decode cX11_goTurns 73 = .ok (.getfield 75, 3) := by decide +kernel
theorem dX11_goTurns_76 : decode cX11_goTurns 76 = .ok (.if_icmp .ge 31, 3) := by decide +kernel
theorem dX11_goTurns_79 : decode cX11_goTurns 79 = .ok (.aload_n 0, 1) := by decide +kernel
theorem dX11_goTurns_80 : decode cX11_goTurns 80 = .ok (.getfield 62, 3) := by decide +kernel
theorem dX11_goTurns_83 : decode cX11_goTurns 83 = .ok (.iconst 4, 1) := by decide +kernel
theorem dX11_goTurns_84 : decode cX11_goTurns 84 = .ok (.iload_n 2, 1) := by decide +kernel
theorem dX11_goTurns_85 : decode cX11_goTurns 85 = .ok (.imul, 1) := by decide +kernel
theorem dX11_goTurns_86 : decode cX11_goTurns 86 = .ok (.iload 4, 2) := by decide +kernel
theorem dX11_goTurns_88 : decode cX11_goTurns 88 = .ok (.iadd, 1) := by decide +kernel
theorem dX11_goTurns_89 : decode cX11_goTurns 89 = .ok (.aload_n 0, 1) := by decide +kernel
theorem dX11_goTurns_90 : decode cX11_goTurns 90 = .ok (.getfield 13, 3) := by decide +kernel
theorem dX11_goTurns_93 : decode cX11_goTurns 93 = .ok (.iconst 4, 1) := by decide +kernel
theorem dX11_goTurns_94 : decode cX11_goTurns 94 = .ok (.iload_n 2, 1) := by decide +kernel
theorem dX11_goTurns_95 : decode cX11_goTurns 95 = .ok (.imul, 1) := by decide +kernel
theorem dX11_goTurns_96 : decode cX11_goTurns 96 = .ok (.iload 4, 2) := by decide +kernel
theorem dX11_goTurns_98 : decode cX11_goTurns 98 = .ok (.iadd, 1) := by decide +kernel
theorem dX11_goTurns_99 : decode cX11_goTurns 99 = .ok (.iaload, 1) := by decide +kernel
theorem dX11_goTurns_100 : decode cX11_goTurns 100 = .ok (.iastore, 1) := by decide +kernel
theorem dX11_goTurns_101 : decode cX11_goTurns 101 = .ok (.iinc 4 1, 3) := by decide +kernel
theorem dX11_goTurns_104 : decode cX11_goTurns 104 = .ok (.goto (-34), 3) := by decide +kernel
theorem dX11_goTurns_107 : decode cX11_goTurns 107 = .ok (.iload_n 2, 1) := by decide +kernel
theorem dX11_goTurns_108 : decode cX11_goTurns 108 = .ok (.ifCond .ne 7, 3) := by decide +kernel
theorem dX11_goTurns_111 : decode cX11_goTurns 111 = .ok (.iconst 1, 1) := by decide +kernel
theorem dX11_goTurns_112 : decode cX11_goTurns 112 = .ok (.goto 4, 3) := by decide +kernel
theorem dX11_goTurns_115 : decode cX11_goTurns 115 = .ok (.iconst 0, 1) := by decide +kernel
theorem dX11_goTurns_116 : decode cX11_goTurns 116 = .ok (.istore_n 3, 1) := by decide +kernel
theorem dX11_goTurns_117 : decode cX11_goTurns 117 = .ok (.iload_n 3, 1) := by decide +kernel
theorem dX11_goTurns_118 : decode cX11_goTurns 118 = .ok (.ifCond .ne (-99), 3) := by decide +kernel
theorem dX11_goTurns_121 : decode cX11_goTurns 121 = .ok (.aload_n 0, 1) := by decide +kernel
theorem dX11_goTurns_122 : decode cX11_goTurns 122 = .ok (.iload_n 2, 1) := by decide +kernel
theorem dX11_goTurns_123 : decode cX11_goTurns 123 = .ok (.invokevirtual 207, 3) := by decide +kernel
theorem dX11_goTurns_126 : decode cX11_goTurns 126 = .ok (.iinc 2 (-1), 3) := by decide +kernel
theorem dX11_goTurns_129 : decode cX11_goTurns 129 = .ok (.goto (-110), 3) := by decide +kernel
theorem dX11_goTurns_132 : decode cX11_goTurns 132 = .ok (.return_, 1) := by decide +kernel
theorem dX11_turns_0 : decode cX11_turns 0 = .ok (.aload_n 0, 1) := by decide +kernel
theorem dX11_turns_1 : decode cX11_turns 1 = .ok (.iconst 0, 1) := by decide +kernel
theorem dX11_turns_2 : decode cX11_turns 2 = .ok (.putfield 71, 3) := by decide +kernel
theorem dX11_turns_5 : decode cX11_turns 5 = .ok (.aload_n 0, 1) := by decide +kernel
theorem dX11_turns_6 : decode cX11_turns 6 = .ok (.iload_n 2, 1) := by decide +kernel
theorem dX11_turns_7 : decode cX11_turns 7 = .ok (.invokevirtual 135, 3) := by decide +kernel
theorem dX11_turns_10 : decode cX11_turns 10 = .ok (.ifCond .eq 5, 3) := by decide +kernel
theorem dX11_turns_13 : decode cX11_turns 13 = .ok (.iconst (-1), 1) := by decide +kernel
theorem dX11_turns_14 : decode cX11_turns 14 = .ok (.ireturn, 1) := by decide +kernel
theorem dX11_turns_15 : decode cX11_turns 15 = .ok (.iload_n 1, 1) := by decide +kernel
theorem dX11_turns_16 : decode cX11_turns 16 = .ok (.i2l, 1) := by decide +kernel
theorem dX11_turns_17 : decode cX11_turns 17 = .ok (.lconst 1, 1) := by decide +kernel
theorem dX11_turns_18 : decode cX11_turns 18 = .ok (.ldc2_w 210, 3) := by decide +kernel
theorem dX11_turns_21 : decode cX11_turns 21 = .ok (.invokestatic 78, 3) := by decide +kernel
theorem dX11_turns_24 : decode cX11_turns 24 = .ok (.ifCond .ne 6, 3) := by decide +kernel
theorem dX11_turns_27 : decode cX11_turns 27 = .ok (.bipush (-2), 2) := by decide +kernel
theorem dX11_turns_29 : decode cX11_turns 29 = .ok (.ireturn, 1) := by decide +kernel
theorem dX11_turns_30 : decode cX11_turns 30 = .ok (.aload_n 0, 1) := by decide +kernel
theorem dX11_turns_31 : decode cX11_turns 31 = .ok (.iload_n 1, 1) := by decide +kernel
theorem dX11_turns_32 : decode cX11_turns 32 = .ok (.invokevirtual 212, 3) := by decide +kernel
theorem dX11_turns_35 : decode cX11_turns 35 = .ok (.aload_n 0, 1) := by decide +kernel
theorem dX11_turns_36 : decode cX11_turns 36 = .ok (.getfield 62, 3) := by decide +kernel
theorem dX11_turns_39 : decode cX11_turns 39 = .ok (.iload_n 2, 1) := by decide +kernel
theorem dX11_turns_40 : decode cX11_turns 40 = .ok (.iaload, 1) := by decide +kernel
theorem dX11_turns_41 : decode cX11_turns 41 = .ok (.bipush 6, 2) := by decide +kernel
theorem dX11_turns_43 : decode cX11_turns 43 = .ok (.if_icmp .ne 8, 3) := by decide +kernel
theorem dX11_turns_46 : decode cX11_turns 46 = .ok (.bipush (-9), 2) := by decide +kernel
theorem dX11_turns_48 : decode cX11_turns 48 = .ok (.goto 9, 3) := by decide +kernel
theorem dX11_turns_51 : decode cX11_turns 51 = .ok (.aload_n 0, 1) := by decide +kernel
theorem dX11_turns_52 : decode cX11_turns 52 = .ok (.getfield 62, 3) := by decide +kernel
theorem dX11_turns_55 : decode cX11_turns 55 = .ok (.iload_n 2, 1) := by decide +kernel
theorem dX11_turns_56 : decode cX11_turns 56 = .ok (.iaload, 1) := by decide +kernel
theorem dX11_turns_57 : decode cX11_turns 57 = .ok (.ireturn, 1) := by decide +kernel
theorem dX11_first_0 : decode cX11_first 0 = .ok (.aload_n 0, 1) := by decide +kernel
theorem dX11_first_1 : decode cX11_first 1 = .ok (.iconst 0, 1) := by decide +kernel
theorem dX11_first_2 : decode cX11_first 2 = .ok (.putfield 71, 3) := by decide +kernel
theorem dX11_first_5 : decode cX11_first 5 = .ok (.iload_n 1, 1) := by decide +kernel
theorem dX11_first_6 : decode cX11_first 6 = .ok (.i2l, 1) := by decide +kernel
theorem dX11_first_7 : decode cX11_first 7 = .ok (.lconst 1, 1) := by decide +kernel
theorem dX11_first_8 : decode cX11_first 8 = .ok (.ldc2_w 210, 3) := by decide +kernel
theorem dX11_first_11 : decode cX11_first 11 = .ok (.invokestatic 78, 3) := by decide +kernel
theorem dX11_first_14 : decode cX11_first 14 = .ok (.ifCond .ne 6, 3) := by decide +kernel
theorem dX11_first_17 : decode cX11_first 17 = .ok (.bipush (-2), 2) := by decide +kernel
theorem dX11_first_19 : decode cX11_first 19 = .ok (.ireturn, 1) := by decide +kernel
theorem dX11_first_20 : decode cX11_first 20 = .ok (.aload_n 0, 1) := by decide +kernel
theorem dX11_first_21 : decode cX11_first 21 = .ok (.getfield 75, 3) := by decide +kernel
theorem dX11_first_24 : decode cX11_first 24 = .ok (.ifCond .ne 6, 3) := by decide +kernel
theorem dX11_first_27 : decode cX11_first 27 = .ok (.bipush (-9), 2) := by decide +kernel
theorem dX11_first_29 : decode cX11_first 29 = .ok (.ireturn, 1) := by decide +kernel
theorem dX11_first_30 : decode cX11_first 30 = .ok (.aload_n 0, 1) := by decide +kernel
theorem dX11_first_31 : decode cX11_first 31 = .ok (.iload_n 1, 1) := by decide +kernel
theorem dX11_first_32 : decode cX11_first 32 = .ok (.invokevirtual 212, 3) := by decide +kernel
theorem dX11_first_35 : decode cX11_first 35 = .ok (.aload_n 0, 1) := by decide +kernel
theorem dX11_first_36 : decode cX11_first 36 = .ok (.getfield 68, 3) := by decide +kernel
theorem dX11_first_39 : decode cX11_first 39 = .ok (.iconst 0, 1) := by decide +kernel
theorem dX11_first_40 : decode cX11_first 40 = .ok (.iaload, 1) := by decide +kernel
theorem dX11_first_41 : decode cX11_first 41 = .ok (.iconst (-1), 1) := by decide +kernel
theorem dX11_first_42 : decode cX11_first 42 = .ok (.if_icmp .ne 8, 3) := by decide +kernel
theorem dX11_first_45 : decode cX11_first 45 = .ok (.bipush (-9), 2) := by decide +kernel
theorem dX11_first_47 : decode cX11_first 47 = .ok (.goto 9, 3) := by decide +kernel
theorem dX11_first_50 : decode cX11_first 50 = .ok (.aload_n 0, 1) := by decide +kernel
theorem dX11_first_51 : decode cX11_first 51 = .ok (.getfield 68, 3) := by decide +kernel
theorem dX11_first_54 : decode cX11_first 54 = .ok (.iconst 0, 1) := by decide +kernel
theorem dX11_first_55 : decode cX11_first 55 = .ok (.iaload, 1) := by decide +kernel
theorem dX11_first_56 : decode cX11_first 56 = .ok (.ireturn, 1) := by decide +kernel
theorem dX11_sight_0 : decode cX11_sight 0 = .ok (.aload_n 0, 1) := by decide +kernel
theorem dX11_sight_1 : decode cX11_sight 1 = .ok (.iconst 0, 1) := by decide +kernel
theorem dX11_sight_2 : decode cX11_sight 2 = .ok (.putfield 71, 3) := by decide +kernel
theorem dX11_sight_5 : decode cX11_sight 5 = .ok (.iload_n 1, 1) := by decide +kernel
theorem dX11_sight_6 : decode cX11_sight 6 = .ok (.invokestatic 138, 3) := by decide +kernel
theorem dX11_sight_9 : decode cX11_sight 9 = .ok (.ifCond .eq 5, 3) := by decide +kernel
theorem dX11_sight_12 : decode cX11_sight 12 = .ok (.iconst (-1), 1) := by decide +kernel
theorem dX11_sight_13 : decode cX11_sight 13 = .ok (.ireturn, 1) := by decide +kernel
theorem dX11_sight_14 : decode cX11_sight 14 = .ok (.aload_n 0, 1) := by decide +kernel
theorem dX11_sight_15 : decode cX11_sight 15 = .ok (.getfield 132, 3) := by decide +kernel
theorem dX11_sight_18 : decode cX11_sight 18 = .ok (.bipush 8, 2) := by decide +kernel
theorem dX11_sight_20 : decode cX11_sight 20 = .ok (.if_icmp .ne 6, 3) := by decide +kernel
theorem dX11_sight_23 : decode cX11_sight 23 = .ok (.bipush (-4), 2) := by decide +kernel
theorem dX11_sight_25 : decode cX11_sight 25 = .ok (.ireturn, 1) := by decide +kernel
theorem dX11_sight_26 : decode cX11_sight 26 = .ok (.aload_n 0, 1) := by decide +kernel
theorem dX11_sight_27 : decode cX11_sight 27 = .ok (.getfield 44, 3) := by decide +kernel
theorem dX11_sight_30 : decode cX11_sight 30 = .ok (.aload_n 0, 1) := by decide +kernel
theorem dX11_sight_31 : decode cX11_sight 31 = .ok (.getfield 132, 3) := by decide +kernel
theorem dX11_sight_34 : decode cX11_sight 34 = .ok (.iload_n 1, 1) := by decide +kernel
theorem dX11_sight_35 : decode cX11_sight 35 = .ok (.iastore, 1) := by decide +kernel
theorem dX11_sight_36 : decode cX11_sight 36 = .ok (.aload_n 0, 1) := by decide +kernel
theorem dX11_sight_37 : decode cX11_sight 37 = .ok (.getfield 47, 3) := by decide +kernel
theorem dX11_sight_40 : decode cX11_sight 40 = .ok (.aload_n 0, 1) := by decide +kernel
theorem dX11_sight_41 : decode cX11_sight 41 = .ok (.getfield 132, 3) := by decide +kernel
theorem dX11_sight_44 : decode cX11_sight 44 = .ok (.iload_n 2, 1) := by decide +kernel
theorem dX11_sight_45 : decode cX11_sight 45 = .ok (.bastore, 1) := by decide +kernel
theorem dX11_sight_46 : decode cX11_sight 46 = .ok (.aload_n 0, 1) := by decide +kernel
theorem dX11_sight_47 : decode cX11_sight 47 = .ok (.dup, 1) := by decide +kernel
theorem dX11_sight_48 : decode cX11_sight 48 = .ok (.getfield 132, 3) := by decide +kernel
theorem dX11_sight_51 : decode cX11_sight 51 = .ok (.iconst 1, 1) := by decide +kernel
theorem dX11_sight_52 : decode cX11_sight 52 = .ok (.iadd, 1) := by decide +kernel
theorem dX11_sight_53 : decode cX11_sight 53 = .ok (.putfield 132, 3) := by decide +kernel
theorem dX11_sight_56 : decode cX11_sight 56 = .ok (.aload_n 0, 1) := by decide +kernel
theorem dX11_sight_57 : decode cX11_sight 57 = .ok (.getfield 132, 3) := by decide +kernel
theorem dX11_sight_60 : decode cX11_sight 60 = .ok (.ireturn, 1) := by decide +kernel
theorem dX11_unsee_0 : decode cX11_unsee 0 = .ok (.aload_n 0, 1) := by decide +kernel
theorem dX11_unsee_1 : decode cX11_unsee 1 = .ok (.iconst 0, 1) := by decide +kernel
theorem dX11_unsee_2 : decode cX11_unsee 2 = .ok (.putfield 71, 3) := by decide +kernel
theorem dX11_unsee_5 : decode cX11_unsee 5 = .ok (.aload_n 0, 1) := by decide +kernel
theorem dX11_unsee_6 : decode cX11_unsee 6 = .ok (.getfield 132, 3) := by decide +kernel
theorem dX11_unsee_9 : decode cX11_unsee 9 = .ok (.istore_n 1, 1) := by decide +kernel
theorem dX11_unsee_10 : decode cX11_unsee 10 = .ok (.aload_n 0, 1) := by decide +kernel
theorem dX11_unsee_11 : decode cX11_unsee 11 = .ok (.iconst 0, 1) := by decide +kernel
theorem dX11_unsee_12 : decode cX11_unsee 12 = .ok (.putfield 132, 3) := by decide +kernel
theorem dX11_unsee_15 : decode cX11_unsee 15 = .ok (.iload_n 1, 1) := by decide +kernel
theorem dX11_unsee_16 : decode cX11_unsee 16 = .ok (.ireturn, 1) := by decide +kernel
theorem dX11_fits_0 : decode cX11_fits 0 = .ok (.iload_n 1, 1) := by decide +kernel
theorem dX11_fits_1 : decode cX11_fits 1 = .ok (.istore_n 2, 1) := by decide +kernel
theorem dX11_fits_2 : decode cX11_fits 2 = .ok (.iconst 1, 1) := by decide +kernel
theorem dX11_fits_3 : decode cX11_fits 3 = .ok (.istore_n 3, 1) := by decide +kernel
theorem dX11_fits_4 : decode cX11_fits 4 = .ok (.iconst 0, 1) := by decide +kernel
theorem dX11_fits_5 : decode cX11_fits 5 = .ok (.istore 4, 2) := by decide +kernel
theorem dX11_fits_7 : decode cX11_fits 7 = .ok (.iload 4, 2) := by decide +kernel
theorem dX11_fits_9 : decode cX11_fits 9 = .ok (.aload_n 0, 1) := by decide +kernel
theorem dX11_fits_10 : decode cX11_fits 10 = .ok (.getfield 132, 3) := by decide +kernel
theorem dX11_fits_13 : decode cX11_fits 13 = .ok (.if_icmp .ge 52, 3) := by decide +kernel
theorem dX11_fits_16 : decode cX11_fits 16 = .ok (.iload_n 3, 1) := by decide +kernel
theorem dX11_fits_17 : decode cX11_fits 17 = .ok (.ifCond .eq 28, 3) := by decide +kernel
theorem dX11_fits_20 : decode cX11_fits 20 = .ok (.iload_n 2, 1) := by decide +kernel
theorem dX11_fits_21 : decode cX11_fits 21 = .ok (.aload_n 0, 1) := by decide +kernel
theorem dX11_fits_22 : decode cX11_fits 22 = .ok (.getfield 44, 3) := by decide +kernel
theorem dX11_fits_25 : decode cX11_fits 25 = .ok (.iload 4, 2) := by decide +kernel
theorem dX11_fits_27 : decode cX11_fits 27 = .ok (.iaload, 1) := by decide +kernel
theorem dX11_fits_28 : decode cX11_fits 28 = .ok (.invokestatic 107, 3) := by decide +kernel
theorem dX11_fits_31 : decode cX11_fits 31 = .ok (.aload_n 0, 1) := by decide +kernel
theorem dX11_fits_32 : decode cX11_fits 32 = .ok (.getfield 47, 3) := by decide +kernel
theorem dX11_fits_35 : decode cX11_fits 35 = .ok (.iload 4, 2) := by decide +kernel
theorem dX11_fits_37 : decode cX11_fits 37 = .ok (.baload, 1) := by decide +kernel
theorem dX11_fits_38 : decode cX11_fits 38 = .ok (.if_icmp .eq 7, 3) := by decide +kernel
theorem dX11_fits_41 : decode cX11_fits 41 = .ok (.iconst 1, 1) := by decide +kernel
theorem dX11_fits_42 : decode cX11_fits 42 = .ok (.goto 4, 3) := by decide +kernel
theorem dX11_fits_45 : decode cX11_fits 45 = .ok (.iconst 0, 1) := by decide +kernel
theorem dX11_fits_46 : decode cX11_fits 46 = .ok (.istore_n 3, 1) := by decide +kernel
theorem dX11_fits_47 : decode cX11_fits 47 = .ok (.iload_n 2, 1) := by decide +kernel
theorem dX11_fits_48 : decode cX11_fits 48 = .ok (.iconst 1, 1) := by decide +kernel
theorem dX11_fits_49 : decode cX11_fits 49 = .ok (.aload_n 0, 1) := by decide +kernel
theorem dX11_fits_50 : decode cX11_fits 50 = .ok (.getfield 44, 3) := by decide +kernel
theorem dX11_fits_53 : decode cX11_fits 53 = .ok (.iload 4, 2) := by decide +kernel
theorem dX11_fits_55 : decode cX11_fits 55 = .ok (.iaload, 1) := by decide +kernel
theorem dX11_fits_56 : decode cX11_fits 56 = .ok (.ishl, 1) := by decide +kernel
theorem dX11_fits_57 : decode cX11_fits 57 = .ok (.ior, 1) := by decide +kernel
theorem dX11_fits_58 : decode cX11_fits 58 = .ok (.istore_n 2, 1) := by decide +kernel
theorem dX11_fits_59 : decode cX11_fits 59 = .ok (.iinc 4 1, 3) := by decide +kernel
theorem dX11_fits_62 : decode cX11_fits 62 = .ok (.goto (-55), 3) := by decide +kernel
theorem dX11_fits_65 : decode cX11_fits 65 = .ok (.iload_n 3, 1) := by decide +kernel
theorem dX11_fits_66 : decode cX11_fits 66 = .ok (.ireturn, 1) := by decide +kernel
theorem dX11_lists_0 : decode cX11_lists 0 = .ok (.aload_n 0, 1) := by decide +kernel
theorem dX11_lists_1 : decode cX11_lists 1 = .ok (.iconst 0, 1) := by decide +kernel
theorem dX11_lists_2 : decode cX11_lists 2 = .ok (.putfield 71, 3) := by decide +kernel
theorem dX11_lists_5 : decode cX11_lists 5 = .ok (.iconst 0, 1) := by decide +kernel
theorem dX11_lists_6 : decode cX11_lists 6 = .ok (.istore_n 1, 1) := by decide +kernel
theorem dX11_lists_7 : decode cX11_lists 7 = .ok (.iconst 0, 1) := by decide +kernel
theorem dX11_lists_8 : decode cX11_lists 8 = .ok (.istore_n 2, 1) := by decide +kernel
theorem dX11_lists_9 : decode cX11_lists 9 = .ok (.iload_n 2, 1) := by decide +kernel
theorem dX11_lists_10 : decode cX11_lists 10 = .ok (.bipush 64, 2) := by decide +kernel
theorem dX11_lists_12 : decode cX11_lists 12 = .ok (.if_icmp .ge 25, 3) := by decide +kernel
theorem dX11_lists_15 : decode cX11_lists 15 = .ok (.iload_n 1, 1) := by decide +kernel
theorem dX11_lists_16 : decode cX11_lists 16 = .ok (.aload_n 0, 1) := by decide +kernel
theorem dX11_lists_17 : decode cX11_lists 17 = .ok (.iload_n 2, 1) := by decide +kernel
theorem dX11_lists_18 : decode cX11_lists 18 = .ok (.invokevirtual 215, 3) := by decide +kernel
theorem dX11_lists_21 : decode cX11_lists 21 = .ok (.ifCond .eq 7, 3) := by decide +kernel
theorem dX11_lists_24 : decode cX11_lists 24 = .ok (.iconst 1, 1) := by decide +kernel
theorem dX11_lists_25 : decode cX11_lists 25 = .ok (.goto 4, 3) := by decide +kernel
theorem dX11_lists_28 : decode cX11_lists 28 = .ok (.iconst 0, 1) := by decide +kernel
theorem dX11_lists_29 : decode cX11_lists 29 = .ok (.iadd, 1) := by decide +kernel
theorem dX11_lists_30 : decode cX11_lists 30 = .ok (.istore_n 1, 1) := by decide +kernel
theorem dX11_lists_31 : decode cX11_lists 31 = .ok (.iinc 2 1, 3) := by decide +kernel
theorem dX11_lists_34 : decode cX11_lists 34 = .ok (.goto (-25), 3) := by decide +kernel
theorem dX11_lists_37 : decode cX11_lists 37 = .ok (.iload_n 1, 1) := by decide +kernel
theorem dX11_lists_38 : decode cX11_lists 38 = .ok (.ireturn, 1) := by decide +kernel
theorem dX11_listed_0 : decode cX11_listed 0 = .ok (.aload_n 0, 1) := by decide +kernel
theorem dX11_listed_1 : decode cX11_listed 1 = .ok (.iconst 0, 1) := by decide +kernel
theorem dX11_listed_2 : decode cX11_listed 2 = .ok (.putfield 71, 3) := by decide +kernel
theorem dX11_listed_5 : decode cX11_listed 5 = .ok (.iload_n 1, 1) := by decide +kernel
theorem dX11_listed_6 : decode cX11_listed 6 = .ok (.invokestatic 138, 3) := by decide +kernel
theorem dX11_listed_9 : decode cX11_listed 9 = .ok (.ifCond .eq 5, 3) := by decide +kernel
theorem dX11_listed_12 : decode cX11_listed 12 = .ok (.iconst (-1), 1) := by decide +kernel
theorem dX11_listed_13 : decode cX11_listed 13 = .ok (.ireturn, 1) := by decide +kernel
theorem dX11_listed_14 : decode cX11_listed 14 = .ok (.iconst 0, 1) := by decide +kernel
theorem dX11_listed_15 : decode cX11_listed 15 = .ok (.istore_n 2, 1) := by decide +kernel
theorem dX11_listed_16 : decode cX11_listed 16 = .ok (.iconst 0, 1) := by decide +kernel
theorem dX11_listed_17 : decode cX11_listed 17 = .ok (.istore_n 3, 1) := by decide +kernel
theorem dX11_listed_18 : decode cX11_listed 18 = .ok (.iconst 0, 1) := by decide +kernel
theorem dX11_listed_19 : decode cX11_listed 19 = .ok (.istore 4, 2) := by decide +kernel
theorem dX11_listed_21 : decode cX11_listed 21 = .ok (.iload 4, 2) := by decide +kernel
theorem dX11_listed_23 : decode cX11_listed 23 = .ok (.bipush 64, 2) := by decide +kernel
theorem dX11_listed_25 : decode cX11_listed 25 = .ok (.if_icmp .ge 30, 3) := by decide +kernel
theorem dX11_listed_28 : decode cX11_listed 28 = .ok (.aload_n 0, 1) := by decide +kernel
theorem dX11_listed_29 : decode cX11_listed 29 = .ok (.iload 4, 2) := by decide +kernel
theorem dX11_listed_31 : decode cX11_listed 31 = .ok (.invokevirtual 215, 3) := by decide +kernel
theorem dX11_listed_34 : decode cX11_listed 34 = .ok (.ifCond .eq 15, 3) := by decide +kernel
theorem dX11_listed_37 : decode cX11_listed 37 = .ok (.iinc 2 1, 3) := by decide +kernel
theorem dX11_listed_40 : decode cX11_listed 40 = .ok (.iload_n 3, 1) := by decide +kernel
theorem dX11_listed_41 : decode cX11_listed 41 = .ok (.iload 4, 2) := by decide +kernel
theorem dX11_listed_43 : decode cX11_listed 43 = .ok (.iload_n 1, 1) := by decide +kernel
theorem dX11_listed_44 : decode cX11_listed 44 = .ok (.ishr, 1) := by decide +kernel
theorem dX11_listed_45 : decode cX11_listed 45 = .ok (.iconst 1, 1) := by decide +kernel
theorem dX11_listed_46 : decode cX11_listed 46 = .ok (.iand, 1) := by decide +kernel
theorem dX11_listed_47 : decode cX11_listed 47 = .ok (.iadd, 1) := by decide +kernel
theorem dX11_listed_48 : decode cX11_listed 48 = .ok (.istore_n 3, 1) := by decide +kernel
theorem dX11_listed_49 : decode cX11_listed 49 = .ok (.iinc 4 1, 3) := by decide +kernel
theorem dX11_listed_52 : decode cX11_listed 52 = .ok (.goto (-31), 3) := by decide +kernel
theorem dX11_listed_55 : decode cX11_listed 55 = .ok (.iload_n 2, 1) := by decide +kernel
theorem dX11_listed_56 : decode cX11_listed 56 = .ok (.ifCond .ne 8, 3) := by decide +kernel
theorem dX11_listed_59 : decode cX11_listed 59 = .ok (.bipush (-9), 2) := by decide +kernel
theorem dX11_listed_61 : decode cX11_listed 61 = .ok (.goto 21, 3) := by decide +kernel
theorem dX11_listed_64 : decode cX11_listed 64 = .ok (.iload_n 3, 1) := by decide +kernel
theorem dX11_listed_65 : decode cX11_listed 65 = .ok (.iload_n 2, 1) := by decide +kernel
theorem dX11_listed_66 : decode cX11_listed 66 = .ok (.if_icmp .ne 7, 3) := by decide +kernel
theorem dX11_listed_69 : decode cX11_listed 69 = .ok (.iconst 1, 1) := by decide +kernel
theorem dX11_listed_70 : decode cX11_listed 70 = .ok (.goto 12, 3) := by decide +kernel
theorem dX11_listed_73 : decode cX11_listed 73 = .ok (.iload_n 3, 1) := by decide +kernel
theorem dX11_listed_74 : decode cX11_listed 74 = .ok (.ifCond .ne 7, 3) := by decide +kernel
theorem dX11_listed_77 : decode cX11_listed 77 = .ok (.iconst 0, 1) := by decide +kernel
theorem dX11_listed_78 : decode cX11_listed 78 = .ok (.goto 4, 3) := by decide +kernel
theorem dX11_listed_81 : decode cX11_listed 81 = .ok (.iconst 2, 1) := by decide +kernel
theorem dX11_listed_82 : decode cX11_listed 82 = .ok (.ireturn, 1) := by decide +kernel
theorem dX11_keep_0 : decode cX11_keep 0 = .ok (.aload_n 0, 1) := by decide +kernel
theorem dX11_keep_1 : decode cX11_keep 1 = .ok (.iconst 0, 1) := by decide +kernel
theorem dX11_keep_2 : decode cX11_keep 2 = .ok (.putfield 71, 3) := by decide +kernel
theorem dX11_keep_5 : decode cX11_keep 5 = .ok (.iload_n 1, 1) := by decide +kernel
theorem dX11_keep_6 : decode cX11_keep 6 = .ok (.i2l, 1) := by decide +kernel
theorem dX11_keep_7 : decode cX11_keep 7 = .ok (.lconst 0, 1) := by decide +kernel
theorem dX11_keep_8 : decode cX11_keep 8 = .ok (.lconst 1, 1) := by decide +kernel
theorem dX11_keep_9 : decode cX11_keep 9 = .ok (.invokestatic 78, 3) := by decide +kernel
theorem dX11_keep_12 : decode cX11_keep 12 = .ok (.ifCond .ne 5, 3) := by decide +kernel
theorem dX11_keep_15 : decode cX11_keep 15 = .ok (.iconst (-1), 1) := by decide +kernel
theorem dX11_keep_16 : decode cX11_keep 16 = .ok (.ireturn, 1) := by decide +kernel
theorem dX11_keep_17 : decode cX11_keep 17 = .ok (.aload_n 0, 1) := by decide +kernel
theorem dX11_keep_18 : decode cX11_keep 18 = .ok (.getfield 40, 3) := by decide +kernel
theorem dX11_keep_21 : decode cX11_keep 21 = .ok (.iload_n 1, 1) := by decide +kernel
theorem dX11_keep_22 : decode cX11_keep 22 = .ok (.iconst 1, 1) := by decide +kernel
theorem dX11_keep_23 : decode cX11_keep 23 = .ok (.bastore, 1) := by decide +kernel
theorem dX11_keep_24 : decode cX11_keep 24 = .ok (.iconst 0, 1) := by decide +kernel
theorem dX11_keep_25 : decode cX11_keep 25 = .ok (.istore_n 2, 1) := by decide +kernel
theorem dX11_keep_26 : decode cX11_keep 26 = .ok (.iload_n 2, 1) := by decide +kernel
theorem dX11_keep_27 : decode cX11_keep 27 = .ok (.iconst 4, 1) := by decide +kernel
theorem dX11_keep_28 : decode cX11_keep 28 = .ok (.if_icmp .ge 45, 3) := by decide +kernel
theorem dX11_keep_31 : decode cX11_keep 31 = .ok (.aload_n 0, 1) := by decide +kernel
theorem dX11_keep_32 : decode cX11_keep 32 = .ok (.getfield 37, 3) := by decide +kernel
theorem dX11_keep_35 : decode cX11_keep 35 = .ok (.bipush 8, 2) := by decide +kernel
theorem dX11_keep_37 : decode cX11_keep 37 = .ok (.iload_n 1, 1) := by decide +kernel
theorem dX11_keep_38 : decode cX11_keep 38 = .ok (.imul, 1) := by decide +kernel
theorem dX11_keep_39 : decode cX11_keep 39 = .ok (.iload_n 2, 1) := by decide +kernel
theorem dX11_keep_40 : decode cX11_keep 40 = .ok (.iadd, 1) := by decide +kernel
theorem dX11_keep_41 : decode cX11_keep 41 = .ok (.aload_n 0, 1) := by decide +kernel
theorem dX11_keep_42 : decode cX11_keep 42 = .ok (.getfield 13, 3) := by decide +kernel
theorem dX11_keep_45 : decode cX11_keep 45 = .ok (.iload_n 2, 1) := by decide +kernel
theorem dX11_keep_46 : decode cX11_keep 46 = .ok (.iaload, 1) := by decide +kernel
theorem dX11_keep_47 : decode cX11_keep 47 = .ok (.iastore, 1) := by decide +kernel
theorem dX11_keep_48 : decode cX11_keep 48 = .ok (.aload_n 0, 1) := by decide +kernel
theorem dX11_keep_49 : decode cX11_keep 49 = .ok (.getfield 37, 3) := by decide +kernel
theorem dX11_keep_52 : decode cX11_keep 52 = .ok (.bipush 8, 2) := by decide +kernel
theorem dX11_keep_54 : decode cX11_keep 54 = .ok (.iload_n 1, 1) := by decide +kernel
theorem dX11_keep_55 : decode cX11_keep 55 = .ok (.imul, 1) := by decide +kernel
theorem dX11_keep_56 : decode cX11_keep 56 = .ok (.iconst 4, 1) := by decide +kernel
theorem dX11_keep_57 : decode cX11_keep 57 = .ok (.iadd, 1) := by decide +kernel
theorem dX11_keep_58 : decode cX11_keep 58 = .ok (.iload_n 2, 1) := by decide +kernel
theorem dX11_keep_59 : decode cX11_keep 59 = .ok (.iadd, 1) := by decide +kernel
theorem dX11_keep_60 : decode cX11_keep 60 = .ok (.aload_n 0, 1) := by decide +kernel
theorem dX11_keep_61 : decode cX11_keep 61 = .ok (.getfield 16, 3) := by decide +kernel
theorem dX11_keep_64 : decode cX11_keep 64 = .ok (.iload_n 2, 1) := by decide +kernel
theorem dX11_keep_65 : decode cX11_keep 65 = .ok (.iaload, 1) := by decide +kernel
theorem dX11_keep_66 : decode cX11_keep 66 = .ok (.iastore, 1) := by decide +kernel
theorem dX11_keep_67 : decode cX11_keep 67 = .ok (.iinc 2 1, 3) := by decide +kernel
theorem dX11_keep_70 : decode cX11_keep 70 = .ok (.goto (-44), 3) := by decide +kernel
theorem dX11_keep_73 : decode cX11_keep 73 = .ok (.aload_n 0, 1) := by decide +kernel
theorem dX11_keep_74 : decode cX11_keep 74 = .ok (.invokevirtual 129, 3) := by decide +kernel
theorem dX11_keep_77 : decode cX11_keep 77 = .ok (.ireturn, 1) := by decide +kernel
theorem dX11_again_0 : decode cX11_again 0 = .ok (.aload_n 0, 1) := by decide +kernel
theorem dX11_again_1 : decode cX11_again 1 = .ok (.iconst 0, 1) := by decide +kernel
theorem dX11_again_2 : decode cX11_again 2 = .ok (.putfield 71, 3) := by decide +kernel
theorem dX11_again_5 : decode cX11_again 5 = .ok (.iload_n 1, 1) := by decide +kernel
theorem dX11_again_6 : decode cX11_again 6 = .ok (.i2l, 1) := by decide +kernel
theorem dX11_again_7 : decode cX11_again 7 = .ok (.lconst 0, 1) := by decide +kernel
theorem dX11_again_8 : decode cX11_again 8 = .ok (.lconst 1, 1) := by decide +kernel
theorem dX11_again_9 : decode cX11_again 9 = .ok (.invokestatic 78, 3) := by decide +kernel
theorem dX11_again_12 : decode cX11_again 12 = .ok (.ifCond .ne 5, 3) := by decide +kernel
theorem dX11_again_15 : decode cX11_again 15 = .ok (.iconst (-1), 1) := by decide +kernel
theorem dX11_again_16 : decode cX11_again 16 = .ok (.ireturn, 1) := by decide +kernel
theorem dX11_again_17 : decode cX11_again 17 = .ok (.aload_n 0, 1) := by decide +kernel
theorem dX11_again_18 : decode cX11_again 18 = .ok (.getfield 40, 3) := by decide +kernel
theorem dX11_again_21 : decode cX11_again 21 = .ok (.iload_n 1, 1) := by decide +kernel
theorem dX11_again_22 : decode cX11_again 22 = .ok (.baload, 1) := by decide +kernel
theorem dX11_again_23 : decode cX11_again 23 = .ok (.ifCond .ne 6, 3) := by decide +kernel
theorem dX11_again_26 : decode cX11_again 26 = .ok (.bipush (-3), 2) := by decide +kernel
theorem dX11_again_28 : decode cX11_again 28 = .ok (.ireturn, 1) := by decide +kernel
theorem dX11_again_29 : decode cX11_again 29 = .ok (.iconst 0, 1) := by decide +kernel
theorem dX11_again_30 : decode cX11_again 30 = .ok (.istore_n 2, 1) := by decide +kernel
theorem dX11_again_31 : decode cX11_again 31 = .ok (.iload_n 2, 1) := by decide +kernel
theorem dX11_again_32 : decode cX11_again 32 = .ok (.iconst 4, 1) := by decide +kernel
theorem dX11_again_33 : decode cX11_again 33 = .ok (.if_icmp .ge 45, 3) := by decide +kernel
theorem dX11_again_36 : decode cX11_again 36 = .ok (.aload_n 0, 1) := by decide +kernel
theorem dX11_again_37 : decode cX11_again 37 = .ok (.getfield 13, 3) := by decide +kernel
theorem dX11_again_40 : decode cX11_again 40 = .ok (.iload_n 2, 1) := by decide +kernel
theorem dX11_again_41 : decode cX11_again 41 = .ok (.aload_n 0, 1) := by decide +kernel
theorem dX11_again_42 : decode cX11_again 42 = .ok (.getfield 37, 3) := by decide +kernel
theorem dX11_again_45 : decode cX11_again 45 = .ok (.bipush 8, 2) := by decide +kernel
theorem dX11_again_47 : decode cX11_again 47 = .ok (.iload_n 1, 1) := by decide +kernel
theorem dX11_again_48 : decode cX11_again 48 = .ok (.imul, 1) := by decide +kernel
theorem dX11_again_49 : decode cX11_again 49 = .ok (.iload_n 2, 1) := by decide +kernel
theorem dX11_again_50 : decode cX11_again 50 = .ok (.iadd, 1) := by decide +kernel
theorem dX11_again_51 : decode cX11_again 51 = .ok (.iaload, 1) := by decide +kernel
theorem dX11_again_52 : decode cX11_again 52 = .ok (.iastore, 1) := by decide +kernel
theorem dX11_again_53 : decode cX11_again 53 = .ok (.aload_n 0, 1) := by decide +kernel
theorem dX11_again_54 : decode cX11_again 54 = .ok (.getfield 16, 3) := by decide +kernel
theorem dX11_again_57 : decode cX11_again 57 = .ok (.iload_n 2, 1) := by decide +kernel
theorem dX11_again_58 : decode cX11_again 58 = .ok (.aload_n 0, 1) := by decide +kernel
theorem dX11_again_59 : decode cX11_again 59 = .ok (.getfield 37, 3) := by decide +kernel
theorem dX11_again_62 : decode cX11_again 62 = .ok (.bipush 8, 2) := by decide +kernel
theorem dX11_again_64 : decode cX11_again 64 = .ok (.iload_n 1, 1) := by decide +kernel
theorem dX11_again_65 : decode cX11_again 65 = .ok (.imul, 1) := by decide +kernel
theorem dX11_again_66 : decode cX11_again 66 = .ok (.iconst 4, 1) := by decide +kernel
theorem dX11_again_67 : decode cX11_again 67 = .ok (.iadd, 1) := by decide +kernel
theorem dX11_again_68 : decode cX11_again 68 = .ok (.iload_n 2, 1) := by decide +kernel
theorem dX11_again_69 : decode cX11_again 69 = .ok (.iadd, 1) := by decide +kernel
theorem dX11_again_70 : decode cX11_again 70 = .ok (.iaload, 1) := by decide +kernel
theorem dX11_again_71 : decode cX11_again 71 = .ok (.iastore, 1) := by decide +kernel
theorem dX11_again_72 : decode cX11_again 72 = .ok (.iinc 2 1, 3) := by decide +kernel
theorem dX11_again_75 : decode cX11_again 75 = .ok (.goto (-44), 3) := by decide +kernel
theorem dX11_again_78 : decode cX11_again 78 = .ok (.aload_n 0, 1) := by decide +kernel
theorem dX11_again_79 : decode cX11_again 79 = .ok (.iconst 0, 1) := by decide +kernel
theorem dX11_again_80 : decode cX11_again 80 = .ok (.putfield 118, 3) := by decide +kernel
theorem dX11_again_83 : decode cX11_again 83 = .ok (.aload_n 0, 1) := by decide +kernel
theorem dX11_again_84 : decode cX11_again 84 = .ok (.invokevirtual 129, 3) := by decide +kernel
theorem dX11_again_87 : decode cX11_again 87 = .ok (.ireturn, 1) := by decide +kernel
