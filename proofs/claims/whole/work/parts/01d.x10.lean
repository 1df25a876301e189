theorem dX10_init_0 : decode cX10_init 0 = .ok (.aload_n 0, 1) := by decide +kernel
theorem dX10_init_1 : decode cX10_init 1 = .ok (.invokespecial 3, 3) := by decide +kernel
theorem dX10_init_4 : decode cX10_init 4 = .ok (.aload_n 0, 1) := by decide +kernel
theorem dX10_init_5 : decode cX10_init 5 = .ok (.new 9, 3) := by decide +kernel
theorem dX10_init_8 : decode cX10_init 8 = .ok (.dup, 1) := by decide +kernel
theorem dX10_init_9 : decode cX10_init 9 = .ok (.invokespecial 11, 3) := by decide +kernel
theorem dX10_init_12 : decode cX10_init 12 = .ok (.putfield 12, 3) := by decide +kernel
theorem dX10_init_15 : decode cX10_init 15 = .ok (.aload_n 0, 1) := by decide +kernel
theorem dX10_init_16 : decode cX10_init 16 = .ok (.new 16, 3) := by decide +kernel
theorem dX10_init_19 : decode cX10_init 19 = .ok (.dup, 1) := by decide +kernel
theorem dX10_init_20 : decode cX10_init 20 = .ok (.invokespecial 18, 3) := by decide +kernel
theorem dX10_init_23 : decode cX10_init 23 = .ok (.putfield 19, 3) := by decide +kernel
theorem dX10_init_26 : decode cX10_init 26 = .ok (.aload_n 0, 1) := by decide +kernel
theorem dX10_init_27 : decode cX10_init 27 = .ok (.new 16, 3) := by decide +kernel
theorem dX10_init_30 : decode cX10_init 30 = .ok (.dup, 1) := by decide +kernel
theorem dX10_init_31 : decode cX10_init 31 = .ok (.invokespecial 18, 3) := by decide +kernel
theorem dX10_init_34 : decode cX10_init 34 = .ok (.putfield 23, 3) := by decide +kernel
theorem dX10_init_37 : decode cX10_init 37 = .ok (.aload_n 0, 1) := by decide +kernel
theorem dX10_init_38 : decode cX10_init 38 = .ok (.new 26, 3) := by decide +kernel
theorem dX10_init_41 : decode cX10_init 41 = .ok (.dup, 1) := by decide +kernel
theorem dX10_init_42 : decode cX10_init 42 = .ok (.invokespecial 28, 3) := by decide +kernel
theorem dX10_init_45 : decode cX10_init 45 = .ok (.putfield 29, 3) := by decide +kernel
theorem dX10_init_48 : decode cX10_init 48 = .ok (.aload_n 0, 1) := by decide +kernel
theorem dX10_init_49 : decode cX10_init 49 = .ok (.new 33, 3) := by decide +kernel
theorem dX10_init_52 : decode cX10_init 52 = .ok (.dup, 1) := by decide +kernel
theorem dX10_init_53 : decode cX10_init 53 = .ok (.invokespecial 35, 3) := by decide +kernel
theorem dX10_init_56 : decode cX10_init 56 = .ok (.putfield 36, 3) := by decide +kernel
theorem dX10_init_59 : decode cX10_init 59 = .ok (.aload_n 0, 1) := by decide +kernel
theorem dX10_init_60 : decode cX10_init 60 = .ok (.new 40, 3) := by decide +kernel
theorem dX10_init_63 : decode cX10_init 63 = .ok (.dup, 1) := by decide +kernel
theorem dX10_init_64 : decode cX10_init 64 = .ok (.invokespecial 42, 3) := by decide +kernel
theorem dX10_init_67 : decode cX10_init 67 = .ok (.putfield 43, 3) := by decide +kernel
theorem dX10_init_70 : decode cX10_init 70 = .ok (.aload_n 0, 1) := by decide +kernel
theorem dX10_init_71 : decode cX10_init 71 = .ok (.new 47, 3) := by decide +kernel
theorem dX10_init_74 : decode cX10_init 74 = .ok (.dup, 1) := by decide +kernel
theorem dX10_init_75 : decode cX10_init 75 = .ok (.invokespecial 49, 3) := by decide +kernel
theorem dX10_init_78 : decode cX10_init 78 = .ok (.putfield 50, 3) := by decide +kernel
theorem dX10_init_81 : decode cX10_init 81 = .ok (.aload_n 0, 1) := by decide +kernel
theorem dX10_init_82 : decode cX10_init 82 = .ok (.new 54, 3) := by decide +kernel
theorem dX10_init_85 : decode cX10_init 85 = .ok (.dup, 1) := by decide +kernel
theorem dX10_init_86 : decode cX10_init 86 = .ok (.invokespecial 56, 3) := by decide +kernel
theorem dX10_init_89 : decode cX10_init 89 = .ok (.putfield 57, 3) := by decide +kernel
theorem dX10_init_92 : decode cX10_init 92 = .ok (.aload_n 0, 1) := by decide +kernel
theorem dX10_init_93 : decode cX10_init 93 = .ok (.new 61, 3) := by decide +kernel
theorem dX10_init_96 : decode cX10_init 96 = .ok (.dup, 1) := by decide +kernel
theorem dX10_init_97 : decode cX10_init 97 = .ok (.invokespecial 63, 3) := by decide +kernel
theorem dX10_init_100 : decode cX10_init 100 = .ok (.putfield 64, 3) := by decide +kernel
theorem dX10_init_103 : decode cX10_init 103 = .ok (.aload_n 0, 1) := by decide +kernel
theorem dX10_init_104 : decode cX10_init 104 = .ok (.iconst 2, 1) := by decide +kernel
theorem dX10_init_105 : decode cX10_init 105 = .ok (.anewarray 68, 3) := by decide +kernel
theorem dX10_init_108 : decode cX10_init 108 = .ok (.putfield 70, 3) := by decide +kernel
theorem dX10_init_111 : decode cX10_init 111 = .ok (.iconst 0, 1) := by decide +kernel
theorem dX10_init_112 : decode cX10_init 112 = .ok (.istore_n 1, 1) := by decide +kernel
theorem dX10_init_113 : decode cX10_init 113 = .ok (.iload_n 1, 1) := by decide +kernel
theorem dX10_init_114 : decode cX10_init 114 = .ok (.iconst 2, 1) := by decide +kernel
theorem dX10_init_115 : decode cX10_init 115 = .ok (.if_icmp .ge 22, 3) := by decide +kernel
theorem dX10_init_118 : decode cX10_init 118 = .ok (.aload_n 0, 1) := by decide +kernel
theorem dX10_init_119 : decode cX10_init 119 = .ok (.getfield 70, 3) := by decide +kernel
theorem dX10_init_122 : decode cX10_init 122 = .ok (.iload_n 1, 1) := by decide +kernel
theorem dX10_init_123 : decode cX10_init 123 = .ok (.new 68, 3) := by decide +kernel
theorem dX10_init_126 : decode cX10_init 126 = .ok (.dup, 1) := by decide +kernel
theorem dX10_init_127 : decode cX10_init 127 = .ok (.invokespecial 74, 3) := by decide +kernel
theorem dX10_init_130 : decode cX10_init 130 = .ok (.aastore, 1) := by decide +kernel
theorem dX10_init_131 : decode cX10_init 131 = .ok (.iinc 1 1, 3) := by decide +kernel
theorem dX10_init_134 : decode cX10_init 134 = .ok (.goto (-21), 3) := by decide +kernel
theorem dX10_init_137 : decode cX10_init 137 = .ok (.aload_n 0, 1) := by decide +kernel
theorem dX10_init_138 : decode cX10_init 138 = .ok (.iconst 4, 1) := by decide +kernel
theorem dX10_init_139 : decode cX10_init 139 = .ok (.newarray .int, 2) := by decide +kernel
theorem dX10_init_141 : decode cX10_init 141 = .ok (.putfield 75, 3) := by decide +kernel
theorem dX10_init_144 : decode cX10_init 144 = .ok (.return_, 1) := by decide +kernel
theorem dX10_write_0 : decode cX10_write 0 = .ok (.iload_n 1, 1) := by decide +kernel
theorem dX10_write_1 : decode cX10_write 1 = .ok (.iconst 1, 1) := by decide +kernel
theorem dX10_write_2 : decode cX10_write 2 = .ok (.if_icmp .lt 9, 3) := by decide +kernel
theorem dX10_write_5 : decode cX10_write 5 = .ok (.iload_n 1, 1) := by decide +kernel
theorem dX10_write_6 : decode cX10_write 6 = .ok (.bipush 8, 2) := by decide +kernel
theorem dX10_write_8 : decode cX10_write 8 = .ok (.if_icmp .le 6, 3) := by decide +kernel
theorem dX10_write_11 : decode cX10_write 11 = .ok (.bipush (-2), 2) := by decide +kernel
theorem dX10_write_13 : decode cX10_write 13 = .ok (.ireturn, 1) := by decide +kernel
theorem dX10_write_14 : decode cX10_write 14 = .ok (.aload_n 0, 1) := by decide +kernel
theorem dX10_write_15 : decode cX10_write 15 = .ok (.getfield 12, 3) := by decide +kernel
theorem dX10_write_18 : decode cX10_write 18 = .ok (.getfield 79, 3) := by decide +kernel
theorem dX10_write_21 : decode cX10_write 21 = .ok (.iload_n 1, 1) := by decide +kernel
theorem dX10_write_22 : decode cX10_write 22 = .ok (.iadd, 1) := by decide +kernel
theorem dX10_write_23 : decode cX10_write 23 = .ok (.bipush 64, 2) := by decide +kernel
theorem dX10_write_25 : decode cX10_write 25 = .ok (.if_icmp .le 6, 3) := by decide +kernel
theorem dX10_write_28 : decode cX10_write 28 = .ok (.bipush (-4), 2) := by decide +kernel
theorem dX10_write_30 : decode cX10_write 30 = .ok (.ireturn, 1) := by decide +kernel
theorem dX10_write_31 : decode cX10_write 31 = .ok (.aload_n 0, 1) := by decide +kernel
theorem dX10_write_32 : decode cX10_write 32 = .ok (.getfield 12, 3) := by decide +kernel
theorem dX10_write_35 : decode cX10_write 35 = .ok (.iload_n 1, 1) := by decide +kernel
theorem dX10_write_36 : decode cX10_write 36 = .ok (.lload_n 2, 1) := by decide +kernel
theorem dX10_write_37 : decode cX10_write 37 = .ok (.invokevirtual 83, 3) := by decide +kernel
theorem dX10_write_40 : decode cX10_write 40 = .ok (.aload_n 0, 1) := by decide +kernel
theorem dX10_write_41 : decode cX10_write 41 = .ok (.getfield 12, 3) := by decide +kernel
theorem dX10_write_44 : decode cX10_write 44 = .ok (.getfield 79, 3) := by decide +kernel
theorem dX10_write_47 : decode cX10_write 47 = .ok (.ireturn, 1) := by decide +kernel
theorem dX10_wipe_0 : decode cX10_wipe 0 = .ok (.aload_n 0, 1) := by decide +kernel
theorem dX10_wipe_1 : decode cX10_wipe 1 = .ok (.getfield 12, 3) := by decide +kernel
theorem dX10_wipe_4 : decode cX10_wipe 4 = .ok (.getfield 79, 3) := by decide +kernel
theorem dX10_wipe_7 : decode cX10_wipe 7 = .ok (.istore_n 1, 1) := by decide +kernel
theorem dX10_wipe_8 : decode cX10_wipe 8 = .ok (.aload_n 0, 1) := by decide +kernel
theorem dX10_wipe_9 : decode cX10_wipe 9 = .ok (.getfield 12, 3) := by decide +kernel
theorem dX10_wipe_12 : decode cX10_wipe 12 = .ok (.iconst 0, 1) := by decide +kernel
theorem dX10_wipe_13 : decode cX10_wipe 13 = .ok (.putfield 79, 3) := by decide +kernel
theorem dX10_wipe_16 : decode cX10_wipe 16 = .ok (.iload_n 1, 1) := by decide +kernel
theorem dX10_wipe_17 : decode cX10_wipe 17 = .ok (.ireturn, 1) := by decide +kernel
theorem dX10_fault_0 : decode cX10_fault 0 = .ok (.aload_n 0, 1) := by decide +kernel
theorem dX10_fault_1 : decode cX10_fault 1 = .ok (.getfield 12, 3) := by decide +kernel
theorem dX10_fault_4 : decode cX10_fault 4 = .ok (.aload_n 0, 1) := by decide +kernel
theorem dX10_fault_5 : decode cX10_fault 5 = .ok (.getfield 23, 3) := by decide +kernel
theorem dX10_fault_8 : decode cX10_fault 8 = .ok (.invokevirtual 87, 3) := by decide +kernel
theorem dX10_fault_11 : decode cX10_fault 11 = .ok (.ireturn, 1) := by decide +kernel
theorem dX10_fair_0 : decode cX10_fair 0 = .ok (.aload_n 0, 1) := by decide +kernel
theorem dX10_fair_1 : decode cX10_fair 1 = .ok (.getfield 12, 3) := by decide +kernel
theorem dX10_fair_4 : decode cX10_fair 4 = .ok (.aload_n 0, 1) := by decide +kernel
theorem dX10_fair_5 : decode cX10_fair 5 = .ok (.getfield 23, 3) := by decide +kernel
theorem dX10_fair_8 : decode cX10_fair 8 = .ok (.invokevirtual 87, 3) := by decide +kernel
theorem dX10_fair_11 : decode cX10_fair 11 = .ok (.bipush (-9), 2) := by decide +kernel
theorem dX10_fair_13 : decode cX10_fair 13 = .ok (.if_icmp .eq 6, 3) := by decide +kernel
theorem dX10_fair_16 : decode cX10_fair 16 = .ok (.bipush (-3), 2) := by decide +kernel
theorem dX10_fair_18 : decode cX10_fair 18 = .ok (.ireturn, 1) := by decide +kernel
theorem dX10_fair_19 : decode cX10_fair 19 = .ok (.aload_n 0, 1) := by decide +kernel
theorem dX10_fair_20 : decode cX10_fair 20 = .ok (.getfield 19, 3) := by decide +kernel
theorem dX10_fair_23 : decode cX10_fair 23 = .ok (.aload_n 0, 1) := by decide +kernel
theorem dX10_fair_24 : decode cX10_fair 24 = .ok (.getfield 23, 3) := by decide +kernel
theorem dX10_fair_27 : decode cX10_fair 27 = .ok (.invokevirtual 91, 3) := by decide +kernel
theorem dX10_fair_30 : decode cX10_fair 30 = .ok (.aload_n 0, 1) := by decide +kernel
theorem dX10_fair_31 : decode cX10_fair 31 = .ok (.getfield 29, 3) := by decide +kernel
theorem dX10_fair_34 : decode cX10_fair 34 = .ok (.iconst 0, 1) := by decide +kernel
theorem dX10_fair_35 : decode cX10_fair 35 = .ok (.putfield 95, 3) := by decide +kernel
theorem dX10_fair_38 : decode cX10_fair 38 = .ok (.aload_n 0, 1) := by decide +kernel
theorem dX10_fair_39 : decode cX10_fair 39 = .ok (.getfield 43, 3) := by decide +kernel
theorem dX10_fair_42 : decode cX10_fair 42 = .ok (.invokevirtual 98, 3) := by decide +kernel
theorem dX10_fair_45 : decode cX10_fair 45 = .ok (.iconst 0, 1) := by decide +kernel
theorem dX10_fair_46 : decode cX10_fair 46 = .ok (.istore_n 1, 1) := by decide +kernel
theorem dX10_fair_47 : decode cX10_fair 47 = .ok (.iload_n 1, 1) := by decide +kernel
theorem dX10_fair_48 : decode cX10_fair 48 = .ok (.iconst 2, 1) := by decide +kernel
theorem dX10_fair_49 : decode cX10_fair 49 = .ok (.if_icmp .ge 19, 3) := by decide +kernel
theorem dX10_fair_52 : decode cX10_fair 52 = .ok (.aload_n 0, 1) := by decide +kernel
theorem dX10_fair_53 : decode cX10_fair 53 = .ok (.getfield 70, 3) := by decide +kernel
theorem dX10_fair_56 : decode cX10_fair 56 = .ok (.iload_n 1, 1) := by decide +kernel
theorem dX10_fair_57 : decode cX10_fair 57 = .ok (.aaload, 1) := by decide +kernel
theorem dX10_fair_58 : decode cX10_fair 58 = .ok (.iconst 0, 1) := by decide +kernel
theorem dX10_fair_59 : decode cX10_fair 59 = .ok (.putfield 101, 3) := by decide +kernel
theorem dX10_fair_62 : decode cX10_fair 62 = .ok (.iinc 1 1, 3) := by decide +kernel
theorem dX10_fair_65 : decode cX10_fair 65 = .ok (.goto (-18), 3) := by decide +kernel
theorem dX10_fair_68 : decode cX10_fair 68 = .ok (.aload_n 0, 1) := by decide +kernel
theorem dX10_fair_69 : decode cX10_fair 69 = .ok (.getfield 19, 3) := by decide +kernel
theorem dX10_fair_72 : decode cX10_fair 72 = .ok (.getfield 105, 3) := by decide +kernel
theorem dX10_fair_75 : decode cX10_fair 75 = .ok (.ireturn, 1) := by decide +kernel
theorem dX10_about_0 : decode cX10_about 0 = .ok (.iload_n 1, 1) := by decide +kernel
theorem dX10_about_1 : decode cX10_about 1 = .ok (.tableswitch 115 0 7 #[47, 55, 63, 71, 79, 91, 99, 107], 47) := by decide +kernel
theorem dX10_about_48 : decode cX10_about 48 = .ok (.aload_n 0, 1) := by decide +kernel
theorem dX10_about_49 : decode cX10_about 49 = .ok (.getfield 19, 3) := by decide +kernel
theorem dX10_about_52 : decode cX10_about 52 = .ok (.getfield 105, 3) := by decide +kernel
theorem dX10_about_55 : decode cX10_about 55 = .ok (.ireturn, 1) := by decide +kernel
theorem dX10_about_56 : decode cX10_about 56 = .ok (.aload_n 0, 1) := by decide +kernel
theorem dX10_about_57 : decode cX10_about 57 = .ok (.getfield 19, 3) := by decide +kernel
theorem dX10_about_60 : decode cX10_about 60 = .ok (.invokevirtual 106, 3) := by decide +kernel
theorem dX10_about_63 : decode cX10_about 63 = .ok (.ireturn, 1) := by decide +kernel
theorem dX10_about_64 : decode cX10_about 64 = .ok (.aload_n 0, 1) := by decide +kernel
theorem dX10_about_65 : decode cX10_about 65 = .ok (.getfield 19, 3) := by decide +kernel
theorem dX10_about_68 : decode cX10_about 68 = .ok (.invokevirtual 110, 3) := by decide +kernel
theorem dX10_about_71 : decode cX10_about 71 = .ok (.ireturn, 1) := by decide +kernel
theorem dX10_about_72 : decode cX10_about 72 = .ok (.aload_n 0, 1) := by decide +kernel
theorem dX10_about_73 : decode cX10_about 73 = .ok (.getfield 29, 3) := by decide +kernel
theorem dX10_about_76 : decode cX10_about 76 = .ok (.getfield 95, 3) := by decide +kernel
theorem dX10_about_79 : decode cX10_about 79 = .ok (.ireturn, 1) := by decide +kernel
theorem dX10_about_80 : decode cX10_about 80 = .ok (.aload_n 0, 1) := by decide +kernel
theorem dX10_about_81 : decode cX10_about 81 = .ok (.getfield 43, 3) := by decide +kernel
theorem dX10_about_84 : decode cX10_about 84 = .ok (.aload_n 0, 1) := by decide +kernel
theorem dX10_about_85 : decode cX10_about 85 = .ok (.getfield 19, 3) := by decide +kernel
theorem dX10_about_88 : decode cX10_about 88 = .ok (.invokevirtual 113, 3) := by decide +kernel
theorem dX10_about_91 : decode cX10_about 91 = .ok (.ireturn, 1) := by decide +kernel
theorem dX10_about_92 : decode cX10_about 92 = .ok (.aload_n 0, 1) := by decide +kernel
theorem dX10_about_93 : decode cX10_about 93 = .ok (.getfield 64, 3) := by decide +kernel
theorem dX10_about_96 : decode cX10_about 96 = .ok (.getfield 116, 3) := by decide +kernel
theorem dX10_about_99 : decode cX10_about 99 = .ok (.ireturn, 1) := by decide +kernel
theorem dX10_about_100 : decode cX10_about 100 = .ok (.aload_n 0, 1) := by decide +kernel
theorem dX10_about_101 : decode cX10_about 101 = .ok (.getfield 19, 3) := by decide +kernel
theorem dX10_about_104 : decode cX10_about 104 = .ok (.invokevirtual 117, 3) := by decide +kernel
theorem dX10_about_107 : decode cX10_about 107 = .ok (.ireturn, 1) := by decide +kernel
theorem dX10_about_108 : decode cX10_about 108 = .ok (.aload_n 0, 1) := by decide +kernel
theorem dX10_about_109 : decode cX10_about 109 = .ok (.getfield 12, 3) := by decide +kernel
theorem dX10_about_112 : decode cX10_about 112 = .ok (.getfield 79, 3) := by decide +kernel
theorem dX10_about_115 : decode cX10_about 115 = .ok (.ireturn, 1) := by decide +kernel
theorem dX10_about_116 : decode cX10_about 116 = .ok (.bipush (-2), 2) := by decide +kernel
theorem dX10_about_118 : decode cX10_about 118 = .ok (.ireturn, 1) := by decide +kernel
theorem dX10_holds_0 : decode cX10_holds 0 = .ok (.aload_n 0, 1) := by decide +kernel
theorem dX10_holds_1 : decode cX10_holds 1 = .ok (.getfield 19, 3) := by decide +kernel
theorem dX10_holds_4 : decode cX10_holds 4 = .ok (.iload_n 1, 1) := by decide +kernel
theorem dX10_holds_5 : decode cX10_holds 5 = .ok (.invokevirtual 120, 3) := by decide +kernel
theorem dX10_holds_8 : decode cX10_holds 8 = .ok (.ifCond .ne 5, 3) := by decide +kernel
theorem dX10_holds_11 : decode cX10_holds 11 = .ok (.iconst (-1), 1) := by decide +kernel
theorem dX10_holds_12 : decode cX10_holds 12 = .ok (.ireturn, 1) := by decide +kernel
theorem dX10_holds_13 : decode cX10_holds 13 = .ok (.aload_n 0, 1) := by decide +kernel
theorem dX10_holds_14 : decode cX10_holds 14 = .ok (.getfield 19, 3) := by decide +kernel
theorem dX10_holds_17 : decode cX10_holds 17 = .ok (.getfield 124, 3) := by decide +kernel
theorem dX10_holds_20 : decode cX10_holds 20 = .ok (.iload_n 1, 1) := by decide +kernel
theorem dX10_holds_21 : decode cX10_holds 21 = .ok (.iaload, 1) := by decide +kernel
theorem dX10_holds_22 : decode cX10_holds 22 = .ok (.ireturn, 1) := by decide +kernel
theorem dX10_had_0 : decode cX10_had 0 = .ok (.aload_n 0, 1) := by decide +kernel
theorem dX10_had_1 : decode cX10_had 1 = .ok (.getfield 19, 3) := by decide +kernel
theorem dX10_had_4 : decode cX10_had 4 = .ok (.iload_n 1, 1) := by decide +kernel
theorem dX10_had_5 : decode cX10_had 5 = .ok (.invokevirtual 120, 3) := by decide +kernel
theorem dX10_had_8 : decode cX10_had 8 = .ok (.ifCond .ne 5, 3) := by decide +kernel
theorem dX10_had_11 : decode cX10_had 11 = .ok (.iconst (-1), 1) := by decide +kernel
theorem dX10_had_12 : decode cX10_had 12 = .ok (.ireturn, 1) := by decide +kernel
theorem dX10_had_13 : decode cX10_had 13 = .ok (.aload_n 0, 1) := by decide +kernel
theorem dX10_had_14 : decode cX10_had 14 = .ok (.getfield 19, 3) := by decide +kernel
theorem dX10_had_17 : decode cX10_had 17 = .ok (.getfield 127, 3) := by decide +kernel
theorem dX10_had_20 : decode cX10_had 20 = .ok (.iload_n 1, 1) := by decide +kernel
theorem dX10_had_21 : decode cX10_had 21 = .ok (.iaload, 1) := by decide +kernel
theorem dX10_had_22 : decode cX10_had 22 = .ok (.ireturn, 1) := by decide +kernel
theorem dX10_worth_0 : decode cX10_worth 0 = .ok (.aload_n 0, 1) := by decide +kernel
theorem dX10_worth_1 : decode cX10_worth 1 = .ok (.getfield 19, 3) := by decide +kernel
theorem dX10_worth_4 : decode cX10_worth 4 = .ok (.iload_n 1, 1) := by decide +kernel
theorem dX10_worth_5 : decode cX10_worth 5 = .ok (.invokevirtual 120, 3) := by decide +kernel
theorem dX10_worth_8 : decode cX10_worth 8 = .ok (.ifCond .eq 10, 3) := by decide +kernel
theorem dX10_worth_11 : decode cX10_worth 11 = .ok (.iload_n 2, 1) := by decide +kernel
theorem dX10_worth_12 : decode cX10_worth 12 = .ok (.invokestatic 130, 3) := by decide +kernel
theorem dX10_worth_15 : decode cX10_worth 15 = .ok (.ifCond .ne 5, 3) := by decide +kernel
theorem dX10_worth_18 : decode cX10_worth 18 = .ok (.iconst (-1), 1) := by decide +kernel
theorem dX10_worth_19 : decode cX10_worth 19 = .ok (.ireturn, 1) := by decide +kernel
theorem dX10_worth_20 : decode cX10_worth 20 = .ok (.aload_n 0, 1) := by decide +kernel
theorem dX10_worth_21 : decode cX10_worth 21 = .ok (.getfield 19, 3) := by decide +kernel
theorem dX10_worth_24 : decode cX10_worth 24 = .ok (.iload_n 1, 1) := by decide +kernel
theorem dX10_worth_25 : decode cX10_worth 25 = .ok (.iload_n 2, 1) := by decide +kernel
theorem dX10_worth_26 : decode cX10_worth 26 = .ok (.invokevirtual 133, 3) := by decide +kernel
theorem dX10_worth_29 : decode cX10_worth 29 = .ok (.ireturn, 1) := by decide +kernel
theorem dX10_value_0 : decode cX10_value 0 = .ok (.aload_n 0, 1) := by decide +kernel
theorem dX10_value_1 : decode cX10_value 1 = .ok (.getfield 19, 3) := by decide +kernel
theorem dX10_value_4 : decode cX10_value 4 = .ok (.iload_n 1, 1) := by decide +kernel
theorem dX10_value_5 : decode cX10_value 5 = .ok (.invokevirtual 120, 3) := by decide +kernel
theorem dX10_value_8 : decode cX10_value 8 = .ok (.ifCond .eq 10, 3) := by decide +kernel
theorem dX10_value_11 : decode cX10_value 11 = .ok (.iload_n 2, 1) := by decide +kernel
theorem dX10_value_12 : decode cX10_value 12 = .ok (.invokestatic 130, 3) := by decide +kernel
theorem dX10_value_15 : decode cX10_value 15 = .ok (.ifCond .ne 5, 3) := by decide +kernel
theorem dX10_value_18 : decode cX10_value 18 = .ok (.iconst (-1), 1) := by decide +kernel
theorem dX10_value_19 : decode cX10_value 19 = .ok (.ireturn, 1) := by decide +kernel
theorem dX10_value_20 : decode cX10_value 20 = .ok (.iload_n 3, 1) := by decide +kernel
theorem dX10_value_21 : decode cX10_value 21 = .ok (.ifCond .lt 9, 3) := by decide +kernel
theorem dX10_value_24 : decode cX10_value 24 = .ok (.iload_n 3, 1) := by decide +kernel
theorem dX10_value_25 : decode cX10_value 25 = .ok (.bipush 9, 2) := by decide +kernel
theorem dX10_value_27 : decode cX10_value 27 = .ok (.if_icmp .le 6, 3) := by decide +kernel
theorem dX10_value_30 : decode cX10_value 30 = .ok (.bipush (-2), 2) := by decide +kernel
theorem dX10_value_32 : decode cX10_value 32 = .ok (.ireturn, 1) := by decide +kernel
theorem dX10_value_33 : decode cX10_value 33 = .ok (.aload_n 0, 1) := by decide +kernel
theorem dX10_value_34 : decode cX10_value 34 = .ok (.getfield 19, 3) := by decide +kernel
theorem dX10_value_37 : decode cX10_value 37 = .ok (.iload_n 1, 1) := by decide +kernel
theorem dX10_value_38 : decode cX10_value 38 = .ok (.iload_n 2, 1) := by decide +kernel
theorem dX10_value_39 : decode cX10_value 39 = .ok (.invokevirtual 133, 3) := by decide +kernel
theorem dX10_value_42 : decode cX10_value 42 = .ok (.istore 4, 2) := by decide +kernel
theorem dX10_value_44 : decode cX10_value 44 = .ok (.aload_n 0, 1) := by decide +kernel
theorem dX10_value_45 : decode cX10_value 45 = .ok (.getfield 19, 3) := by decide +kernel
theorem dX10_value_48 : decode cX10_value 48 = .ok (.iload_n 1, 1) := by decide +kernel
theorem dX10_value_49 : decode cX10_value 49 = .ok (.iload_n 2, 1) := by decide +kernel
theorem dX10_value_50 : decode cX10_value 50 = .ok (.iload_n 3, 1) := by decide +kernel
theorem dX10_value_51 : decode cX10_value 51 = .ok (.invokevirtual 137, 3) := by decide +kernel
theorem dX10_value_54 : decode cX10_value 54 = .ok (.iload 4, 2) := by decide +kernel
theorem dX10_value_56 : decode cX10_value 56 = .ok (.ireturn, 1) := by decide +kernel
theorem dX10_may_0 : decode cX10_may 0 = .ok (.aload_n 0, 1) := by decide +kernel
theorem dX10_may_1 : decode cX10_may 1 = .ok (.getfield 19, 3) := by decide +kernel
theorem dX10_may_4 : decode cX10_may 4 = .ok (.iload_n 1, 1) := by decide +kernel
theorem dX10_may_5 : decode cX10_may 5 = .ok (.invokevirtual 120, 3) := by decide +kernel
theorem dX10_may_8 : decode cX10_may 8 = .ok (.ifCond .eq 14, 3) := by decide +kernel
theorem dX10_may_11 : decode cX10_may 11 = .ok (.aload_n 0, 1) := by decide +kernel
theorem dX10_may_12 : decode cX10_may 12 = .ok (.getfield 19, 3) := by decide +kernel
theorem dX10_may_15 : decode cX10_may 15 = .ok (.iload_n 2, 1) := by decide +kernel
theorem dX10_may_16 : decode cX10_may 16 = .ok (.invokevirtual 120, 3) := by decide +kernel
theorem dX10_may_19 : decode cX10_may 19 = .ok (.ifCond .ne 5, 3) := by decide +kernel
theorem dX10_may_22 : decode cX10_may 22 = .ok (.iconst (-1), 1) := by decide +kernel
theorem dX10_may_23 : decode cX10_may 23 = .ok (.ireturn, 1) := by decide +kernel
theorem dX10_may_24 : decode cX10_may 24 = .ok (.iload_n 1, 1) := by decide +kernel
theorem dX10_may_25 : decode cX10_may 25 = .ok (.iload_n 2, 1) := by decide +kernel
theorem dX10_may_26 : decode cX10_may 26 = .ok (.if_icmp .ne 6, 3) := by decide +kernel
theorem dX10_may_29 : decode cX10_may 29 = .ok (.bipush (-2), 2) := by decide +kernel
theorem dX10_may_31 : decode cX10_may 31 = .ok (.ireturn, 1) := by decide +kernel
theorem dX10_may_32 : decode cX10_may 32 = .ok (.aload_n 0, 1) := by decide +kernel
theorem dX10_may_33 : decode cX10_may 33 = .ok (.getfield 19, 3) := by decide +kernel
theorem dX10_may_36 : decode cX10_may 36 = .ok (.iload_n 1, 1) := by decide +kernel
theorem dX10_may_37 : decode cX10_may 37 = .ok (.iload_n 2, 1) := by decide +kernel
theorem dX10_may_38 : decode cX10_may 38 = .ok (.invokevirtual 141, 3) := by decide +kernel
theorem dX10_may_41 : decode cX10_may 41 = .ok (.ifCond .eq 7, 3) := by decide +kernel
theorem dX10_may_44 : decode cX10_may 44 = .ok (.iconst 1, 1) := by decide +kernel
theorem dX10_may_45 : decode cX10_may 45 = .ok (.goto 4, 3) := by decide +kernel
theorem dX10_may_48 : decode cX10_may 48 = .ok (.iconst 0, 1) := by decide +kernel
theorem dX10_may_49 : decode cX10_may 49 = .ok (.ireturn, 1) := by decide +kernel
theorem dX10_exchange_0 : decode cX10_exchange 0 = .ok (.aload_n 0, 1) := by decide +kernel
theorem dX10_exchange_1 : decode cX10_exchange 1 = .ok (.getfield 19, 3) := by decide +kernel
theorem dX10_exchange_4 : decode cX10_exchange 4 = .ok (.iload_n 1, 1) := by decide +kernel
theorem dX10_exchange_5 : decode cX10_exchange 5 = .ok (.invokevirtual 120, 3) := by decide +kernel
theorem dX10_exchange_8 : decode cX10_exchange 8 = .ok (.ifCond .eq 14, 3) := by decide +kernel
theorem dX10_exchange_11 : decode cX10_exchange 11 = .ok (.aload_n 0, 1) := by decide +kernel
theorem dX10_exchange_12 : decode cX10_exchange 12 = .ok (.getfield 19, 3) := by decide +kernel
theorem dX10_exchange_15 : decode cX10_exchange 15 = .ok (.iload_n 2, 1) := by decide +kernel
theorem dX10_exchange_16 : decode cX10_exchange 16 = .ok (.invokevirtual 120, 3) := by decide +kernel
theorem dX10_exchange_19 : decode cX10_exchange 19 = .ok (.ifCond .ne 5, 3) := by decide +kernel
theorem dX10_exchange_22 : decode cX10_exchange 22 = .ok (.iconst (-1), 1) := by decide +kernel
theorem dX10_exchange_23 : decode cX10_exchange 23 = .ok (.ireturn, 1) := by decide +kernel
theorem dX10_exchange_24 : decode cX10_exchange 24 = .ok (.iload_n 1, 1) := by decide +kernel
theorem dX10_exchange_25 : decode cX10_exchange 25 = .ok (.iload_n 2, 1) := by decide +kernel
theorem dX10_exchange_26 : decode cX10_exchange 26 = .ok (.if_icmp .ne 6, 3) := by decide +kernel
theorem dX10_exchange_29 : decode cX10_exchange 29 = .ok (.bipush (-2), 2) := by decide +kernel
theorem dX10_exchange_31 : decode cX10_exchange 31 = .ok (.ireturn, 1) := by decide +kernel
theorem dX10_exchange_32 : decode cX10_exchange 32 = .ok (.aload_n 0, 1) := by decide +kernel
theorem dX10_exchange_33 : decode cX10_exchange 33 = .ok (.getfield 19, 3) := by decide +kernel
theorem dX10_exchange_36 : decode cX10_exchange 36 = .ok (.iload_n 1, 1) := by decide +kernel
theorem dX10_exchange_37 : decode cX10_exchange 37 = .ok (.iload_n 2, 1) := by decide +kernel
theorem dX10_exchange_38 : decode cX10_exchange 38 = .ok (.invokevirtual 141, 3) := by decide +kernel
theorem dX10_exchange_41 : decode cX10_exchange 41 = .ok (.ifCond .ne 6, 3) := by decide +kernel
theorem dX10_exchange_44 : decode cX10_exchange 44 = .ok (.bipush (-3), 2) := by decide +kernel
theorem dX10_exchange_46 : decode cX10_exchange 46 = .ok (.ireturn, 1) := by decide +kernel
theorem dX10_exchange_47 : decode cX10_exchange 47 = .ok (.aload_n 0, 1) := by decide +kernel
theorem dX10_exchange_48 : decode cX10_exchange 48 = .ok (.getfield 19, 3) := by decide +kernel
theorem dX10_exchange_51 : decode cX10_exchange 51 = .ok (.invokevirtual 117, 3) := by decide +kernel
theorem dX10_exchange_54 : decode cX10_exchange 54 = .ok (.istore_n 3, 1) := by decide +kernel
theorem dX10_exchange_55 : decode cX10_exchange 55 = .ok (.aload_n 0, 1) := by decide +kernel
theorem dX10_exchange_56 : decode cX10_exchange 56 = .ok (.getfield 19, 3) := by decide +kernel
theorem dX10_exchange_59 : decode cX10_exchange 59 = .ok (.iload_n 1, 1) := by decide +kernel
theorem dX10_exchange_60 : decode cX10_exchange 60 = .ok (.iload_n 2, 1) := by decide +kernel
theorem dX10_exchange_61 : decode cX10_exchange 61 = .ok (.invokevirtual 145, 3) := by decide +kernel
theorem dX10_exchange_64 : decode cX10_exchange 64 = .ok (.aload_n 0, 1) := by decide +kernel
theorem dX10_exchange_65 : decode cX10_exchange 65 = .ok (.getfield 29, 3) := by decide +kernel
theorem dX10_exchange_68 : decode cX10_exchange 68 = .ok (.iload_n 1, 1) := by decide +kernel
theorem dX10_exchange_69 : decode cX10_exchange 69 = .ok (.iload_n 2, 1) := by decide +kernel
theorem dX10_exchange_70 : decode cX10_exchange 70 = .ok (.invokevirtual 149, 3) := by decide +kernel
theorem dX10_exchange_73 : decode cX10_exchange 73 = .ok (.aload_n 0, 1) := by decide +kernel
theorem dX10_exchange_74 : decode cX10_exchange 74 = .ok (.getfield 19, 3) := by decide +kernel
theorem dX10_exchange_77 : decode cX10_exchange 77 = .ok (.invokevirtual 117, 3) := by decide +kernel
theorem dX10_exchange_80 : decode cX10_exchange 80 = .ok (.iload_n 3, 1) := by decide +kernel
theorem dX10_exchange_81 : decode cX10_exchange 81 = .ok (.isub, 1) := by decide +kernel
theorem dX10_exchange_82 : decode cX10_exchange 82 = .ok (.bipush 100, 2) := by decide +kernel
theorem dX10_exchange_84 : decode cX10_exchange 84 = .ok (.iadd, 1) := by decide +kernel
theorem dX10_exchange_85 : decode cX10_exchange 85 = .ok (.ireturn, 1) := by decide +kernel
theorem dX10_sea_0 : decode cX10_sea 0 = .ok (.aload_n 0, 1) := by decide +kernel
theorem dX10_sea_1 : decode cX10_sea 1 = .ok (.getfield 19, 3) := by decide +kernel
theorem dX10_sea_4 : decode cX10_sea 4 = .ok (.iload_n 1, 1) := by decide +kernel
theorem dX10_sea_5 : decode cX10_sea 5 = .ok (.invokevirtual 120, 3) := by decide +kernel
theorem dX10_sea_8 : decode cX10_sea 8 = .ok (.ifCond .ne 5, 3) := by decide +kernel
theorem dX10_sea_11 : decode cX10_sea 11 = .ok (.iconst (-1), 1) := by decide +kernel
theorem dX10_sea_12 : decode cX10_sea 12 = .ok (.ireturn, 1) := by decide +kernel
theorem dX10_sea_13 : decode cX10_sea 13 = .ok (.aload_n 0, 1) := by decide +kernel
theorem dX10_sea_14 : decode cX10_sea 14 = .ok (.getfield 19, 3) := by decide +kernel
theorem dX10_sea_17 : decode cX10_sea 17 = .ok (.iload_n 1, 1) := by decide +kernel
theorem dX10_sea_18 : decode cX10_sea 18 = .ok (.invokevirtual 152, 3) := by decide +kernel
theorem dX10_sea_21 : decode cX10_sea 21 = .ok (.ifCond .ne 6, 3) := by decide +kernel
theorem dX10_sea_24 : decode cX10_sea 24 = .ok (.bipush (-3), 2) := by decide +kernel
theorem dX10_sea_26 : decode cX10_sea 26 = .ok (.ireturn, 1) := by decide +kernel
theorem dX10_sea_27 : decode cX10_sea 27 = .ok (.aload_n 0, 1) := by decide +kernel
theorem dX10_sea_28 : decode cX10_sea 28 = .ok (.getfield 19, 3) := by decide +kernel
theorem dX10_sea_31 : decode cX10_sea 31 = .ok (.getfield 124, 3) := by decide +kernel
theorem dX10_sea_34 : decode cX10_sea 34 = .ok (.iload_n 1, 1) := by decide +kernel
theorem dX10_sea_35 : decode cX10_sea 35 = .ok (.iaload, 1) := by decide +kernel
theorem dX10_sea_36 : decode cX10_sea 36 = .ok (.istore_n 2, 1) := by decide +kernel
theorem dX10_sea_37 : decode cX10_sea 37 = .ok (.aload_n 0, 1) := by decide +kernel
theorem dX10_sea_38 : decode cX10_sea 38 = .ok (.getfield 19, 3) := by decide +kernel
theorem dX10_sea_41 : decode cX10_sea 41 = .ok (.getfield 124, 3) := by decide +kernel
theorem dX10_sea_44 : decode cX10_sea 44 = .ok (.iload_n 1, 1) := by decide +kernel
theorem dX10_sea_45 : decode cX10_sea 45 = .ok (.bipush (-9), 2) := by decide +kernel
theorem dX10_sea_47 : decode cX10_sea 47 = .ok (.iastore, 1) := by decide +kernel
theorem dX10_sea_48 : decode cX10_sea 48 = .ok (.aload_n 0, 1) := by decide +kernel
theorem dX10_sea_49 : decode cX10_sea 49 = .ok (.getfield 29, 3) := by decide +kernel
theorem dX10_sea_52 : decode cX10_sea 52 = .ok (.iload_n 1, 1) := by decide +kernel
theorem dX10_sea_53 : decode cX10_sea 53 = .ok (.iload_n 2, 1) := by decide +kernel
theorem dX10_sea_54 : decode cX10_sea 54 = .ok (.invokevirtual 155, 3) := by decide +kernel
theorem dX10_sea_57 : decode cX10_sea 57 = .ok (.iload_n 2, 1) := by decide +kernel
theorem dX10_sea_58 : decode cX10_sea 58 = .ok (.ireturn, 1) := by decide +kernel
theorem dX10_undo_0 : decode cX10_undo 0 = .ok (.aload_n 0, 1) := by decide +kernel
theorem dX10_undo_1 : decode cX10_undo 1 = .ok (.getfield 29, 3) := by decide +kernel
theorem dX10_undo_4 : decode cX10_undo 4 = .ok (.getfield 95, 3) := by decide +kernel
theorem dX10_undo_7 : decode cX10_undo 7 = .ok (.ifCond .ne 6, 3) := by decide +kernel
theorem dX10_undo_10 : decode cX10_undo 10 = .ok (.bipush (-3), 2) := by decide +kernel
theorem dX10_undo_12 : decode cX10_undo 12 = .ok (.ireturn, 1) := by decide +kernel
theorem dX10_undo_13 : decode cX10_undo 13 = .ok (.aload_n 0, 1) := by decide +kernel
theorem dX10_undo_14 : decode cX10_undo 14 = .ok (.getfield 29, 3) := by decide +kernel
theorem dX10_undo_17 : decode cX10_undo 17 = .ok (.aload_n 0, 1) := by decide +kernel
theorem dX10_undo_18 : decode cX10_undo 18 = .ok (.getfield 19, 3) := by decide +kernel
theorem dX10_undo_21 : decode cX10_undo 21 = .ok (.invokevirtual 158, 3) := by decide +kernel
theorem dX10_undo_24 : decode cX10_undo 24 = .ok (.aload_n 0, 1) := by decide +kernel
theorem dX10_undo_25 : decode cX10_undo 25 = .ok (.getfield 29, 3) := by decide +kernel
theorem dX10_undo_28 : decode cX10_undo 28 = .ok (.getfield 95, 3) := by decide +kernel
theorem dX10_undo_31 : decode cX10_undo 31 = .ok (.ireturn, 1) := by decide +kernel
theorem dX10_judge_0 : decode cX10_judge 0 = .ok (.iload_n 1, 1) := by decide +kernel
theorem dX10_judge_1 : decode cX10_judge 1 = .ok (.iconst 1, 1) := by decide +kernel
theorem dX10_judge_2 : decode cX10_judge 2 = .ok (.if_icmp .lt 12, 3) := by decide +kernel
theorem dX10_judge_5 : decode cX10_judge 5 = .ok (.iload_n 1, 1) := by decide +kernel
theorem dX10_judge_6 : decode cX10_judge 6 = .ok (.iconst 4, 1) := by decide +kernel
theorem dX10_judge_7 : decode cX10_judge 7 = .ok (.if_icmp .gt 7, 3) := by decide +kernel
theorem dX10_judge_10 : decode cX10_judge 10 = .ok (.iload_n 2, 1) := by decide +kernel
theorem dX10_judge_11 : decode cX10_judge 11 = .ok (.ifCond .ge 6, 3) := by decide +kernel
theorem dX10_judge_14 : decode cX10_judge 14 = .ok (.bipush (-2), 2) := by decide +kernel
theorem dX10_judge_16 : decode cX10_judge 16 = .ok (.ireturn, 1) := by decide +kernel
theorem dX10_judge_17 : decode cX10_judge 17 = .ok (.iload_n 2, 1) := by decide +kernel
theorem dX10_judge_18 : decode cX10_judge 18 = .ok (.istore_n 3, 1) := by decide +kernel
theorem dX10_judge_19 : decode cX10_judge 19 = .ok (.iload_n 1, 1) := by decide +kernel
theorem dX10_judge_20 : decode cX10_judge 20 = .ok (.iconst 1, 1) := by decide +kernel
theorem dX10_judge_21 : decode cX10_judge 21 = .ok (.isub, 1) := by decide +kernel
theorem dX10_judge_22 : decode cX10_judge 22 = .ok (.istore 4, 2) := by decide +kernel
theorem dX10_judge_24 : decode cX10_judge 24 = .ok (.iload 4, 2) := by decide +kernel
theorem dX10_judge_26 : decode cX10_judge 26 = .ok (.ifCond .lt 25, 3) := by decide +kernel
theorem dX10_judge_29 : decode cX10_judge 29 = .ok (.aload_n 0, 1) := by decide +kernel
theorem dX10_judge_30 : decode cX10_judge 30 = .ok (.getfield 75, 3) := by decide +kernel
theorem dX10_judge_33 : decode cX10_judge 33 = .ok (.iload 4, 2) := by decide +kernel
theorem dX10_judge_35 : decode cX10_judge 35 = .ok (.iload_n 3, 1) := by decide +kernel
theorem dX10_judge_36 : decode cX10_judge 36 = .ok (.bipush 100, 2) := by decide +kernel
theorem dX10_judge_38 : decode cX10_judge 38 = .ok (.irem, 1) := by decide +kernel
theorem dX10_judge_39 : decode cX10_judge 39 = .ok (.iastore, 1) := by decide +kernel
theorem dX10_judge_40 : decode cX10_judge 40 = .ok (.iload_n 3, 1) := by decide +kernel
theorem dX10_judge_41 : decode cX10_judge 41 = .ok (.bipush 100, 2) := by decide +kernel
theorem dX10_judge_43 : decode cX10_judge 43 = .ok (.idiv, 1) := by decide +kernel
theorem dX10_judge_44 : decode cX10_judge 44 = .ok (.istore_n 3, 1) := by decide +kernel
theorem dX10_judge_45 : decode cX10_judge 45 = .ok (.iinc 4 (-1), 3) := by decide +kernel
theorem dX10_judge_48 : decode cX10_judge 48 = .ok (.goto (-24), 3) := by decide +kernel
theorem dX10_judge_51 : decode cX10_judge 51 = .ok (.iload_n 3, 1) := by decide +kernel
theorem dX10_judge_52 : decode cX10_judge 52 = .ok (.ifCond .eq 6, 3) := by decide +kernel
theorem dX10_judge_55 : decode cX10_judge 55 = .ok (.bipush (-2), 2) := by decide +kernel
theorem dX10_judge_57 : decode cX10_judge 57 = .ok (.ireturn, 1) := by decide +kernel
theorem dX10_judge_58 : decode cX10_judge 58 = .ok (.aload_n 0, 1) := by decide +kernel
theorem dX10_judge_59 : decode cX10_judge 59 = .ok (.iload_n 1, 1) := by decide +kernel
theorem dX10_judge_60 : decode cX10_judge 60 = .ok (.invokevirtual 161, 3) := by decide +kernel
theorem dX10_judge_63 : decode cX10_judge 63 = .ok (.ireturn, 1) := by decide +kernel
theorem dX10_firstThatMayNotBe_0 : decode cX10_firstThatMayNotBe 0 = .ok (.iconst 0, 1) := by decide +kernel
theorem dX10_firstThatMayNotBe_1 : decode cX10_firstThatMayNotBe 1 = .ok (.istore_n 2, 1) := by decide +kernel
theorem dX10_firstThatMayNotBe_2 : decode cX10_firstThatMayNotBe 2 = .ok (.iload_n 2, 1) := by decide +kernel
theorem dX10_firstThatMayNotBe_3 : decode cX10_firstThatMayNotBe 3 = .ok (.iload_n 1, 1) := by decide +kernel
theorem dX10_firstThatMayNotBe_4 : decode cX10_firstThatMayNotBe 4 = .ok (.if_icmp .ge 62, 3) := by decide +kernel
theorem dX10_firstThatMayNotBe_7 : decode cX10_firstThatMayNotBe 7 = .ok (.aload_n 0, 1) := by decide +kernel
theorem dX10_firstThatMayNotBe_8 : decode cX10_firstThatMayNotBe 8 = .ok (.getfield 19, 3) := by decide +kernel
theorem dX10_firstThatMayNotBe_11 : decode cX10_firstThatMayNotBe 11 = .ok (.aload_n 0, 1) := by decide +kernel
theorem dX10_firstThatMayNotBe_12 : decode cX10_firstThatMayNotBe 12 = .ok (.getfield 75, 3) := by decide +kernel
theorem dX10_firstThatMayNotBe_15 : decode cX10_firstThatMayNotBe 15 = .ok (.iload_n 2, 1) := by decide +kernel
theorem dX10_firstThatMayNotBe_16 : decode cX10_firstThatMayNotBe 16 = .ok (.iaload, 1) := by decide +kernel
theorem dX10_firstThatMayNotBe_17 : decode cX10_firstThatMayNotBe 17 = .ok (.bipush 10, 2) := by decide +kernel
theorem dX10_firstThatMayNotBe_19 : decode cX10_firstThatMayNotBe 19 = .ok (.idiv, 1) := by decide +kernel
theorem dX10_firstThatMayNotBe_20 : decode cX10_firstThatMayNotBe 20 = .ok (.aload_n 0, 1) := by decide +kernel
theorem dX10_firstThatMayNotBe_21 : decode cX10_firstThatMayNotBe 21 = .ok (.getfield 75, 3) := by decide +kernel
theorem dX10_firstThatMayNotBe_24 : decode cX10_firstThatMayNotBe 24 = .ok (.iload_n 2, 1) := by decide +kernel
theorem dX10_firstThatMayNotBe_25 : decode cX10_firstThatMayNotBe 25 = .ok (.iaload, 1) := by decide +kernel
theorem dX10_firstThatMayNotBe_26 : decode cX10_firstThatMayNotBe 26 = .ok (.bipush 10, 2) := by decide +kernel
theorem dX10_firstThatMayNotBe_28 : decode cX10_firstThatMayNotBe 28 = .ok (.irem, 1) := by decide +kernel
theorem dX10_firstThatMayNotBe_29 : decode cX10_firstThatMayNotBe 29 = .ok (.invokevirtual 141, 3) := by decide +kernel
theorem dX10_firstThatMayNotBe_32 : decode cX10_firstThatMayNotBe 32 = .ok (.ifCond .eq 34, 3) := by decide +kernel
theorem dX10_firstThatMayNotBe_35 : decode cX10_firstThatMayNotBe 35 = .ok (.aload_n 0, 1) := by decide +kernel
theorem dX10_firstThatMayNotBe_36 : decode cX10_firstThatMayNotBe 36 = .ok (.getfield 19, 3) := by decide +kernel
theorem dX10_firstThatMayNotBe_39 : decode cX10_firstThatMayNotBe 39 = .ok (.aload_n 0, 1) := by decide +kernel
theorem dX10_firstThatMayNotBe_40 : decode cX10_firstThatMayNotBe 40 = .ok (.getfield 75, 3) := by decide +kernel
theorem dX10_firstThatMayNotBe_43 : decode cX10_firstThatMayNotBe 43 = .ok (.iload_n 2, 1) := by decide +kernel
theorem dX10_firstThatMayNotBe_44 : decode cX10_firstThatMayNotBe 44 = .ok (.iaload, 1) := by decide +kernel
theorem dX10_firstThatMayNotBe_45 : decode cX10_firstThatMayNotBe 45 = .ok (.bipush 10, 2) := by decide +kernel
theorem dX10_firstThatMayNotBe_47 : decode cX10_firstThatMayNotBe 47 = .ok (.idiv, 1) := by decide +kernel
theorem dX10_firstThatMayNotBe_48 : decode cX10_firstThatMayNotBe 48 = .ok (.aload_n 0, 1) := by decide +kernel
theorem dX10_firstThatMayNotBe_49 : decode cX10_firstThatMayNotBe 49 = .ok (.getfield 75, 3) := by decide +kernel
theorem dX10_firstThatMayNotBe_52 : decode cX10_firstThatMayNotBe 52 = .ok (.iload_n 2, 1) := by decide +kernel
theorem dX10_firstThatMayNotBe_53 : decode cX10_firstThatMayNotBe 53 = .ok (.iaload, 1) := by decide +kernel
theorem dX10_firstThatMayNotBe_54 : decode cX10_firstThatMayNotBe 54 = .ok (.bipush 10, 2) := by decide +kernel
theorem dX10_firstThatMayNotBe_56 : decode cX10_firstThatMayNotBe 56 = .ok (.irem, 1) := by decide +kernel
theorem dX10_firstThatMayNotBe_57 : decode cX10_firstThatMayNotBe 57 = .ok (.invokevirtual 145, 3) := by decide +kernel
theorem dX10_firstThatMayNotBe_60 : decode cX10_firstThatMayNotBe 60 = .ok (.iinc 2 1, 3) := by decide +kernel
theorem dX10_firstThatMayNotBe_63 : decode cX10_firstThatMayNotBe 63 = .ok (.goto (-61), 3) := by decide +kernel
theorem dX10_firstThatMayNotBe_66 : decode cX10_firstThatMayNotBe 66 = .ok (.iload_n 2, 1) := by decide +kernel
theorem dX10_firstThatMayNotBe_67 : decode cX10_firstThatMayNotBe 67 = .ok (.iconst 1, 1) := by decide +kernel
theorem dX10_firstThatMayNotBe_68 : decode cX10_firstThatMayNotBe 68 = .ok (.isub, 1) := by decide +kernel
theorem dX10_firstThatMayNotBe_69 : decode cX10_firstThatMayNotBe 69 = .ok (.istore_n 3, 1) := by decide +kernel
theorem dX10_firstThatMayNotBe_70 : decode cX10_firstThatMayNotBe 70 = .ok (.iload_n 3, 1) := by decide +kernel
theorem dX10_firstThatMayNotBe_71 : decode cX10_firstThatMayNotBe 71 = .ok (.ifCond .lt 34, 3) := by decide +kernel
theorem dX10_firstThatMayNotBe_74 : decode cX10_firstThatMayNotBe 74 = .ok (.aload_n 0, 1) := by decide +kernel
theorem dX10_firstThatMayNotBe_75 : decode cX10_firstThatMayNotBe 75 = .ok (.getfield 19, 3) := by decide +kernel
theorem dX10_firstThatMayNotBe_78 : decode cX10_firstThatMayNotBe 78 = .ok (.aload_n 0, 1) := by decide +kernel
theorem dX10_firstThatMayNotBe_79 : decode cX10_firstThatMayNotBe 79 = .ok (.getfield 75, 3) := by decide +kernel
theorem dX10_firstThatMayNotBe_82 : decode cX10_firstThatMayNotBe 82 = .ok (.iload_n 3, 1) := by decide +kernel
theorem dX10_firstThatMayNotBe_83 : decode cX10_firstThatMayNotBe 83 = .ok (.iaload, 1) := by decide +kernel
theorem dX10_firstThatMayNotBe_84 : decode cX10_firstThatMayNotBe 84 = .ok (.bipush 10, 2) := by decide +kernel
theorem dX10_firstThatMayNotBe_86 : decode cX10_firstThatMayNotBe 86 = .ok (.idiv, 1) := by decide +kernel
theorem dX10_firstThatMayNotBe_87 : decode cX10_firstThatMayNotBe 87 = .ok (.aload_n 0, 1) := by decide +kernel
theorem dX10_firstThatMayNotBe_88 : decode cX10_firstThatMayNotBe 88 = .ok (.getfield 75, 3) := by decide +kernel
theorem dX10_firstThatMayNotBe_91 : decode cX10_firstThatMayNotBe 91 = .ok (.iload_n 3, 1) := by decide +kernel
theorem dX10_firstThatMayNotBe_92 : decode cX10_firstThatMayNotBe 92 = .ok (.iaload, 1) := by decide +kernel
theorem dX10_firstThatMayNotBe_93 : decode cX10_firstThatMayNotBe 93 = .ok (.bipush 10, 2) := by decide +kernel
theorem dX10_firstThatMayNotBe_95 : decode cX10_firstThatMayNotBe 95 = .ok (.irem, 1) := by decide +kernel
theorem dX10_firstThatMayNotBe_96 : decode cX10_firstThatMayNotBe 96 = .ok (.invokevirtual 165, 3) := by decide +kernel
theorem dX10_firstThatMayNotBe_99 : decode cX10_firstThatMayNotBe 99 = .ok (.iinc 3 (-1), 3) := by decide +kernel
theorem dX10_firstThatMayNotBe_102 : decode cX10_firstThatMayNotBe 102 = .ok (.goto (-32), 3) := by decide +kernel
theorem dX10_firstThatMayNotBe_105 : decode cX10_firstThatMayNotBe 105 = .ok (.iload_n 2, 1) := by decide +kernel
theorem dX10_firstThatMayNotBe_106 : decode cX10_firstThatMayNotBe 106 = .ok (.iload_n 1, 1) := by decide +kernel
theorem dX10_firstThatMayNotBe_107 : decode cX10_firstThatMayNotBe 107 = .ok (.if_icmp .ge 7, 3) := by decide +kernel
theorem dX10_firstThatMayNotBe_110 : decode cX10_firstThatMayNotBe 110 = .ok (.iload_n 2, 1) := by decide +kernel
theorem dX10_firstThatMayNotBe_111 : decode cX10_firstThatMayNotBe 111 = .ok (.goto 5, 3) := by decide +kernel
theorem dX10_firstThatMayNotBe_114 : decode cX10_firstThatMayNotBe 114 = .ok (.bipush (-9), 2) := by decide +kernel
theorem dX10_firstThatMayNotBe_116 : decode cX10_firstThatMayNotBe 116 = .ok (.ireturn, 1) := by decide +kernel
theorem dX10_longest_0 : decode cX10_longest 0 = .ok (.aload_n 0, 1) := by decide +kernel
theorem dX10_longest_1 : decode cX10_longest 1 = .ok (.getfield 36, 3) := by decide +kernel
theorem dX10_longest_4 : decode cX10_longest 4 = .ok (.aload_n 0, 1) := by decide +kernel
theorem dX10_longest_5 : decode cX10_longest 5 = .ok (.getfield 19, 3) := by decide +kernel
theorem dX10_longest_8 : decode cX10_longest 8 = .ok (.invokevirtual 168, 3) := by decide +kernel
theorem dX10_longest_11 : decode cX10_longest 11 = .ok (.aload_n 0, 1) := by decide +kernel
theorem dX10_longest_12 : decode cX10_longest 12 = .ok (.getfield 36, 3) := by decide +kernel
theorem dX10_longest_15 : decode cX10_longest 15 = .ok (.getfield 171, 3) := by decide +kernel
theorem dX10_longest_18 : decode cX10_longest 18 = .ok (.ireturn, 1) := by decide +kernel
theorem dX10_shortest_0 : decode cX10_shortest 0 = .ok (.aload_n 0, 1) := by decide +kernel
theorem dX10_shortest_1 : decode cX10_shortest 1 = .ok (.getfield 36, 3) := by decide +kernel
theorem dX10_shortest_4 : decode cX10_shortest 4 = .ok (.aload_n 0, 1) := by decide +kernel
theorem dX10_shortest_5 : decode cX10_shortest 5 = .ok (.getfield 19, 3) := by decide +kernel
theorem dX10_shortest_8 : decode cX10_shortest 8 = .ok (.invokevirtual 168, 3) := by decide +kernel
theorem dX10_shortest_11 : decode cX10_shortest 11 = .ok (.aload_n 0, 1) := by decide +kernel
theorem dX10_shortest_12 : decode cX10_shortest 12 = .ok (.getfield 36, 3) := by decide +kernel
theorem dX10_shortest_15 : decode cX10_shortest 15 = .ok (.getfield 174, 3) := by decide +kernel
theorem dX10_shortest_18 : decode cX10_shortest 18 = .ok (.ireturn, 1) := by decide +kernel
theorem dX10_runs_0 : decode cX10_runs 0 = .ok (.aload_n 0, 1) := by decide +kernel
theorem dX10_runs_1 : decode cX10_runs 1 = .ok (.getfield 36, 3) := by decide +kernel
theorem dX10_runs_4 : decode cX10_runs 4 = .ok (.aload_n 0, 1) := by decide +kernel
theorem dX10_runs_5 : decode cX10_runs 5 = .ok (.getfield 19, 3) := by decide +kernel
theorem dX10_runs_8 : decode cX10_runs 8 = .ok (.invokevirtual 168, 3) := by decide +kernel
theorem dX10_runs_11 : decode cX10_runs 11 = .ok (.aload_n 0, 1) := by decide +kernel
theorem dX10_runs_12 : decode cX10_runs 12 = .ok (.getfield 36, 3) := by decide +kernel
theorem dX10_runs_15 : decode cX10_runs 15 = .ok (.getfield 177, 3) := by decide +kernel
theorem dX10_runs_18 : decode cX10_runs 18 = .ok (.ireturn, 1) := by decide +kernel
theorem dX10_want_0 : decode cX10_want 0 = .ok (.aload_n 0, 1) := by decide +kernel
theorem dX10_want_1 : decode cX10_want 1 = .ok (.getfield 19, 3) := by decide +kernel
theorem dX10_want_4 : decode cX10_want 4 = .ok (.iload_n 1, 1) := by decide +kernel
theorem dX10_want_5 : decode cX10_want 5 = .ok (.invokevirtual 120, 3) := by decide +kernel
theorem dX10_want_8 : decode cX10_want 8 = .ok (.ifCond .eq 16, 3) := by decide +kernel
theorem dX10_want_11 : decode cX10_want 11 = .ok (.iload_n 2, 1) := by decide +kernel
theorem dX10_want_12 : decode cX10_want 12 = .ok (.bipush (-9), 2) := by decide +kernel
theorem dX10_want_14 : decode cX10_want 14 = .ok (.if_icmp .eq 12, 3) := by decide +kernel
theorem dX10_want_17 : decode cX10_want 17 = .ok (.iload_n 2, 1) := by decide +kernel
theorem dX10_want_18 : decode cX10_want 18 = .ok (.invokestatic 130, 3) := by decide +kernel
theorem dX10_want_21 : decode cX10_want 21 = .ok (.ifCond .ne 5, 3) := by decide +kernel
theorem dX10_want_24 : decode cX10_want 24 = .ok (.iconst (-1), 1) := by decide +kernel
theorem dX10_want_25 : decode cX10_want 25 = .ok (.ireturn, 1) := by decide +kernel
theorem dX10_want_26 : decode cX10_want 26 = .ok (.aload_n 0, 1) := by decide +kernel
theorem dX10_want_27 : decode cX10_want 27 = .ok (.getfield 43, 3) := by decide +kernel
theorem dX10_want_30 : decode cX10_want 30 = .ok (.getfield 180, 3) := by decide +kernel
theorem dX10_want_33 : decode cX10_want 33 = .ok (.iload_n 1, 1) := by decide +kernel
theorem dX10_want_34 : decode cX10_want 34 = .ok (.iaload, 1) := by decide +kernel
theorem dX10_want_35 : decode cX10_want 35 = .ok (.istore_n 3, 1) := by decide +kernel
theorem dX10_want_36 : decode cX10_want 36 = .ok (.aload_n 0, 1) := by decide +kernel
theorem dX10_want_37 : decode cX10_want 37 = .ok (.getfield 43, 3) := by decide +kernel
theorem dX10_want_40 : decode cX10_want 40 = .ok (.getfield 180, 3) := by decide +kernel
theorem dX10_want_43 : decode cX10_want 43 = .ok (.iload_n 1, 1) := by decide +kernel
theorem dX10_want_44 : decode cX10_want 44 = .ok (.iload_n 2, 1) := by decide +kernel
theorem dX10_want_45 : decode cX10_want 45 = .ok (.iastore, 1) := by decide +kernel
theorem dX10_want_46 : decode cX10_want 46 = .ok (.iload_n 3, 1) := by decide +kernel
theorem dX10_want_47 : decode cX10_want 47 = .ok (.ireturn, 1) := by decide +kernel
theorem dX10_fewest_0 : decode cX10_fewest 0 = .ok (.aload_n 0, 1) := by decide +kernel
theorem dX10_fewest_1 : decode cX10_fewest 1 = .ok (.getfield 43, 3) := by decide +kernel
theorem dX10_fewest_4 : decode cX10_fewest 4 = .ok (.aload_n 0, 1) := by decide +kernel
theorem dX10_fewest_5 : decode cX10_fewest 5 = .ok (.getfield 19, 3) := by decide +kernel
theorem dX10_fewest_8 : decode cX10_fewest 8 = .ok (.invokevirtual 183, 3) := by decide +kernel
theorem dX10_fewest_11 : decode cX10_fewest 11 = .ok (.aload_n 0, 1) := by decide +kernel
theorem dX10_fewest_12 : decode cX10_fewest 12 = .ok (.getfield 43, 3) := by decide +kernel
theorem dX10_fewest_15 : decode cX10_fewest 15 = .ok (.getfield 186, 3) := by decide +kernel
theorem dX10_fewest_18 : decode cX10_fewest 18 = .ok (.ireturn, 1) := by decide +kernel
theorem dX10_plan_0 : decode cX10_plan 0 = .ok (.aload_n 0, 1) := by decide +kernel
theorem dX10_plan_1 : decode cX10_plan 1 = .ok (.getfield 43, 3) := by decide +kernel
theorem dX10_plan_4 : decode cX10_plan 4 = .ok (.aload_n 0, 1) := by decide +kernel
theorem dX10_plan_5 : decode cX10_plan 5 = .ok (.getfield 19, 3) := by decide +kernel
theorem dX10_plan_8 : decode cX10_plan 8 = .ok (.invokevirtual 183, 3) := by decide +kernel
theorem dX10_plan_11 : decode cX10_plan 11 = .ok (.iload_n 1, 1) := by decide +kernel
theorem dX10_plan_12 : decode cX10_plan 12 = .ok (.ifCond .lt 20, 3) := by decide +kernel
theorem dX10_plan_15 : decode cX10_plan 15 = .ok (.iload_n 1, 1) := by decide +kernel
theorem dX10_plan_16 : decode cX10_plan 16 = .ok (.bipush 12, 2) := by decide +kernel
theorem dX10_plan_18 : decode cX10_plan 18 = .ok (.if_icmp .ge 14, 3) := by decide +kernel
theorem dX10_plan_21 : decode cX10_plan 21 = .ok (.iload_n 1, 1) := by decide +kernel
theorem dX10_plan_22 : decode cX10_plan 22 = .ok (.aload_n 0, 1) := by decide +kernel
theorem dX10_plan_23 : decode cX10_plan 23 = .ok (.getfield 43, 3) := by decide +kernel
theorem dX10_plan_26 : decode cX10_plan 26 = .ok (.getfield 186, 3) := by decide +kernel
theorem dX10_plan_29 : decode cX10_plan 29 = .ok (.if_icmp .lt 6, 3) := by decide +kernel
theorem dX10_plan_32 : decode cX10_plan 32 = .ok (.bipush (-9), 2) := by decide +kernel
theorem dX10_plan_34 : decode cX10_plan 34 = .ok (.ireturn, 1) := by decide +kernel
theorem dX10_plan_35 : decode cX10_plan 35 = .ok (.aload_n 0, 1) := by decide +kernel
theorem dX10_plan_36 : decode cX10_plan 36 = .ok (.getfield 43, 3) := by decide +kernel
theorem dX10_plan_39 : decode cX10_plan 39 = .ok (.getfield 189, 3) := by decide +kernel
theorem dX10_plan_42 : decode cX10_plan 42 = .ok (.iload_n 1, 1) := by decide +kernel
theorem dX10_plan_43 : decode cX10_plan 43 = .ok (.iaload, 1) := by decide +kernel
theorem dX10_plan_44 : decode cX10_plan 44 = .ok (.ireturn, 1) := by decide +kernel
theorem dX10_mayComeTo_0 : decode cX10_mayComeTo 0 = .ok (.aload_n 0, 1) := by decide +kernel
theorem dX10_mayComeTo_1 : decode cX10_mayComeTo 1 = .ok (.getfield 19, 3) := by decide +kernel
theorem dX10_mayComeTo_4 : decode cX10_mayComeTo 4 = .ok (.iload_n 1, 1) := by decide +kernel
theorem dX10_mayComeTo_5 : decode cX10_mayComeTo 5 = .ok (.invokevirtual 120, 3) := by decide +kernel
theorem dX10_mayComeTo_8 : decode cX10_mayComeTo 8 = .ok (.ifCond .ne 5, 3) := by decide +kernel
theorem dX10_mayComeTo_11 : decode cX10_mayComeTo 11 = .ok (.iconst (-1), 1) := by decide +kernel
theorem dX10_mayComeTo_12 : decode cX10_mayComeTo 12 = .ok (.ireturn, 1) := by decide +kernel
theorem dX10_mayComeTo_13 : decode cX10_mayComeTo 13 = .ok (.aload_n 0, 1) := by decide +kernel
theorem dX10_mayComeTo_14 : decode cX10_mayComeTo 14 = .ok (.getfield 19, 3) := by decide +kernel
theorem dX10_mayComeTo_17 : decode cX10_mayComeTo 17 = .ok (.iload_n 1, 1) := by decide +kernel
theorem dX10_mayComeTo_18 : decode cX10_mayComeTo 18 = .ok (.invokestatic 192, 3) := by decide +kernel
theorem dX10_mayComeTo_21 : decode cX10_mayComeTo 21 = .ok (.ireturn, 1) := by decide +kernel
theorem dX10_begin_0 : decode cX10_begin 0 = .ok (.aload_n 0, 1) := by decide +kernel
theorem dX10_begin_1 : decode cX10_begin 1 = .ok (.getfield 19, 3) := by decide +kernel
theorem dX10_begin_4 : decode cX10_begin 4 = .ok (.iload_n 1, 1) := by decide +kernel
theorem dX10_begin_5 : decode cX10_begin 5 = .ok (.invokevirtual 120, 3) := by decide +kernel
theorem dX10_begin_8 : decode cX10_begin 8 = .ok (.ifCond .ne 5, 3) := by decide +kernel
theorem dX10_begin_11 : decode cX10_begin 11 = .ok (.iconst (-1), 1) := by decide +kernel
theorem dX10_begin_12 : decode cX10_begin 12 = .ok (.ireturn, 1) := by decide +kernel
theorem dX10_begin_13 : decode cX10_begin 13 = .ok (.aload_n 0, 1) := by decide +kernel
theorem dX10_begin_14 : decode cX10_begin 14 = .ok (.getfield 19, 3) := by decide +kernel
theorem dX10_begin_17 : decode cX10_begin 17 = .ok (.getfield 124, 3) := by decide +kernel
theorem dX10_begin_20 : decode cX10_begin 20 = .ok (.iload_n 1, 1) := by decide +kernel
theorem dX10_begin_21 : decode cX10_begin 21 = .ok (.iaload, 1) := by decide +kernel
theorem dX10_begin_22 : decode cX10_begin 22 = .ok (.bipush (-9), 2) := by decide +kernel
theorem dX10_begin_24 : decode cX10_begin 24 = .ok (.if_icmp .ne 6, 3) := by decide +kernel
theorem dX10_begin_27 : decode cX10_begin 27 = .ok (.bipush (-3), 2) := by decide +kernel
theorem dX10_begin_29 : decode cX10_begin 29 = .ok (.ireturn, 1) := by decide +kernel
theorem dX10_begin_30 : decode cX10_begin 30 = .ok (.aload_n 0, 1) := by decide +kernel
theorem dX10_begin_31 : decode cX10_begin 31 = .ok (.getfield 19, 3) := by decide +kernel
theorem dX10_begin_34 : decode cX10_begin 34 = .ok (.iload_n 1, 1) := by decide +kernel
theorem dX10_begin_35 : decode cX10_begin 35 = .ok (.invokestatic 198, 3) := by decide +kernel
theorem dX10_begin_38 : decode cX10_begin 38 = .ok (.ireturn, 1) := by decide +kernel
theorem dX10_rings_0 : decode cX10_rings 0 = .ok (.aload_n 0, 1) := by decide +kernel
theorem dX10_rings_1 : decode cX10_rings 1 = .ok (.getfield 50, 3) := by decide +kernel
theorem dX10_rings_4 : decode cX10_rings 4 = .ok (.aload_n 0, 1) := by decide +kernel
theorem dX10_rings_5 : decode cX10_rings 5 = .ok (.getfield 19, 3) := by decide +kernel
theorem dX10_rings_8 : decode cX10_rings 8 = .ok (.invokevirtual 201, 3) := by decide +kernel
theorem dX10_rings_11 : decode cX10_rings 11 = .ok (.aload_n 0, 1) := by decide +kernel
theorem dX10_rings_12 : decode cX10_rings 12 = .ok (.getfield 50, 3) := by decide +kernel
theorem dX10_rings_15 : decode cX10_rings 15 = .ok (.getfield 204, 3) := by decide +kernel
theorem dX10_rings_18 : decode cX10_rings 18 = .ok (.ireturn, 1) := by decide +kernel
theorem dX10_ringAt_0 : decode cX10_ringAt 0 = .ok (.aload_n 0, 1) := by decide +kernel
theorem dX10_ringAt_1 : decode cX10_ringAt 1 = .ok (.getfield 19, 3) := by decide +kernel
theorem dX10_ringAt_4 : decode cX10_ringAt 4 = .ok (.iload_n 1, 1) := by decide +kernel
theorem dX10_ringAt_5 : decode cX10_ringAt 5 = .ok (.invokevirtual 120, 3) := by decide +kernel
theorem dX10_ringAt_8 : decode cX10_ringAt 8 = .ok (.ifCond .ne 5, 3) := by decide +kernel
theorem dX10_ringAt_11 : decode cX10_ringAt 11 = .ok (.iconst (-1), 1) := by decide +kernel
theorem dX10_ringAt_12 : decode cX10_ringAt 12 = .ok (.ireturn, 1) := by decide +kernel
theorem dX10_ringAt_13 : decode cX10_ringAt 13 = .ok (.aload_n 0, 1) := by decide +kernel
theorem dX10_ringAt_14 : decode cX10_ringAt 14 = .ok (.getfield 50, 3) := by decide +kernel
theorem dX10_ringAt_17 : decode cX10_ringAt 17 = .ok (.aload_n 0, 1) := by decide +kernel
theorem dX10_ringAt_18 : decode cX10_ringAt 18 = .ok (.getfield 19, 3) := by decide +kernel
theorem dX10_ringAt_21 : decode cX10_ringAt 21 = .ok (.invokevirtual 201, 3) := by decide +kernel
theorem dX10_ringAt_24 : decode cX10_ringAt 24 = .ok (.aload_n 0, 1) := by decide +kernel
theorem dX10_ringAt_25 : decode cX10_ringAt 25 = .ok (.getfield 50, 3) := by decide +kernel
theorem dX10_ringAt_28 : decode cX10_ringAt 28 = .ok (.getfield 207, 3) := by decide +kernel
theorem dX10_ringAt_31 : decode cX10_ringAt 31 = .ok (.iload_n 1, 1) := by decide +kernel
theorem dX10_ringAt_32 : decode cX10_ringAt 32 = .ok (.iaload, 1) := by decide +kernel
theorem dX10_ringAt_33 : decode cX10_ringAt 33 = .ok (.ireturn, 1) := by decide +kernel
theorem dX10_frees_0 : decode cX10_frees 0 = .ok (.iload_n 1, 1) := by decide +kernel
theorem dX10_frees_1 : decode cX10_frees 1 = .ok (.invokestatic 130, 3) := by decide +kernel
theorem dX10_frees_4 : decode cX10_frees 4 = .ok (.ifCond .ne 5, 3) := by decide +kernel
theorem dX10_frees_7 : decode cX10_frees 7 = .ok (.iconst (-1), 1) := by decide +kernel
theorem dX10_frees_8 : decode cX10_frees 8 = .ok (.ireturn, 1) := by decide +kernel
theorem dX10_frees_9 : decode cX10_frees 9 = .ok (.iconst 0, 1) := by decide +kernel
theorem dX10_frees_10 : decode cX10_frees 10 = .ok (.istore_n 2, 1) := by decide +kernel
theorem dX10_frees_11 : decode cX10_frees 11 = .ok (.iconst 0, 1) := by decide +kernel
theorem dX10_frees_12 : decode cX10_frees 12 = .ok (.istore_n 3, 1) := by decide +kernel
theorem dX10_frees_13 : decode cX10_frees 13 = .ok (.iload_n 3, 1) := by decide +kernel
theorem dX10_frees_14 : decode cX10_frees 14 = .ok (.aload_n 0, 1) := by decide +kernel
theorem dX10_frees_15 : decode cX10_frees 15 = .ok (.getfield 19, 3) := by decide +kernel
theorem dX10_frees_18 : decode cX10_frees 18 = .ok (.getfield 105, 3) := by decide +kernel
theorem dX10_frees_21 : decode cX10_frees 21 = .ok (.if_icmp .ge 52, 3) := by decide +kernel
theorem dX10_frees_24 : decode cX10_frees 24 = .ok (.aload_n 0, 1) := by decide +kernel
theorem dX10_frees_25 : decode cX10_frees 25 = .ok (.getfield 19, 3) := by decide +kernel
theorem dX10_frees_28 : decode cX10_frees 28 = .ok (.getfield 124, 3) := by decide +kernel
theorem dX10_frees_31 : decode cX10_frees 31 = .ok (.iload_n 3, 1) := by decide +kernel
theorem dX10_frees_32 : decode cX10_frees 32 = .ok (.iaload, 1) := by decide +kernel
theorem dX10_frees_33 : decode cX10_frees 33 = .ok (.bipush (-9), 2) := by decide +kernel
theorem dX10_frees_35 : decode cX10_frees 35 = .ok (.if_icmp .eq 32, 3) := by decide +kernel
theorem dX10_frees_38 : decode cX10_frees 38 = .ok (.aload_n 0, 1) := by decide +kernel
theorem dX10_frees_39 : decode cX10_frees 39 = .ok (.getfield 19, 3) := by decide +kernel
theorem dX10_frees_42 : decode cX10_frees 42 = .ok (.iload_n 3, 1) := by decide +kernel
theorem dX10_frees_43 : decode cX10_frees 43 = .ok (.iload_n 1, 1) := by decide +kernel
theorem dX10_frees_44 : decode cX10_frees 44 = .ok (.invokevirtual 210, 3) := by decide +kernel
theorem dX10_frees_47 : decode cX10_frees 47 = .ok (.ifCond .eq 20, 3) := by decide +kernel
theorem dX10_frees_50 : decode cX10_frees 50 = .ok (.aload_n 0, 1) := by decide +kernel
theorem dX10_frees_51 : decode cX10_frees 51 = .ok (.getfield 19, 3) := by decide +kernel
theorem dX10_frees_54 : decode cX10_frees 54 = .ok (.iload_n 3, 1) := by decide +kernel
theorem dX10_frees_55 : decode cX10_frees 55 = .ok (.invokevirtual 213, 3) := by decide +kernel
theorem dX10_frees_58 : decode cX10_frees 58 = .ok (.ifCond .ne 9, 3) := by decide +kernel
theorem dX10_frees_61 : decode cX10_frees 61 = .ok (.iload_n 2, 1) := by decide +kernel
theorem dX10_frees_62 : decode cX10_frees 62 = .ok (.iconst 1, 1) := by decide +kernel
theorem dX10_frees_63 : decode cX10_frees 63 = .ok (.iload_n 3, 1) := by decide +kernel
theorem dX10_frees_64 : decode cX10_frees 64 = .ok (.ishl, 1) := by decide +kernel
theorem dX10_frees_65 : decode cX10_frees 65 = .ok (.ior, 1) := by decide +kernel
theorem dX10_frees_66 : decode cX10_frees 66 = .ok (.istore_n 2, 1) := by decide +kernel
theorem dX10_frees_67 : decode cX10_frees 67 = .ok (.iinc 3 1, 3) := by decide +kernel
theorem dX10_frees_70 : decode cX10_frees 70 = .ok (.goto (-57), 3) := by decide +kernel
theorem dX10_frees_73 : decode cX10_frees 73 = .ok (.iload_n 2, 1) := by decide +kernel
theorem dX10_frees_74 : decode cX10_frees 74 = .ok (.ireturn, 1) := by decide +kernel
theorem dX10_turns_0 : decode cX10_turns 0 = .ok (.aload_n 0, 1) := by decide +kernel
theorem dX10_turns_1 : decode cX10_turns 1 = .ok (.getfield 19, 3) := by decide +kernel
theorem dX10_turns_4 : decode cX10_turns 4 = .ok (.iload_n 2, 1) := by decide +kernel
theorem dX10_turns_5 : decode cX10_turns 5 = .ok (.invokevirtual 120, 3) := by decide +kernel
theorem dX10_turns_8 : decode cX10_turns 8 = .ok (.ifCond .ne 5, 3) := by decide +kernel
theorem dX10_turns_11 : decode cX10_turns 11 = .ok (.iconst (-1), 1) := by decide +kernel
theorem dX10_turns_12 : decode cX10_turns 12 = .ok (.ireturn, 1) := by decide +kernel
theorem dX10_turns_13 : decode cX10_turns 13 = .ok (.iload_n 1, 1) := by decide +kernel
theorem dX10_turns_14 : decode cX10_turns 14 = .ok (.iconst 1, 1) := by decide +kernel
theorem dX10_turns_15 : decode cX10_turns 15 = .ok (.if_icmp .lt 9, 3) := by decide +kernel
theorem dX10_turns_18 : decode cX10_turns 18 = .ok (.iload_n 1, 1) := by decide +kernel
theorem dX10_turns_19 : decode cX10_turns 19 = .ok (.bipush 6, 2) := by decide +kernel
theorem dX10_turns_21 : decode cX10_turns 21 = .ok (.if_icmp .le 6, 3) := by decide +kernel
theorem dX10_turns_24 : decode cX10_turns 24 = .ok (.bipush (-2), 2) := by decide +kernel
theorem dX10_turns_26 : decode cX10_turns 26 = .ok (.ireturn, 1) := by decide +kernel
theorem dX10_turns_27 : decode cX10_turns 27 = .ok (.aload_n 0, 1) := by decide +kernel
theorem dX10_turns_28 : decode cX10_turns 28 = .ok (.getfield 57, 3) := by decide +kernel
theorem dX10_turns_31 : decode cX10_turns 31 = .ok (.aload_n 0, 1) := by decide +kernel
theorem dX10_turns_32 : decode cX10_turns 32 = .ok (.getfield 19, 3) := by decide +kernel
theorem dX10_turns_35 : decode cX10_turns 35 = .ok (.iload_n 1, 1) := by decide +kernel
theorem dX10_turns_36 : decode cX10_turns 36 = .ok (.invokevirtual 216, 3) := by decide +kernel
theorem dX10_turns_39 : decode cX10_turns 39 = .ok (.aload_n 0, 1) := by decide +kernel
theorem dX10_turns_40 : decode cX10_turns 40 = .ok (.getfield 57, 3) := by decide +kernel
theorem dX10_turns_43 : decode cX10_turns 43 = .ok (.iload_n 2, 1) := by decide +kernel
theorem dX10_turns_44 : decode cX10_turns 44 = .ok (.invokevirtual 220, 3) := by decide +kernel
theorem dX10_turns_47 : decode cX10_turns 47 = .ok (.ireturn, 1) := by decide +kernel
theorem dX10_first_0 : decode cX10_first 0 = .ok (.iload_n 1, 1) := by decide +kernel
theorem dX10_first_1 : decode cX10_first 1 = .ok (.iconst 1, 1) := by decide +kernel
theorem dX10_first_2 : decode cX10_first 2 = .ok (.if_icmp .lt 9, 3) := by decide +kernel
theorem dX10_first_5 : decode cX10_first 5 = .ok (.iload_n 1, 1) := by decide +kernel
theorem dX10_first_6 : decode cX10_first 6 = .ok (.bipush 6, 2) := by decide +kernel
theorem dX10_first_8 : decode cX10_first 8 = .ok (.if_icmp .le 6, 3) := by decide +kernel
theorem dX10_first_11 : decode cX10_first 11 = .ok (.bipush (-2), 2) := by decide +kernel
theorem dX10_first_13 : decode cX10_first 13 = .ok (.ireturn, 1) := by decide +kernel
theorem dX10_first_14 : decode cX10_first 14 = .ok (.aload_n 0, 1) := by decide +kernel
theorem dX10_first_15 : decode cX10_first 15 = .ok (.getfield 57, 3) := by decide +kernel
theorem dX10_first_18 : decode cX10_first 18 = .ok (.aload_n 0, 1) := by decide +kernel
theorem dX10_first_19 : decode cX10_first 19 = .ok (.getfield 19, 3) := by decide +kernel
theorem dX10_first_22 : decode cX10_first 22 = .ok (.iload_n 1, 1) := by decide +kernel
theorem dX10_first_23 : decode cX10_first 23 = .ok (.invokevirtual 216, 3) := by decide +kernel
theorem dX10_first_26 : decode cX10_first 26 = .ok (.aload_n 0, 1) := by decide +kernel
theorem dX10_first_27 : decode cX10_first 27 = .ok (.getfield 57, 3) := by decide +kernel
theorem dX10_first_30 : decode cX10_first 30 = .ok (.getfield 223, 3) := by decide +kernel
theorem dX10_first_33 : decode cX10_first 33 = .ok (.ireturn, 1) := by decide +kernel
theorem dX10_sight_0 : decode cX10_sight 0 = .ok (.iload_n 1, 1) := by decide +kernel
theorem dX10_sight_1 : decode cX10_sight 1 = .ok (.invokestatic 130, 3) := by decide +kernel
theorem dX10_sight_4 : decode cX10_sight 4 = .ok (.ifCond .ne 5, 3) := by decide +kernel
theorem dX10_sight_7 : decode cX10_sight 7 = .ok (.iconst (-1), 1) := by decide +kernel
theorem dX10_sight_8 : decode cX10_sight 8 = .ok (.ireturn, 1) := by decide +kernel
theorem dX10_sight_9 : decode cX10_sight 9 = .ok (.aload_n 0, 1) := by decide +kernel
theorem dX10_sight_10 : decode cX10_sight 10 = .ok (.getfield 64, 3) := by decide +kernel
theorem dX10_sight_13 : decode cX10_sight 13 = .ok (.getfield 116, 3) := by decide +kernel
theorem dX10_sight_16 : decode cX10_sight 16 = .ok (.bipush 8, 2) := by decide +kernel
theorem dX10_sight_18 : decode cX10_sight 18 = .ok (.if_icmp .lt 6, 3) := by decide +kernel
theorem dX10_sight_21 : decode cX10_sight 21 = .ok (.bipush (-4), 2) := by decide +kernel
theorem dX10_sight_23 : decode cX10_sight 23 = .ok (.ireturn, 1) := by decide +kernel
theorem dX10_sight_24 : decode cX10_sight 24 = .ok (.aload_n 0, 1) := by decide +kernel
theorem dX10_sight_25 : decode cX10_sight 25 = .ok (.getfield 64, 3) := by decide +kernel
theorem dX10_sight_28 : decode cX10_sight 28 = .ok (.iload_n 1, 1) := by decide +kernel
theorem dX10_sight_29 : decode cX10_sight 29 = .ok (.iload_n 2, 1) := by decide +kernel
theorem dX10_sight_30 : decode cX10_sight 30 = .ok (.invokevirtual 226, 3) := by decide +kernel
theorem dX10_sight_33 : decode cX10_sight 33 = .ok (.aload_n 0, 1) := by decide +kernel
theorem dX10_sight_34 : decode cX10_sight 34 = .ok (.getfield 64, 3) := by decide +kernel
theorem dX10_sight_37 : decode cX10_sight 37 = .ok (.getfield 116, 3) := by decide +kernel
theorem dX10_sight_40 : decode cX10_sight 40 = .ok (.ireturn, 1) := by decide +kernel
theorem dX10_unsee_0 : decode cX10_unsee 0 = .ok (.aload_n 0, 1) := by decide +kernel
theorem dX10_unsee_1 : decode cX10_unsee 1 = .ok (.getfield 64, 3) := by decide +kernel
theorem dX10_unsee_4 : decode cX10_unsee 4 = .ok (.getfield 116, 3) := by decide +kernel
theorem dX10_unsee_7 : decode cX10_unsee 7 = .ok (.istore_n 1, 1) := by decide +kernel
theorem dX10_unsee_8 : decode cX10_unsee 8 = .ok (.aload_n 0, 1) := by decide +kernel
theorem dX10_unsee_9 : decode cX10_unsee 9 = .ok (.getfield 64, 3) := by decide +kernel
theorem dX10_unsee_12 : decode cX10_unsee 12 = .ok (.iconst 0, 1) := by decide +kernel
theorem dX10_unsee_13 : decode cX10_unsee 13 = .ok (.putfield 116, 3) := by decide +kernel
theorem dX10_unsee_16 : decode cX10_unsee 16 = .ok (.iload_n 1, 1) := by decide +kernel
theorem dX10_unsee_17 : decode cX10_unsee 17 = .ok (.ireturn, 1) := by decide +kernel
theorem dX10_lists_0 : decode cX10_lists 0 = .ok (.aload_n 0, 1) := by decide +kernel
theorem dX10_lists_1 : decode cX10_lists 1 = .ok (.getfield 64, 3) := by decide +kernel
theorem dX10_lists_4 : decode cX10_lists 4 = .ok (.invokevirtual 230, 3) := by decide +kernel
theorem dX10_lists_7 : decode cX10_lists 7 = .ok (.ireturn, 1) := by decide +kernel
theorem dX10_listed_0 : decode cX10_listed 0 = .ok (.iload_n 1, 1) := by decide +kernel
theorem dX10_listed_1 : decode cX10_listed 1 = .ok (.invokestatic 130, 3) := by decide +kernel
theorem dX10_listed_4 : decode cX10_listed 4 = .ok (.ifCond .ne 5, 3) := by decide +kernel
theorem dX10_listed_7 : decode cX10_listed 7 = .ok (.iconst (-1), 1) := by decide +kernel
theorem dX10_listed_8 : decode cX10_listed 8 = .ok (.ireturn, 1) := by decide +kernel
theorem dX10_listed_9 : decode cX10_listed 9 = .ok (.aload_n 0, 1) := by decide +kernel
theorem dX10_listed_10 : decode cX10_listed 10 = .ok (.getfield 64, 3) := by decide +kernel
theorem dX10_listed_13 : decode cX10_listed 13 = .ok (.iload_n 1, 1) := by decide +kernel
theorem dX10_listed_14 : decode cX10_listed 14 = .ok (.invokevirtual 233, 3) := by decide +kernel
theorem dX10_listed_17 : decode cX10_listed 17 = .ok (.ireturn, 1) := by decide +kernel
theorem dX10_keep_0 : decode cX10_keep 0 = .ok (.iload_n 1, 1) := by decide +kernel
theorem dX10_keep_1 : decode cX10_keep 1 = .ok (.invokestatic 236, 3) := by decide +kernel
theorem dX10_keep_4 : decode cX10_keep 4 = .ok (.ifCond .ne 5, 3) := by decide +kernel
theorem dX10_keep_7 : decode cX10_keep 7 = .ok (.iconst (-1), 1) := by decide +kernel
theorem dX10_keep_8 : decode cX10_keep 8 = .ok (.ireturn, 1) := by decide +kernel
theorem dX10_keep_9 : decode cX10_keep 9 = .ok (.aload_n 0, 1) := by decide +kernel
theorem dX10_keep_10 : decode cX10_keep 10 = .ok (.getfield 70, 3) := by decide +kernel
theorem dX10_keep_13 : decode cX10_keep 13 = .ok (.iload_n 1, 1) := by decide +kernel
theorem dX10_keep_14 : decode cX10_keep 14 = .ok (.aaload, 1) := by decide +kernel
theorem dX10_keep_15 : decode cX10_keep 15 = .ok (.aload_n 0, 1) := by decide +kernel
theorem dX10_keep_16 : decode cX10_keep 16 = .ok (.getfield 19, 3) := by decide +kernel
theorem dX10_keep_19 : decode cX10_keep 19 = .ok (.invokevirtual 239, 3) := by decide +kernel
theorem dX10_keep_22 : decode cX10_keep 22 = .ok (.aload_n 0, 1) := by decide +kernel
theorem dX10_keep_23 : decode cX10_keep 23 = .ok (.getfield 19, 3) := by decide +kernel
theorem dX10_keep_26 : decode cX10_keep 26 = .ok (.invokevirtual 106, 3) := by decide +kernel
theorem dX10_keep_29 : decode cX10_keep 29 = .ok (.ireturn, 1) := by decide +kernel
theorem dX10_again_0 : decode cX10_again 0 = .ok (.iload_n 1, 1) := by decide +kernel
theorem dX10_again_1 : decode cX10_again 1 = .ok (.invokestatic 236, 3) := by decide +kernel
theorem dX10_again_4 : decode cX10_again 4 = .ok (.ifCond .ne 5, 3) := by decide +kernel
theorem dX10_again_7 : decode cX10_again 7 = .ok (.iconst (-1), 1) := by decide +kernel
theorem dX10_again_8 : decode cX10_again 8 = .ok (.ireturn, 1) := by decide +kernel
theorem dX10_again_9 : decode cX10_again 9 = .ok (.aload_n 0, 1) := by decide +kernel
theorem dX10_again_10 : decode cX10_again 10 = .ok (.getfield 70, 3) := by decide +kernel
theorem dX10_again_13 : decode cX10_again 13 = .ok (.iload_n 1, 1) := by decide +kernel
theorem dX10_again_14 : decode cX10_again 14 = .ok (.aaload, 1) := by decide +kernel
theorem dX10_again_15 : decode cX10_again 15 = .ok (.getfield 101, 3) := by decide +kernel
theorem dX10_again_18 : decode cX10_again 18 = .ok (.ifCond .ne 6, 3) := by decide +kernel
theorem dX10_again_21 : decode cX10_again 21 = .ok (.bipush (-3), 2) := by decide +kernel
theorem dX10_again_23 : decode cX10_again 23 = .ok (.ireturn, 1) := by decide +kernel
theorem dX10_again_24 : decode cX10_again 24 = .ok (.aload_n 0, 1) := by decide +kernel
theorem dX10_again_25 : decode cX10_again 25 = .ok (.getfield 70, 3) := by decide +kernel
theorem dX10_again_28 : decode cX10_again 28 = .ok (.iload_n 1, 1) := by decide +kernel
theorem dX10_again_29 : decode cX10_again 29 = .ok (.aaload, 1) := by decide +kernel
theorem dX10_again_30 : decode cX10_again 30 = .ok (.aload_n 0, 1) := by decide +kernel
theorem dX10_again_31 : decode cX10_again 31 = .ok (.getfield 19, 3) := by decide +kernel
theorem dX10_again_34 : decode cX10_again 34 = .ok (.invokevirtual 242, 3) := by decide +kernel
theorem dX10_again_37 : decode cX10_again 37 = .ok (.aload_n 0, 1) := by decide +kernel
theorem dX10_again_38 : decode cX10_again 38 = .ok (.getfield 29, 3) := by decide +kernel
theorem dX10_again_41 : decode cX10_again 41 = .ok (.iconst 0, 1) := by decide +kernel
theorem dX10_again_42 : decode cX10_again 42 = .ok (.putfield 95, 3) := by decide +kernel
theorem dX10_again_45 : decode cX10_again 45 = .ok (.aload_n 0, 1) := by decide +kernel
theorem dX10_again_46 : decode cX10_again 46 = .ok (.getfield 19, 3) := by decide +kernel
theorem dX10_again_49 : decode cX10_again 49 = .ok (.invokevirtual 106, 3) := by decide +kernel
theorem dX10_again_52 : decode cX10_again 52 = .ok (.ireturn, 1) := by decide +kernel
theorem dX10_isSort_0 : decode cX10_isSort 0 = .ok (.iload_n 0, 1) := by decide +kernel
theorem dX10_isSort_1 : decode cX10_isSort 1 = .ok (.ifCond .lt 13, 3) := by decide +kernel
theorem dX10_isSort_4 : decode cX10_isSort 4 = .ok (.iload_n 0, 1) := by decide +kernel
theorem dX10_isSort_5 : decode cX10_isSort 5 = .ok (.bipush 6, 2) := by decide +kernel
theorem dX10_isSort_7 : decode cX10_isSort 7 = .ok (.if_icmp .ge 7, 3) := by decide +kernel
theorem dX10_isSort_10 : decode cX10_isSort 10 = .ok (.iconst 1, 1) := by decide +kernel
theorem dX10_isSort_11 : decode cX10_isSort 11 = .ok (.goto 4, 3) := by decide +kernel
theorem dX10_isSort_14 : decode cX10_isSort 14 = .ok (.iconst 0, 1) := by decide +kernel
theorem dX10_isSort_15 : decode cX10_isSort 15 = .ok (.ireturn, 1) := by decide +kernel
theorem dX10_isSlot_0 : decode cX10_isSlot 0 = .ok (.iload_n 0, 1) := by decide +kernel
theorem dX10_isSlot_1 : decode cX10_isSlot 1 = .ok (.ifCond .lt 12, 3) := by decide +kernel
theorem dX10_isSlot_4 : decode cX10_isSlot 4 = .ok (.iload_n 0, 1) := by decide +kernel
theorem dX10_isSlot_5 : decode cX10_isSlot 5 = .ok (.iconst 2, 1) := by decide +kernel
theorem dX10_isSlot_6 : decode cX10_isSlot 6 = .ok (.if_icmp .ge 7, 3) := by decide +kernel
theorem dX10_isSlot_9 : decode cX10_isSlot 9 = .ok (.iconst 1, 1) := by decide +kernel
theorem dX10_isSlot_10 : decode cX10_isSlot 10 = .ok (.goto 4, 3) := by decide +kernel
theorem dX10_isSlot_13 : decode cX10_isSlot 13 = .ok (.iconst 0, 1) := by decide +kernel
theorem dX10_isSlot_14 : decode cX10_isSlot 14 = .ok (.ireturn, 1) := by decide +kernel
theorem dX10_bit_0 : decode cX10_bit 0 = .ok (.iload_n 0, 1) := by decide +kernel
theorem dX10_bit_1 : decode cX10_bit 1 = .ok (.invokestatic 130, 3) := by decide +kernel
theorem dX10_bit_4 : decode cX10_bit 4 = .ok (.ifCond .eq 9, 3) := by decide +kernel
theorem dX10_bit_7 : decode cX10_bit 7 = .ok (.iconst 1, 1) := by decide +kernel
theorem dX10_bit_8 : decode cX10_bit 8 = .ok (.iload_n 0, 1) := by decide +kernel
theorem dX10_bit_9 : decode cX10_bit 9 = .ok (.ishl, 1) := by decide +kernel
theorem dX10_bit_10 : decode cX10_bit 10 = .ok (.goto 4, 3) := by decide +kernel
theorem dX10_bit_13 : decode cX10_bit 13 = .ok (.iconst 0, 1) := by decide +kernel
theorem dX10_bit_14 : decode cX10_bit 14 = .ok (.ireturn, 1) := by decide +kernel
theorem dX10_told_0 : decode cX10_told 0 = .ok (.bipush 10, 2) := by decide +kernel
theorem dX10_told_2 : decode cX10_told 2 = .ok (.iload_n 0, 1) := by decide +kernel
theorem dX10_told_3 : decode cX10_told 3 = .ok (.iload_n 1, 1) := by decide +kernel
theorem dX10_told_4 : decode cX10_told 4 = .ok (.invokestatic 245, 3) := by decide +kernel
theorem dX10_told_7 : decode cX10_told 7 = .ok (.imul, 1) := by decide +kernel
theorem dX10_told_8 : decode cX10_told 8 = .ok (.iload_n 0, 1) := by decide +kernel
theorem dX10_told_9 : decode cX10_told 9 = .ok (.iload_n 1, 1) := by decide +kernel
theorem dX10_told_10 : decode cX10_told 10 = .ok (.invokestatic 250, 3) := by decide +kernel
theorem dX10_told_13 : decode cX10_told 13 = .ok (.iadd, 1) := by decide +kernel
theorem dX10_told_14 : decode cX10_told 14 = .ok (.ireturn, 1) := by decide +kernel
