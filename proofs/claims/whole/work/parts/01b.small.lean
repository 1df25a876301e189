theorem dX0_init_0 : decode cX0_init 0 = .ok (.aload_n 0, 1) := by decide +kernel
theorem dX0_init_1 : decode cX0_init 1 = .ok (.invokespecial 3, 3) := by decide +kernel
theorem dX0_init_4 : decode cX0_init 4 = .ok (.aload_n 0, 1) := by decide +kernel
theorem dX0_init_5 : decode cX0_init 5 = .ok (.bipush 16, 2) := by decide +kernel
theorem dX0_init_7 : decode cX0_init 7 = .ok (.newarray .int, 2) := by decide +kernel
theorem dX0_init_9 : decode cX0_init 9 = .ok (.putfield 9, 3) := by decide +kernel
theorem dX0_init_12 : decode cX0_init 12 = .ok (.return_, 1) := by decide +kernel
theorem dX0_addExchange_0 : decode cX0_addExchange 0 = .ok (.aload_n 0, 1) := by decide +kernel
theorem dX0_addExchange_1 : decode cX0_addExchange 1 = .ok (.iload_n 1, 1) := by decide +kernel
theorem dX0_addExchange_2 : decode cX0_addExchange 2 = .ok (.iload_n 2, 1) := by decide +kernel
theorem dX0_addExchange_3 : decode cX0_addExchange 3 = .ok (.invokestatic 15, 3) := by decide +kernel
theorem dX0_addExchange_6 : decode cX0_addExchange 6 = .ok (.invokevirtual 19, 3) := by decide +kernel
theorem dX0_addExchange_9 : decode cX0_addExchange 9 = .ok (.return_, 1) := by decide +kernel
theorem dX0_addSea_0 : decode cX0_addSea 0 = .ok (.aload_n 0, 1) := by decide +kernel
theorem dX0_addSea_1 : decode cX0_addSea 1 = .ok (.bipush 100, 2) := by decide +kernel
theorem dX0_addSea_3 : decode cX0_addSea 3 = .ok (.bipush 10, 2) := by decide +kernel
theorem dX0_addSea_5 : decode cX0_addSea 5 = .ok (.iload_n 1, 1) := by decide +kernel
theorem dX0_addSea_6 : decode cX0_addSea 6 = .ok (.imul, 1) := by decide +kernel
theorem dX0_addSea_7 : decode cX0_addSea 7 = .ok (.iadd, 1) := by decide +kernel
theorem dX0_addSea_8 : decode cX0_addSea 8 = .ok (.iload_n 2, 1) := by decide +kernel
theorem dX0_addSea_9 : decode cX0_addSea 9 = .ok (.iadd, 1) := by decide +kernel
theorem dX0_addSea_10 : decode cX0_addSea 10 = .ok (.invokevirtual 19, 3) := by decide +kernel
theorem dX0_addSea_13 : decode cX0_addSea 13 = .ok (.return_, 1) := by decide +kernel
theorem dX0_add_0 : decode cX0_add 0 = .ok (.aload_n 0, 1) := by decide +kernel
theorem dX0_add_1 : decode cX0_add 1 = .ok (.getfield 23, 3) := by decide +kernel
theorem dX0_add_4 : decode cX0_add 4 = .ok (.bipush 16, 2) := by decide +kernel
theorem dX0_add_6 : decode cX0_add 6 = .ok (.if_icmp .lt 24, 3) := by decide +kernel
theorem dX0_add_9 : decode cX0_add 9 = .ok (.aload_n 0, 1) := by decide +kernel
theorem dX0_add_10 : decode cX0_add 10 = .ok (.getfield 9, 3) := by decide +kernel
theorem dX0_add_13 : decode cX0_add 13 = .ok (.iconst 1, 1) := by decide +kernel
theorem dX0_add_14 : decode cX0_add 14 = .ok (.aload_n 0, 1) := by decide +kernel
theorem dX0_add_15 : decode cX0_add 15 = .ok (.getfield 9, 3) := by decide +kernel
theorem dX0_add_18 : decode cX0_add 18 = .ok (.iconst 0, 1) := by decide +kernel
theorem dX0_add_19 : decode cX0_add 19 = .ok (.bipush 15, 2) := by decide +kernel
theorem dX0_add_21 : decode cX0_add 21 = .ok (.invokestatic 27, 3) := by decide +kernel
theorem dX0_add_24 : decode cX0_add 24 = .ok (.aload_n 0, 1) := by decide +kernel
theorem dX0_add_25 : decode cX0_add 25 = .ok (.bipush 15, 2) := by decide +kernel
theorem dX0_add_27 : decode cX0_add 27 = .ok (.putfield 23, 3) := by decide +kernel
theorem dX0_add_30 : decode cX0_add 30 = .ok (.aload_n 0, 1) := by decide +kernel
theorem dX0_add_31 : decode cX0_add 31 = .ok (.getfield 9, 3) := by decide +kernel
theorem dX0_add_34 : decode cX0_add 34 = .ok (.aload_n 0, 1) := by decide +kernel
theorem dX0_add_35 : decode cX0_add 35 = .ok (.getfield 23, 3) := by decide +kernel
theorem dX0_add_38 : decode cX0_add 38 = .ok (.iload_n 1, 1) := by decide +kernel
theorem dX0_add_39 : decode cX0_add 39 = .ok (.iastore, 1) := by decide +kernel
theorem dX0_add_40 : decode cX0_add 40 = .ok (.aload_n 0, 1) := by decide +kernel
theorem dX0_add_41 : decode cX0_add 41 = .ok (.dup, 1) := by decide +kernel
theorem dX0_add_42 : decode cX0_add 42 = .ok (.getfield 23, 3) := by decide +kernel
theorem dX0_add_45 : decode cX0_add 45 = .ok (.iconst 1, 1) := by decide +kernel
theorem dX0_add_46 : decode cX0_add 46 = .ok (.iadd, 1) := by decide +kernel
theorem dX0_add_47 : decode cX0_add 47 = .ok (.putfield 23, 3) := by decide +kernel
theorem dX0_add_50 : decode cX0_add 50 = .ok (.return_, 1) := by decide +kernel
theorem dX0_undoLast_0 : decode cX0_undoLast 0 = .ok (.aload_n 0, 1) := by decide +kernel
theorem dX0_undoLast_1 : decode cX0_undoLast 1 = .ok (.getfield 23, 3) := by decide +kernel
theorem dX0_undoLast_4 : decode cX0_undoLast 4 = .ok (.ifCond .ne 4, 3) := by decide +kernel
theorem dX0_undoLast_7 : decode cX0_undoLast 7 = .ok (.return_, 1) := by decide +kernel
theorem dX0_undoLast_8 : decode cX0_undoLast 8 = .ok (.aload_n 0, 1) := by decide +kernel
theorem dX0_undoLast_9 : decode cX0_undoLast 9 = .ok (.dup, 1) := by decide +kernel
theorem dX0_undoLast_10 : decode cX0_undoLast 10 = .ok (.getfield 23, 3) := by decide +kernel
theorem dX0_undoLast_13 : decode cX0_undoLast 13 = .ok (.iconst 1, 1) := by decide +kernel
theorem dX0_undoLast_14 : decode cX0_undoLast 14 = .ok (.isub, 1) := by decide +kernel
theorem dX0_undoLast_15 : decode cX0_undoLast 15 = .ok (.putfield 23, 3) := by decide +kernel
theorem dX0_undoLast_18 : decode cX0_undoLast 18 = .ok (.aload_n 0, 1) := by decide +kernel
theorem dX0_undoLast_19 : decode cX0_undoLast 19 = .ok (.getfield 9, 3) := by decide +kernel
theorem dX0_undoLast_22 : decode cX0_undoLast 22 = .ok (.aload_n 0, 1) := by decide +kernel
theorem dX0_undoLast_23 : decode cX0_undoLast 23 = .ok (.getfield 23, 3) := by decide +kernel
theorem dX0_undoLast_26 : decode cX0_undoLast 26 = .ok (.iaload, 1) := by decide +kernel
theorem dX0_undoLast_27 : decode cX0_undoLast 27 = .ok (.istore_n 2, 1) := by decide +kernel
theorem dX0_undoLast_28 : decode cX0_undoLast 28 = .ok (.iload_n 2, 1) := by decide +kernel
theorem dX0_undoLast_29 : decode cX0_undoLast 29 = .ok (.bipush 100, 2) := by decide +kernel
theorem dX0_undoLast_31 : decode cX0_undoLast 31 = .ok (.if_icmp .ge 16, 3) := by decide +kernel
theorem dX0_undoLast_34 : decode cX0_undoLast 34 = .ok (.aload_n 1, 1) := by decide +kernel
theorem dX0_undoLast_35 : decode cX0_undoLast 35 = .ok (.iload_n 2, 1) := by decide +kernel
theorem dX0_undoLast_36 : decode cX0_undoLast 36 = .ok (.bipush 10, 2) := by decide +kernel
theorem dX0_undoLast_38 : decode cX0_undoLast 38 = .ok (.idiv, 1) := by decide +kernel
theorem dX0_undoLast_39 : decode cX0_undoLast 39 = .ok (.iload_n 2, 1) := by decide +kernel
theorem dX0_undoLast_40 : decode cX0_undoLast 40 = .ok (.bipush 10, 2) := by decide +kernel
theorem dX0_undoLast_42 : decode cX0_undoLast 42 = .ok (.irem, 1) := by decide +kernel
theorem dX0_undoLast_43 : decode cX0_undoLast 43 = .ok (.invokevirtual 33, 3) := by decide +kernel
theorem dX0_undoLast_46 : decode cX0_undoLast 46 = .ok (.return_, 1) := by decide +kernel
theorem dX0_undoLast_47 : decode cX0_undoLast 47 = .ok (.iload_n 2, 1) := by decide +kernel
theorem dX0_undoLast_48 : decode cX0_undoLast 48 = .ok (.bipush 100, 2) := by decide +kernel
theorem dX0_undoLast_50 : decode cX0_undoLast 50 = .ok (.isub, 1) := by decide +kernel
theorem dX0_undoLast_51 : decode cX0_undoLast 51 = .ok (.bipush 10, 2) := by decide +kernel
theorem dX0_undoLast_53 : decode cX0_undoLast 53 = .ok (.idiv, 1) := by decide +kernel
theorem dX0_undoLast_54 : decode cX0_undoLast 54 = .ok (.istore_n 3, 1) := by decide +kernel
theorem dX0_undoLast_55 : decode cX0_undoLast 55 = .ok (.aload_n 1, 1) := by decide +kernel
theorem dX0_undoLast_56 : decode cX0_undoLast 56 = .ok (.iload_n 3, 1) := by decide +kernel
theorem dX0_undoLast_57 : decode cX0_undoLast 57 = .ok (.invokevirtual 39, 3) := by decide +kernel
theorem dX0_undoLast_60 : decode cX0_undoLast 60 = .ok (.ifCond .eq 13, 3) := by decide +kernel
theorem dX0_undoLast_63 : decode cX0_undoLast 63 = .ok (.aload_n 1, 1) := by decide +kernel
theorem dX0_undoLast_64 : decode cX0_undoLast 64 = .ok (.getfield 43, 3) := by decide +kernel
theorem dX0_undoLast_67 : decode cX0_undoLast 67 = .ok (.iload_n 3, 1) := by decide +kernel
theorem dX0_undoLast_68 : decode cX0_undoLast 68 = .ok (.iload_n 2, 1) := by decide +kernel
theorem dX0_undoLast_69 : decode cX0_undoLast 69 = .ok (.bipush 10, 2) := by decide +kernel
theorem dX0_undoLast_71 : decode cX0_undoLast 71 = .ok (.irem, 1) := by decide +kernel
theorem dX0_undoLast_72 : decode cX0_undoLast 72 = .ok (.iastore, 1) := by decide +kernel
theorem dX0_undoLast_73 : decode cX0_undoLast 73 = .ok (.return_, 1) := by decide +kernel
theorem dX1_init_0 : decode cX1_init 0 = .ok (.aload_n 0, 1) := by decide +kernel
theorem dX1_init_1 : decode cX1_init 1 = .ok (.invokespecial 3, 3) := by decide +kernel
theorem dX1_init_4 : decode cX1_init 4 = .ok (.aload_n 0, 1) := by decide +kernel
theorem dX1_init_5 : decode cX1_init 5 = .ok (.iconst 4, 1) := by decide +kernel
theorem dX1_init_6 : decode cX1_init 6 = .ok (.newarray .int, 2) := by decide +kernel
theorem dX1_init_8 : decode cX1_init 8 = .ok (.putfield 9, 3) := by decide +kernel
theorem dX1_init_11 : decode cX1_init 11 = .ok (.aload_n 0, 1) := by decide +kernel
theorem dX1_init_12 : decode cX1_init 12 = .ok (.iconst 4, 1) := by decide +kernel
theorem dX1_init_13 : decode cX1_init 13 = .ok (.newarray .int, 2) := by decide +kernel
theorem dX1_init_15 : decode cX1_init 15 = .ok (.putfield 15, 3) := by decide +kernel
theorem dX1_init_18 : decode cX1_init 18 = .ok (.aload_n 0, 1) := by decide +kernel
theorem dX1_init_19 : decode cX1_init 19 = .ok (.bipush 24, 2) := by decide +kernel
theorem dX1_init_21 : decode cX1_init 21 = .ok (.newarray .int, 2) := by decide +kernel
theorem dX1_init_23 : decode cX1_init 23 = .ok (.putfield 18, 3) := by decide +kernel
theorem dX1_init_26 : decode cX1_init 26 = .ok (.return_, 1) := by decide +kernel
theorem dX1_has_0 : decode cX1_has 0 = .ok (.iload_n 1, 1) := by decide +kernel
theorem dX1_has_1 : decode cX1_has 1 = .ok (.ifCond .lt 15, 3) := by decide +kernel
theorem dX1_has_4 : decode cX1_has 4 = .ok (.iload_n 1, 1) := by decide +kernel
theorem dX1_has_5 : decode cX1_has 5 = .ok (.aload_n 0, 1) := by decide +kernel
theorem dX1_has_6 : decode cX1_has 6 = .ok (.getfield 21, 3) := by decide +kernel
theorem dX1_has_9 : decode cX1_has 9 = .ok (.if_icmp .ge 7, 3) := by decide +kernel
theorem dX1_has_12 : decode cX1_has 12 = .ok (.iconst 1, 1) := by decide +kernel
theorem dX1_has_13 : decode cX1_has 13 = .ok (.goto 4, 3) := by decide +kernel
theorem dX1_has_16 : decode cX1_has 16 = .ok (.iconst 0, 1) := by decide +kernel
theorem dX1_has_17 : decode cX1_has 17 = .ok (.ireturn, 1) := by decide +kernel
theorem dX1_become_0 : decode cX1_become 0 = .ok (.aload_n 0, 1) := by decide +kernel
theorem dX1_become_1 : decode cX1_become 1 = .ok (.aload_n 1, 1) := by decide +kernel
theorem dX1_become_2 : decode cX1_become 2 = .ok (.getfield 21, 3) := by decide +kernel
theorem dX1_become_5 : decode cX1_become 5 = .ok (.putfield 21, 3) := by decide +kernel
theorem dX1_become_8 : decode cX1_become 8 = .ok (.aload_n 1, 1) := by decide +kernel
theorem dX1_become_9 : decode cX1_become 9 = .ok (.getfield 9, 3) := by decide +kernel
theorem dX1_become_12 : decode cX1_become 12 = .ok (.iconst 0, 1) := by decide +kernel
theorem dX1_become_13 : decode cX1_become 13 = .ok (.aload_n 0, 1) := by decide +kernel
theorem dX1_become_14 : decode cX1_become 14 = .ok (.getfield 9, 3) := by decide +kernel
theorem dX1_become_17 : decode cX1_become 17 = .ok (.iconst 0, 1) := by decide +kernel
theorem dX1_become_18 : decode cX1_become 18 = .ok (.iconst 4, 1) := by decide +kernel
theorem dX1_become_19 : decode cX1_become 19 = .ok (.invokestatic 25, 3) := by decide +kernel
theorem dX1_become_22 : decode cX1_become 22 = .ok (.aload_n 1, 1) := by decide +kernel
theorem dX1_become_23 : decode cX1_become 23 = .ok (.getfield 15, 3) := by decide +kernel
theorem dX1_become_26 : decode cX1_become 26 = .ok (.iconst 0, 1) := by decide +kernel
theorem dX1_become_27 : decode cX1_become 27 = .ok (.aload_n 0, 1) := by decide +kernel
theorem dX1_become_28 : decode cX1_become 28 = .ok (.getfield 15, 3) := by decide +kernel
theorem dX1_become_31 : decode cX1_become 31 = .ok (.iconst 0, 1) := by decide +kernel
theorem dX1_become_32 : decode cX1_become 32 = .ok (.iconst 4, 1) := by decide +kernel
theorem dX1_become_33 : decode cX1_become 33 = .ok (.invokestatic 25, 3) := by decide +kernel
theorem dX1_become_36 : decode cX1_become 36 = .ok (.aload_n 1, 1) := by decide +kernel
theorem dX1_become_37 : decode cX1_become 37 = .ok (.getfield 18, 3) := by decide +kernel
theorem dX1_become_40 : decode cX1_become 40 = .ok (.iconst 0, 1) := by decide +kernel
theorem dX1_become_41 : decode cX1_become 41 = .ok (.aload_n 0, 1) := by decide +kernel
theorem dX1_become_42 : decode cX1_become 42 = .ok (.getfield 18, 3) := by decide +kernel
theorem dX1_become_45 : decode cX1_become 45 = .ok (.iconst 0, 1) := by decide +kernel
theorem dX1_become_46 : decode cX1_become 46 = .ok (.bipush 24, 2) := by decide +kernel
theorem dX1_become_48 : decode cX1_become 48 = .ok (.invokestatic 25, 3) := by decide +kernel
theorem dX1_become_51 : decode cX1_become 51 = .ok (.return_, 1) := by decide +kernel
theorem dX1_addPerson_0 : decode cX1_addPerson 0 = .ok (.aload_n 0, 1) := by decide +kernel
theorem dX1_addPerson_1 : decode cX1_addPerson 1 = .ok (.getfield 21, 3) := by decide +kernel
theorem dX1_addPerson_4 : decode cX1_addPerson 4 = .ok (.iconst 4, 1) := by decide +kernel
theorem dX1_addPerson_5 : decode cX1_addPerson 5 = .ok (.if_icmp .lt 5, 3) := by decide +kernel
theorem dX1_addPerson_8 : decode cX1_addPerson 8 = .ok (.iconst 0, 1) := by decide +kernel
theorem dX1_addPerson_9 : decode cX1_addPerson 9 = .ok (.ireturn, 1) := by decide +kernel
theorem dX1_addPerson_10 : decode cX1_addPerson 10 = .ok (.aload_n 0, 1) := by decide +kernel
theorem dX1_addPerson_11 : decode cX1_addPerson 11 = .ok (.getfield 9, 3) := by decide +kernel
theorem dX1_addPerson_14 : decode cX1_addPerson 14 = .ok (.aload_n 0, 1) := by decide +kernel
theorem dX1_addPerson_15 : decode cX1_addPerson 15 = .ok (.getfield 21, 3) := by decide +kernel
theorem dX1_addPerson_18 : decode cX1_addPerson 18 = .ok (.bipush (-9), 2) := by decide +kernel
theorem dX1_addPerson_20 : decode cX1_addPerson 20 = .ok (.iastore, 1) := by decide +kernel
theorem dX1_addPerson_21 : decode cX1_addPerson 21 = .ok (.aload_n 0, 1) := by decide +kernel
theorem dX1_addPerson_22 : decode cX1_addPerson 22 = .ok (.getfield 15, 3) := by decide +kernel
theorem dX1_addPerson_25 : decode cX1_addPerson 25 = .ok (.aload_n 0, 1) := by decide +kernel
theorem dX1_addPerson_26 : decode cX1_addPerson 26 = .ok (.getfield 21, 3) := by decide +kernel
theorem dX1_addPerson_29 : decode cX1_addPerson 29 = .ok (.iconst 0, 1) := by decide +kernel
theorem dX1_addPerson_30 : decode cX1_addPerson 30 = .ok (.iastore, 1) := by decide +kernel
theorem dX1_addPerson_31 : decode cX1_addPerson 31 = .ok (.aload_n 0, 1) := by decide +kernel
theorem dX1_addPerson_32 : decode cX1_addPerson 32 = .ok (.dup, 1) := by decide +kernel
theorem dX1_addPerson_33 : decode cX1_addPerson 33 = .ok (.getfield 21, 3) := by decide +kernel
theorem dX1_addPerson_36 : decode cX1_addPerson 36 = .ok (.iconst 1, 1) := by decide +kernel
theorem dX1_addPerson_37 : decode cX1_addPerson 37 = .ok (.iadd, 1) := by decide +kernel
theorem dX1_addPerson_38 : decode cX1_addPerson 38 = .ok (.putfield 21, 3) := by decide +kernel
theorem dX1_addPerson_41 : decode cX1_addPerson 41 = .ok (.iconst 1, 1) := by decide +kernel
theorem dX1_addPerson_42 : decode cX1_addPerson 42 = .ok (.ireturn, 1) := by decide +kernel
theorem dX1_worthOf_0 : decode cX1_worthOf 0 = .ok (.aload_n 0, 1) := by decide +kernel
theorem dX1_worthOf_1 : decode cX1_worthOf 1 = .ok (.iload_n 1, 1) := by decide +kernel
theorem dX1_worthOf_2 : decode cX1_worthOf 2 = .ok (.invokevirtual 31, 3) := by decide +kernel
theorem dX1_worthOf_5 : decode cX1_worthOf 5 = .ok (.ifCond .eq 24, 3) := by decide +kernel
theorem dX1_worthOf_8 : decode cX1_worthOf 8 = .ok (.iload_n 2, 1) := by decide +kernel
theorem dX1_worthOf_9 : decode cX1_worthOf 9 = .ok (.invokestatic 35, 3) := by decide +kernel
theorem dX1_worthOf_12 : decode cX1_worthOf 12 = .ok (.ifCond .eq 17, 3) := by decide +kernel
theorem dX1_worthOf_15 : decode cX1_worthOf 15 = .ok (.aload_n 0, 1) := by decide +kernel
theorem dX1_worthOf_16 : decode cX1_worthOf 16 = .ok (.getfield 18, 3) := by decide +kernel
theorem dX1_worthOf_19 : decode cX1_worthOf 19 = .ok (.iload_n 1, 1) := by decide +kernel
theorem dX1_worthOf_20 : decode cX1_worthOf 20 = .ok (.bipush 6, 2) := by decide +kernel
theorem dX1_worthOf_22 : decode cX1_worthOf 22 = .ok (.imul, 1) := by decide +kernel
theorem dX1_worthOf_23 : decode cX1_worthOf 23 = .ok (.iload_n 2, 1) := by decide +kernel
theorem dX1_worthOf_24 : decode cX1_worthOf 24 = .ok (.iadd, 1) := by decide +kernel
theorem dX1_worthOf_25 : decode cX1_worthOf 25 = .ok (.iaload, 1) := by decide +kernel
theorem dX1_worthOf_26 : decode cX1_worthOf 26 = .ok (.goto 4, 3) := by decide +kernel
theorem dX1_worthOf_29 : decode cX1_worthOf 29 = .ok (.iconst 0, 1) := by decide +kernel
theorem dX1_worthOf_30 : decode cX1_worthOf 30 = .ok (.ireturn, 1) := by decide +kernel
theorem dX1_setWorth_0 : decode cX1_setWorth 0 = .ok (.aload_n 0, 1) := by decide +kernel
theorem dX1_setWorth_1 : decode cX1_setWorth 1 = .ok (.iload_n 1, 1) := by decide +kernel
theorem dX1_setWorth_2 : decode cX1_setWorth 2 = .ok (.invokevirtual 31, 3) := by decide +kernel
theorem dX1_setWorth_5 : decode cX1_setWorth 5 = .ok (.ifCond .eq 22, 3) := by decide +kernel
theorem dX1_setWorth_8 : decode cX1_setWorth 8 = .ok (.iload_n 2, 1) := by decide +kernel
theorem dX1_setWorth_9 : decode cX1_setWorth 9 = .ok (.invokestatic 35, 3) := by decide +kernel
theorem dX1_setWorth_12 : decode cX1_setWorth 12 = .ok (.ifCond .eq 15, 3) := by decide +kernel
theorem dX1_setWorth_15 : decode cX1_setWorth 15 = .ok (.aload_n 0, 1) := by decide +kernel
theorem dX1_setWorth_16 : decode cX1_setWorth 16 = .ok (.getfield 18, 3) := by decide +kernel
theorem dX1_setWorth_19 : decode cX1_setWorth 19 = .ok (.iload_n 1, 1) := by decide +kernel
theorem dX1_setWorth_20 : decode cX1_setWorth 20 = .ok (.bipush 6, 2) := by decide +kernel
theorem dX1_setWorth_22 : decode cX1_setWorth 22 = .ok (.imul, 1) := by decide +kernel
theorem dX1_setWorth_23 : decode cX1_setWorth 23 = .ok (.iload_n 2, 1) := by decide +kernel
theorem dX1_setWorth_24 : decode cX1_setWorth 24 = .ok (.iadd, 1) := by decide +kernel
theorem dX1_setWorth_25 : decode cX1_setWorth 25 = .ok (.iload_n 3, 1) := by decide +kernel
theorem dX1_setWorth_26 : decode cX1_setWorth 26 = .ok (.iastore, 1) := by decide +kernel
theorem dX1_setWorth_27 : decode cX1_setWorth 27 = .ok (.return_, 1) := by decide +kernel
theorem dX1_isNew_0 : decode cX1_isNew 0 = .ok (.aload_n 0, 1) := by decide +kernel
theorem dX1_isNew_1 : decode cX1_isNew 1 = .ok (.iload_n 1, 1) := by decide +kernel
theorem dX1_isNew_2 : decode cX1_isNew 2 = .ok (.invokevirtual 31, 3) := by decide +kernel
theorem dX1_isNew_5 : decode cX1_isNew 5 = .ok (.ifCond .eq 27, 3) := by decide +kernel
theorem dX1_isNew_8 : decode cX1_isNew 8 = .ok (.iload_n 2, 1) := by decide +kernel
theorem dX1_isNew_9 : decode cX1_isNew 9 = .ok (.invokestatic 35, 3) := by decide +kernel
theorem dX1_isNew_12 : decode cX1_isNew 12 = .ok (.ifCond .eq 20, 3) := by decide +kernel
theorem dX1_isNew_15 : decode cX1_isNew 15 = .ok (.aload_n 0, 1) := by decide +kernel
theorem dX1_isNew_16 : decode cX1_isNew 16 = .ok (.getfield 15, 3) := by decide +kernel
theorem dX1_isNew_19 : decode cX1_isNew 19 = .ok (.iload_n 1, 1) := by decide +kernel
theorem dX1_isNew_20 : decode cX1_isNew 20 = .ok (.iaload, 1) := by decide +kernel
theorem dX1_isNew_21 : decode cX1_isNew 21 = .ok (.iload_n 2, 1) := by decide +kernel
theorem dX1_isNew_22 : decode cX1_isNew 22 = .ok (.invokestatic 38, 3) := by decide +kernel
theorem dX1_isNew_25 : decode cX1_isNew 25 = .ok (.ifCond .eq 7, 3) := by decide +kernel
theorem dX1_isNew_28 : decode cX1_isNew 28 = .ok (.iconst 1, 1) := by decide +kernel
theorem dX1_isNew_29 : decode cX1_isNew 29 = .ok (.goto 4, 3) := by decide +kernel
theorem dX1_isNew_32 : decode cX1_isNew 32 = .ok (.iconst 0, 1) := by decide +kernel
theorem dX1_isNew_33 : decode cX1_isNew 33 = .ok (.ireturn, 1) := by decide +kernel
theorem dX1_lacks_0 : decode cX1_lacks 0 = .ok (.iload_n 1, 1) := by decide +kernel
theorem dX1_lacks_1 : decode cX1_lacks 1 = .ok (.bipush (-9), 2) := by decide +kernel
theorem dX1_lacks_3 : decode cX1_lacks 3 = .ok (.if_icmp .eq 15, 3) := by decide +kernel
theorem dX1_lacks_6 : decode cX1_lacks 6 = .ok (.iload_n 0, 1) := by decide +kernel
theorem dX1_lacks_7 : decode cX1_lacks 7 = .ok (.iload_n 1, 1) := by decide +kernel
theorem dX1_lacks_8 : decode cX1_lacks 8 = .ok (.ishr, 1) := by decide +kernel
theorem dX1_lacks_9 : decode cX1_lacks 9 = .ok (.iconst 1, 1) := by decide +kernel
theorem dX1_lacks_10 : decode cX1_lacks 10 = .ok (.iand, 1) := by decide +kernel
theorem dX1_lacks_11 : decode cX1_lacks 11 = .ok (.ifCond .ne 7, 3) := by decide +kernel
theorem dX1_lacks_14 : decode cX1_lacks 14 = .ok (.iconst 1, 1) := by decide +kernel
theorem dX1_lacks_15 : decode cX1_lacks 15 = .ok (.goto 4, 3) := by decide +kernel
theorem dX1_lacks_18 : decode cX1_lacks 18 = .ok (.iconst 0, 1) := by decide +kernel
theorem dX1_lacks_19 : decode cX1_lacks 19 = .ok (.ireturn, 1) := by decide +kernel
theorem dX1_canSwap_0 : decode cX1_canSwap 0 = .ok (.aload_n 0, 1) := by decide +kernel
theorem dX1_canSwap_1 : decode cX1_canSwap 1 = .ok (.iload_n 1, 1) := by decide +kernel
theorem dX1_canSwap_2 : decode cX1_canSwap 2 = .ok (.invokevirtual 31, 3) := by decide +kernel
theorem dX1_canSwap_5 : decode cX1_canSwap 5 = .ok (.ifCond .eq 51, 3) := by decide +kernel
theorem dX1_canSwap_8 : decode cX1_canSwap 8 = .ok (.aload_n 0, 1) := by decide +kernel
theorem dX1_canSwap_9 : decode cX1_canSwap 9 = .ok (.iload_n 2, 1) := by decide +kernel
theorem dX1_canSwap_10 : decode cX1_canSwap 10 = .ok (.invokevirtual 31, 3) := by decide +kernel
theorem dX1_canSwap_13 : decode cX1_canSwap 13 = .ok (.ifCond .eq 43, 3) := by decide +kernel
theorem dX1_canSwap_16 : decode cX1_canSwap 16 = .ok (.aload_n 0, 1) := by decide +kernel
theorem dX1_canSwap_17 : decode cX1_canSwap 17 = .ok (.getfield 15, 3) := by decide +kernel
theorem dX1_canSwap_20 : decode cX1_canSwap 20 = .ok (.iload_n 1, 1) := by decide +kernel
theorem dX1_canSwap_21 : decode cX1_canSwap 21 = .ok (.iaload, 1) := by decide +kernel
theorem dX1_canSwap_22 : decode cX1_canSwap 22 = .ok (.aload_n 0, 1) := by decide +kernel
theorem dX1_canSwap_23 : decode cX1_canSwap 23 = .ok (.getfield 9, 3) := by decide +kernel
theorem dX1_canSwap_26 : decode cX1_canSwap 26 = .ok (.iload_n 2, 1) := by decide +kernel
theorem dX1_canSwap_27 : decode cX1_canSwap 27 = .ok (.iaload, 1) := by decide +kernel
theorem dX1_canSwap_28 : decode cX1_canSwap 28 = .ok (.invokestatic 38, 3) := by decide +kernel
theorem dX1_canSwap_31 : decode cX1_canSwap 31 = .ok (.ifCond .eq 25, 3) := by decide +kernel
theorem dX1_canSwap_34 : decode cX1_canSwap 34 = .ok (.aload_n 0, 1) := by decide +kernel
theorem dX1_canSwap_35 : decode cX1_canSwap 35 = .ok (.getfield 15, 3) := by decide +kernel
theorem dX1_canSwap_38 : decode cX1_canSwap 38 = .ok (.iload_n 2, 1) := by decide +kernel
theorem dX1_canSwap_39 : decode cX1_canSwap 39 = .ok (.iaload, 1) := by decide +kernel
theorem dX1_canSwap_40 : decode cX1_canSwap 40 = .ok (.aload_n 0, 1) := by decide +kernel
theorem dX1_canSwap_41 : decode cX1_canSwap 41 = .ok (.getfield 9, 3) := by decide +kernel
theorem dX1_canSwap_44 : decode cX1_canSwap 44 = .ok (.iload_n 1, 1) := by decide +kernel
theorem dX1_canSwap_45 : decode cX1_canSwap 45 = .ok (.iaload, 1) := by decide +kernel
theorem dX1_canSwap_46 : decode cX1_canSwap 46 = .ok (.invokestatic 38, 3) := by decide +kernel
theorem dX1_canSwap_49 : decode cX1_canSwap 49 = .ok (.ifCond .eq 7, 3) := by decide +kernel
theorem dX1_canSwap_52 : decode cX1_canSwap 52 = .ok (.iconst 1, 1) := by decide +kernel
theorem dX1_canSwap_53 : decode cX1_canSwap 53 = .ok (.goto 4, 3) := by decide +kernel
theorem dX1_canSwap_56 : decode cX1_canSwap 56 = .ok (.iconst 0, 1) := by decide +kernel
theorem dX1_canSwap_57 : decode cX1_canSwap 57 = .ok (.ireturn, 1) := by decide +kernel
theorem dX1_canSwapAtAll_0 : decode cX1_canSwapAtAll 0 = .ok (.iconst 0, 1) := by decide +kernel
theorem dX1_canSwapAtAll_1 : decode cX1_canSwapAtAll 1 = .ok (.istore_n 2, 1) := by decide +kernel
theorem dX1_canSwapAtAll_2 : decode cX1_canSwapAtAll 2 = .ok (.iload_n 2, 1) := by decide +kernel
theorem dX1_canSwapAtAll_3 : decode cX1_canSwapAtAll 3 = .ok (.aload_n 0, 1) := by decide +kernel
theorem dX1_canSwapAtAll_4 : decode cX1_canSwapAtAll 4 = .ok (.getfield 21, 3) := by decide +kernel
theorem dX1_canSwapAtAll_7 : decode cX1_canSwapAtAll 7 = .ok (.if_icmp .ge 20, 3) := by decide +kernel
theorem dX1_canSwapAtAll_10 : decode cX1_canSwapAtAll 10 = .ok (.aload_n 0, 1) := by decide +kernel
theorem dX1_canSwapAtAll_11 : decode cX1_canSwapAtAll 11 = .ok (.iload_n 1, 1) := by decide +kernel
theorem dX1_canSwapAtAll_12 : decode cX1_canSwapAtAll 12 = .ok (.iload_n 2, 1) := by decide +kernel
theorem dX1_canSwapAtAll_13 : decode cX1_canSwapAtAll 13 = .ok (.invokevirtual 42, 3) := by decide +kernel
theorem dX1_canSwapAtAll_16 : decode cX1_canSwapAtAll 16 = .ok (.ifCond .eq 5, 3) := by decide +kernel
theorem dX1_canSwapAtAll_19 : decode cX1_canSwapAtAll 19 = .ok (.iconst 1, 1) := by decide +kernel
theorem dX1_canSwapAtAll_20 : decode cX1_canSwapAtAll 20 = .ok (.ireturn, 1) := by decide +kernel
theorem dX1_canSwapAtAll_21 : decode cX1_canSwapAtAll 21 = .ok (.iinc 2 1, 3) := by decide +kernel
theorem dX1_canSwapAtAll_24 : decode cX1_canSwapAtAll 24 = .ok (.goto (-22), 3) := by decide +kernel
theorem dX1_canSwapAtAll_27 : decode cX1_canSwapAtAll 27 = .ok (.iconst 0, 1) := by decide +kernel
theorem dX1_canSwapAtAll_28 : decode cX1_canSwapAtAll 28 = .ok (.ireturn, 1) := by decide +kernel
theorem dX1_swap_0 : decode cX1_swap 0 = .ok (.aload_n 0, 1) := by decide +kernel
theorem dX1_swap_1 : decode cX1_swap 1 = .ok (.iload_n 1, 1) := by decide +kernel
theorem dX1_swap_2 : decode cX1_swap 2 = .ok (.invokevirtual 31, 3) := by decide +kernel
theorem dX1_swap_5 : decode cX1_swap 5 = .ok (.ifCond .eq 53, 3) := by decide +kernel
theorem dX1_swap_8 : decode cX1_swap 8 = .ok (.aload_n 0, 1) := by decide +kernel
theorem dX1_swap_9 : decode cX1_swap 9 = .ok (.iload_n 2, 1) := by decide +kernel
theorem dX1_swap_10 : decode cX1_swap 10 = .ok (.invokevirtual 31, 3) := by decide +kernel
theorem dX1_swap_13 : decode cX1_swap 13 = .ok (.ifCond .eq 45, 3) := by decide +kernel
theorem dX1_swap_16 : decode cX1_swap 16 = .ok (.aload_n 0, 1) := by decide +kernel
theorem dX1_swap_17 : decode cX1_swap 17 = .ok (.iload_n 1, 1) := by decide +kernel
theorem dX1_swap_18 : decode cX1_swap 18 = .ok (.iload_n 2, 1) := by decide +kernel
theorem dX1_swap_19 : decode cX1_swap 19 = .ok (.invokevirtual 45, 3) := by decide +kernel
theorem dX1_swap_22 : decode cX1_swap 22 = .ok (.aload_n 0, 1) := by decide +kernel
theorem dX1_swap_23 : decode cX1_swap 23 = .ok (.getfield 15, 3) := by decide +kernel
theorem dX1_swap_26 : decode cX1_swap 26 = .ok (.iload_n 1, 1) := by decide +kernel
theorem dX1_swap_27 : decode cX1_swap 27 = .ok (.dup2, 1) := by decide +kernel
theorem dX1_swap_28 : decode cX1_swap 28 = .ok (.iaload, 1) := by decide +kernel
theorem dX1_swap_29 : decode cX1_swap 29 = .ok (.aload_n 0, 1) := by decide +kernel
theorem dX1_swap_30 : decode cX1_swap 30 = .ok (.getfield 9, 3) := by decide +kernel
theorem dX1_swap_33 : decode cX1_swap 33 = .ok (.iload_n 1, 1) := by decide +kernel
theorem dX1_swap_34 : decode cX1_swap 34 = .ok (.iaload, 1) := by decide +kernel
theorem dX1_swap_35 : decode cX1_swap 35 = .ok (.invokestatic 49, 3) := by decide +kernel
theorem dX1_swap_38 : decode cX1_swap 38 = .ok (.ior, 1) := by decide +kernel
theorem dX1_swap_39 : decode cX1_swap 39 = .ok (.iastore, 1) := by decide +kernel
theorem dX1_swap_40 : decode cX1_swap 40 = .ok (.aload_n 0, 1) := by decide +kernel
theorem dX1_swap_41 : decode cX1_swap 41 = .ok (.getfield 15, 3) := by decide +kernel
theorem dX1_swap_44 : decode cX1_swap 44 = .ok (.iload_n 2, 1) := by decide +kernel
theorem dX1_swap_45 : decode cX1_swap 45 = .ok (.dup2, 1) := by decide +kernel
theorem dX1_swap_46 : decode cX1_swap 46 = .ok (.iaload, 1) := by decide +kernel
theorem dX1_swap_47 : decode cX1_swap 47 = .ok (.aload_n 0, 1) := by decide +kernel
theorem dX1_swap_48 : decode cX1_swap 48 = .ok (.getfield 9, 3) := by decide +kernel
theorem dX1_swap_51 : decode cX1_swap 51 = .ok (.iload_n 2, 1) := by decide +kernel
theorem dX1_swap_52 : decode cX1_swap 52 = .ok (.iaload, 1) := by decide +kernel
theorem dX1_swap_53 : decode cX1_swap 53 = .ok (.invokestatic 49, 3) := by decide +kernel
theorem dX1_swap_56 : decode cX1_swap 56 = .ok (.ior, 1) := by decide +kernel
theorem dX1_swap_57 : decode cX1_swap 57 = .ok (.iastore, 1) := by decide +kernel
theorem dX1_swap_58 : decode cX1_swap 58 = .ok (.return_, 1) := by decide +kernel
theorem dX1_swapBack_0 : decode cX1_swapBack 0 = .ok (.aload_n 0, 1) := by decide +kernel
theorem dX1_swapBack_1 : decode cX1_swapBack 1 = .ok (.iload_n 1, 1) := by decide +kernel
theorem dX1_swapBack_2 : decode cX1_swapBack 2 = .ok (.invokevirtual 31, 3) := by decide +kernel
theorem dX1_swapBack_5 : decode cX1_swapBack 5 = .ok (.ifCond .eq 57, 3) := by decide +kernel
theorem dX1_swapBack_8 : decode cX1_swapBack 8 = .ok (.aload_n 0, 1) := by decide +kernel
theorem dX1_swapBack_9 : decode cX1_swapBack 9 = .ok (.iload_n 2, 1) := by decide +kernel
theorem dX1_swapBack_10 : decode cX1_swapBack 10 = .ok (.invokevirtual 31, 3) := by decide +kernel
theorem dX1_swapBack_13 : decode cX1_swapBack 13 = .ok (.ifCond .eq 49, 3) := by decide +kernel
theorem dX1_swapBack_16 : decode cX1_swapBack 16 = .ok (.aload_n 0, 1) := by decide +kernel
theorem dX1_swapBack_17 : decode cX1_swapBack 17 = .ok (.getfield 15, 3) := by decide +kernel
theorem dX1_swapBack_20 : decode cX1_swapBack 20 = .ok (.iload_n 1, 1) := by decide +kernel
theorem dX1_swapBack_21 : decode cX1_swapBack 21 = .ok (.dup2, 1) := by decide +kernel
theorem dX1_swapBack_22 : decode cX1_swapBack 22 = .ok (.iaload, 1) := by decide +kernel
theorem dX1_swapBack_23 : decode cX1_swapBack 23 = .ok (.aload_n 0, 1) := by decide +kernel
theorem dX1_swapBack_24 : decode cX1_swapBack 24 = .ok (.getfield 9, 3) := by decide +kernel
theorem dX1_swapBack_27 : decode cX1_swapBack 27 = .ok (.iload_n 1, 1) := by decide +kernel
theorem dX1_swapBack_28 : decode cX1_swapBack 28 = .ok (.iaload, 1) := by decide +kernel
theorem dX1_swapBack_29 : decode cX1_swapBack 29 = .ok (.invokestatic 49, 3) := by decide +kernel
theorem dX1_swapBack_32 : decode cX1_swapBack 32 = .ok (.iconst (-1), 1) := by decide +kernel
theorem dX1_swapBack_33 : decode cX1_swapBack 33 = .ok (.ixor, 1) := by decide +kernel
theorem dX1_swapBack_34 : decode cX1_swapBack 34 = .ok (.iand, 1) := by decide +kernel
theorem dX1_swapBack_35 : decode cX1_swapBack 35 = .ok (.iastore, 1) := by decide +kernel
theorem dX1_swapBack_36 : decode cX1_swapBack 36 = .ok (.aload_n 0, 1) := by decide +kernel
theorem dX1_swapBack_37 : decode cX1_swapBack 37 = .ok (.getfield 15, 3) := by decide +kernel
theorem dX1_swapBack_40 : decode cX1_swapBack 40 = .ok (.iload_n 2, 1) := by decide +kernel
theorem dX1_swapBack_41 : decode cX1_swapBack 41 = .ok (.dup2, 1) := by decide +kernel
theorem dX1_swapBack_42 : decode cX1_swapBack 42 = .ok (.iaload, 1) := by decide +kernel
theorem dX1_swapBack_43 : decode cX1_swapBack 43 = .ok (.aload_n 0, 1) := by decide +kernel
theorem dX1_swapBack_44 : decode cX1_swapBack 44 = .ok (.getfield 9, 3) := by decide +kernel
theorem dX1_swapBack_47 : decode cX1_swapBack 47 = .ok (.iload_n 2, 1) := by decide +kernel
theorem dX1_swapBack_48 : decode cX1_swapBack 48 = .ok (.iaload, 1) := by decide +kernel
theorem dX1_swapBack_49 : decode cX1_swapBack 49 = .ok (.invokestatic 49, 3) := by decide +kernel
theorem dX1_swapBack_52 : decode cX1_swapBack 52 = .ok (.iconst (-1), 1) := by decide +kernel
theorem dX1_swapBack_53 : decode cX1_swapBack 53 = .ok (.ixor, 1) := by decide +kernel
theorem dX1_swapBack_54 : decode cX1_swapBack 54 = .ok (.iand, 1) := by decide +kernel
theorem dX1_swapBack_55 : decode cX1_swapBack 55 = .ok (.iastore, 1) := by decide +kernel
theorem dX1_swapBack_56 : decode cX1_swapBack 56 = .ok (.aload_n 0, 1) := by decide +kernel
theorem dX1_swapBack_57 : decode cX1_swapBack 57 = .ok (.iload_n 1, 1) := by decide +kernel
theorem dX1_swapBack_58 : decode cX1_swapBack 58 = .ok (.iload_n 2, 1) := by decide +kernel
theorem dX1_swapBack_59 : decode cX1_swapBack 59 = .ok (.invokevirtual 45, 3) := by decide +kernel
theorem dX1_swapBack_62 : decode cX1_swapBack 62 = .ok (.return_, 1) := by decide +kernel
theorem dX1_crossThings_0 : decode cX1_crossThings 0 = .ok (.aload_n 0, 1) := by decide +kernel
theorem dX1_crossThings_1 : decode cX1_crossThings 1 = .ok (.getfield 9, 3) := by decide +kernel
theorem dX1_crossThings_4 : decode cX1_crossThings 4 = .ok (.iload_n 1, 1) := by decide +kernel
theorem dX1_crossThings_5 : decode cX1_crossThings 5 = .ok (.iaload, 1) := by decide +kernel
theorem dX1_crossThings_6 : decode cX1_crossThings 6 = .ok (.istore_n 3, 1) := by decide +kernel
theorem dX1_crossThings_7 : decode cX1_crossThings 7 = .ok (.aload_n 0, 1) := by decide +kernel
theorem dX1_crossThings_8 : decode cX1_crossThings 8 = .ok (.getfield 9, 3) := by decide +kernel
theorem dX1_crossThings_11 : decode cX1_crossThings 11 = .ok (.iload_n 1, 1) := by decide +kernel
theorem dX1_crossThings_12 : decode cX1_crossThings 12 = .ok (.aload_n 0, 1) := by decide +kernel
theorem dX1_crossThings_13 : decode cX1_crossThings 13 = .ok (.getfield 9, 3) := by decide +kernel
theorem dX1_crossThings_16 : decode cX1_crossThings 16 = .ok (.iload_n 2, 1) := by decide +kernel
theorem dX1_crossThings_17 : decode cX1_crossThings 17 = .ok (.iaload, 1) := by decide +kernel
theorem dX1_crossThings_18 : decode cX1_crossThings 18 = .ok (.iastore, 1) := by decide +kernel
theorem dX1_crossThings_19 : decode cX1_crossThings 19 = .ok (.aload_n 0, 1) := by decide +kernel
theorem dX1_crossThings_20 : decode cX1_crossThings 20 = .ok (.getfield 9, 3) := by decide +kernel
theorem dX1_crossThings_23 : decode cX1_crossThings 23 = .ok (.iload_n 2, 1) := by decide +kernel
theorem dX1_crossThings_24 : decode cX1_crossThings 24 = .ok (.iload_n 3, 1) := by decide +kernel
theorem dX1_crossThings_25 : decode cX1_crossThings 25 = .ok (.iastore, 1) := by decide +kernel
theorem dX1_crossThings_26 : decode cX1_crossThings 26 = .ok (.return_, 1) := by decide +kernel
theorem dX1_isDead_0 : decode cX1_isDead 0 = .ok (.aload_n 0, 1) := by decide +kernel
theorem dX1_isDead_1 : decode cX1_isDead 1 = .ok (.iload_n 1, 1) := by decide +kernel
theorem dX1_isDead_2 : decode cX1_isDead 2 = .ok (.invokevirtual 31, 3) := by decide +kernel
theorem dX1_isDead_5 : decode cX1_isDead 5 = .ok (.ifCond .eq 14, 3) := by decide +kernel
theorem dX1_isDead_8 : decode cX1_isDead 8 = .ok (.aload_n 0, 1) := by decide +kernel
theorem dX1_isDead_9 : decode cX1_isDead 9 = .ok (.getfield 9, 3) := by decide +kernel
theorem dX1_isDead_12 : decode cX1_isDead 12 = .ok (.iload_n 1, 1) := by decide +kernel
theorem dX1_isDead_13 : decode cX1_isDead 13 = .ok (.iaload, 1) := by decide +kernel
theorem dX1_isDead_14 : decode cX1_isDead 14 = .ok (.bipush (-9), 2) := by decide +kernel
theorem dX1_isDead_16 : decode cX1_isDead 16 = .ok (.if_icmp .ne 5, 3) := by decide +kernel
theorem dX1_isDead_19 : decode cX1_isDead 19 = .ok (.iconst 0, 1) := by decide +kernel
theorem dX1_isDead_20 : decode cX1_isDead 20 = .ok (.ireturn, 1) := by decide +kernel
theorem dX1_isDead_21 : decode cX1_isDead 21 = .ok (.iconst 0, 1) := by decide +kernel
theorem dX1_isDead_22 : decode cX1_isDead 22 = .ok (.istore_n 2, 1) := by decide +kernel
theorem dX1_isDead_23 : decode cX1_isDead 23 = .ok (.iload_n 2, 1) := by decide +kernel
theorem dX1_isDead_24 : decode cX1_isDead 24 = .ok (.aload_n 0, 1) := by decide +kernel
theorem dX1_isDead_25 : decode cX1_isDead 25 = .ok (.getfield 21, 3) := by decide +kernel
theorem dX1_isDead_28 : decode cX1_isDead 28 = .ok (.if_icmp .ge 25, 3) := by decide +kernel
theorem dX1_isDead_31 : decode cX1_isDead 31 = .ok (.aload_n 0, 1) := by decide +kernel
theorem dX1_isDead_32 : decode cX1_isDead 32 = .ok (.iload_n 2, 1) := by decide +kernel
theorem dX1_isDead_33 : decode cX1_isDead 33 = .ok (.aload_n 0, 1) := by decide +kernel
theorem dX1_isDead_34 : decode cX1_isDead 34 = .ok (.getfield 9, 3) := by decide +kernel
theorem dX1_isDead_37 : decode cX1_isDead 37 = .ok (.iload_n 1, 1) := by decide +kernel
theorem dX1_isDead_38 : decode cX1_isDead 38 = .ok (.iaload, 1) := by decide +kernel
theorem dX1_isDead_39 : decode cX1_isDead 39 = .ok (.invokevirtual 53, 3) := by decide +kernel
theorem dX1_isDead_42 : decode cX1_isDead 42 = .ok (.ifCond .eq 5, 3) := by decide +kernel
theorem dX1_isDead_45 : decode cX1_isDead 45 = .ok (.iconst 0, 1) := by decide +kernel
theorem dX1_isDead_46 : decode cX1_isDead 46 = .ok (.ireturn, 1) := by decide +kernel
theorem dX1_isDead_47 : decode cX1_isDead 47 = .ok (.iinc 2 1, 3) := by decide +kernel
theorem dX1_isDead_50 : decode cX1_isDead 50 = .ok (.goto (-27), 3) := by decide +kernel
theorem dX1_isDead_53 : decode cX1_isDead 53 = .ok (.iconst 1, 1) := by decide +kernel
theorem dX1_isDead_54 : decode cX1_isDead 54 = .ok (.ireturn, 1) := by decide +kernel
theorem dX1_deadThings_0 : decode cX1_deadThings 0 = .ok (.iconst 0, 1) := by decide +kernel
theorem dX1_deadThings_1 : decode cX1_deadThings 1 = .ok (.istore_n 1, 1) := by decide +kernel
theorem dX1_deadThings_2 : decode cX1_deadThings 2 = .ok (.iconst 0, 1) := by decide +kernel
theorem dX1_deadThings_3 : decode cX1_deadThings 3 = .ok (.istore_n 2, 1) := by decide +kernel
theorem dX1_deadThings_4 : decode cX1_deadThings 4 = .ok (.iload_n 2, 1) := by decide +kernel
theorem dX1_deadThings_5 : decode cX1_deadThings 5 = .ok (.aload_n 0, 1) := by decide +kernel
theorem dX1_deadThings_6 : decode cX1_deadThings 6 = .ok (.getfield 21, 3) := by decide +kernel
theorem dX1_deadThings_9 : decode cX1_deadThings 9 = .ok (.if_icmp .ge 20, 3) := by decide +kernel
theorem dX1_deadThings_12 : decode cX1_deadThings 12 = .ok (.aload_n 0, 1) := by decide +kernel
theorem dX1_deadThings_13 : decode cX1_deadThings 13 = .ok (.iload_n 2, 1) := by decide +kernel
theorem dX1_deadThings_14 : decode cX1_deadThings 14 = .ok (.invokevirtual 56, 3) := by decide +kernel
theorem dX1_deadThings_17 : decode cX1_deadThings 17 = .ok (.ifCond .eq 6, 3) := by decide +kernel
theorem dX1_deadThings_20 : decode cX1_deadThings 20 = .ok (.iinc 1 1, 3) := by decide +kernel
theorem dX1_deadThings_23 : decode cX1_deadThings 23 = .ok (.iinc 2 1, 3) := by decide +kernel
theorem dX1_deadThings_26 : decode cX1_deadThings 26 = .ok (.goto (-22), 3) := by decide +kernel
theorem dX1_deadThings_29 : decode cX1_deadThings 29 = .ok (.iload_n 1, 1) := by decide +kernel
theorem dX1_deadThings_30 : decode cX1_deadThings 30 = .ok (.ireturn, 1) := by decide +kernel
theorem dX1_holders_0 : decode cX1_holders 0 = .ok (.iconst 0, 1) := by decide +kernel
theorem dX1_holders_1 : decode cX1_holders 1 = .ok (.istore_n 1, 1) := by decide +kernel
theorem dX1_holders_2 : decode cX1_holders 2 = .ok (.iconst 0, 1) := by decide +kernel
theorem dX1_holders_3 : decode cX1_holders 3 = .ok (.istore_n 2, 1) := by decide +kernel
theorem dX1_holders_4 : decode cX1_holders 4 = .ok (.iload_n 2, 1) := by decide +kernel
theorem dX1_holders_5 : decode cX1_holders 5 = .ok (.aload_n 0, 1) := by decide +kernel
theorem dX1_holders_6 : decode cX1_holders 6 = .ok (.getfield 21, 3) := by decide +kernel
theorem dX1_holders_9 : decode cX1_holders 9 = .ok (.if_icmp .ge 23, 3) := by decide +kernel
theorem dX1_holders_12 : decode cX1_holders 12 = .ok (.aload_n 0, 1) := by decide +kernel
theorem dX1_holders_13 : decode cX1_holders 13 = .ok (.getfield 9, 3) := by decide +kernel
theorem dX1_holders_16 : decode cX1_holders 16 = .ok (.iload_n 2, 1) := by decide +kernel
theorem dX1_holders_17 : decode cX1_holders 17 = .ok (.iaload, 1) := by decide +kernel
theorem dX1_holders_18 : decode cX1_holders 18 = .ok (.bipush (-9), 2) := by decide +kernel
theorem dX1_holders_20 : decode cX1_holders 20 = .ok (.if_icmp .eq 6, 3) := by decide +kernel
theorem dX1_holders_23 : decode cX1_holders 23 = .ok (.iinc 1 1, 3) := by decide +kernel
theorem dX1_holders_26 : decode cX1_holders 26 = .ok (.iinc 2 1, 3) := by decide +kernel
theorem dX1_holders_29 : decode cX1_holders 29 = .ok (.goto (-25), 3) := by decide +kernel
theorem dX1_holders_32 : decode cX1_holders 32 = .ok (.iload_n 1, 1) := by decide +kernel
theorem dX1_holders_33 : decode cX1_holders 33 = .ok (.ireturn, 1) := by decide +kernel
theorem dX1_wealth_0 : decode cX1_wealth 0 = .ok (.iconst 0, 1) := by decide +kernel
theorem dX1_wealth_1 : decode cX1_wealth 1 = .ok (.istore_n 1, 1) := by decide +kernel
theorem dX1_wealth_2 : decode cX1_wealth 2 = .ok (.iconst 0, 1) := by decide +kernel
theorem dX1_wealth_3 : decode cX1_wealth 3 = .ok (.istore_n 2, 1) := by decide +kernel
theorem dX1_wealth_4 : decode cX1_wealth 4 = .ok (.iload_n 2, 1) := by decide +kernel
theorem dX1_wealth_5 : decode cX1_wealth 5 = .ok (.aload_n 0, 1) := by decide +kernel
theorem dX1_wealth_6 : decode cX1_wealth 6 = .ok (.getfield 21, 3) := by decide +kernel
theorem dX1_wealth_9 : decode cX1_wealth 9 = .ok (.if_icmp .ge 23, 3) := by decide +kernel
theorem dX1_wealth_12 : decode cX1_wealth 12 = .ok (.iload_n 1, 1) := by decide +kernel
theorem dX1_wealth_13 : decode cX1_wealth 13 = .ok (.aload_n 0, 1) := by decide +kernel
theorem dX1_wealth_14 : decode cX1_wealth 14 = .ok (.iload_n 2, 1) := by decide +kernel
theorem dX1_wealth_15 : decode cX1_wealth 15 = .ok (.aload_n 0, 1) := by decide +kernel
theorem dX1_wealth_16 : decode cX1_wealth 16 = .ok (.getfield 9, 3) := by decide +kernel
theorem dX1_wealth_19 : decode cX1_wealth 19 = .ok (.iload_n 2, 1) := by decide +kernel
theorem dX1_wealth_20 : decode cX1_wealth 20 = .ok (.iaload, 1) := by decide +kernel
theorem dX1_wealth_21 : decode cX1_wealth 21 = .ok (.invokevirtual 59, 3) := by decide +kernel
theorem dX1_wealth_24 : decode cX1_wealth 24 = .ok (.iadd, 1) := by decide +kernel
theorem dX1_wealth_25 : decode cX1_wealth 25 = .ok (.istore_n 1, 1) := by decide +kernel
theorem dX1_wealth_26 : decode cX1_wealth 26 = .ok (.iinc 2 1, 3) := by decide +kernel
theorem dX1_wealth_29 : decode cX1_wealth 29 = .ok (.goto (-25), 3) := by decide +kernel
theorem dX1_wealth_32 : decode cX1_wealth 32 = .ok (.iload_n 1, 1) := by decide +kernel
theorem dX1_wealth_33 : decode cX1_wealth 33 = .ok (.ireturn, 1) := by decide +kernel
theorem dX2_sorts_0 : decode cX2_sorts 0 = .ok (.aload_n 0, 1) := by decide +kernel
theorem dX2_sorts_1 : decode cX2_sorts 1 = .ok (.iload_n 1, 1) := by decide +kernel
theorem dX2_sorts_2 : decode cX2_sorts 2 = .ok (.iconst 0, 1) := by decide +kernel
theorem dX2_sorts_3 : decode cX2_sorts 3 = .ok (.aload_n 0, 1) := by decide +kernel
theorem dX2_sorts_4 : decode cX2_sorts 4 = .ok (.iload_n 1, 1) := by decide +kernel
theorem dX2_sorts_5 : decode cX2_sorts 5 = .ok (.invokestatic 9, 3) := by decide +kernel
theorem dX2_sorts_8 : decode cX2_sorts 8 = .ok (.iconst 0, 1) := by decide +kernel
theorem dX2_sorts_9 : decode cX2_sorts 9 = .ok (.invokestatic 15, 3) := by decide +kernel
theorem dX2_sorts_12 : decode cX2_sorts 12 = .ok (.ireturn, 1) := by decide +kernel
theorem dX2_wholeHope_0 : decode cX2_wholeHope 0 = .ok (.aload_n 0, 1) := by decide +kernel
theorem dX2_wholeHope_1 : decode cX2_wholeHope 1 = .ok (.getfield 19, 3) := by decide +kernel
theorem dX2_wholeHope_4 : decode cX2_wholeHope 4 = .ok (.iload_n 1, 1) := by decide +kernel
theorem dX2_wholeHope_5 : decode cX2_wholeHope 5 = .ok (.iaload, 1) := by decide +kernel
theorem dX2_wholeHope_6 : decode cX2_wholeHope 6 = .ok (.invokestatic 25, 3) := by decide +kernel
theorem dX2_wholeHope_9 : decode cX2_wholeHope 9 = .ok (.istore_n 2, 1) := by decide +kernel
theorem dX2_wholeHope_10 : decode cX2_wholeHope 10 = .ok (.iconst 0, 1) := by decide +kernel
theorem dX2_wholeHope_11 : decode cX2_wholeHope 11 = .ok (.istore_n 3, 1) := by decide +kernel
theorem dX2_wholeHope_12 : decode cX2_wholeHope 12 = .ok (.iload_n 3, 1) := by decide +kernel
theorem dX2_wholeHope_13 : decode cX2_wholeHope 13 = .ok (.aload_n 0, 1) := by decide +kernel
theorem dX2_wholeHope_14 : decode cX2_wholeHope 14 = .ok (.getfield 29, 3) := by decide +kernel
theorem dX2_wholeHope_17 : decode cX2_wholeHope 17 = .ok (.if_icmp .ge 35, 3) := by decide +kernel
theorem dX2_wholeHope_20 : decode cX2_wholeHope 20 = .ok (.aload_n 0, 1) := by decide +kernel
theorem dX2_wholeHope_21 : decode cX2_wholeHope 21 = .ok (.iload_n 1, 1) := by decide +kernel
theorem dX2_wholeHope_22 : decode cX2_wholeHope 22 = .ok (.aload_n 0, 1) := by decide +kernel
theorem dX2_wholeHope_23 : decode cX2_wholeHope 23 = .ok (.getfield 19, 3) := by decide +kernel
theorem dX2_wholeHope_26 : decode cX2_wholeHope 26 = .ok (.iload_n 3, 1) := by decide +kernel
theorem dX2_wholeHope_27 : decode cX2_wholeHope 27 = .ok (.iaload, 1) := by decide +kernel
theorem dX2_wholeHope_28 : decode cX2_wholeHope 28 = .ok (.invokevirtual 33, 3) := by decide +kernel
theorem dX2_wholeHope_31 : decode cX2_wholeHope 31 = .ok (.ifCond .eq 15, 3) := by decide +kernel
theorem dX2_wholeHope_34 : decode cX2_wholeHope 34 = .ok (.iload_n 2, 1) := by decide +kernel
theorem dX2_wholeHope_35 : decode cX2_wholeHope 35 = .ok (.aload_n 0, 1) := by decide +kernel
theorem dX2_wholeHope_36 : decode cX2_wholeHope 36 = .ok (.getfield 19, 3) := by decide +kernel
theorem dX2_wholeHope_39 : decode cX2_wholeHope 39 = .ok (.iload_n 3, 1) := by decide +kernel
theorem dX2_wholeHope_40 : decode cX2_wholeHope 40 = .ok (.iaload, 1) := by decide +kernel
theorem dX2_wholeHope_41 : decode cX2_wholeHope 41 = .ok (.invokestatic 25, 3) := by decide +kernel
theorem dX2_wholeHope_44 : decode cX2_wholeHope 44 = .ok (.ior, 1) := by decide +kernel
theorem dX2_wholeHope_45 : decode cX2_wholeHope 45 = .ok (.istore_n 2, 1) := by decide +kernel
theorem dX2_wholeHope_46 : decode cX2_wholeHope 46 = .ok (.iinc 3 1, 3) := by decide +kernel
theorem dX2_wholeHope_49 : decode cX2_wholeHope 49 = .ok (.goto (-37), 3) := by decide +kernel
theorem dX2_wholeHope_52 : decode cX2_wholeHope 52 = .ok (.iload_n 2, 1) := by decide +kernel
theorem dX2_wholeHope_53 : decode cX2_wholeHope 53 = .ok (.ireturn, 1) := by decide +kernel
theorem dX2_come_0 : decode cX2_come 0 = .ok (.iload_n 2, 1) := by decide +kernel
theorem dX2_come_1 : decode cX2_come 1 = .ok (.aload_n 0, 1) := by decide +kernel
theorem dX2_come_2 : decode cX2_come 2 = .ok (.getfield 19, 3) := by decide +kernel
theorem dX2_come_5 : decode cX2_come 5 = .ok (.iload_n 1, 1) := by decide +kernel
theorem dX2_come_6 : decode cX2_come 6 = .ok (.iaload, 1) := by decide +kernel
theorem dX2_come_7 : decode cX2_come 7 = .ok (.invokestatic 25, 3) := by decide +kernel
theorem dX2_come_10 : decode cX2_come 10 = .ok (.ior, 1) := by decide +kernel
theorem dX2_come_11 : decode cX2_come 11 = .ok (.istore 5, 2) := by decide +kernel
theorem dX2_come_13 : decode cX2_come 13 = .ok (.iconst 0, 1) := by decide +kernel
theorem dX2_come_14 : decode cX2_come 14 = .ok (.istore 6, 2) := by decide +kernel
theorem dX2_come_16 : decode cX2_come 16 = .ok (.iload 6, 2) := by decide +kernel
theorem dX2_come_18 : decode cX2_come 18 = .ok (.aload_n 0, 1) := by decide +kernel
theorem dX2_come_19 : decode cX2_come 19 = .ok (.getfield 29, 3) := by decide +kernel
theorem dX2_come_22 : decode cX2_come 22 = .ok (.if_icmp .ge 90, 3) := by decide +kernel
theorem dX2_come_25 : decode cX2_come 25 = .ok (.iload 5, 2) := by decide +kernel
theorem dX2_come_27 : decode cX2_come 27 = .ok (.iload_n 3, 1) := by decide +kernel
theorem dX2_come_28 : decode cX2_come 28 = .ok (.if_icmp .eq 84, 3) := by decide +kernel
theorem dX2_come_31 : decode cX2_come 31 = .ok (.iload 6, 2) := by decide +kernel
theorem dX2_come_33 : decode cX2_come 33 = .ok (.iconst 1, 1) := by decide +kernel
theorem dX2_come_34 : decode cX2_come 34 = .ok (.iadd, 1) := by decide +kernel
theorem dX2_come_35 : decode cX2_come 35 = .ok (.istore 7, 2) := by decide +kernel
theorem dX2_come_37 : decode cX2_come 37 = .ok (.iload 7, 2) := by decide +kernel
theorem dX2_come_39 : decode cX2_come 39 = .ok (.aload_n 0, 1) := by decide +kernel
theorem dX2_come_40 : decode cX2_come 40 = .ok (.getfield 29, 3) := by decide +kernel
theorem dX2_come_43 : decode cX2_come 43 = .ok (.if_icmp .ge 63, 3) := by decide +kernel
theorem dX2_come_46 : decode cX2_come 46 = .ok (.iload 5, 2) := by decide +kernel
theorem dX2_come_48 : decode cX2_come 48 = .ok (.iload_n 3, 1) := by decide +kernel
theorem dX2_come_49 : decode cX2_come 49 = .ok (.if_icmp .eq 57, 3) := by decide +kernel
theorem dX2_come_52 : decode cX2_come 52 = .ok (.iload 4, 2) := by decide +kernel
theorem dX2_come_54 : decode cX2_come 54 = .ok (.bipush 12, 2) := by decide +kernel
theorem dX2_come_56 : decode cX2_come 56 = .ok (.if_icmp .ge 44, 3) := by decide +kernel
theorem dX2_come_59 : decode cX2_come 59 = .ok (.aload_n 0, 1) := by decide +kernel
theorem dX2_come_60 : decode cX2_come 60 = .ok (.iload 6, 2) := by decide +kernel
theorem dX2_come_62 : decode cX2_come 62 = .ok (.iload 7, 2) := by decide +kernel
theorem dX2_come_64 : decode cX2_come 64 = .ok (.invokevirtual 37, 3) := by decide +kernel
theorem dX2_come_67 : decode cX2_come 67 = .ok (.ifCond .eq 33, 3) := by decide +kernel
theorem dX2_come_70 : decode cX2_come 70 = .ok (.aload_n 0, 1) := by decide +kernel
theorem dX2_come_71 : decode cX2_come 71 = .ok (.iload 6, 2) := by decide +kernel
theorem dX2_come_73 : decode cX2_come 73 = .ok (.iload 7, 2) := by decide +kernel
theorem dX2_come_75 : decode cX2_come 75 = .ok (.invokevirtual 40, 3) := by decide +kernel
theorem dX2_come_78 : decode cX2_come 78 = .ok (.aload_n 0, 1) := by decide +kernel
theorem dX2_come_79 : decode cX2_come 79 = .ok (.iload_n 1, 1) := by decide +kernel
theorem dX2_come_80 : decode cX2_come 80 = .ok (.iload 5, 2) := by decide +kernel
theorem dX2_come_82 : decode cX2_come 82 = .ok (.iload_n 3, 1) := by decide +kernel
theorem dX2_come_83 : decode cX2_come 83 = .ok (.iload 4, 2) := by decide +kernel
theorem dX2_come_85 : decode cX2_come 85 = .ok (.iconst 1, 1) := by decide +kernel
theorem dX2_come_86 : decode cX2_come 86 = .ok (.iadd, 1) := by decide +kernel
theorem dX2_come_87 : decode cX2_come 87 = .ok (.invokestatic 15, 3) := by decide +kernel
theorem dX2_come_90 : decode cX2_come 90 = .ok (.istore 5, 2) := by decide +kernel
theorem dX2_come_92 : decode cX2_come 92 = .ok (.aload_n 0, 1) := by decide +kernel
theorem dX2_come_93 : decode cX2_come 93 = .ok (.iload 6, 2) := by decide +kernel
theorem dX2_come_95 : decode cX2_come 95 = .ok (.iload 7, 2) := by decide +kernel
theorem dX2_come_97 : decode cX2_come 97 = .ok (.invokevirtual 44, 3) := by decide +kernel
theorem dX2_come_100 : decode cX2_come 100 = .ok (.iinc 7 1, 3) := by decide +kernel
theorem dX2_come_103 : decode cX2_come 103 = .ok (.goto (-66), 3) := by decide +kernel
theorem dX2_come_106 : decode cX2_come 106 = .ok (.iinc 6 1, 3) := by decide +kernel
theorem dX2_come_109 : decode cX2_come 109 = .ok (.goto (-93), 3) := by decide +kernel
theorem dX2_come_112 : decode cX2_come 112 = .ok (.iload 5, 2) := by decide +kernel
theorem dX2_come_114 : decode cX2_come 114 = .ok (.ireturn, 1) := by decide +kernel
theorem dX2_bestBegin_0 : decode cX2_bestBegin 0 = .ok (.aload_n 0, 1) := by decide +kernel
theorem dX2_bestBegin_1 : decode cX2_bestBegin 1 = .ok (.getfield 19, 3) := by decide +kernel
theorem dX2_bestBegin_4 : decode cX2_bestBegin 4 = .ok (.iload_n 1, 1) := by decide +kernel
theorem dX2_bestBegin_5 : decode cX2_bestBegin 5 = .ok (.iaload, 1) := by decide +kernel
theorem dX2_bestBegin_6 : decode cX2_bestBegin 6 = .ok (.istore_n 2, 1) := by decide +kernel
theorem dX2_bestBegin_7 : decode cX2_bestBegin 7 = .ok (.aload_n 0, 1) := by decide +kernel
theorem dX2_bestBegin_8 : decode cX2_bestBegin 8 = .ok (.getfield 47, 3) := by decide +kernel
theorem dX2_bestBegin_11 : decode cX2_bestBegin 11 = .ok (.iload_n 1, 1) := by decide +kernel
theorem dX2_bestBegin_12 : decode cX2_bestBegin 12 = .ok (.iaload, 1) := by decide +kernel
theorem dX2_bestBegin_13 : decode cX2_bestBegin 13 = .ok (.istore_n 3, 1) := by decide +kernel
theorem dX2_bestBegin_14 : decode cX2_bestBegin 14 = .ok (.iconst 0, 1) := by decide +kernel
theorem dX2_bestBegin_15 : decode cX2_bestBegin 15 = .ok (.istore 4, 2) := by decide +kernel
theorem dX2_bestBegin_17 : decode cX2_bestBegin 17 = .ok (.iconst 0, 1) := by decide +kernel
theorem dX2_bestBegin_18 : decode cX2_bestBegin 18 = .ok (.istore 5, 2) := by decide +kernel
theorem dX2_bestBegin_20 : decode cX2_bestBegin 20 = .ok (.iconst 0, 1) := by decide +kernel
theorem dX2_bestBegin_21 : decode cX2_bestBegin 21 = .ok (.istore 6, 2) := by decide +kernel
theorem dX2_bestBegin_23 : decode cX2_bestBegin 23 = .ok (.iload 6, 2) := by decide +kernel
theorem dX2_bestBegin_25 : decode cX2_bestBegin 25 = .ok (.bipush 6, 2) := by decide +kernel
theorem dX2_bestBegin_27 : decode cX2_bestBegin 27 = .ok (.if_icmp .ge 53, 3) := by decide +kernel
theorem dX2_bestBegin_30 : decode cX2_bestBegin 30 = .ok (.aload_n 0, 1) := by decide +kernel
theorem dX2_bestBegin_31 : decode cX2_bestBegin 31 = .ok (.getfield 19, 3) := by decide +kernel
theorem dX2_bestBegin_34 : decode cX2_bestBegin 34 = .ok (.iload_n 1, 1) := by decide +kernel
theorem dX2_bestBegin_35 : decode cX2_bestBegin 35 = .ok (.iload 6, 2) := by decide +kernel
theorem dX2_bestBegin_37 : decode cX2_bestBegin 37 = .ok (.iastore, 1) := by decide +kernel
theorem dX2_bestBegin_38 : decode cX2_bestBegin 38 = .ok (.aload_n 0, 1) := by decide +kernel
theorem dX2_bestBegin_39 : decode cX2_bestBegin 39 = .ok (.getfield 47, 3) := by decide +kernel
theorem dX2_bestBegin_42 : decode cX2_bestBegin 42 = .ok (.iload_n 1, 1) := by decide +kernel
theorem dX2_bestBegin_43 : decode cX2_bestBegin 43 = .ok (.iload 6, 2) := by decide +kernel
theorem dX2_bestBegin_45 : decode cX2_bestBegin 45 = .ok (.invokestatic 25, 3) := by decide +kernel
theorem dX2_bestBegin_48 : decode cX2_bestBegin 48 = .ok (.iastore, 1) := by decide +kernel
theorem dX2_bestBegin_49 : decode cX2_bestBegin 49 = .ok (.aload_n 0, 1) := by decide +kernel
theorem dX2_bestBegin_50 : decode cX2_bestBegin 50 = .ok (.iload_n 1, 1) := by decide +kernel
theorem dX2_bestBegin_51 : decode cX2_bestBegin 51 = .ok (.invokestatic 50, 3) := by decide +kernel
theorem dX2_bestBegin_54 : decode cX2_bestBegin 54 = .ok (.invokestatic 53, 3) := by decide +kernel
theorem dX2_bestBegin_57 : decode cX2_bestBegin 57 = .ok (.istore 7, 2) := by decide +kernel
theorem dX2_bestBegin_59 : decode cX2_bestBegin 59 = .ok (.iload 7, 2) := by decide +kernel
theorem dX2_bestBegin_61 : decode cX2_bestBegin 61 = .ok (.iload 5, 2) := by decide +kernel
theorem dX2_bestBegin_63 : decode cX2_bestBegin 63 = .ok (.if_icmp .le 11, 3) := by decide +kernel
theorem dX2_bestBegin_66 : decode cX2_bestBegin 66 = .ok (.iload 7, 2) := by decide +kernel
theorem dX2_bestBegin_68 : decode cX2_bestBegin 68 = .ok (.istore 5, 2) := by decide +kernel
theorem dX2_bestBegin_70 : decode cX2_bestBegin 70 = .ok (.iload 6, 2) := by decide +kernel
theorem dX2_bestBegin_72 : decode cX2_bestBegin 72 = .ok (.istore 4, 2) := by decide +kernel
theorem dX2_bestBegin_74 : decode cX2_bestBegin 74 = .ok (.iinc 6 1, 3) := by decide +kernel
theorem dX2_bestBegin_77 : decode cX2_bestBegin 77 = .ok (.goto (-54), 3) := by decide +kernel
theorem dX2_bestBegin_80 : decode cX2_bestBegin 80 = .ok (.aload_n 0, 1) := by decide +kernel
theorem dX2_bestBegin_81 : decode cX2_bestBegin 81 = .ok (.getfield 19, 3) := by decide +kernel
theorem dX2_bestBegin_84 : decode cX2_bestBegin 84 = .ok (.iload_n 1, 1) := by decide +kernel
theorem dX2_bestBegin_85 : decode cX2_bestBegin 85 = .ok (.iload_n 2, 1) := by decide +kernel
theorem dX2_bestBegin_86 : decode cX2_bestBegin 86 = .ok (.iastore, 1) := by decide +kernel
theorem dX2_bestBegin_87 : decode cX2_bestBegin 87 = .ok (.aload_n 0, 1) := by decide +kernel
theorem dX2_bestBegin_88 : decode cX2_bestBegin 88 = .ok (.getfield 47, 3) := by decide +kernel
theorem dX2_bestBegin_91 : decode cX2_bestBegin 91 = .ok (.iload_n 1, 1) := by decide +kernel
theorem dX2_bestBegin_92 : decode cX2_bestBegin 92 = .ok (.iload_n 3, 1) := by decide +kernel
theorem dX2_bestBegin_93 : decode cX2_bestBegin 93 = .ok (.iastore, 1) := by decide +kernel
theorem dX2_bestBegin_94 : decode cX2_bestBegin 94 = .ok (.iload 4, 2) := by decide +kernel
theorem dX2_bestBegin_96 : decode cX2_bestBegin 96 = .ok (.ireturn, 1) := by decide +kernel
theorem dX3_init_0 : decode cX3_init 0 = .ok (.aload_n 0, 1) := by decide +kernel
theorem dX3_init_1 : decode cX3_init 1 = .ok (.invokespecial 3, 3) := by decide +kernel
theorem dX3_init_4 : decode cX3_init 4 = .ok (.aload_n 0, 1) := by decide +kernel
theorem dX3_init_5 : decode cX3_init 5 = .ok (.iconst 4, 1) := by decide +kernel
theorem dX3_init_6 : decode cX3_init 6 = .ok (.newarray .int, 2) := by decide +kernel
theorem dX3_init_8 : decode cX3_init 8 = .ok (.putfield 9, 3) := by decide +kernel
theorem dX3_init_11 : decode cX3_init 11 = .ok (.aload_n 0, 1) := by decide +kernel
theorem dX3_init_12 : decode cX3_init 12 = .ok (.iconst 4, 1) := by decide +kernel
theorem dX3_init_13 : decode cX3_init 13 = .ok (.newarray .int, 2) := by decide +kernel
theorem dX3_init_15 : decode cX3_init 15 = .ok (.putfield 15, 3) := by decide +kernel
theorem dX3_init_18 : decode cX3_init 18 = .ok (.return_, 1) := by decide +kernel
theorem dX3_choose_0 : decode cX3_choose 0 = .ok (.aload_n 0, 1) := by decide +kernel
theorem dX3_choose_1 : decode cX3_choose 1 = .ok (.bipush (-9), 2) := by decide +kernel
theorem dX3_choose_3 : decode cX3_choose 3 = .ok (.putfield 18, 3) := by decide +kernel
theorem dX3_choose_6 : decode cX3_choose 6 = .ok (.aload_n 0, 1) := by decide +kernel
theorem dX3_choose_7 : decode cX3_choose 7 = .ok (.iconst 0, 1) := by decide +kernel
theorem dX3_choose_8 : decode cX3_choose 8 = .ok (.putfield 22, 3) := by decide +kernel
theorem dX3_choose_11 : decode cX3_choose 11 = .ok (.aload_n 0, 1) := by decide +kernel
theorem dX3_choose_12 : decode cX3_choose 12 = .ok (.aload_n 1, 1) := by decide +kernel
theorem dX3_choose_13 : decode cX3_choose 13 = .ok (.iconst 0, 1) := by decide +kernel
theorem dX3_choose_14 : decode cX3_choose 14 = .ok (.iconst 0, 1) := by decide +kernel
theorem dX3_choose_15 : decode cX3_choose 15 = .ok (.iconst 0, 1) := by decide +kernel
theorem dX3_choose_16 : decode cX3_choose 16 = .ok (.invokestatic 25, 3) := by decide +kernel
theorem dX3_choose_19 : decode cX3_choose 19 = .ok (.return_, 1) := by decide +kernel
theorem dX3_give_0 : decode cX3_give 0 = .ok (.iload_n 2, 1) := by decide +kernel
theorem dX3_give_1 : decode cX3_give 1 = .ok (.aload_n 1, 1) := by decide +kernel
theorem dX3_give_2 : decode cX3_give 2 = .ok (.getfield 29, 3) := by decide +kernel
theorem dX3_give_5 : decode cX3_give 5 = .ok (.if_icmp .lt 11, 3) := by decide +kernel
theorem dX3_give_8 : decode cX3_give 8 = .ok (.aload_n 0, 1) := by decide +kernel
theorem dX3_give_9 : decode cX3_give 9 = .ok (.aload_n 1, 1) := by decide +kernel
theorem dX3_give_10 : decode cX3_give 10 = .ok (.iload 4, 2) := by decide +kernel
theorem dX3_give_12 : decode cX3_give 12 = .ok (.invokevirtual 34, 3) := by decide +kernel
theorem dX3_give_15 : decode cX3_give 15 = .ok (.return_, 1) := by decide +kernel
theorem dX3_give_16 : decode cX3_give 16 = .ok (.iconst 0, 1) := by decide +kernel
theorem dX3_give_17 : decode cX3_give 17 = .ok (.istore 5, 2) := by decide +kernel
theorem dX3_give_19 : decode cX3_give 19 = .ok (.iload 5, 2) := by decide +kernel
theorem dX3_give_21 : decode cX3_give 21 = .ok (.aload_n 1, 1) := by decide +kernel
theorem dX3_give_22 : decode cX3_give 22 = .ok (.getfield 29, 3) := by decide +kernel
theorem dX3_give_25 : decode cX3_give 25 = .ok (.if_icmp .ge 99, 3) := by decide +kernel
theorem dX3_give_28 : decode cX3_give 28 = .ok (.iload_n 3, 1) := by decide +kernel
theorem dX3_give_29 : decode cX3_give 29 = .ok (.iconst 1, 1) := by decide +kernel
theorem dX3_give_30 : decode cX3_give 30 = .ok (.iload 5, 2) := by decide +kernel
theorem dX3_give_32 : decode cX3_give 32 = .ok (.ishl, 1) := by decide +kernel
theorem dX3_give_33 : decode cX3_give 33 = .ok (.iand, 1) := by decide +kernel
theorem dX3_give_34 : decode cX3_give 34 = .ok (.ifCond .ne 7, 3) := by decide +kernel
theorem dX3_give_37 : decode cX3_give 37 = .ok (.iconst 1, 1) := by decide +kernel
theorem dX3_give_38 : decode cX3_give 38 = .ok (.goto 4, 3) := by decide +kernel
theorem dX3_give_41 : decode cX3_give 41 = .ok (.iconst 0, 1) := by decide +kernel
theorem dX3_give_42 : decode cX3_give 42 = .ok (.istore 6, 2) := by decide +kernel
theorem dX3_give_44 : decode cX3_give 44 = .ok (.iload 6, 2) := by decide +kernel
theorem dX3_give_46 : decode cX3_give 46 = .ok (.ifCond .eq 72, 3) := by decide +kernel
theorem dX3_give_49 : decode cX3_give 49 = .ok (.iload 5, 2) := by decide +kernel
theorem dX3_give_51 : decode cX3_give 51 = .ok (.iload_n 2, 1) := by decide +kernel
theorem dX3_give_52 : decode cX3_give 52 = .ok (.if_icmp .eq 13, 3) := by decide +kernel
theorem dX3_give_55 : decode cX3_give 55 = .ok (.aload_n 1, 1) := by decide +kernel
theorem dX3_give_56 : decode cX3_give 56 = .ok (.iload_n 2, 1) := by decide +kernel
theorem dX3_give_57 : decode cX3_give 57 = .ok (.iload 5, 2) := by decide +kernel
theorem dX3_give_59 : decode cX3_give 59 = .ok (.invokestatic 38, 3) := by decide +kernel
theorem dX3_give_62 : decode cX3_give 62 = .ok (.ifCond .eq 56, 3) := by decide +kernel
theorem dX3_give_65 : decode cX3_give 65 = .ok (.aload_n 0, 1) := by decide +kernel
theorem dX3_give_66 : decode cX3_give 66 = .ok (.getfield 15, 3) := by decide +kernel
theorem dX3_give_69 : decode cX3_give 69 = .ok (.iload_n 2, 1) := by decide +kernel
theorem dX3_give_70 : decode cX3_give 70 = .ok (.iload 5, 2) := by decide +kernel
theorem dX3_give_72 : decode cX3_give 72 = .ok (.iastore, 1) := by decide +kernel
theorem dX3_give_73 : decode cX3_give 73 = .ok (.iload 4, 2) := by decide +kernel
theorem dX3_give_75 : decode cX3_give 75 = .ok (.aload_n 1, 1) := by decide +kernel
theorem dX3_give_76 : decode cX3_give 76 = .ok (.iload_n 2, 1) := by decide +kernel
theorem dX3_give_77 : decode cX3_give 77 = .ok (.aload_n 1, 1) := by decide +kernel
theorem dX3_give_78 : decode cX3_give 78 = .ok (.getfield 42, 3) := by decide +kernel
theorem dX3_give_81 : decode cX3_give 81 = .ok (.iload 5, 2) := by decide +kernel
theorem dX3_give_83 : decode cX3_give 83 = .ok (.iaload, 1) := by decide +kernel
theorem dX3_give_84 : decode cX3_give 84 = .ok (.invokevirtual 45, 3) := by decide +kernel
theorem dX3_give_87 : decode cX3_give 87 = .ok (.iadd, 1) := by decide +kernel
theorem dX3_give_88 : decode cX3_give 88 = .ok (.aload_n 1, 1) := by decide +kernel
theorem dX3_give_89 : decode cX3_give 89 = .ok (.iload_n 2, 1) := by decide +kernel
theorem dX3_give_90 : decode cX3_give 90 = .ok (.aload_n 1, 1) := by decide +kernel
theorem dX3_give_91 : decode cX3_give 91 = .ok (.getfield 42, 3) := by decide +kernel
theorem dX3_give_94 : decode cX3_give 94 = .ok (.iload_n 2, 1) := by decide +kernel
theorem dX3_give_95 : decode cX3_give 95 = .ok (.iaload, 1) := by decide +kernel
theorem dX3_give_96 : decode cX3_give 96 = .ok (.invokevirtual 45, 3) := by decide +kernel
theorem dX3_give_99 : decode cX3_give 99 = .ok (.isub, 1) := by decide +kernel
theorem dX3_give_100 : decode cX3_give 100 = .ok (.istore 7, 2) := by decide +kernel
theorem dX3_give_102 : decode cX3_give 102 = .ok (.aload_n 0, 1) := by decide +kernel
theorem dX3_give_103 : decode cX3_give 103 = .ok (.aload_n 1, 1) := by decide +kernel
theorem dX3_give_104 : decode cX3_give 104 = .ok (.iload_n 2, 1) := by decide +kernel
theorem dX3_give_105 : decode cX3_give 105 = .ok (.iconst 1, 1) := by decide +kernel
theorem dX3_give_106 : decode cX3_give 106 = .ok (.iadd, 1) := by decide +kernel
theorem dX3_give_107 : decode cX3_give 107 = .ok (.iload_n 3, 1) := by decide +kernel
theorem dX3_give_108 : decode cX3_give 108 = .ok (.iconst 1, 1) := by decide +kernel
theorem dX3_give_109 : decode cX3_give 109 = .ok (.iload 5, 2) := by decide +kernel
theorem dX3_give_111 : decode cX3_give 111 = .ok (.ishl, 1) := by decide +kernel
theorem dX3_give_112 : decode cX3_give 112 = .ok (.ior, 1) := by decide +kernel
theorem dX3_give_113 : decode cX3_give 113 = .ok (.iload 7, 2) := by decide +kernel
theorem dX3_give_115 : decode cX3_give 115 = .ok (.invokestatic 25, 3) := by decide +kernel
theorem dX3_give_118 : decode cX3_give 118 = .ok (.iinc 5 1, 3) := by decide +kernel
theorem dX3_give_121 : decode cX3_give 121 = .ok (.goto (-102), 3) := by decide +kernel
theorem dX3_give_124 : decode cX3_give 124 = .ok (.return_, 1) := by decide +kernel
theorem dX3_isBetter_0 : decode cX3_isBetter 0 = .ok (.aload_n 0, 1) := by decide +kernel
theorem dX3_isBetter_1 : decode cX3_isBetter 1 = .ok (.getfield 42, 3) := by decide +kernel
theorem dX3_isBetter_4 : decode cX3_isBetter 4 = .ok (.iload_n 1, 1) := by decide +kernel
theorem dX3_isBetter_5 : decode cX3_isBetter 5 = .ok (.iaload, 1) := by decide +kernel
theorem dX3_isBetter_6 : decode cX3_isBetter 6 = .ok (.istore_n 3, 1) := by decide +kernel
theorem dX3_isBetter_7 : decode cX3_isBetter 7 = .ok (.aload_n 0, 1) := by decide +kernel
theorem dX3_isBetter_8 : decode cX3_isBetter 8 = .ok (.getfield 42, 3) := by decide +kernel
theorem dX3_isBetter_11 : decode cX3_isBetter 11 = .ok (.iload_n 2, 1) := by decide +kernel
theorem dX3_isBetter_12 : decode cX3_isBetter 12 = .ok (.iaload, 1) := by decide +kernel
theorem dX3_isBetter_13 : decode cX3_isBetter 13 = .ok (.istore 4, 2) := by decide +kernel
theorem dX3_isBetter_15 : decode cX3_isBetter 15 = .ok (.iload_n 3, 1) := by decide +kernel
theorem dX3_isBetter_16 : decode cX3_isBetter 16 = .ok (.bipush (-9), 2) := by decide +kernel
theorem dX3_isBetter_18 : decode cX3_isBetter 18 = .ok (.if_icmp .eq 33, 3) := by decide +kernel
theorem dX3_isBetter_21 : decode cX3_isBetter 21 = .ok (.aload_n 0, 1) := by decide +kernel
theorem dX3_isBetter_22 : decode cX3_isBetter 22 = .ok (.iload_n 1, 1) := by decide +kernel
theorem dX3_isBetter_23 : decode cX3_isBetter 23 = .ok (.iload 4, 2) := by decide +kernel
theorem dX3_isBetter_25 : decode cX3_isBetter 25 = .ok (.invokevirtual 49, 3) := by decide +kernel
theorem dX3_isBetter_28 : decode cX3_isBetter 28 = .ok (.ifCond .eq 23, 3) := by decide +kernel
theorem dX3_isBetter_31 : decode cX3_isBetter 31 = .ok (.aload_n 0, 1) := by decide +kernel
theorem dX3_isBetter_32 : decode cX3_isBetter 32 = .ok (.iload_n 1, 1) := by decide +kernel
theorem dX3_isBetter_33 : decode cX3_isBetter 33 = .ok (.iload 4, 2) := by decide +kernel
theorem dX3_isBetter_35 : decode cX3_isBetter 35 = .ok (.invokevirtual 45, 3) := by decide +kernel
theorem dX3_isBetter_38 : decode cX3_isBetter 38 = .ok (.aload_n 0, 1) := by decide +kernel
theorem dX3_isBetter_39 : decode cX3_isBetter 39 = .ok (.iload_n 1, 1) := by decide +kernel
theorem dX3_isBetter_40 : decode cX3_isBetter 40 = .ok (.iload_n 3, 1) := by decide +kernel
theorem dX3_isBetter_41 : decode cX3_isBetter 41 = .ok (.invokevirtual 45, 3) := by decide +kernel
theorem dX3_isBetter_44 : decode cX3_isBetter 44 = .ok (.if_icmp .le 7, 3) := by decide +kernel
theorem dX3_isBetter_47 : decode cX3_isBetter 47 = .ok (.iconst 1, 1) := by decide +kernel
theorem dX3_isBetter_48 : decode cX3_isBetter 48 = .ok (.goto 4, 3) := by decide +kernel
theorem dX3_isBetter_51 : decode cX3_isBetter 51 = .ok (.iconst 0, 1) := by decide +kernel
theorem dX3_isBetter_52 : decode cX3_isBetter 52 = .ok (.ireturn, 1) := by decide +kernel
theorem dX3_compare_0 : decode cX3_compare 0 = .ok (.iconst 0, 1) := by decide +kernel
theorem dX3_compare_1 : decode cX3_compare 1 = .ok (.istore_n 3, 1) := by decide +kernel
theorem dX3_compare_2 : decode cX3_compare 2 = .ok (.iconst 0, 1) := by decide +kernel
theorem dX3_compare_3 : decode cX3_compare 3 = .ok (.istore 4, 2) := by decide +kernel
theorem dX3_compare_5 : decode cX3_compare 5 = .ok (.iload 4, 2) := by decide +kernel
theorem dX3_compare_7 : decode cX3_compare 7 = .ok (.aload_n 1, 1) := by decide +kernel
theorem dX3_compare_8 : decode cX3_compare 8 = .ok (.getfield 29, 3) := by decide +kernel
theorem dX3_compare_11 : decode cX3_compare 11 = .ok (.if_icmp .ge 24, 3) := by decide +kernel
theorem dX3_compare_14 : decode cX3_compare 14 = .ok (.aload_n 0, 1) := by decide +kernel
theorem dX3_compare_15 : decode cX3_compare 15 = .ok (.getfield 15, 3) := by decide +kernel
theorem dX3_compare_18 : decode cX3_compare 18 = .ok (.iload 4, 2) := by decide +kernel
theorem dX3_compare_20 : decode cX3_compare 20 = .ok (.iaload, 1) := by decide +kernel
theorem dX3_compare_21 : decode cX3_compare 21 = .ok (.iload 4, 2) := by decide +kernel
theorem dX3_compare_23 : decode cX3_compare 23 = .ok (.if_icmp .eq 6, 3) := by decide +kernel
theorem dX3_compare_26 : decode cX3_compare 26 = .ok (.iinc 3 1, 3) := by decide +kernel
theorem dX3_compare_29 : decode cX3_compare 29 = .ok (.iinc 4 1, 3) := by decide +kernel
theorem dX3_compare_32 : decode cX3_compare 32 = .ok (.goto (-27), 3) := by decide +kernel
theorem dX3_compare_35 : decode cX3_compare 35 = .ok (.iload_n 2, 1) := by decide +kernel
theorem dX3_compare_36 : decode cX3_compare 36 = .ok (.aload_n 0, 1) := by decide +kernel
theorem dX3_compare_37 : decode cX3_compare 37 = .ok (.getfield 18, 3) := by decide +kernel
theorem dX3_compare_40 : decode cX3_compare 40 = .ok (.if_icmp .gt 19, 3) := by decide +kernel
theorem dX3_compare_43 : decode cX3_compare 43 = .ok (.iload_n 2, 1) := by decide +kernel
theorem dX3_compare_44 : decode cX3_compare 44 = .ok (.aload_n 0, 1) := by decide +kernel
theorem dX3_compare_45 : decode cX3_compare 45 = .ok (.getfield 18, 3) := by decide +kernel
theorem dX3_compare_48 : decode cX3_compare 48 = .ok (.if_icmp .ne 38, 3) := by decide +kernel
theorem dX3_compare_51 : decode cX3_compare 51 = .ok (.iload_n 3, 1) := by decide +kernel
theorem dX3_compare_52 : decode cX3_compare 52 = .ok (.aload_n 0, 1) := by decide +kernel
theorem dX3_compare_53 : decode cX3_compare 53 = .ok (.getfield 22, 3) := by decide +kernel
theorem dX3_compare_56 : decode cX3_compare 56 = .ok (.if_icmp .ge 30, 3) := by decide +kernel
theorem dX3_compare_59 : decode cX3_compare 59 = .ok (.aload_n 0, 1) := by decide +kernel
theorem dX3_compare_60 : decode cX3_compare 60 = .ok (.iload_n 2, 1) := by decide +kernel
theorem dX3_compare_61 : decode cX3_compare 61 = .ok (.putfield 18, 3) := by decide +kernel
theorem dX3_compare_64 : decode cX3_compare 64 = .ok (.aload_n 0, 1) := by decide +kernel
theorem dX3_compare_65 : decode cX3_compare 65 = .ok (.iload_n 3, 1) := by decide +kernel
theorem dX3_compare_66 : decode cX3_compare 66 = .ok (.putfield 22, 3) := by decide +kernel
theorem dX3_compare_69 : decode cX3_compare 69 = .ok (.aload_n 0, 1) := by decide +kernel
theorem dX3_compare_70 : decode cX3_compare 70 = .ok (.getfield 15, 3) := by decide +kernel
theorem dX3_compare_73 : decode cX3_compare 73 = .ok (.iconst 0, 1) := by decide +kernel
theorem dX3_compare_74 : decode cX3_compare 74 = .ok (.aload_n 0, 1) := by decide +kernel
theorem dX3_compare_75 : decode cX3_compare 75 = .ok (.getfield 9, 3) := by decide +kernel
theorem dX3_compare_78 : decode cX3_compare 78 = .ok (.iconst 0, 1) := by decide +kernel
theorem dX3_compare_79 : decode cX3_compare 79 = .ok (.aload_n 1, 1) := by decide +kernel
theorem dX3_compare_80 : decode cX3_compare 80 = .ok (.getfield 29, 3) := by decide +kernel
theorem dX3_compare_83 : decode cX3_compare 83 = .ok (.invokestatic 53, 3) := by decide +kernel
theorem dX3_compare_86 : decode cX3_compare 86 = .ok (.return_, 1) := by decide +kernel
theorem dX4_init_0 : decode cX4_init 0 = .ok (.aload_n 0, 1) := by decide +kernel
theorem dX4_init_1 : decode cX4_init 1 = .ok (.invokespecial 3, 3) := by decide +kernel
theorem dX4_init_4 : decode cX4_init 4 = .ok (.return_, 1) := by decide +kernel
theorem dX4_walkAll_0 : decode cX4_walkAll 0 = .ok (.aload_n 0, 1) := by decide +kernel
theorem dX4_walkAll_1 : decode cX4_walkAll 1 = .ok (.iconst 0, 1) := by decide +kernel
theorem dX4_walkAll_2 : decode cX4_walkAll 2 = .ok (.putfield 9, 3) := by decide +kernel
theorem dX4_walkAll_5 : decode cX4_walkAll 5 = .ok (.aload_n 0, 1) := by decide +kernel
theorem dX4_walkAll_6 : decode cX4_walkAll 6 = .ok (.bipush 12, 2) := by decide +kernel
theorem dX4_walkAll_8 : decode cX4_walkAll 8 = .ok (.putfield 15, 3) := by decide +kernel
theorem dX4_walkAll_11 : decode cX4_walkAll 11 = .ok (.aload_n 0, 1) := by decide +kernel
theorem dX4_walkAll_12 : decode cX4_walkAll 12 = .ok (.iconst 0, 1) := by decide +kernel
theorem dX4_walkAll_13 : decode cX4_walkAll 13 = .ok (.putfield 18, 3) := by decide +kernel
theorem dX4_walkAll_16 : decode cX4_walkAll 16 = .ok (.aload_n 0, 1) := by decide +kernel
theorem dX4_walkAll_17 : decode cX4_walkAll 17 = .ok (.aload_n 1, 1) := by decide +kernel
theorem dX4_walkAll_18 : decode cX4_walkAll 18 = .ok (.iconst 0, 1) := by decide +kernel
theorem dX4_walkAll_19 : decode cX4_walkAll 19 = .ok (.invokestatic 21, 3) := by decide +kernel
theorem dX4_walkAll_22 : decode cX4_walkAll 22 = .ok (.return_, 1) := by decide +kernel
theorem dX4_walk_0 : decode cX4_walk 0 = .ok (.iconst 1, 1) := by decide +kernel
theorem dX4_walk_1 : decode cX4_walk 1 = .ok (.istore_n 3, 1) := by decide +kernel
theorem dX4_walk_2 : decode cX4_walk 2 = .ok (.iconst 0, 1) := by decide +kernel
theorem dX4_walk_3 : decode cX4_walk 3 = .ok (.istore 4, 2) := by decide +kernel
theorem dX4_walk_5 : decode cX4_walk 5 = .ok (.iload 4, 2) := by decide +kernel
theorem dX4_walk_7 : decode cX4_walk 7 = .ok (.aload_n 1, 1) := by decide +kernel
theorem dX4_walk_8 : decode cX4_walk 8 = .ok (.getfield 25, 3) := by decide +kernel
theorem dX4_walk_11 : decode cX4_walk 11 = .ok (.if_icmp .ge 73, 3) := by decide +kernel
theorem dX4_walk_14 : decode cX4_walk 14 = .ok (.iload 4, 2) := by decide +kernel
theorem dX4_walk_16 : decode cX4_walk 16 = .ok (.iconst 1, 1) := by decide +kernel
theorem dX4_walk_17 : decode cX4_walk 17 = .ok (.iadd, 1) := by decide +kernel
theorem dX4_walk_18 : decode cX4_walk 18 = .ok (.istore 5, 2) := by decide +kernel
theorem dX4_walk_20 : decode cX4_walk 20 = .ok (.iload 5, 2) := by decide +kernel
theorem dX4_walk_22 : decode cX4_walk 22 = .ok (.aload_n 1, 1) := by decide +kernel
theorem dX4_walk_23 : decode cX4_walk 23 = .ok (.getfield 25, 3) := by decide +kernel
theorem dX4_walk_26 : decode cX4_walk 26 = .ok (.if_icmp .ge 52, 3) := by decide +kernel
theorem dX4_walk_29 : decode cX4_walk 29 = .ok (.iload_n 2, 1) := by decide +kernel
theorem dX4_walk_30 : decode cX4_walk 30 = .ok (.bipush 12, 2) := by decide +kernel
theorem dX4_walk_32 : decode cX4_walk 32 = .ok (.if_icmp .ge 40, 3) := by decide +kernel
theorem dX4_walk_35 : decode cX4_walk 35 = .ok (.aload_n 1, 1) := by decide +kernel
theorem dX4_walk_36 : decode cX4_walk 36 = .ok (.iload 4, 2) := by decide +kernel
theorem dX4_walk_38 : decode cX4_walk 38 = .ok (.iload 5, 2) := by decide +kernel
theorem dX4_walk_40 : decode cX4_walk 40 = .ok (.invokevirtual 30, 3) := by decide +kernel
theorem dX4_walk_43 : decode cX4_walk 43 = .ok (.ifCond .eq 29, 3) := by decide +kernel
theorem dX4_walk_46 : decode cX4_walk 46 = .ok (.iconst 0, 1) := by decide +kernel
theorem dX4_walk_47 : decode cX4_walk 47 = .ok (.istore_n 3, 1) := by decide +kernel
theorem dX4_walk_48 : decode cX4_walk 48 = .ok (.aload_n 1, 1) := by decide +kernel
theorem dX4_walk_49 : decode cX4_walk 49 = .ok (.iload 4, 2) := by decide +kernel
theorem dX4_walk_51 : decode cX4_walk 51 = .ok (.iload 5, 2) := by decide +kernel
theorem dX4_walk_53 : decode cX4_walk 53 = .ok (.invokevirtual 34, 3) := by decide +kernel
theorem dX4_walk_56 : decode cX4_walk 56 = .ok (.aload_n 0, 1) := by decide +kernel
theorem dX4_walk_57 : decode cX4_walk 57 = .ok (.aload_n 1, 1) := by decide +kernel
theorem dX4_walk_58 : decode cX4_walk 58 = .ok (.iload_n 2, 1) := by decide +kernel
theorem dX4_walk_59 : decode cX4_walk 59 = .ok (.iconst 1, 1) := by decide +kernel
theorem dX4_walk_60 : decode cX4_walk 60 = .ok (.iadd, 1) := by decide +kernel
theorem dX4_walk_61 : decode cX4_walk 61 = .ok (.invokestatic 21, 3) := by decide +kernel
theorem dX4_walk_64 : decode cX4_walk 64 = .ok (.aload_n 1, 1) := by decide +kernel
theorem dX4_walk_65 : decode cX4_walk 65 = .ok (.iload 4, 2) := by decide +kernel
theorem dX4_walk_67 : decode cX4_walk 67 = .ok (.iload 5, 2) := by decide +kernel
theorem dX4_walk_69 : decode cX4_walk 69 = .ok (.invokevirtual 38, 3) := by decide +kernel
theorem dX4_walk_72 : decode cX4_walk 72 = .ok (.iinc 5 1, 3) := by decide +kernel
theorem dX4_walk_75 : decode cX4_walk 75 = .ok (.goto (-55), 3) := by decide +kernel
theorem dX4_walk_78 : decode cX4_walk 78 = .ok (.iinc 4 1, 3) := by decide +kernel
theorem dX4_walk_81 : decode cX4_walk 81 = .ok (.goto (-76), 3) := by decide +kernel
theorem dX4_walk_84 : decode cX4_walk 84 = .ok (.iload_n 3, 1) := by decide +kernel
theorem dX4_walk_85 : decode cX4_walk 85 = .ok (.ifCond .eq 8, 3) := by decide +kernel
theorem dX4_walk_88 : decode cX4_walk 88 = .ok (.aload_n 0, 1) := by decide +kernel
theorem dX4_walk_89 : decode cX4_walk 89 = .ok (.iload_n 2, 1) := by decide +kernel
theorem dX4_walk_90 : decode cX4_walk 90 = .ok (.invokevirtual 41, 3) := by decide +kernel
theorem dX4_walk_93 : decode cX4_walk 93 = .ok (.return_, 1) := by decide +kernel
theorem dX4_noteEnd_0 : decode cX4_noteEnd 0 = .ok (.aload_n 0, 1) := by decide +kernel
theorem dX4_noteEnd_1 : decode cX4_noteEnd 1 = .ok (.aload_n 0, 1) := by decide +kernel
theorem dX4_noteEnd_2 : decode cX4_noteEnd 2 = .ok (.getfield 9, 3) := by decide +kernel
theorem dX4_noteEnd_5 : decode cX4_noteEnd 5 = .ok (.iload_n 1, 1) := by decide +kernel
theorem dX4_noteEnd_6 : decode cX4_noteEnd 6 = .ok (.invokestatic 45, 3) := by decide +kernel
theorem dX4_noteEnd_9 : decode cX4_noteEnd 9 = .ok (.putfield 9, 3) := by decide +kernel
theorem dX4_noteEnd_12 : decode cX4_noteEnd 12 = .ok (.aload_n 0, 1) := by decide +kernel
theorem dX4_noteEnd_13 : decode cX4_noteEnd 13 = .ok (.aload_n 0, 1) := by decide +kernel
theorem dX4_noteEnd_14 : decode cX4_noteEnd 14 = .ok (.getfield 15, 3) := by decide +kernel
theorem dX4_noteEnd_17 : decode cX4_noteEnd 17 = .ok (.iload_n 1, 1) := by decide +kernel
theorem dX4_noteEnd_18 : decode cX4_noteEnd 18 = .ok (.invokestatic 51, 3) := by decide +kernel
theorem dX4_noteEnd_21 : decode cX4_noteEnd 21 = .ok (.putfield 15, 3) := by decide +kernel
theorem dX4_noteEnd_24 : decode cX4_noteEnd 24 = .ok (.aload_n 0, 1) := by decide +kernel
theorem dX4_noteEnd_25 : decode cX4_noteEnd 25 = .ok (.dup, 1) := by decide +kernel
theorem dX4_noteEnd_26 : decode cX4_noteEnd 26 = .ok (.getfield 18, 3) := by decide +kernel
theorem dX4_noteEnd_29 : decode cX4_noteEnd 29 = .ok (.iconst 1, 1) := by decide +kernel
theorem dX4_noteEnd_30 : decode cX4_noteEnd 30 = .ok (.iadd, 1) := by decide +kernel
theorem dX4_noteEnd_31 : decode cX4_noteEnd 31 = .ok (.putfield 18, 3) := by decide +kernel
theorem dX4_noteEnd_34 : decode cX4_noteEnd 34 = .ok (.return_, 1) := by decide +kernel
theorem dX5_init_0 : decode cX5_init 0 = .ok (.aload_n 0, 1) := by decide +kernel
theorem dX5_init_1 : decode cX5_init 1 = .ok (.invokespecial 3, 3) := by decide +kernel
theorem dX5_init_4 : decode cX5_init 4 = .ok (.aload_n 0, 1) := by decide +kernel
theorem dX5_init_5 : decode cX5_init 5 = .ok (.bipush 8, 2) := by decide +kernel
theorem dX5_init_7 : decode cX5_init 7 = .ok (.newarray .int, 2) := by decide +kernel
theorem dX5_init_9 : decode cX5_init 9 = .ok (.putfield 9, 3) := by decide +kernel
theorem dX5_init_12 : decode cX5_init 12 = .ok (.aload_n 0, 1) := by decide +kernel
theorem dX5_init_13 : decode cX5_init 13 = .ok (.bipush 8, 2) := by decide +kernel
theorem dX5_init_15 : decode cX5_init 15 = .ok (.newarray .boolean, 2) := by decide +kernel
theorem dX5_init_17 : decode cX5_init 17 = .ok (.putfield 15, 3) := by decide +kernel
theorem dX5_init_20 : decode cX5_init 20 = .ok (.return_, 1) := by decide +kernel
theorem dX5_add_0 : decode cX5_add 0 = .ok (.aload_n 0, 1) := by decide +kernel
theorem dX5_add_1 : decode cX5_add 1 = .ok (.getfield 19, 3) := by decide +kernel
theorem dX5_add_4 : decode cX5_add 4 = .ok (.bipush 8, 2) := by decide +kernel
theorem dX5_add_6 : decode cX5_add 6 = .ok (.if_icmp .ge 33, 3) := by decide +kernel
theorem dX5_add_9 : decode cX5_add 9 = .ok (.aload_n 0, 1) := by decide +kernel
theorem dX5_add_10 : decode cX5_add 10 = .ok (.getfield 9, 3) := by decide +kernel
theorem dX5_add_13 : decode cX5_add 13 = .ok (.aload_n 0, 1) := by decide +kernel
theorem dX5_add_14 : decode cX5_add 14 = .ok (.getfield 19, 3) := by decide +kernel
theorem dX5_add_17 : decode cX5_add 17 = .ok (.iload_n 1, 1) := by decide +kernel
theorem dX5_add_18 : decode cX5_add 18 = .ok (.iastore, 1) := by decide +kernel
theorem dX5_add_19 : decode cX5_add 19 = .ok (.aload_n 0, 1) := by decide +kernel
theorem dX5_add_20 : decode cX5_add 20 = .ok (.getfield 15, 3) := by decide +kernel
theorem dX5_add_23 : decode cX5_add 23 = .ok (.aload_n 0, 1) := by decide +kernel
theorem dX5_add_24 : decode cX5_add 24 = .ok (.getfield 19, 3) := by decide +kernel
theorem dX5_add_27 : decode cX5_add 27 = .ok (.iload_n 2, 1) := by decide +kernel
theorem dX5_add_28 : decode cX5_add 28 = .ok (.bastore, 1) := by decide +kernel
theorem dX5_add_29 : decode cX5_add 29 = .ok (.aload_n 0, 1) := by decide +kernel
theorem dX5_add_30 : decode cX5_add 30 = .ok (.dup, 1) := by decide +kernel
theorem dX5_add_31 : decode cX5_add 31 = .ok (.getfield 19, 3) := by decide +kernel
theorem dX5_add_34 : decode cX5_add 34 = .ok (.iconst 1, 1) := by decide +kernel
theorem dX5_add_35 : decode cX5_add 35 = .ok (.iadd, 1) := by decide +kernel
theorem dX5_add_36 : decode cX5_add 36 = .ok (.putfield 19, 3) := by decide +kernel
theorem dX5_add_39 : decode cX5_add 39 = .ok (.return_, 1) := by decide +kernel
theorem dX5_fits_0 : decode cX5_fits 0 = .ok (.iload_n 2, 1) := by decide +kernel
theorem dX5_fits_1 : decode cX5_fits 1 = .ok (.istore_n 3, 1) := by decide +kernel
theorem dX5_fits_2 : decode cX5_fits 2 = .ok (.iconst 0, 1) := by decide +kernel
theorem dX5_fits_3 : decode cX5_fits 3 = .ok (.istore 4, 2) := by decide +kernel
theorem dX5_fits_5 : decode cX5_fits 5 = .ok (.iload 4, 2) := by decide +kernel
theorem dX5_fits_7 : decode cX5_fits 7 = .ok (.aload_n 0, 1) := by decide +kernel
theorem dX5_fits_8 : decode cX5_fits 8 = .ok (.getfield 19, 3) := by decide +kernel
theorem dX5_fits_11 : decode cX5_fits 11 = .ok (.if_icmp .ge 35, 3) := by decide +kernel
theorem dX5_fits_14 : decode cX5_fits 14 = .ok (.aload_n 0, 1) := by decide +kernel
theorem dX5_fits_15 : decode cX5_fits 15 = .ok (.getfield 9, 3) := by decide +kernel
theorem dX5_fits_18 : decode cX5_fits 18 = .ok (.iload 4, 2) := by decide +kernel
theorem dX5_fits_20 : decode cX5_fits 20 = .ok (.iaload, 1) := by decide +kernel
theorem dX5_fits_21 : decode cX5_fits 21 = .ok (.iload_n 1, 1) := by decide +kernel
theorem dX5_fits_22 : decode cX5_fits 22 = .ok (.if_icmp .ne 18, 3) := by decide +kernel
theorem dX5_fits_25 : decode cX5_fits 25 = .ok (.aload_n 0, 1) := by decide +kernel
theorem dX5_fits_26 : decode cX5_fits 26 = .ok (.getfield 15, 3) := by decide +kernel
theorem dX5_fits_29 : decode cX5_fits 29 = .ok (.iload 4, 2) := by decide +kernel
theorem dX5_fits_31 : decode cX5_fits 31 = .ok (.baload, 1) := by decide +kernel
theorem dX5_fits_32 : decode cX5_fits 32 = .ok (.iload_n 3, 1) := by decide +kernel
theorem dX5_fits_33 : decode cX5_fits 33 = .ok (.if_icmp .ne 5, 3) := by decide +kernel
theorem dX5_fits_36 : decode cX5_fits 36 = .ok (.iconst 0, 1) := by decide +kernel
theorem dX5_fits_37 : decode cX5_fits 37 = .ok (.ireturn, 1) := by decide +kernel
theorem dX5_fits_38 : decode cX5_fits 38 = .ok (.iconst 1, 1) := by decide +kernel
theorem dX5_fits_39 : decode cX5_fits 39 = .ok (.istore_n 3, 1) := by decide +kernel
theorem dX5_fits_40 : decode cX5_fits 40 = .ok (.iinc 4 1, 3) := by decide +kernel
theorem dX5_fits_43 : decode cX5_fits 43 = .ok (.goto (-38), 3) := by decide +kernel
theorem dX5_fits_46 : decode cX5_fits 46 = .ok (.iconst 1, 1) := by decide +kernel
theorem dX5_fits_47 : decode cX5_fits 47 = .ok (.ireturn, 1) := by decide +kernel
theorem dX5_fittingLists_0 : decode cX5_fittingLists 0 = .ok (.iconst 1, 1) := by decide +kernel
theorem dX5_fittingLists_1 : decode cX5_fittingLists 1 = .ok (.istore_n 1, 1) := by decide +kernel
theorem dX5_fittingLists_2 : decode cX5_fittingLists 2 = .ok (.iconst 0, 1) := by decide +kernel
theorem dX5_fittingLists_3 : decode cX5_fittingLists 3 = .ok (.istore_n 2, 1) := by decide +kernel
theorem dX5_fittingLists_4 : decode cX5_fittingLists 4 = .ok (.iload_n 2, 1) := by decide +kernel
theorem dX5_fittingLists_5 : decode cX5_fittingLists 5 = .ok (.bipush 6, 2) := by decide +kernel
theorem dX5_fittingLists_7 : decode cX5_fittingLists 7 = .ok (.if_icmp .ge 47, 3) := by decide +kernel
theorem dX5_fittingLists_10 : decode cX5_fittingLists 10 = .ok (.aload_n 0, 1) := by decide +kernel
theorem dX5_fittingLists_11 : decode cX5_fittingLists 11 = .ok (.iload_n 2, 1) := by decide +kernel
theorem dX5_fittingLists_12 : decode cX5_fittingLists 12 = .ok (.iconst 1, 1) := by decide +kernel
theorem dX5_fittingLists_13 : decode cX5_fittingLists 13 = .ok (.invokevirtual 23, 3) := by decide +kernel
theorem dX5_fittingLists_16 : decode cX5_fittingLists 16 = .ok (.ifCond .eq 7, 3) := by decide +kernel
theorem dX5_fittingLists_19 : decode cX5_fittingLists 19 = .ok (.iconst 1, 1) := by decide +kernel
theorem dX5_fittingLists_20 : decode cX5_fittingLists 20 = .ok (.goto 4, 3) := by decide +kernel
theorem dX5_fittingLists_23 : decode cX5_fittingLists 23 = .ok (.iconst 0, 1) := by decide +kernel
theorem dX5_fittingLists_24 : decode cX5_fittingLists 24 = .ok (.istore_n 3, 1) := by decide +kernel
theorem dX5_fittingLists_25 : decode cX5_fittingLists 25 = .ok (.aload_n 0, 1) := by decide +kernel
theorem dX5_fittingLists_26 : decode cX5_fittingLists 26 = .ok (.iload_n 2, 1) := by decide +kernel
theorem dX5_fittingLists_27 : decode cX5_fittingLists 27 = .ok (.iconst 0, 1) := by decide +kernel
theorem dX5_fittingLists_28 : decode cX5_fittingLists 28 = .ok (.invokevirtual 23, 3) := by decide +kernel
theorem dX5_fittingLists_31 : decode cX5_fittingLists 31 = .ok (.ifCond .eq 7, 3) := by decide +kernel
theorem dX5_fittingLists_34 : decode cX5_fittingLists 34 = .ok (.iconst 1, 1) := by decide +kernel
theorem dX5_fittingLists_35 : decode cX5_fittingLists 35 = .ok (.goto 4, 3) := by decide +kernel
theorem dX5_fittingLists_38 : decode cX5_fittingLists 38 = .ok (.iconst 0, 1) := by decide +kernel
theorem dX5_fittingLists_39 : decode cX5_fittingLists 39 = .ok (.istore 4, 2) := by decide +kernel
theorem dX5_fittingLists_41 : decode cX5_fittingLists 41 = .ok (.iload_n 1, 1) := by decide +kernel
theorem dX5_fittingLists_42 : decode cX5_fittingLists 42 = .ok (.iload_n 3, 1) := by decide +kernel
theorem dX5_fittingLists_43 : decode cX5_fittingLists 43 = .ok (.iload 4, 2) := by decide +kernel
theorem dX5_fittingLists_45 : decode cX5_fittingLists 45 = .ok (.iadd, 1) := by decide +kernel
theorem dX5_fittingLists_46 : decode cX5_fittingLists 46 = .ok (.imul, 1) := by decide +kernel
theorem dX5_fittingLists_47 : decode cX5_fittingLists 47 = .ok (.istore_n 1, 1) := by decide +kernel
theorem dX5_fittingLists_48 : decode cX5_fittingLists 48 = .ok (.iinc 2 1, 3) := by decide +kernel
theorem dX5_fittingLists_51 : decode cX5_fittingLists 51 = .ok (.goto (-47), 3) := by decide +kernel
theorem dX5_fittingLists_54 : decode cX5_fittingLists 54 = .ok (.iload_n 1, 1) := by decide +kernel
theorem dX5_fittingLists_55 : decode cX5_fittingLists 55 = .ok (.ireturn, 1) := by decide +kernel
theorem dX5_hadAtFirst_0 : decode cX5_hadAtFirst 0 = .ok (.aload_n 0, 1) := by decide +kernel
theorem dX5_hadAtFirst_1 : decode cX5_hadAtFirst 1 = .ok (.invokevirtual 27, 3) := by decide +kernel
theorem dX5_hadAtFirst_4 : decode cX5_hadAtFirst 4 = .ok (.ifCond .ne 6, 3) := by decide +kernel
theorem dX5_hadAtFirst_7 : decode cX5_hadAtFirst 7 = .ok (.bipush (-9), 2) := by decide +kernel
theorem dX5_hadAtFirst_9 : decode cX5_hadAtFirst 9 = .ok (.ireturn, 1) := by decide +kernel
theorem dX5_hadAtFirst_10 : decode cX5_hadAtFirst 10 = .ok (.aload_n 0, 1) := by decide +kernel
theorem dX5_hadAtFirst_11 : decode cX5_hadAtFirst 11 = .ok (.iload_n 1, 1) := by decide +kernel
theorem dX5_hadAtFirst_12 : decode cX5_hadAtFirst 12 = .ok (.iconst 1, 1) := by decide +kernel
theorem dX5_hadAtFirst_13 : decode cX5_hadAtFirst 13 = .ok (.invokevirtual 23, 3) := by decide +kernel
theorem dX5_hadAtFirst_16 : decode cX5_hadAtFirst 16 = .ok (.ifCond .ne 5, 3) := by decide +kernel
theorem dX5_hadAtFirst_19 : decode cX5_hadAtFirst 19 = .ok (.iconst 0, 1) := by decide +kernel
theorem dX5_hadAtFirst_20 : decode cX5_hadAtFirst 20 = .ok (.ireturn, 1) := by decide +kernel
theorem dX5_hadAtFirst_21 : decode cX5_hadAtFirst 21 = .ok (.aload_n 0, 1) := by decide +kernel
theorem dX5_hadAtFirst_22 : decode cX5_hadAtFirst 22 = .ok (.iload_n 1, 1) := by decide +kernel
theorem dX5_hadAtFirst_23 : decode cX5_hadAtFirst 23 = .ok (.iconst 0, 1) := by decide +kernel
theorem dX5_hadAtFirst_24 : decode cX5_hadAtFirst 24 = .ok (.invokevirtual 23, 3) := by decide +kernel
theorem dX5_hadAtFirst_27 : decode cX5_hadAtFirst 27 = .ok (.ifCond .eq 7, 3) := by decide +kernel
theorem dX5_hadAtFirst_30 : decode cX5_hadAtFirst 30 = .ok (.iconst 2, 1) := by decide +kernel
theorem dX5_hadAtFirst_31 : decode cX5_hadAtFirst 31 = .ok (.goto 4, 3) := by decide +kernel
theorem dX5_hadAtFirst_34 : decode cX5_hadAtFirst 34 = .ok (.iconst 1, 1) := by decide +kernel
theorem dX5_hadAtFirst_35 : decode cX5_hadAtFirst 35 = .ok (.ireturn, 1) := by decide +kernel
theorem dX6_init_0 : decode cX6_init 0 = .ok (.aload_n 0, 1) := by decide +kernel
theorem dX6_init_1 : decode cX6_init 1 = .ok (.invokespecial 3, 3) := by decide +kernel
theorem dX6_init_4 : decode cX6_init 4 = .ok (.aload_n 0, 1) := by decide +kernel
theorem dX6_init_5 : decode cX6_init 5 = .ok (.iconst 4, 1) := by decide +kernel
theorem dX6_init_6 : decode cX6_init 6 = .ok (.newarray .int, 2) := by decide +kernel
theorem dX6_init_8 : decode cX6_init 8 = .ok (.putfield 9, 3) := by decide +kernel
theorem dX6_init_11 : decode cX6_init 11 = .ok (.aload_n 0, 1) := by decide +kernel
theorem dX6_init_12 : decode cX6_init 12 = .ok (.iconst 4, 1) := by decide +kernel
theorem dX6_init_13 : decode cX6_init 13 = .ok (.newarray .int, 2) := by decide +kernel
theorem dX6_init_15 : decode cX6_init 15 = .ok (.putfield 15, 3) := by decide +kernel
theorem dX6_init_18 : decode cX6_init 18 = .ok (.return_, 1) := by decide +kernel
theorem dX6_store_0 : decode cX6_store 0 = .ok (.aload_n 1, 1) := by decide +kernel
theorem dX6_store_1 : decode cX6_store 1 = .ok (.getfield 18, 3) := by decide +kernel
theorem dX6_store_4 : decode cX6_store 4 = .ok (.iconst 0, 1) := by decide +kernel
theorem dX6_store_5 : decode cX6_store 5 = .ok (.aload_n 0, 1) := by decide +kernel
theorem dX6_store_6 : decode cX6_store 6 = .ok (.getfield 9, 3) := by decide +kernel
theorem dX6_store_9 : decode cX6_store 9 = .ok (.iconst 0, 1) := by decide +kernel
theorem dX6_store_10 : decode cX6_store 10 = .ok (.iconst 4, 1) := by decide +kernel
theorem dX6_store_11 : decode cX6_store 11 = .ok (.invokestatic 21, 3) := by decide +kernel
theorem dX6_store_14 : decode cX6_store 14 = .ok (.aload_n 1, 1) := by decide +kernel
theorem dX6_store_15 : decode cX6_store 15 = .ok (.getfield 27, 3) := by decide +kernel
theorem dX6_store_18 : decode cX6_store 18 = .ok (.iconst 0, 1) := by decide +kernel
theorem dX6_store_19 : decode cX6_store 19 = .ok (.aload_n 0, 1) := by decide +kernel
theorem dX6_store_20 : decode cX6_store 20 = .ok (.getfield 15, 3) := by decide +kernel
theorem dX6_store_23 : decode cX6_store 23 = .ok (.iconst 0, 1) := by decide +kernel
theorem dX6_store_24 : decode cX6_store 24 = .ok (.iconst 4, 1) := by decide +kernel
theorem dX6_store_25 : decode cX6_store 25 = .ok (.invokestatic 21, 3) := by decide +kernel
theorem dX6_store_28 : decode cX6_store 28 = .ok (.aload_n 0, 1) := by decide +kernel
theorem dX6_store_29 : decode cX6_store 29 = .ok (.iconst 1, 1) := by decide +kernel
theorem dX6_store_30 : decode cX6_store 30 = .ok (.putfield 28, 3) := by decide +kernel
theorem dX6_store_33 : decode cX6_store 33 = .ok (.return_, 1) := by decide +kernel
theorem dX6_restore_0 : decode cX6_restore 0 = .ok (.aload_n 0, 1) := by decide +kernel
theorem dX6_restore_1 : decode cX6_restore 1 = .ok (.getfield 9, 3) := by decide +kernel
theorem dX6_restore_4 : decode cX6_restore 4 = .ok (.iconst 0, 1) := by decide +kernel
theorem dX6_restore_5 : decode cX6_restore 5 = .ok (.aload_n 1, 1) := by decide +kernel
theorem dX6_restore_6 : decode cX6_restore 6 = .ok (.getfield 18, 3) := by decide +kernel
theorem dX6_restore_9 : decode cX6_restore 9 = .ok (.iconst 0, 1) := by decide +kernel
theorem dX6_restore_10 : decode cX6_restore 10 = .ok (.iconst 4, 1) := by decide +kernel
theorem dX6_restore_11 : decode cX6_restore 11 = .ok (.invokestatic 21, 3) := by decide +kernel
theorem dX6_restore_14 : decode cX6_restore 14 = .ok (.aload_n 0, 1) := by decide +kernel
theorem dX6_restore_15 : decode cX6_restore 15 = .ok (.getfield 15, 3) := by decide +kernel
theorem dX6_restore_18 : decode cX6_restore 18 = .ok (.iconst 0, 1) := by decide +kernel
theorem dX6_restore_19 : decode cX6_restore 19 = .ok (.aload_n 1, 1) := by decide +kernel
theorem dX6_restore_20 : decode cX6_restore 20 = .ok (.getfield 27, 3) := by decide +kernel
theorem dX6_restore_23 : decode cX6_restore 23 = .ok (.iconst 0, 1) := by decide +kernel
theorem dX6_restore_24 : decode cX6_restore 24 = .ok (.iconst 4, 1) := by decide +kernel
theorem dX6_restore_25 : decode cX6_restore 25 = .ok (.invokestatic 21, 3) := by decide +kernel
theorem dX6_restore_28 : decode cX6_restore 28 = .ok (.return_, 1) := by decide +kernel
theorem dX7_init_0 : decode cX7_init 0 = .ok (.aload_n 0, 1) := by decide +kernel
theorem dX7_init_1 : decode cX7_init 1 = .ok (.invokespecial 5, 3) := by decide +kernel
theorem dX7_init_4 : decode cX7_init 4 = .ok (.aload_n 0, 1) := by decide +kernel
theorem dX7_init_5 : decode cX7_init 5 = .ok (.bipush 64, 2) := by decide +kernel
theorem dX7_init_7 : decode cX7_init 7 = .ok (.newarray .int, 2) := by decide +kernel
theorem dX7_init_9 : decode cX7_init 9 = .ok (.putfield 11, 3) := by decide +kernel
theorem dX7_init_12 : decode cX7_init 12 = .ok (.return_, 1) := by decide +kernel
theorem dX7_append_0 : decode cX7_append 0 = .ok (.iload_n 1, 1) := by decide +kernel
theorem dX7_append_1 : decode cX7_append 1 = .ok (.iconst 1, 1) := by decide +kernel
theorem dX7_append_2 : decode cX7_append 2 = .ok (.isub, 1) := by decide +kernel
theorem dX7_append_3 : decode cX7_append 3 = .ok (.istore 4, 2) := by decide +kernel
theorem dX7_append_5 : decode cX7_append 5 = .ok (.iload 4, 2) := by decide +kernel
theorem dX7_append_7 : decode cX7_append 7 = .ok (.ifCond .lt 49, 3) := by decide +kernel
theorem dX7_append_10 : decode cX7_append 10 = .ok (.aload_n 0, 1) := by decide +kernel
theorem dX7_append_11 : decode cX7_append 11 = .ok (.getfield 15, 3) := by decide +kernel
theorem dX7_append_14 : decode cX7_append 14 = .ok (.bipush 64, 2) := by decide +kernel
theorem dX7_append_16 : decode cX7_append 16 = .ok (.if_icmp .ge 40, 3) := by decide +kernel
theorem dX7_append_19 : decode cX7_append 19 = .ok (.aload_n 0, 1) := by decide +kernel
theorem dX7_append_20 : decode cX7_append 20 = .ok (.getfield 11, 3) := by decide +kernel
theorem dX7_append_23 : decode cX7_append 23 = .ok (.aload_n 0, 1) := by decide +kernel
theorem dX7_append_24 : decode cX7_append 24 = .ok (.getfield 15, 3) := by decide +kernel
theorem dX7_append_27 : decode cX7_append 27 = .ok (.lload_n 2, 1) := by decide +kernel
theorem dX7_append_28 : decode cX7_append 28 = .ok (.bipush 8, 2) := by decide +kernel
theorem dX7_append_30 : decode cX7_append 30 = .ok (.iload 4, 2) := by decide +kernel
theorem dX7_append_32 : decode cX7_append 32 = .ok (.imul, 1) := by decide +kernel
theorem dX7_append_33 : decode cX7_append 33 = .ok (.lushr, 1) := by decide +kernel
theorem dX7_append_34 : decode cX7_append 34 = .ok (.l2i, 1) := by decide +kernel
theorem dX7_append_35 : decode cX7_append 35 = .ok (.sipush 255, 3) := by decide +kernel
theorem dX7_append_38 : decode cX7_append 38 = .ok (.iand, 1) := by decide +kernel
theorem dX7_append_39 : decode cX7_append 39 = .ok (.iastore, 1) := by decide +kernel
theorem dX7_append_40 : decode cX7_append 40 = .ok (.aload_n 0, 1) := by decide +kernel
theorem dX7_append_41 : decode cX7_append 41 = .ok (.dup, 1) := by decide +kernel
theorem dX7_append_42 : decode cX7_append 42 = .ok (.getfield 15, 3) := by decide +kernel
theorem dX7_append_45 : decode cX7_append 45 = .ok (.iconst 1, 1) := by decide +kernel
theorem dX7_append_46 : decode cX7_append 46 = .ok (.iadd, 1) := by decide +kernel
theorem dX7_append_47 : decode cX7_append 47 = .ok (.putfield 15, 3) := by decide +kernel
theorem dX7_append_50 : decode cX7_append 50 = .ok (.iinc 4 (-1), 3) := by decide +kernel
theorem dX7_append_53 : decode cX7_append 53 = .ok (.goto (-48), 3) := by decide +kernel
theorem dX7_append_56 : decode cX7_append 56 = .ok (.return_, 1) := by decide +kernel
theorem dX7_readInto_0 : decode cX7_readInto 0 = .ok (.aload_n 1, 1) := by decide +kernel
theorem dX7_readInto_1 : decode cX7_readInto 1 = .ok (.iconst 0, 1) := by decide +kernel
theorem dX7_readInto_2 : decode cX7_readInto 2 = .ok (.putfield 19, 3) := by decide +kernel
theorem dX7_readInto_5 : decode cX7_readInto 5 = .ok (.bipush 8, 2) := by decide +kernel
theorem dX7_readInto_7 : decode cX7_readInto 7 = .ok (.istore_n 2, 1) := by decide +kernel
theorem dX7_readInto_8 : decode cX7_readInto 8 = .ok (.iconst 0, 1) := by decide +kernel
theorem dX7_readInto_9 : decode cX7_readInto 9 = .ok (.istore_n 3, 1) := by decide +kernel
theorem dX7_readInto_10 : decode cX7_readInto 10 = .ok (.iload_n 3, 1) := by decide +kernel
theorem dX7_readInto_11 : decode cX7_readInto 11 = .ok (.aload_n 0, 1) := by decide +kernel
theorem dX7_readInto_12 : decode cX7_readInto 12 = .ok (.getfield 15, 3) := by decide +kernel
theorem dX7_readInto_15 : decode cX7_readInto 15 = .ok (.if_icmp .ge 29, 3) := by decide +kernel
theorem dX7_readInto_18 : decode cX7_readInto 18 = .ok (.aload_n 1, 1) := by decide +kernel
theorem dX7_readInto_19 : decode cX7_readInto 19 = .ok (.iload_n 2, 1) := by decide +kernel
theorem dX7_readInto_20 : decode cX7_readInto 20 = .ok (.aload_n 0, 1) := by decide +kernel
theorem dX7_readInto_21 : decode cX7_readInto 21 = .ok (.getfield 11, 3) := by decide +kernel
theorem dX7_readInto_24 : decode cX7_readInto 24 = .ok (.iload_n 3, 1) := by decide +kernel
theorem dX7_readInto_25 : decode cX7_readInto 25 = .ok (.iaload, 1) := by decide +kernel
theorem dX7_readInto_26 : decode cX7_readInto 26 = .ok (.invokestatic 24, 3) := by decide +kernel
theorem dX7_readInto_29 : decode cX7_readInto 29 = .ok (.istore_n 2, 1) := by decide +kernel
theorem dX7_readInto_30 : decode cX7_readInto 30 = .ok (.iload_n 2, 1) := by decide +kernel
theorem dX7_readInto_31 : decode cX7_readInto 31 = .ok (.bipush (-9), 2) := by decide +kernel
theorem dX7_readInto_33 : decode cX7_readInto 33 = .ok (.if_icmp .ne 5, 3) := by decide +kernel
theorem dX7_readInto_36 : decode cX7_readInto 36 = .ok (.iload_n 3, 1) := by decide +kernel
theorem dX7_readInto_37 : decode cX7_readInto 37 = .ok (.ireturn, 1) := by decide +kernel
theorem dX7_readInto_38 : decode cX7_readInto 38 = .ok (.iinc 3 1, 3) := by decide +kernel
theorem dX7_readInto_41 : decode cX7_readInto 41 = .ok (.goto (-31), 3) := by decide +kernel
theorem dX7_readInto_44 : decode cX7_readInto 44 = .ok (.iload_n 2, 1) := by decide +kernel
theorem dX7_readInto_45 : decode cX7_readInto 45 = .ok (.bipush 8, 2) := by decide +kernel
theorem dX7_readInto_47 : decode cX7_readInto 47 = .ok (.if_icmp .ne 8, 3) := by decide +kernel
theorem dX7_readInto_50 : decode cX7_readInto 50 = .ok (.bipush (-9), 2) := by decide +kernel
theorem dX7_readInto_52 : decode cX7_readInto 52 = .ok (.goto 7, 3) := by decide +kernel
theorem dX7_readInto_55 : decode cX7_readInto 55 = .ok (.aload_n 0, 1) := by decide +kernel
theorem dX7_readInto_56 : decode cX7_readInto 56 = .ok (.getfield 15, 3) := by decide +kernel
theorem dX7_readInto_59 : decode cX7_readInto 59 = .ok (.ireturn, 1) := by decide +kernel
theorem dX7_take_0 : decode cX7_take 0 = .ok (.iload_n 1, 1) := by decide +kernel
theorem dX7_take_1 : decode cX7_take 1 = .ok (.bipush 8, 2) := by decide +kernel
theorem dX7_take_3 : decode cX7_take 3 = .ok (.if_icmp .ne 23, 3) := by decide +kernel
theorem dX7_take_6 : decode cX7_take 6 = .ok (.iload_n 2, 1) := by decide +kernel
theorem dX7_take_7 : decode cX7_take 7 = .ok (.bipush 80, 2) := by decide +kernel
theorem dX7_take_9 : decode cX7_take 9 = .ok (.if_icmp .ne 17, 3) := by decide +kernel
theorem dX7_take_12 : decode cX7_take 12 = .ok (.aload_n 0, 1) := by decide +kernel
theorem dX7_take_13 : decode cX7_take 13 = .ok (.invokevirtual 28, 3) := by decide +kernel
theorem dX7_take_16 : decode cX7_take 16 = .ok (.ifCond .eq 7, 3) := by decide +kernel
theorem dX7_take_19 : decode cX7_take 19 = .ok (.iconst 1, 1) := by decide +kernel
theorem dX7_take_20 : decode cX7_take 20 = .ok (.goto 5, 3) := by decide +kernel
theorem dX7_take_23 : decode cX7_take 23 = .ok (.bipush (-9), 2) := by decide +kernel
theorem dX7_take_25 : decode cX7_take 25 = .ok (.ireturn, 1) := by decide +kernel
theorem dX7_take_26 : decode cX7_take 26 = .ok (.aload_n 0, 1) := by decide +kernel
theorem dX7_take_27 : decode cX7_take 27 = .ok (.getfield 19, 3) := by decide +kernel
theorem dX7_take_30 : decode cX7_take 30 = .ok (.iconst 1, 1) := by decide +kernel
theorem dX7_take_31 : decode cX7_take 31 = .ok (.isub, 1) := by decide +kernel
theorem dX7_take_32 : decode cX7_take 32 = .ok (.istore_n 3, 1) := by decide +kernel
theorem dX7_take_33 : decode cX7_take 33 = .ok (.iload_n 3, 1) := by decide +kernel
theorem dX7_take_34 : decode cX7_take 34 = .ok (.ifCond .ge 6, 3) := by decide +kernel
theorem dX7_take_37 : decode cX7_take 37 = .ok (.bipush (-9), 2) := by decide +kernel
theorem dX7_take_39 : decode cX7_take 39 = .ok (.ireturn, 1) := by decide +kernel
theorem dX7_take_40 : decode cX7_take 40 = .ok (.iload_n 1, 1) := by decide +kernel
theorem dX7_take_41 : decode cX7_take 41 = .ok (.iconst 1, 1) := by decide +kernel
theorem dX7_take_42 : decode cX7_take 42 = .ok (.if_icmp .ne 10, 3) := by decide +kernel
theorem dX7_take_45 : decode cX7_take 45 = .ok (.aload_n 0, 1) := by decide +kernel
theorem dX7_take_46 : decode cX7_take 46 = .ok (.iload_n 3, 1) := by decide +kernel
theorem dX7_take_47 : decode cX7_take 47 = .ok (.iload_n 2, 1) := by decide +kernel
theorem dX7_take_48 : decode cX7_take 48 = .ok (.invokestatic 32, 3) := by decide +kernel
theorem dX7_take_51 : decode cX7_take 51 = .ok (.ireturn, 1) := by decide +kernel
theorem dX7_take_52 : decode cX7_take 52 = .ok (.iload_n 1, 1) := by decide +kernel
theorem dX7_take_53 : decode cX7_take 53 = .ok (.bipush 8, 2) := by decide +kernel
theorem dX7_take_55 : decode cX7_take 55 = .ok (.if_icmp .ge 11, 3) := by decide +kernel
theorem dX7_take_58 : decode cX7_take 58 = .ok (.aload_n 0, 1) := by decide +kernel
theorem dX7_take_59 : decode cX7_take 59 = .ok (.iload_n 3, 1) := by decide +kernel
theorem dX7_take_60 : decode cX7_take 60 = .ok (.iload_n 1, 1) := by decide +kernel
theorem dX7_take_61 : decode cX7_take 61 = .ok (.iload_n 2, 1) := by decide +kernel
theorem dX7_take_62 : decode cX7_take 62 = .ok (.invokestatic 35, 3) := by decide +kernel
theorem dX7_take_65 : decode cX7_take 65 = .ok (.ireturn, 1) := by decide +kernel
theorem dX7_take_66 : decode cX7_take 66 = .ok (.aload_n 0, 1) := by decide +kernel
theorem dX7_take_67 : decode cX7_take 67 = .ok (.iload_n 3, 1) := by decide +kernel
theorem dX7_take_68 : decode cX7_take 68 = .ok (.iload_n 2, 1) := by decide +kernel
theorem dX7_take_69 : decode cX7_take 69 = .ok (.invokestatic 39, 3) := by decide +kernel
theorem dX7_take_72 : decode cX7_take 72 = .ok (.ireturn, 1) := by decide +kernel
theorem dX7_takeThing_0 : decode cX7_takeThing 0 = .ok (.iload_n 2, 1) := by decide +kernel
theorem dX7_takeThing_1 : decode cX7_takeThing 1 = .ok (.bipush 45, 2) := by decide +kernel
theorem dX7_takeThing_3 : decode cX7_takeThing 3 = .ok (.if_icmp .ne 5, 3) := by decide +kernel
theorem dX7_takeThing_6 : decode cX7_takeThing 6 = .ok (.iconst 2, 1) := by decide +kernel
theorem dX7_takeThing_7 : decode cX7_takeThing 7 = .ok (.ireturn, 1) := by decide +kernel
theorem dX7_takeThing_8 : decode cX7_takeThing 8 = .ok (.iload_n 2, 1) := by decide +kernel
theorem dX7_takeThing_9 : decode cX7_takeThing 9 = .ok (.bipush 97, 2) := by decide +kernel
theorem dX7_takeThing_11 : decode cX7_takeThing 11 = .ok (.isub, 1) := by decide +kernel
theorem dX7_takeThing_12 : decode cX7_takeThing 12 = .ok (.invokestatic 42, 3) := by decide +kernel
theorem dX7_takeThing_15 : decode cX7_takeThing 15 = .ok (.ifCond .ne 6, 3) := by decide +kernel
theorem dX7_takeThing_18 : decode cX7_takeThing 18 = .ok (.bipush (-9), 2) := by decide +kernel
theorem dX7_takeThing_20 : decode cX7_takeThing 20 = .ok (.ireturn, 1) := by decide +kernel
theorem dX7_takeThing_21 : decode cX7_takeThing 21 = .ok (.aload_n 0, 1) := by decide +kernel
theorem dX7_takeThing_22 : decode cX7_takeThing 22 = .ok (.getfield 46, 3) := by decide +kernel
theorem dX7_takeThing_25 : decode cX7_takeThing 25 = .ok (.iload_n 1, 1) := by decide +kernel
theorem dX7_takeThing_26 : decode cX7_takeThing 26 = .ok (.iload_n 2, 1) := by decide +kernel
theorem dX7_takeThing_27 : decode cX7_takeThing 27 = .ok (.bipush 97, 2) := by decide +kernel
theorem dX7_takeThing_29 : decode cX7_takeThing 29 = .ok (.isub, 1) := by decide +kernel
theorem dX7_takeThing_30 : decode cX7_takeThing 30 = .ok (.iastore, 1) := by decide +kernel
theorem dX7_takeThing_31 : decode cX7_takeThing 31 = .ok (.aload_n 0, 1) := by decide +kernel
theorem dX7_takeThing_32 : decode cX7_takeThing 32 = .ok (.getfield 49, 3) := by decide +kernel
theorem dX7_takeThing_35 : decode cX7_takeThing 35 = .ok (.iload_n 1, 1) := by decide +kernel
theorem dX7_takeThing_36 : decode cX7_takeThing 36 = .ok (.iload_n 2, 1) := by decide +kernel
theorem dX7_takeThing_37 : decode cX7_takeThing 37 = .ok (.bipush 97, 2) := by decide +kernel
theorem dX7_takeThing_39 : decode cX7_takeThing 39 = .ok (.isub, 1) := by decide +kernel
theorem dX7_takeThing_40 : decode cX7_takeThing 40 = .ok (.invokestatic 52, 3) := by decide +kernel
theorem dX7_takeThing_43 : decode cX7_takeThing 43 = .ok (.iastore, 1) := by decide +kernel
theorem dX7_takeThing_44 : decode cX7_takeThing 44 = .ok (.iconst 2, 1) := by decide +kernel
theorem dX7_takeThing_45 : decode cX7_takeThing 45 = .ok (.ireturn, 1) := by decide +kernel
theorem dX7_takeWorth_0 : decode cX7_takeWorth 0 = .ok (.iload_n 3, 1) := by decide +kernel
theorem dX7_takeWorth_1 : decode cX7_takeWorth 1 = .ok (.bipush 48, 2) := by decide +kernel
theorem dX7_takeWorth_3 : decode cX7_takeWorth 3 = .ok (.if_icmp .lt 9, 3) := by decide +kernel
theorem dX7_takeWorth_6 : decode cX7_takeWorth 6 = .ok (.iload_n 3, 1) := by decide +kernel
theorem dX7_takeWorth_7 : decode cX7_takeWorth 7 = .ok (.bipush 57, 2) := by decide +kernel
theorem dX7_takeWorth_9 : decode cX7_takeWorth 9 = .ok (.if_icmp .le 6, 3) := by decide +kernel
theorem dX7_takeWorth_12 : decode cX7_takeWorth 12 = .ok (.bipush (-9), 2) := by decide +kernel
theorem dX7_takeWorth_14 : decode cX7_takeWorth 14 = .ok (.ireturn, 1) := by decide +kernel
theorem dX7_takeWorth_15 : decode cX7_takeWorth 15 = .ok (.aload_n 0, 1) := by decide +kernel
theorem dX7_takeWorth_16 : decode cX7_takeWorth 16 = .ok (.iload_n 1, 1) := by decide +kernel
theorem dX7_takeWorth_17 : decode cX7_takeWorth 17 = .ok (.iload_n 2, 1) := by decide +kernel
theorem dX7_takeWorth_18 : decode cX7_takeWorth 18 = .ok (.iconst 2, 1) := by decide +kernel
theorem dX7_takeWorth_19 : decode cX7_takeWorth 19 = .ok (.isub, 1) := by decide +kernel
theorem dX7_takeWorth_20 : decode cX7_takeWorth 20 = .ok (.iload_n 3, 1) := by decide +kernel
theorem dX7_takeWorth_21 : decode cX7_takeWorth 21 = .ok (.bipush 48, 2) := by decide +kernel
theorem dX7_takeWorth_23 : decode cX7_takeWorth 23 = .ok (.isub, 1) := by decide +kernel
theorem dX7_takeWorth_24 : decode cX7_takeWorth 24 = .ok (.invokevirtual 56, 3) := by decide +kernel
theorem dX7_takeWorth_27 : decode cX7_takeWorth 27 = .ok (.iload_n 2, 1) := by decide +kernel
theorem dX7_takeWorth_28 : decode cX7_takeWorth 28 = .ok (.iconst 1, 1) := by decide +kernel
theorem dX7_takeWorth_29 : decode cX7_takeWorth 29 = .ok (.iadd, 1) := by decide +kernel
theorem dX7_takeWorth_30 : decode cX7_takeWorth 30 = .ok (.ireturn, 1) := by decide +kernel
theorem dX7_takeKnown_0 : decode cX7_takeKnown 0 = .ok (.aload_n 0, 1) := by decide +kernel
theorem dX7_takeKnown_1 : decode cX7_takeKnown 1 = .ok (.iload_n 1, 1) := by decide +kernel
theorem dX7_takeKnown_2 : decode cX7_takeKnown 2 = .ok (.iload_n 2, 1) := by decide +kernel
theorem dX7_takeKnown_3 : decode cX7_takeKnown 3 = .ok (.bipush 97, 2) := by decide +kernel
theorem dX7_takeKnown_5 : decode cX7_takeKnown 5 = .ok (.isub, 1) := by decide +kernel
theorem dX7_takeKnown_6 : decode cX7_takeKnown 6 = .ok (.invokevirtual 60, 3) := by decide +kernel
theorem dX7_takeKnown_9 : decode cX7_takeKnown 9 = .ok (.ifCond .ne 6, 3) := by decide +kernel
theorem dX7_takeKnown_12 : decode cX7_takeKnown 12 = .ok (.bipush (-9), 2) := by decide +kernel
theorem dX7_takeKnown_14 : decode cX7_takeKnown 14 = .ok (.ireturn, 1) := by decide +kernel
theorem dX7_takeKnown_15 : decode cX7_takeKnown 15 = .ok (.aload_n 0, 1) := by decide +kernel
theorem dX7_takeKnown_16 : decode cX7_takeKnown 16 = .ok (.getfield 49, 3) := by decide +kernel
theorem dX7_takeKnown_19 : decode cX7_takeKnown 19 = .ok (.iload_n 1, 1) := by decide +kernel
theorem dX7_takeKnown_20 : decode cX7_takeKnown 20 = .ok (.dup2, 1) := by decide +kernel
theorem dX7_takeKnown_21 : decode cX7_takeKnown 21 = .ok (.iaload, 1) := by decide +kernel
theorem dX7_takeKnown_22 : decode cX7_takeKnown 22 = .ok (.iload_n 2, 1) := by decide +kernel
theorem dX7_takeKnown_23 : decode cX7_takeKnown 23 = .ok (.bipush 97, 2) := by decide +kernel
theorem dX7_takeKnown_25 : decode cX7_takeKnown 25 = .ok (.isub, 1) := by decide +kernel
theorem dX7_takeKnown_26 : decode cX7_takeKnown 26 = .ok (.invokestatic 52, 3) := by decide +kernel
theorem dX7_takeKnown_29 : decode cX7_takeKnown 29 = .ok (.ior, 1) := by decide +kernel
theorem dX7_takeKnown_30 : decode cX7_takeKnown 30 = .ok (.iastore, 1) := by decide +kernel
theorem dX7_takeKnown_31 : decode cX7_takeKnown 31 = .ok (.bipush 8, 2) := by decide +kernel
theorem dX7_takeKnown_33 : decode cX7_takeKnown 33 = .ok (.ireturn, 1) := by decide +kernel
theorem dX8_init_0 : decode cX8_init 0 = .ok (.aload_n 0, 1) := by decide +kernel
theorem dX8_init_1 : decode cX8_init 1 = .ok (.invokespecial 3, 3) := by decide +kernel
theorem dX8_init_4 : decode cX8_init 4 = .ok (.return_, 1) := by decide +kernel
theorem dX8_play_0 : decode cX8_play 0 = .ok (.aload_n 0, 1) := by decide +kernel
theorem dX8_play_1 : decode cX8_play 1 = .ok (.bipush (-9), 2) := by decide +kernel
theorem dX8_play_3 : decode cX8_play 3 = .ok (.putfield 9, 3) := by decide +kernel
theorem dX8_play_6 : decode cX8_play 6 = .ok (.aload_n 0, 1) := by decide +kernel
theorem dX8_play_7 : decode cX8_play 7 = .ok (.aload_n 0, 1) := by decide +kernel
theorem dX8_play_8 : decode cX8_play 8 = .ok (.aload_n 1, 1) := by decide +kernel
theorem dX8_play_9 : decode cX8_play 9 = .ok (.iconst 0, 1) := by decide +kernel
theorem dX8_play_10 : decode cX8_play 10 = .ok (.iload_n 2, 1) := by decide +kernel
theorem dX8_play_11 : decode cX8_play 11 = .ok (.invokestatic 15, 3) := by decide +kernel
theorem dX8_play_14 : decode cX8_play 14 = .ok (.putfield 19, 3) := by decide +kernel
theorem dX8_play_17 : decode cX8_play 17 = .ok (.return_, 1) := by decide +kernel
theorem dX8_holdsInTheEnd_0 : decode cX8_holdsInTheEnd 0 = .ok (.aload_n 0, 1) := by decide +kernel
theorem dX8_holdsInTheEnd_1 : decode cX8_holdsInTheEnd 1 = .ok (.getfield 19, 3) := by decide +kernel
theorem dX8_holdsInTheEnd_4 : decode cX8_holdsInTheEnd 4 = .ok (.iload_n 1, 1) := by decide +kernel
theorem dX8_holdsInTheEnd_5 : decode cX8_holdsInTheEnd 5 = .ok (.invokestatic 22, 3) := by decide +kernel
theorem dX8_holdsInTheEnd_8 : decode cX8_holdsInTheEnd 8 = .ok (.ireturn, 1) := by decide +kernel
theorem dX8_bestEnd_0 : decode cX8_bestEnd 0 = .ok (.iload_n 2, 1) := by decide +kernel
theorem dX8_bestEnd_1 : decode cX8_bestEnd 1 = .ok (.iload_n 3, 1) := by decide +kernel
theorem dX8_bestEnd_2 : decode cX8_bestEnd 2 = .ok (.if_icmp .ge 17, 3) := by decide +kernel
theorem dX8_bestEnd_5 : decode cX8_bestEnd 5 = .ok (.iload_n 2, 1) := by decide +kernel
theorem dX8_bestEnd_6 : decode cX8_bestEnd 6 = .ok (.bipush 6, 2) := by decide +kernel
theorem dX8_bestEnd_8 : decode cX8_bestEnd 8 = .ok (.if_icmp .ge 11, 3) := by decide +kernel
theorem dX8_bestEnd_11 : decode cX8_bestEnd 11 = .ok (.aload_n 1, 1) := by decide +kernel
theorem dX8_bestEnd_12 : decode cX8_bestEnd 12 = .ok (.getfield 26, 3) := by decide +kernel
theorem dX8_bestEnd_15 : decode cX8_bestEnd 15 = .ok (.iconst 1, 1) := by decide +kernel
theorem dX8_bestEnd_16 : decode cX8_bestEnd 16 = .ok (.if_icmp .ge 8, 3) := by decide +kernel
theorem dX8_bestEnd_19 : decode cX8_bestEnd 19 = .ok (.aload_n 1, 1) := by decide +kernel
theorem dX8_bestEnd_20 : decode cX8_bestEnd 20 = .ok (.invokestatic 31, 3) := by decide +kernel
theorem dX8_bestEnd_23 : decode cX8_bestEnd 23 = .ok (.ireturn, 1) := by decide +kernel
theorem dX8_bestEnd_24 : decode cX8_bestEnd 24 = .ok (.iload_n 2, 1) := by decide +kernel
theorem dX8_bestEnd_25 : decode cX8_bestEnd 25 = .ok (.aload_n 1, 1) := by decide +kernel
theorem dX8_bestEnd_26 : decode cX8_bestEnd 26 = .ok (.getfield 26, 3) := by decide +kernel
theorem dX8_bestEnd_29 : decode cX8_bestEnd 29 = .ok (.irem, 1) := by decide +kernel
theorem dX8_bestEnd_30 : decode cX8_bestEnd 30 = .ok (.istore 4, 2) := by decide +kernel
theorem dX8_bestEnd_32 : decode cX8_bestEnd 32 = .ok (.aload_n 0, 1) := by decide +kernel
theorem dX8_bestEnd_33 : decode cX8_bestEnd 33 = .ok (.aload_n 1, 1) := by decide +kernel
theorem dX8_bestEnd_34 : decode cX8_bestEnd 34 = .ok (.iload_n 2, 1) := by decide +kernel
theorem dX8_bestEnd_35 : decode cX8_bestEnd 35 = .ok (.iconst 1, 1) := by decide +kernel
theorem dX8_bestEnd_36 : decode cX8_bestEnd 36 = .ok (.iadd, 1) := by decide +kernel
theorem dX8_bestEnd_37 : decode cX8_bestEnd 37 = .ok (.iload_n 3, 1) := by decide +kernel
theorem dX8_bestEnd_38 : decode cX8_bestEnd 38 = .ok (.invokestatic 15, 3) := by decide +kernel
theorem dX8_bestEnd_41 : decode cX8_bestEnd 41 = .ok (.istore 5, 2) := by decide +kernel
theorem dX8_bestEnd_43 : decode cX8_bestEnd 43 = .ok (.bipush (-9), 2) := by decide +kernel
theorem dX8_bestEnd_45 : decode cX8_bestEnd 45 = .ok (.istore 6, 2) := by decide +kernel
theorem dX8_bestEnd_47 : decode cX8_bestEnd 47 = .ok (.iconst 0, 1) := by decide +kernel
theorem dX8_bestEnd_48 : decode cX8_bestEnd 48 = .ok (.istore 7, 2) := by decide +kernel
theorem dX8_bestEnd_50 : decode cX8_bestEnd 50 = .ok (.iload 7, 2) := by decide +kernel
theorem dX8_bestEnd_52 : decode cX8_bestEnd 52 = .ok (.aload_n 1, 1) := by decide +kernel
theorem dX8_bestEnd_53 : decode cX8_bestEnd 53 = .ok (.getfield 26, 3) := by decide +kernel
theorem dX8_bestEnd_56 : decode cX8_bestEnd 56 = .ok (.if_icmp .ge 92, 3) := by decide +kernel
theorem dX8_bestEnd_59 : decode cX8_bestEnd 59 = .ok (.iload 7, 2) := by decide +kernel
theorem dX8_bestEnd_61 : decode cX8_bestEnd 61 = .ok (.iload 4, 2) := by decide +kernel
theorem dX8_bestEnd_63 : decode cX8_bestEnd 63 = .ok (.if_icmp .eq 79, 3) := by decide +kernel
theorem dX8_bestEnd_66 : decode cX8_bestEnd 66 = .ok (.aload_n 1, 1) := by decide +kernel
theorem dX8_bestEnd_67 : decode cX8_bestEnd 67 = .ok (.iload 4, 2) := by decide +kernel
theorem dX8_bestEnd_69 : decode cX8_bestEnd 69 = .ok (.iload 7, 2) := by decide +kernel
theorem dX8_bestEnd_71 : decode cX8_bestEnd 71 = .ok (.invokevirtual 35, 3) := by decide +kernel
theorem dX8_bestEnd_74 : decode cX8_bestEnd 74 = .ok (.ifCond .eq 68, 3) := by decide +kernel
theorem dX8_bestEnd_77 : decode cX8_bestEnd 77 = .ok (.aload_n 1, 1) := by decide +kernel
theorem dX8_bestEnd_78 : decode cX8_bestEnd 78 = .ok (.iload 4, 2) := by decide +kernel
theorem dX8_bestEnd_80 : decode cX8_bestEnd 80 = .ok (.iload 7, 2) := by decide +kernel
theorem dX8_bestEnd_82 : decode cX8_bestEnd 82 = .ok (.invokestatic 39, 3) := by decide +kernel
theorem dX8_bestEnd_85 : decode cX8_bestEnd 85 = .ok (.ifCond .eq 57, 3) := by decide +kernel
theorem dX8_bestEnd_88 : decode cX8_bestEnd 88 = .ok (.aload_n 1, 1) := by decide +kernel
theorem dX8_bestEnd_89 : decode cX8_bestEnd 89 = .ok (.iload 4, 2) := by decide +kernel
theorem dX8_bestEnd_91 : decode cX8_bestEnd 91 = .ok (.iload 7, 2) := by decide +kernel
theorem dX8_bestEnd_93 : decode cX8_bestEnd 93 = .ok (.invokevirtual 43, 3) := by decide +kernel
theorem dX8_bestEnd_96 : decode cX8_bestEnd 96 = .ok (.aload_n 0, 1) := by decide +kernel
theorem dX8_bestEnd_97 : decode cX8_bestEnd 97 = .ok (.aload_n 1, 1) := by decide +kernel
theorem dX8_bestEnd_98 : decode cX8_bestEnd 98 = .ok (.iload_n 2, 1) := by decide +kernel
theorem dX8_bestEnd_99 : decode cX8_bestEnd 99 = .ok (.iconst 1, 1) := by decide +kernel
theorem dX8_bestEnd_100 : decode cX8_bestEnd 100 = .ok (.iadd, 1) := by decide +kernel
theorem dX8_bestEnd_101 : decode cX8_bestEnd 101 = .ok (.iload_n 3, 1) := by decide +kernel
theorem dX8_bestEnd_102 : decode cX8_bestEnd 102 = .ok (.invokestatic 15, 3) := by decide +kernel
theorem dX8_bestEnd_105 : decode cX8_bestEnd 105 = .ok (.istore 8, 2) := by decide +kernel
theorem dX8_bestEnd_107 : decode cX8_bestEnd 107 = .ok (.aload_n 1, 1) := by decide +kernel
theorem dX8_bestEnd_108 : decode cX8_bestEnd 108 = .ok (.iload 4, 2) := by decide +kernel
theorem dX8_bestEnd_110 : decode cX8_bestEnd 110 = .ok (.iload 7, 2) := by decide +kernel
theorem dX8_bestEnd_112 : decode cX8_bestEnd 112 = .ok (.invokevirtual 47, 3) := by decide +kernel
theorem dX8_bestEnd_115 : decode cX8_bestEnd 115 = .ok (.aload_n 1, 1) := by decide +kernel
theorem dX8_bestEnd_116 : decode cX8_bestEnd 116 = .ok (.iload 8, 2) := by decide +kernel
theorem dX8_bestEnd_118 : decode cX8_bestEnd 118 = .ok (.iload 4, 2) := by decide +kernel
theorem dX8_bestEnd_120 : decode cX8_bestEnd 120 = .ok (.invokestatic 50, 3) := by decide +kernel
theorem dX8_bestEnd_123 : decode cX8_bestEnd 123 = .ok (.aload_n 1, 1) := by decide +kernel
theorem dX8_bestEnd_124 : decode cX8_bestEnd 124 = .ok (.iload 5, 2) := by decide +kernel
theorem dX8_bestEnd_126 : decode cX8_bestEnd 126 = .ok (.iload 4, 2) := by decide +kernel
theorem dX8_bestEnd_128 : decode cX8_bestEnd 128 = .ok (.invokestatic 50, 3) := by decide +kernel
theorem dX8_bestEnd_131 : decode cX8_bestEnd 131 = .ok (.if_icmp .le 11, 3) := by decide +kernel
theorem dX8_bestEnd_134 : decode cX8_bestEnd 134 = .ok (.iload 8, 2) := by decide +kernel
theorem dX8_bestEnd_136 : decode cX8_bestEnd 136 = .ok (.istore 5, 2) := by decide +kernel
theorem dX8_bestEnd_138 : decode cX8_bestEnd 138 = .ok (.iload 7, 2) := by decide +kernel
theorem dX8_bestEnd_140 : decode cX8_bestEnd 140 = .ok (.istore 6, 2) := by decide +kernel
theorem dX8_bestEnd_142 : decode cX8_bestEnd 142 = .ok (.iinc 7 1, 3) := by decide +kernel
theorem dX8_bestEnd_145 : decode cX8_bestEnd 145 = .ok (.goto (-95), 3) := by decide +kernel
theorem dX8_bestEnd_148 : decode cX8_bestEnd 148 = .ok (.iload_n 2, 1) := by decide +kernel
theorem dX8_bestEnd_149 : decode cX8_bestEnd 149 = .ok (.ifCond .ne 9, 3) := by decide +kernel
theorem dX8_bestEnd_152 : decode cX8_bestEnd 152 = .ok (.aload_n 0, 1) := by decide +kernel
theorem dX8_bestEnd_153 : decode cX8_bestEnd 153 = .ok (.iload 6, 2) := by decide +kernel
theorem dX8_bestEnd_155 : decode cX8_bestEnd 155 = .ok (.putfield 9, 3) := by decide +kernel
theorem dX8_bestEnd_158 : decode cX8_bestEnd 158 = .ok (.iload 5, 2) := by decide +kernel
theorem dX8_bestEnd_160 : decode cX8_bestEnd 160 = .ok (.ireturn, 1) := by decide +kernel
theorem dX8_agrees_0 : decode cX8_agrees 0 = .ok (.aload_n 0, 1) := by decide +kernel
theorem dX8_agrees_1 : decode cX8_agrees 1 = .ok (.iload_n 2, 1) := by decide +kernel
theorem dX8_agrees_2 : decode cX8_agrees 2 = .ok (.aload_n 0, 1) := by decide +kernel
theorem dX8_agrees_3 : decode cX8_agrees 3 = .ok (.getfield 54, 3) := by decide +kernel
theorem dX8_agrees_6 : decode cX8_agrees 6 = .ok (.iload_n 1, 1) := by decide +kernel
theorem dX8_agrees_7 : decode cX8_agrees 7 = .ok (.iaload, 1) := by decide +kernel
theorem dX8_agrees_8 : decode cX8_agrees 8 = .ok (.invokevirtual 58, 3) := by decide +kernel
theorem dX8_agrees_11 : decode cX8_agrees 11 = .ok (.aload_n 0, 1) := by decide +kernel
theorem dX8_agrees_12 : decode cX8_agrees 12 = .ok (.iload_n 2, 1) := by decide +kernel
theorem dX8_agrees_13 : decode cX8_agrees 13 = .ok (.aload_n 0, 1) := by decide +kernel
theorem dX8_agrees_14 : decode cX8_agrees 14 = .ok (.getfield 54, 3) := by decide +kernel
theorem dX8_agrees_17 : decode cX8_agrees 17 = .ok (.iload_n 2, 1) := by decide +kernel
theorem dX8_agrees_18 : decode cX8_agrees 18 = .ok (.iaload, 1) := by decide +kernel
theorem dX8_agrees_19 : decode cX8_agrees 19 = .ok (.invokevirtual 58, 3) := by decide +kernel
theorem dX8_agrees_22 : decode cX8_agrees 22 = .ok (.if_icmp .lt 7, 3) := by decide +kernel
theorem dX8_agrees_25 : decode cX8_agrees 25 = .ok (.iconst 1, 1) := by decide +kernel
theorem dX8_agrees_26 : decode cX8_agrees 26 = .ok (.goto 4, 3) := by decide +kernel
theorem dX8_agrees_29 : decode cX8_agrees 29 = .ok (.iconst 0, 1) := by decide +kernel
theorem dX8_agrees_30 : decode cX8_agrees 30 = .ok (.ireturn, 1) := by decide +kernel
theorem dX8_allThings_0 : decode cX8_allThings 0 = .ok (.iconst 0, 1) := by decide +kernel
theorem dX8_allThings_1 : decode cX8_allThings 1 = .ok (.istore_n 1, 1) := by decide +kernel
theorem dX8_allThings_2 : decode cX8_allThings 2 = .ok (.iconst 0, 1) := by decide +kernel
theorem dX8_allThings_3 : decode cX8_allThings 3 = .ok (.istore_n 2, 1) := by decide +kernel
theorem dX8_allThings_4 : decode cX8_allThings 4 = .ok (.iload_n 2, 1) := by decide +kernel
theorem dX8_allThings_5 : decode cX8_allThings 5 = .ok (.aload_n 0, 1) := by decide +kernel
theorem dX8_allThings_6 : decode cX8_allThings 6 = .ok (.getfield 26, 3) := by decide +kernel
theorem dX8_allThings_9 : decode cX8_allThings 9 = .ok (.if_icmp .ge 40, 3) := by decide +kernel
theorem dX8_allThings_12 : decode cX8_allThings 12 = .ok (.aload_n 0, 1) := by decide +kernel
theorem dX8_allThings_13 : decode cX8_allThings 13 = .ok (.getfield 54, 3) := by decide +kernel
theorem dX8_allThings_16 : decode cX8_allThings 16 = .ok (.iload_n 2, 1) := by decide +kernel
theorem dX8_allThings_17 : decode cX8_allThings 17 = .ok (.iaload, 1) := by decide +kernel
theorem dX8_allThings_18 : decode cX8_allThings 18 = .ok (.bipush (-9), 2) := by decide +kernel
theorem dX8_allThings_20 : decode cX8_allThings 20 = .ok (.if_icmp .ne 8, 3) := by decide +kernel
theorem dX8_allThings_23 : decode cX8_allThings 23 = .ok (.bipush 7, 2) := by decide +kernel
theorem dX8_allThings_25 : decode cX8_allThings 25 = .ok (.goto 9, 3) := by decide +kernel
theorem dX8_allThings_28 : decode cX8_allThings 28 = .ok (.aload_n 0, 1) := by decide +kernel
theorem dX8_allThings_29 : decode cX8_allThings 29 = .ok (.getfield 54, 3) := by decide +kernel
theorem dX8_allThings_32 : decode cX8_allThings 32 = .ok (.iload_n 2, 1) := by decide +kernel
theorem dX8_allThings_33 : decode cX8_allThings 33 = .ok (.iaload, 1) := by decide +kernel
theorem dX8_allThings_34 : decode cX8_allThings 34 = .ok (.istore_n 3, 1) := by decide +kernel
theorem dX8_allThings_35 : decode cX8_allThings 35 = .ok (.iload_n 1, 1) := by decide +kernel
theorem dX8_allThings_36 : decode cX8_allThings 36 = .ok (.iload_n 3, 1) := by decide +kernel
theorem dX8_allThings_37 : decode cX8_allThings 37 = .ok (.iconst 3, 1) := by decide +kernel
theorem dX8_allThings_38 : decode cX8_allThings 38 = .ok (.iload_n 2, 1) := by decide +kernel
theorem dX8_allThings_39 : decode cX8_allThings 39 = .ok (.imul, 1) := by decide +kernel
theorem dX8_allThings_40 : decode cX8_allThings 40 = .ok (.ishl, 1) := by decide +kernel
theorem dX8_allThings_41 : decode cX8_allThings 41 = .ok (.ior, 1) := by decide +kernel
theorem dX8_allThings_42 : decode cX8_allThings 42 = .ok (.istore_n 1, 1) := by decide +kernel
theorem dX8_allThings_43 : decode cX8_allThings 43 = .ok (.iinc 2 1, 3) := by decide +kernel
theorem dX8_allThings_46 : decode cX8_allThings 46 = .ok (.goto (-42), 3) := by decide +kernel
theorem dX8_allThings_49 : decode cX8_allThings 49 = .ok (.iload_n 1, 1) := by decide +kernel
theorem dX8_allThings_50 : decode cX8_allThings 50 = .ok (.ireturn, 1) := by decide +kernel
theorem dX8_thingIn_0 : decode cX8_thingIn 0 = .ok (.iload_n 0, 1) := by decide +kernel
theorem dX8_thingIn_1 : decode cX8_thingIn 1 = .ok (.iconst 3, 1) := by decide +kernel
theorem dX8_thingIn_2 : decode cX8_thingIn 2 = .ok (.iload_n 1, 1) := by decide +kernel
theorem dX8_thingIn_3 : decode cX8_thingIn 3 = .ok (.imul, 1) := by decide +kernel
theorem dX8_thingIn_4 : decode cX8_thingIn 4 = .ok (.iushr, 1) := by decide +kernel
theorem dX8_thingIn_5 : decode cX8_thingIn 5 = .ok (.bipush 7, 2) := by decide +kernel
theorem dX8_thingIn_7 : decode cX8_thingIn 7 = .ok (.iand, 1) := by decide +kernel
theorem dX8_thingIn_8 : decode cX8_thingIn 8 = .ok (.istore_n 2, 1) := by decide +kernel
theorem dX8_thingIn_9 : decode cX8_thingIn 9 = .ok (.iload_n 2, 1) := by decide +kernel
theorem dX8_thingIn_10 : decode cX8_thingIn 10 = .ok (.bipush 7, 2) := by decide +kernel
theorem dX8_thingIn_12 : decode cX8_thingIn 12 = .ok (.if_icmp .ne 8, 3) := by decide +kernel
theorem dX8_thingIn_15 : decode cX8_thingIn 15 = .ok (.bipush (-9), 2) := by decide +kernel
theorem dX8_thingIn_17 : decode cX8_thingIn 17 = .ok (.goto 4, 3) := by decide +kernel
theorem dX8_thingIn_20 : decode cX8_thingIn 20 = .ok (.iload_n 2, 1) := by decide +kernel
theorem dX8_thingIn_21 : decode cX8_thingIn 21 = .ok (.ireturn, 1) := by decide +kernel
theorem dX8_worthIn_0 : decode cX8_worthIn 0 = .ok (.aload_n 0, 1) := by decide +kernel
theorem dX8_worthIn_1 : decode cX8_worthIn 1 = .ok (.iload_n 2, 1) := by decide +kernel
theorem dX8_worthIn_2 : decode cX8_worthIn 2 = .ok (.iload_n 1, 1) := by decide +kernel
theorem dX8_worthIn_3 : decode cX8_worthIn 3 = .ok (.iload_n 2, 1) := by decide +kernel
theorem dX8_worthIn_4 : decode cX8_worthIn 4 = .ok (.invokestatic 22, 3) := by decide +kernel
theorem dX8_worthIn_7 : decode cX8_worthIn 7 = .ok (.invokevirtual 58, 3) := by decide +kernel
theorem dX8_worthIn_10 : decode cX8_worthIn 10 = .ok (.ireturn, 1) := by decide +kernel
theorem dX9_init_0 : decode cX9_init 0 = .ok (.aload_n 0, 1) := by decide +kernel
theorem dX9_init_1 : decode cX9_init 1 = .ok (.invokespecial 3, 3) := by decide +kernel
theorem dX9_init_4 : decode cX9_init 4 = .ok (.aload_n 0, 1) := by decide +kernel
theorem dX9_init_5 : decode cX9_init 5 = .ok (.iconst 4, 1) := by decide +kernel
theorem dX9_init_6 : decode cX9_init 6 = .ok (.newarray .int, 2) := by decide +kernel
theorem dX9_init_8 : decode cX9_init 8 = .ok (.putfield 9, 3) := by decide +kernel
theorem dX9_init_11 : decode cX9_init 11 = .ok (.aload_n 0, 1) := by decide +kernel
theorem dX9_init_12 : decode cX9_init 12 = .ok (.bipush 12, 2) := by decide +kernel
theorem dX9_init_14 : decode cX9_init 14 = .ok (.newarray .int, 2) := by decide +kernel
theorem dX9_init_16 : decode cX9_init 16 = .ok (.putfield 15, 3) := by decide +kernel
theorem dX9_init_19 : decode cX9_init 19 = .ok (.aload_n 0, 1) := by decide +kernel
theorem dX9_init_20 : decode cX9_init 20 = .ok (.bipush 12, 2) := by decide +kernel
theorem dX9_init_22 : decode cX9_init 22 = .ok (.newarray .int, 2) := by decide +kernel
theorem dX9_init_24 : decode cX9_init 24 = .ok (.putfield 18, 3) := by decide +kernel
theorem dX9_init_27 : decode cX9_init 27 = .ok (.aload_n 0, 1) := by decide +kernel
theorem dX9_init_28 : decode cX9_init 28 = .ok (.invokevirtual 21, 3) := by decide +kernel
theorem dX9_init_31 : decode cX9_init 31 = .ok (.return_, 1) := by decide +kernel
theorem dX9_forget_0 : decode cX9_forget 0 = .ok (.iconst 0, 1) := by decide +kernel
theorem dX9_forget_1 : decode cX9_forget 1 = .ok (.istore_n 1, 1) := by decide +kernel
theorem dX9_forget_2 : decode cX9_forget 2 = .ok (.iload_n 1, 1) := by decide +kernel
theorem dX9_forget_3 : decode cX9_forget 3 = .ok (.iconst 4, 1) := by decide +kernel
theorem dX9_forget_4 : decode cX9_forget 4 = .ok (.if_icmp .ge 17, 3) := by decide +kernel
theorem dX9_forget_7 : decode cX9_forget 7 = .ok (.aload_n 0, 1) := by decide +kernel
theorem dX9_forget_8 : decode cX9_forget 8 = .ok (.getfield 9, 3) := by decide +kernel
theorem dX9_forget_11 : decode cX9_forget 11 = .ok (.iload_n 1, 1) := by decide +kernel
theorem dX9_forget_12 : decode cX9_forget 12 = .ok (.bipush (-9), 2) := by decide +kernel
theorem dX9_forget_14 : decode cX9_forget 14 = .ok (.iastore, 1) := by decide +kernel
theorem dX9_forget_15 : decode cX9_forget 15 = .ok (.iinc 1 1, 3) := by decide +kernel
theorem dX9_forget_18 : decode cX9_forget 18 = .ok (.goto (-16), 3) := by decide +kernel
theorem dX9_forget_21 : decode cX9_forget 21 = .ok (.return_, 1) := by decide +kernel
theorem dX9_howMany_0 : decode cX9_howMany 0 = .ok (.iconst 0, 1) := by decide +kernel
theorem dX9_howMany_1 : decode cX9_howMany 1 = .ok (.istore_n 2, 1) := by decide +kernel
theorem dX9_howMany_2 : decode cX9_howMany 2 = .ok (.iconst 0, 1) := by decide +kernel
theorem dX9_howMany_3 : decode cX9_howMany 3 = .ok (.istore_n 3, 1) := by decide +kernel
theorem dX9_howMany_4 : decode cX9_howMany 4 = .ok (.iload_n 3, 1) := by decide +kernel
theorem dX9_howMany_5 : decode cX9_howMany 5 = .ok (.aload_n 1, 1) := by decide +kernel
theorem dX9_howMany_6 : decode cX9_howMany 6 = .ok (.getfield 24, 3) := by decide +kernel
theorem dX9_howMany_9 : decode cX9_howMany 9 = .ok (.if_icmp .ge 23, 3) := by decide +kernel
theorem dX9_howMany_12 : decode cX9_howMany 12 = .ok (.aload_n 0, 1) := by decide +kernel
theorem dX9_howMany_13 : decode cX9_howMany 13 = .ok (.getfield 9, 3) := by decide +kernel
theorem dX9_howMany_16 : decode cX9_howMany 16 = .ok (.iload_n 3, 1) := by decide +kernel
theorem dX9_howMany_17 : decode cX9_howMany 17 = .ok (.iaload, 1) := by decide +kernel
theorem dX9_howMany_18 : decode cX9_howMany 18 = .ok (.bipush (-9), 2) := by decide +kernel
theorem dX9_howMany_20 : decode cX9_howMany 20 = .ok (.if_icmp .eq 6, 3) := by decide +kernel
theorem dX9_howMany_23 : decode cX9_howMany 23 = .ok (.iinc 2 1, 3) := by decide +kernel
theorem dX9_howMany_26 : decode cX9_howMany 26 = .ok (.iinc 3 1, 3) := by decide +kernel
theorem dX9_howMany_29 : decode cX9_howMany 29 = .ok (.goto (-25), 3) := by decide +kernel
theorem dX9_howMany_32 : decode cX9_howMany 32 = .ok (.iload_n 2, 1) := by decide +kernel
theorem dX9_howMany_33 : decode cX9_howMany 33 = .ok (.ireturn, 1) := by decide +kernel
theorem dX9_met_0 : decode cX9_met 0 = .ok (.iconst 0, 1) := by decide +kernel
theorem dX9_met_1 : decode cX9_met 1 = .ok (.istore_n 2, 1) := by decide +kernel
theorem dX9_met_2 : decode cX9_met 2 = .ok (.iload_n 2, 1) := by decide +kernel
theorem dX9_met_3 : decode cX9_met 3 = .ok (.aload_n 1, 1) := by decide +kernel
theorem dX9_met_4 : decode cX9_met 4 = .ok (.getfield 24, 3) := by decide +kernel
theorem dX9_met_7 : decode cX9_met 7 = .ok (.if_icmp .ge 37, 3) := by decide +kernel
theorem dX9_met_10 : decode cX9_met 10 = .ok (.aload_n 0, 1) := by decide +kernel
theorem dX9_met_11 : decode cX9_met 11 = .ok (.getfield 9, 3) := by decide +kernel
theorem dX9_met_14 : decode cX9_met 14 = .ok (.iload_n 2, 1) := by decide +kernel
theorem dX9_met_15 : decode cX9_met 15 = .ok (.iaload, 1) := by decide +kernel
theorem dX9_met_16 : decode cX9_met 16 = .ok (.bipush (-9), 2) := by decide +kernel
theorem dX9_met_18 : decode cX9_met 18 = .ok (.if_icmp .eq 20, 3) := by decide +kernel
theorem dX9_met_21 : decode cX9_met 21 = .ok (.aload_n 0, 1) := by decide +kernel
theorem dX9_met_22 : decode cX9_met 22 = .ok (.getfield 9, 3) := by decide +kernel
theorem dX9_met_25 : decode cX9_met 25 = .ok (.iload_n 2, 1) := by decide +kernel
theorem dX9_met_26 : decode cX9_met 26 = .ok (.iaload, 1) := by decide +kernel
theorem dX9_met_27 : decode cX9_met 27 = .ok (.aload_n 1, 1) := by decide +kernel
theorem dX9_met_28 : decode cX9_met 28 = .ok (.getfield 30, 3) := by decide +kernel
theorem dX9_met_31 : decode cX9_met 31 = .ok (.iload_n 2, 1) := by decide +kernel
theorem dX9_met_32 : decode cX9_met 32 = .ok (.iaload, 1) := by decide +kernel
theorem dX9_met_33 : decode cX9_met 33 = .ok (.if_icmp .eq 5, 3) := by decide +kernel
theorem dX9_met_36 : decode cX9_met 36 = .ok (.iconst 0, 1) := by decide +kernel
theorem dX9_met_37 : decode cX9_met 37 = .ok (.ireturn, 1) := by decide +kernel
theorem dX9_met_38 : decode cX9_met 38 = .ok (.iinc 2 1, 3) := by decide +kernel
theorem dX9_met_41 : decode cX9_met 41 = .ok (.goto (-39), 3) := by decide +kernel
theorem dX9_met_44 : decode cX9_met 44 = .ok (.iconst 1, 1) := by decide +kernel
theorem dX9_met_45 : decode cX9_met 45 = .ok (.ireturn, 1) := by decide +kernel
theorem dX9_seekAll_0 : decode cX9_seekAll 0 = .ok (.aload_n 0, 1) := by decide +kernel
theorem dX9_seekAll_1 : decode cX9_seekAll 1 = .ok (.bipush (-9), 2) := by decide +kernel
theorem dX9_seekAll_3 : decode cX9_seekAll 3 = .ok (.putfield 33, 3) := by decide +kernel
theorem dX9_seekAll_6 : decode cX9_seekAll 6 = .ok (.aload_n 0, 1) := by decide +kernel
theorem dX9_seekAll_7 : decode cX9_seekAll 7 = .ok (.bipush 12, 2) := by decide +kernel
theorem dX9_seekAll_9 : decode cX9_seekAll 9 = .ok (.putfield 36, 3) := by decide +kernel
theorem dX9_seekAll_12 : decode cX9_seekAll 12 = .ok (.aload_n 0, 1) := by decide +kernel
theorem dX9_seekAll_13 : decode cX9_seekAll 13 = .ok (.aload_n 1, 1) := by decide +kernel
theorem dX9_seekAll_14 : decode cX9_seekAll 14 = .ok (.iconst 0, 1) := by decide +kernel
theorem dX9_seekAll_15 : decode cX9_seekAll 15 = .ok (.invokestatic 39, 3) := by decide +kernel
theorem dX9_seekAll_18 : decode cX9_seekAll 18 = .ok (.return_, 1) := by decide +kernel
theorem dX9_seek_0 : decode cX9_seek 0 = .ok (.aload_n 0, 1) := by decide +kernel
theorem dX9_seek_1 : decode cX9_seek 1 = .ok (.aload_n 1, 1) := by decide +kernel
theorem dX9_seek_2 : decode cX9_seek 2 = .ok (.invokevirtual 43, 3) := by decide +kernel
theorem dX9_seek_5 : decode cX9_seek 5 = .ok (.ifCond .eq 9, 3) := by decide +kernel
theorem dX9_seek_8 : decode cX9_seek 8 = .ok (.aload_n 0, 1) := by decide +kernel
theorem dX9_seek_9 : decode cX9_seek 9 = .ok (.iload_n 2, 1) := by decide +kernel
theorem dX9_seek_10 : decode cX9_seek 10 = .ok (.invokevirtual 47, 3) := by decide +kernel
theorem dX9_seek_13 : decode cX9_seek 13 = .ok (.return_, 1) := by decide +kernel
theorem dX9_seek_14 : decode cX9_seek 14 = .ok (.iconst 0, 1) := by decide +kernel
theorem dX9_seek_15 : decode cX9_seek 15 = .ok (.istore_n 3, 1) := by decide +kernel
theorem dX9_seek_16 : decode cX9_seek 16 = .ok (.iload_n 3, 1) := by decide +kernel
theorem dX9_seek_17 : decode cX9_seek 17 = .ok (.aload_n 1, 1) := by decide +kernel
theorem dX9_seek_18 : decode cX9_seek 18 = .ok (.getfield 24, 3) := by decide +kernel
theorem dX9_seek_21 : decode cX9_seek 21 = .ok (.if_icmp .ge 81, 3) := by decide +kernel
theorem dX9_seek_24 : decode cX9_seek 24 = .ok (.iload_n 3, 1) := by decide +kernel
theorem dX9_seek_25 : decode cX9_seek 25 = .ok (.iconst 1, 1) := by decide +kernel
theorem dX9_seek_26 : decode cX9_seek 26 = .ok (.iadd, 1) := by decide +kernel
theorem dX9_seek_27 : decode cX9_seek 27 = .ok (.istore 4, 2) := by decide +kernel
theorem dX9_seek_29 : decode cX9_seek 29 = .ok (.iload 4, 2) := by decide +kernel
theorem dX9_seek_31 : decode cX9_seek 31 = .ok (.aload_n 1, 1) := by decide +kernel
theorem dX9_seek_32 : decode cX9_seek 32 = .ok (.getfield 24, 3) := by decide +kernel
theorem dX9_seek_35 : decode cX9_seek 35 = .ok (.if_icmp .ge 61, 3) := by decide +kernel
theorem dX9_seek_38 : decode cX9_seek 38 = .ok (.iload_n 2, 1) := by decide +kernel
theorem dX9_seek_39 : decode cX9_seek 39 = .ok (.aload_n 0, 1) := by decide +kernel
theorem dX9_seek_40 : decode cX9_seek 40 = .ok (.getfield 36, 3) := by decide +kernel
theorem dX9_seek_43 : decode cX9_seek 43 = .ok (.if_icmp .ge 47, 3) := by decide +kernel
theorem dX9_seek_46 : decode cX9_seek 46 = .ok (.aload_n 1, 1) := by decide +kernel
theorem dX9_seek_47 : decode cX9_seek 47 = .ok (.iload_n 3, 1) := by decide +kernel
theorem dX9_seek_48 : decode cX9_seek 48 = .ok (.iload 4, 2) := by decide +kernel
theorem dX9_seek_50 : decode cX9_seek 50 = .ok (.invokevirtual 51, 3) := by decide +kernel
theorem dX9_seek_53 : decode cX9_seek 53 = .ok (.ifCond .eq 37, 3) := by decide +kernel
theorem dX9_seek_56 : decode cX9_seek 56 = .ok (.aload_n 0, 1) := by decide +kernel
theorem dX9_seek_57 : decode cX9_seek 57 = .ok (.getfield 18, 3) := by decide +kernel
theorem dX9_seek_60 : decode cX9_seek 60 = .ok (.iload_n 2, 1) := by decide +kernel
theorem dX9_seek_61 : decode cX9_seek 61 = .ok (.iload_n 3, 1) := by decide +kernel
theorem dX9_seek_62 : decode cX9_seek 62 = .ok (.iload 4, 2) := by decide +kernel
theorem dX9_seek_64 : decode cX9_seek 64 = .ok (.invokestatic 55, 3) := by decide +kernel
theorem dX9_seek_67 : decode cX9_seek 67 = .ok (.iastore, 1) := by decide +kernel
theorem dX9_seek_68 : decode cX9_seek 68 = .ok (.aload_n 1, 1) := by decide +kernel
theorem dX9_seek_69 : decode cX9_seek 69 = .ok (.iload_n 3, 1) := by decide +kernel
theorem dX9_seek_70 : decode cX9_seek 70 = .ok (.iload 4, 2) := by decide +kernel
theorem dX9_seek_72 : decode cX9_seek 72 = .ok (.invokevirtual 59, 3) := by decide +kernel
theorem dX9_seek_75 : decode cX9_seek 75 = .ok (.aload_n 0, 1) := by decide +kernel
theorem dX9_seek_76 : decode cX9_seek 76 = .ok (.aload_n 1, 1) := by decide +kernel
theorem dX9_seek_77 : decode cX9_seek 77 = .ok (.iload_n 2, 1) := by decide +kernel
theorem dX9_seek_78 : decode cX9_seek 78 = .ok (.iconst 1, 1) := by decide +kernel
theorem dX9_seek_79 : decode cX9_seek 79 = .ok (.iadd, 1) := by decide +kernel
theorem dX9_seek_80 : decode cX9_seek 80 = .ok (.invokestatic 39, 3) := by decide +kernel
theorem dX9_seek_83 : decode cX9_seek 83 = .ok (.aload_n 1, 1) := by decide +kernel
theorem dX9_seek_84 : decode cX9_seek 84 = .ok (.iload_n 3, 1) := by decide +kernel
theorem dX9_seek_85 : decode cX9_seek 85 = .ok (.iload 4, 2) := by decide +kernel
theorem dX9_seek_87 : decode cX9_seek 87 = .ok (.invokevirtual 63, 3) := by decide +kernel
theorem dX9_seek_90 : decode cX9_seek 90 = .ok (.iinc 4 1, 3) := by decide +kernel
theorem dX9_seek_93 : decode cX9_seek 93 = .ok (.goto (-64), 3) := by decide +kernel
theorem dX9_seek_96 : decode cX9_seek 96 = .ok (.iinc 3 1, 3) := by decide +kernel
theorem dX9_seek_99 : decode cX9_seek 99 = .ok (.goto (-83), 3) := by decide +kernel
theorem dX9_seek_102 : decode cX9_seek 102 = .ok (.return_, 1) := by decide +kernel
theorem dX9_takeRow_0 : decode cX9_takeRow 0 = .ok (.aload_n 0, 1) := by decide +kernel
theorem dX9_takeRow_1 : decode cX9_takeRow 1 = .ok (.iload_n 1, 1) := by decide +kernel
theorem dX9_takeRow_2 : decode cX9_takeRow 2 = .ok (.putfield 33, 3) := by decide +kernel
theorem dX9_takeRow_5 : decode cX9_takeRow 5 = .ok (.aload_n 0, 1) := by decide +kernel
theorem dX9_takeRow_6 : decode cX9_takeRow 6 = .ok (.iload_n 1, 1) := by decide +kernel
theorem dX9_takeRow_7 : decode cX9_takeRow 7 = .ok (.iconst 1, 1) := by decide +kernel
theorem dX9_takeRow_8 : decode cX9_takeRow 8 = .ok (.isub, 1) := by decide +kernel
theorem dX9_takeRow_9 : decode cX9_takeRow 9 = .ok (.putfield 36, 3) := by decide +kernel
theorem dX9_takeRow_12 : decode cX9_takeRow 12 = .ok (.aload_n 0, 1) := by decide +kernel
theorem dX9_takeRow_13 : decode cX9_takeRow 13 = .ok (.getfield 18, 3) := by decide +kernel
theorem dX9_takeRow_16 : decode cX9_takeRow 16 = .ok (.iconst 0, 1) := by decide +kernel
theorem dX9_takeRow_17 : decode cX9_takeRow 17 = .ok (.aload_n 0, 1) := by decide +kernel
theorem dX9_takeRow_18 : decode cX9_takeRow 18 = .ok (.getfield 15, 3) := by decide +kernel
theorem dX9_takeRow_21 : decode cX9_takeRow 21 = .ok (.iconst 0, 1) := by decide +kernel
theorem dX9_takeRow_22 : decode cX9_takeRow 22 = .ok (.iload_n 1, 1) := by decide +kernel
theorem dX9_takeRow_23 : decode cX9_takeRow 23 = .ok (.invokestatic 66, 3) := by decide +kernel
theorem dX9_takeRow_26 : decode cX9_takeRow 26 = .ok (.return_, 1) := by decide +kernel
theorem dJ6_bitCount_0f7a4_0 : decode cJ6_bitCount_0f7a4 0 = .ok (.iload_n 0, 1) := by decide +kernel
theorem dJ6_bitCount_0f7a4_1 : decode cJ6_bitCount_0f7a4 1 = .ok (.iload_n 0, 1) := by decide +kernel
theorem dJ6_bitCount_0f7a4_2 : decode cJ6_bitCount_0f7a4 2 = .ok (.iconst 1, 1) := by decide +kernel
theorem dJ6_bitCount_0f7a4_3 : decode cJ6_bitCount_0f7a4 3 = .ok (.iushr, 1) := by decide +kernel
theorem dJ6_bitCount_0f7a4_4 : decode cJ6_bitCount_0f7a4 4 = .ok (.ldc_w 265, 3) := by decide +kernel
theorem dJ6_bitCount_0f7a4_7 : decode cJ6_bitCount_0f7a4 7 = .ok (.iand, 1) := by decide +kernel
theorem dJ6_bitCount_0f7a4_8 : decode cJ6_bitCount_0f7a4 8 = .ok (.isub, 1) := by decide +kernel
theorem dJ6_bitCount_0f7a4_9 : decode cJ6_bitCount_0f7a4 9 = .ok (.istore_n 0, 1) := by decide +kernel
theorem dJ6_bitCount_0f7a4_10 : decode cJ6_bitCount_0f7a4 10 = .ok (.iload_n 0, 1) := by decide +kernel
theorem dJ6_bitCount_0f7a4_11 : decode cJ6_bitCount_0f7a4 11 = .ok (.ldc_w 266, 3) := by decide +kernel
theorem dJ6_bitCount_0f7a4_14 : decode cJ6_bitCount_0f7a4 14 = .ok (.iand, 1) := by decide +kernel
theorem dJ6_bitCount_0f7a4_15 : decode cJ6_bitCount_0f7a4 15 = .ok (.iload_n 0, 1) := by decide +kernel
theorem dJ6_bitCount_0f7a4_16 : decode cJ6_bitCount_0f7a4 16 = .ok (.iconst 2, 1) := by decide +kernel
theorem dJ6_bitCount_0f7a4_17 : decode cJ6_bitCount_0f7a4 17 = .ok (.iushr, 1) := by decide +kernel
theorem dJ6_bitCount_0f7a4_18 : decode cJ6_bitCount_0f7a4 18 = .ok (.ldc_w 266, 3) := by decide +kernel
theorem dJ6_bitCount_0f7a4_21 : decode cJ6_bitCount_0f7a4 21 = .ok (.iand, 1) := by decide +kernel
theorem dJ6_bitCount_0f7a4_22 : decode cJ6_bitCount_0f7a4 22 = .ok (.iadd, 1) := by decide +kernel
theorem dJ6_bitCount_0f7a4_23 : decode cJ6_bitCount_0f7a4 23 = .ok (.istore_n 0, 1) := by decide +kernel
theorem dJ6_bitCount_0f7a4_24 : decode cJ6_bitCount_0f7a4 24 = .ok (.iload_n 0, 1) := by decide +kernel
theorem dJ6_bitCount_0f7a4_25 : decode cJ6_bitCount_0f7a4 25 = .ok (.iload_n 0, 1) := by decide +kernel
theorem dJ6_bitCount_0f7a4_26 : decode cJ6_bitCount_0f7a4 26 = .ok (.iconst 4, 1) := by decide +kernel
theorem dJ6_bitCount_0f7a4_27 : decode cJ6_bitCount_0f7a4 27 = .ok (.iushr, 1) := by decide +kernel
theorem dJ6_bitCount_0f7a4_28 : decode cJ6_bitCount_0f7a4 28 = .ok (.iadd, 1) := by decide +kernel
theorem dJ6_bitCount_0f7a4_29 : decode cJ6_bitCount_0f7a4 29 = .ok (.ldc_w 267, 3) := by decide +kernel
theorem dJ6_bitCount_0f7a4_32 : decode cJ6_bitCount_0f7a4 32 = .ok (.iand, 1) := by decide +kernel
theorem dJ6_bitCount_0f7a4_33 : decode cJ6_bitCount_0f7a4 33 = .ok (.istore_n 0, 1) := by decide +kernel
theorem dJ6_bitCount_0f7a4_34 : decode cJ6_bitCount_0f7a4 34 = .ok (.iload_n 0, 1) := by decide +kernel
theorem dJ6_bitCount_0f7a4_35 : decode cJ6_bitCount_0f7a4 35 = .ok (.iload_n 0, 1) := by decide +kernel
theorem dJ6_bitCount_0f7a4_36 : decode cJ6_bitCount_0f7a4 36 = .ok (.bipush 8, 2) := by decide +kernel
theorem dJ6_bitCount_0f7a4_38 : decode cJ6_bitCount_0f7a4 38 = .ok (.iushr, 1) := by decide +kernel
theorem dJ6_bitCount_0f7a4_39 : decode cJ6_bitCount_0f7a4 39 = .ok (.iadd, 1) := by decide +kernel
theorem dJ6_bitCount_0f7a4_40 : decode cJ6_bitCount_0f7a4 40 = .ok (.istore_n 0, 1) := by decide +kernel
theorem dJ6_bitCount_0f7a4_41 : decode cJ6_bitCount_0f7a4 41 = .ok (.iload_n 0, 1) := by decide +kernel
theorem dJ6_bitCount_0f7a4_42 : decode cJ6_bitCount_0f7a4 42 = .ok (.iload_n 0, 1) := by decide +kernel
theorem dJ6_bitCount_0f7a4_43 : decode cJ6_bitCount_0f7a4 43 = .ok (.bipush 16, 2) := by decide +kernel
theorem dJ6_bitCount_0f7a4_45 : decode cJ6_bitCount_0f7a4 45 = .ok (.iushr, 1) := by decide +kernel
theorem dJ6_bitCount_0f7a4_46 : decode cJ6_bitCount_0f7a4 46 = .ok (.iadd, 1) := by decide +kernel
theorem dJ6_bitCount_0f7a4_47 : decode cJ6_bitCount_0f7a4 47 = .ok (.istore_n 0, 1) := by decide +kernel
theorem dJ6_bitCount_0f7a4_48 : decode cJ6_bitCount_0f7a4 48 = .ok (.iload_n 0, 1) := by decide +kernel
theorem dJ6_bitCount_0f7a4_49 : decode cJ6_bitCount_0f7a4 49 = .ok (.bipush 63, 2) := by decide +kernel
theorem dJ6_bitCount_0f7a4_51 : decode cJ6_bitCount_0f7a4 51 = .ok (.iand, 1) := by decide +kernel
theorem dJ6_bitCount_0f7a4_52 : decode cJ6_bitCount_0f7a4 52 = .ok (.ireturn, 1) := by decide +kernel
theorem dJ9_max_7cf53_0 : decode cJ9_max_7cf53 0 = .ok (.iload_n 0, 1) := by decide +kernel
theorem dJ9_max_7cf53_1 : decode cJ9_max_7cf53 1 = .ok (.iload_n 1, 1) := by decide +kernel
theorem dJ9_max_7cf53_2 : decode cJ9_max_7cf53 2 = .ok (.if_icmp .lt 7, 3) := by decide +kernel
theorem dJ9_max_7cf53_5 : decode cJ9_max_7cf53 5 = .ok (.iload_n 0, 1) := by decide +kernel
theorem dJ9_max_7cf53_6 : decode cJ9_max_7cf53 6 = .ok (.goto 4, 3) := by decide +kernel
theorem dJ9_max_7cf53_9 : decode cJ9_max_7cf53 9 = .ok (.iload_n 1, 1) := by decide +kernel
theorem dJ9_max_7cf53_10 : decode cJ9_max_7cf53 10 = .ok (.ireturn, 1) := by decide +kernel
theorem dJ9_min_7cf53_0 : decode cJ9_min_7cf53 0 = .ok (.iload_n 0, 1) := by decide +kernel
theorem dJ9_min_7cf53_1 : decode cJ9_min_7cf53 1 = .ok (.iload_n 1, 1) := by decide +kernel
theorem dJ9_min_7cf53_2 : decode cJ9_min_7cf53 2 = .ok (.if_icmp .gt 7, 3) := by decide +kernel
theorem dJ9_min_7cf53_5 : decode cJ9_min_7cf53 5 = .ok (.iload_n 0, 1) := by decide +kernel
theorem dJ9_min_7cf53_6 : decode cJ9_min_7cf53 6 = .ok (.goto 4, 3) := by decide +kernel
theorem dJ9_min_7cf53_9 : decode cJ9_min_7cf53 9 = .ok (.iload_n 1, 1) := by decide +kernel
theorem dJ9_min_7cf53_10 : decode cJ9_min_7cf53 10 = .ok (.ireturn, 1) := by decide +kernel
