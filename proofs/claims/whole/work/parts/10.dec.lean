theorem dX0_init_0 : decode cX0_init 0 = .ok (.aload_n 0, 1) := by decide +kernel
theorem dX0_init_1 : decode cX0_init 1 = .ok (.invokespecial 3, 3) := by decide +kernel
theorem dX0_init_4 : decode cX0_init 4 = .ok (.aload_n 0, 1) := by decide +kernel
theorem dX0_init_5 : decode cX0_init 5 = .ok (.iconst 4, 1) := by decide +kernel
theorem dX0_init_6 : decode cX0_init 6 = .ok (.newarray .int, 2) := by decide +kernel
theorem dX0_init_8 : decode cX0_init 8 = .ok (.putfield 9, 3) := by decide +kernel
theorem dX0_init_11 : decode cX0_init 11 = .ok (.aload_n 0, 1) := by decide +kernel
theorem dX0_init_12 : decode cX0_init 12 = .ok (.iconst 4, 1) := by decide +kernel
theorem dX0_init_13 : decode cX0_init 13 = .ok (.newarray .int, 2) := by decide +kernel
theorem dX0_init_15 : decode cX0_init 15 = .ok (.putfield 15, 3) := by decide +kernel
theorem dX0_init_18 : decode cX0_init 18 = .ok (.aload_n 0, 1) := by decide +kernel
theorem dX0_init_19 : decode cX0_init 19 = .ok (.iconst 4, 1) := by decide +kernel
theorem dX0_init_20 : decode cX0_init 20 = .ok (.newarray .int, 2) := by decide +kernel
theorem dX0_init_22 : decode cX0_init 22 = .ok (.putfield 18, 3) := by decide +kernel
theorem dX0_init_25 : decode cX0_init 25 = .ok (.aload_n 0, 1) := by decide +kernel
theorem dX0_init_26 : decode cX0_init 26 = .ok (.iconst 4, 1) := by decide +kernel
theorem dX0_init_27 : decode cX0_init 27 = .ok (.newarray .int, 2) := by decide +kernel
theorem dX0_init_29 : decode cX0_init 29 = .ok (.putfield 21, 3) := by decide +kernel
theorem dX0_init_32 : decode cX0_init 32 = .ok (.aload_n 0, 1) := by decide +kernel
theorem dX0_init_33 : decode cX0_init 33 = .ok (.iconst 3, 1) := by decide +kernel
theorem dX0_init_34 : decode cX0_init 34 = .ok (.newarray .int, 2) := by decide +kernel
theorem dX0_init_36 : decode cX0_init 36 = .ok (.putfield 24, 3) := by decide +kernel
theorem dX0_init_39 : decode cX0_init 39 = .ok (.aload_n 0, 1) := by decide +kernel
theorem dX0_init_40 : decode cX0_init 40 = .ok (.iconst 3, 1) := by decide +kernel
theorem dX0_init_41 : decode cX0_init 41 = .ok (.newarray .int, 2) := by decide +kernel
theorem dX0_init_43 : decode cX0_init 43 = .ok (.putfield 27, 3) := by decide +kernel
theorem dX0_init_46 : decode cX0_init 46 = .ok (.aload_n 0, 1) := by decide +kernel
theorem dX0_init_47 : decode cX0_init 47 = .ok (.iconst 4, 1) := by decide +kernel
theorem dX0_init_48 : decode cX0_init 48 = .ok (.newarray .long, 2) := by decide +kernel
theorem dX0_init_50 : decode cX0_init 50 = .ok (.putfield 30, 3) := by decide +kernel
theorem dX0_init_53 : decode cX0_init 53 = .ok (.aload_n 0, 1) := by decide +kernel
theorem dX0_init_54 : decode cX0_init 54 = .ok (.iconst 3, 1) := by decide +kernel
theorem dX0_init_55 : decode cX0_init 55 = .ok (.newarray .long, 2) := by decide +kernel
theorem dX0_init_57 : decode cX0_init 57 = .ok (.putfield 34, 3) := by decide +kernel
theorem dX0_init_60 : decode cX0_init 60 = .ok (.aload_n 0, 1) := by decide +kernel
theorem dX0_init_61 : decode cX0_init 61 = .ok (.getfield 9, 3) := by decide +kernel
theorem dX0_init_64 : decode cX0_init 64 = .ok (.iconst 1, 1) := by decide +kernel
theorem dX0_init_65 : decode cX0_init 65 = .ok (.invokestatic 37, 3) := by decide +kernel
theorem dX0_init_68 : decode cX0_init 68 = .ok (.aload_n 0, 1) := by decide +kernel
theorem dX0_init_69 : decode cX0_init 69 = .ok (.getfield 15, 3) := by decide +kernel
theorem dX0_init_72 : decode cX0_init 72 = .ok (.iconst 1, 1) := by decide +kernel
theorem dX0_init_73 : decode cX0_init 73 = .ok (.invokestatic 37, 3) := by decide +kernel
theorem dX0_init_76 : decode cX0_init 76 = .ok (.aload_n 0, 1) := by decide +kernel
theorem dX0_init_77 : decode cX0_init 77 = .ok (.getfield 18, 3) := by decide +kernel
theorem dX0_init_80 : decode cX0_init 80 = .ok (.iconst 1, 1) := by decide +kernel
theorem dX0_init_81 : decode cX0_init 81 = .ok (.invokestatic 37, 3) := by decide +kernel
theorem dX0_init_84 : decode cX0_init 84 = .ok (.return_, 1) := by decide +kernel
theorem dX0_setGood_0 : decode cX0_setGood 0 = .ok (.iload_n 1, 1) := by decide +kernel
theorem dX0_setGood_1 : decode cX0_setGood 1 = .ok (.ifCond .lt 38, 3) := by decide +kernel
theorem dX0_setGood_4 : decode cX0_setGood 4 = .ok (.iload_n 1, 1) := by decide +kernel
theorem dX0_setGood_5 : decode cX0_setGood 5 = .ok (.iconst 4, 1) := by decide +kernel
theorem dX0_setGood_6 : decode cX0_setGood 6 = .ok (.if_icmp .ge 33, 3) := by decide +kernel
theorem dX0_setGood_9 : decode cX0_setGood 9 = .ok (.aload_n 0, 1) := by decide +kernel
theorem dX0_setGood_10 : decode cX0_setGood 10 = .ok (.getfield 9, 3) := by decide +kernel
theorem dX0_setGood_13 : decode cX0_setGood 13 = .ok (.iload_n 1, 1) := by decide +kernel
theorem dX0_setGood_14 : decode cX0_setGood 14 = .ok (.iload_n 2, 1) := by decide +kernel
theorem dX0_setGood_15 : decode cX0_setGood 15 = .ok (.iastore, 1) := by decide +kernel
theorem dX0_setGood_16 : decode cX0_setGood 16 = .ok (.aload_n 0, 1) := by decide +kernel
theorem dX0_setGood_17 : decode cX0_setGood 17 = .ok (.getfield 15, 3) := by decide +kernel
theorem dX0_setGood_20 : decode cX0_setGood 20 = .ok (.iload_n 1, 1) := by decide +kernel
theorem dX0_setGood_21 : decode cX0_setGood 21 = .ok (.iload_n 3, 1) := by decide +kernel
theorem dX0_setGood_22 : decode cX0_setGood 22 = .ok (.iastore, 1) := by decide +kernel
theorem dX0_setGood_23 : decode cX0_setGood 23 = .ok (.aload_n 0, 1) := by decide +kernel
theorem dX0_setGood_24 : decode cX0_setGood 24 = .ok (.getfield 18, 3) := by decide +kernel
theorem dX0_setGood_27 : decode cX0_setGood 27 = .ok (.iload_n 1, 1) := by decide +kernel
theorem dX0_setGood_28 : decode cX0_setGood 28 = .ok (.iload 4, 2) := by decide +kernel
theorem dX0_setGood_30 : decode cX0_setGood 30 = .ok (.iastore, 1) := by decide +kernel
theorem dX0_setGood_31 : decode cX0_setGood 31 = .ok (.aload_n 0, 1) := by decide +kernel
theorem dX0_setGood_32 : decode cX0_setGood 32 = .ok (.getfield 21, 3) := by decide +kernel
theorem dX0_setGood_35 : decode cX0_setGood 35 = .ok (.iload_n 1, 1) := by decide +kernel
theorem dX0_setGood_36 : decode cX0_setGood 36 = .ok (.iload 5, 2) := by decide +kernel
theorem dX0_setGood_38 : decode cX0_setGood 38 = .ok (.iastore, 1) := by decide +kernel
theorem dX0_setGood_39 : decode cX0_setGood 39 = .ok (.return_, 1) := by decide +kernel
theorem dX0_setFleet_0 : decode cX0_setFleet 0 = .ok (.aload_n 0, 1) := by decide +kernel
theorem dX0_setFleet_1 : decode cX0_setFleet 1 = .ok (.getfield 24, 3) := by decide +kernel
theorem dX0_setFleet_4 : decode cX0_setFleet 4 = .ok (.iconst 0, 1) := by decide +kernel
theorem dX0_setFleet_5 : decode cX0_setFleet 5 = .ok (.iload_n 1, 1) := by decide +kernel
theorem dX0_setFleet_6 : decode cX0_setFleet 6 = .ok (.iastore, 1) := by decide +kernel
theorem dX0_setFleet_7 : decode cX0_setFleet 7 = .ok (.aload_n 0, 1) := by decide +kernel
theorem dX0_setFleet_8 : decode cX0_setFleet 8 = .ok (.getfield 24, 3) := by decide +kernel
theorem dX0_setFleet_11 : decode cX0_setFleet 11 = .ok (.iconst 1, 1) := by decide +kernel
theorem dX0_setFleet_12 : decode cX0_setFleet 12 = .ok (.iload_n 2, 1) := by decide +kernel
theorem dX0_setFleet_13 : decode cX0_setFleet 13 = .ok (.iastore, 1) := by decide +kernel
theorem dX0_setFleet_14 : decode cX0_setFleet 14 = .ok (.aload_n 0, 1) := by decide +kernel
theorem dX0_setFleet_15 : decode cX0_setFleet 15 = .ok (.getfield 24, 3) := by decide +kernel
theorem dX0_setFleet_18 : decode cX0_setFleet 18 = .ok (.iconst 2, 1) := by decide +kernel
theorem dX0_setFleet_19 : decode cX0_setFleet 19 = .ok (.iload_n 3, 1) := by decide +kernel
theorem dX0_setFleet_20 : decode cX0_setFleet 20 = .ok (.iastore, 1) := by decide +kernel
theorem dX0_setFleet_21 : decode cX0_setFleet 21 = .ok (.aload_n 0, 1) := by decide +kernel
theorem dX0_setFleet_22 : decode cX0_setFleet 22 = .ok (.iload 4, 2) := by decide +kernel
theorem dX0_setFleet_24 : decode cX0_setFleet 24 = .ok (.putfield 43, 3) := by decide +kernel
theorem dX0_setFleet_27 : decode cX0_setFleet 27 = .ok (.aload_n 0, 1) := by decide +kernel
theorem dX0_setFleet_28 : decode cX0_setFleet 28 = .ok (.iload 5, 2) := by decide +kernel
theorem dX0_setFleet_30 : decode cX0_setFleet 30 = .ok (.putfield 47, 3) := by decide +kernel
theorem dX0_setFleet_33 : decode cX0_setFleet 33 = .ok (.return_, 1) := by decide +kernel
theorem dX0_wantedBy_0 : decode cX0_wantedBy 0 = .ok (.iconst 0, 1) := by decide +kernel
theorem dX0_wantedBy_1 : decode cX0_wantedBy 1 = .ok (.aload_n 0, 1) := by decide +kernel
theorem dX0_wantedBy_2 : decode cX0_wantedBy 2 = .ok (.iconst 4, 1) := by decide +kernel
theorem dX0_wantedBy_3 : decode cX0_wantedBy 3 = .ok (.iload_n 1, 1) := by decide +kernel
theorem dX0_wantedBy_4 : decode cX0_wantedBy 4 = .ok (.imul, 1) := by decide +kernel
theorem dX0_wantedBy_5 : decode cX0_wantedBy 5 = .ok (.iload_n 2, 1) := by decide +kernel
theorem dX0_wantedBy_6 : decode cX0_wantedBy 6 = .ok (.iadd, 1) := by decide +kernel
theorem dX0_wantedBy_7 : decode cX0_wantedBy 7 = .ok (.invokevirtual 50, 3) := by decide +kernel
theorem dX0_wantedBy_10 : decode cX0_wantedBy 10 = .ok (.invokestatic 56, 3) := by decide +kernel
theorem dX0_wantedBy_13 : decode cX0_wantedBy 13 = .ok (.i2l, 1) := by decide +kernel
theorem dX0_wantedBy_14 : decode cX0_wantedBy 14 = .ok (.lreturn, 1) := by decide +kernel
theorem dX0_wantedByAll_0 : decode cX0_wantedByAll 0 = .ok (.lconst 0, 1) := by decide +kernel
theorem dX0_wantedByAll_1 : decode cX0_wantedByAll 1 = .ok (.lstore_n 2, 1) := by decide +kernel
theorem dX0_wantedByAll_2 : decode cX0_wantedByAll 2 = .ok (.iconst 0, 1) := by decide +kernel
theorem dX0_wantedByAll_3 : decode cX0_wantedByAll 3 = .ok (.istore 4, 2) := by decide +kernel
theorem dX0_wantedByAll_5 : decode cX0_wantedByAll 5 = .ok (.iload 4, 2) := by decide +kernel
theorem dX0_wantedByAll_7 : decode cX0_wantedByAll 7 = .ok (.iconst 4, 1) := by decide +kernel
theorem dX0_wantedByAll_8 : decode cX0_wantedByAll 8 = .ok (.if_icmp .ge 19, 3) := by decide +kernel
theorem dX0_wantedByAll_11 : decode cX0_wantedByAll 11 = .ok (.lload_n 2, 1) := by decide +kernel
theorem dX0_wantedByAll_12 : decode cX0_wantedByAll 12 = .ok (.aload_n 0, 1) := by decide +kernel
theorem dX0_wantedByAll_13 : decode cX0_wantedByAll 13 = .ok (.iload 4, 2) := by decide +kernel
theorem dX0_wantedByAll_15 : decode cX0_wantedByAll 15 = .ok (.iload_n 1, 1) := by decide +kernel
theorem dX0_wantedByAll_16 : decode cX0_wantedByAll 16 = .ok (.invokestatic 62, 3) := by decide +kernel
theorem dX0_wantedByAll_19 : decode cX0_wantedByAll 19 = .ok (.ladd, 1) := by decide +kernel
theorem dX0_wantedByAll_20 : decode cX0_wantedByAll 20 = .ok (.lstore_n 2, 1) := by decide +kernel
theorem dX0_wantedByAll_21 : decode cX0_wantedByAll 21 = .ok (.iinc 4 1, 3) := by decide +kernel
theorem dX0_wantedByAll_24 : decode cX0_wantedByAll 24 = .ok (.goto (-19), 3) := by decide +kernel
theorem dX0_wantedByAll_27 : decode cX0_wantedByAll 27 = .ok (.lload_n 2, 1) := by decide +kernel
theorem dX0_wantedByAll_28 : decode cX0_wantedByAll 28 = .ok (.lreturn, 1) := by decide +kernel
theorem dX0_partByMinutes_0 : decode cX0_partByMinutes 0 = .ok (.iconst 0, 1) := by decide +kernel
theorem dX0_partByMinutes_1 : decode cX0_partByMinutes 1 = .ok (.istore_n 2, 1) := by decide +kernel
theorem dX0_partByMinutes_2 : decode cX0_partByMinutes 2 = .ok (.iload_n 2, 1) := by decide +kernel
theorem dX0_partByMinutes_3 : decode cX0_partByMinutes 3 = .ok (.iconst 4, 1) := by decide +kernel
theorem dX0_partByMinutes_4 : decode cX0_partByMinutes 4 = .ok (.if_icmp .ge 46, 3) := by decide +kernel
theorem dX0_partByMinutes_7 : decode cX0_partByMinutes 7 = .ok (.iconst 1, 1) := by decide +kernel
theorem dX0_partByMinutes_8 : decode cX0_partByMinutes 8 = .ok (.aload_n 0, 1) := by decide +kernel
theorem dX0_partByMinutes_9 : decode cX0_partByMinutes 9 = .ok (.getfield 9, 3) := by decide +kernel
theorem dX0_partByMinutes_12 : decode cX0_partByMinutes 12 = .ok (.iload_n 2, 1) := by decide +kernel
theorem dX0_partByMinutes_13 : decode cX0_partByMinutes 13 = .ok (.iaload, 1) := by decide +kernel
theorem dX0_partByMinutes_14 : decode cX0_partByMinutes 14 = .ok (.invokestatic 56, 3) := by decide +kernel
theorem dX0_partByMinutes_17 : decode cX0_partByMinutes 17 = .ok (.i2l, 1) := by decide +kernel
theorem dX0_partByMinutes_18 : decode cX0_partByMinutes 18 = .ok (.lstore_n 3, 1) := by decide +kernel
theorem dX0_partByMinutes_19 : decode cX0_partByMinutes 19 = .ok (.aload_n 0, 1) := by decide +kernel
theorem dX0_partByMinutes_20 : decode cX0_partByMinutes 20 = .ok (.getfield 30, 3) := by decide +kernel
theorem dX0_partByMinutes_23 : decode cX0_partByMinutes 23 = .ok (.iload_n 2, 1) := by decide +kernel
theorem dX0_partByMinutes_24 : decode cX0_partByMinutes 24 = .ok (.aload_n 1, 1) := by decide +kernel
theorem dX0_partByMinutes_25 : decode cX0_partByMinutes 25 = .ok (.iload_n 2, 1) := by decide +kernel
theorem dX0_partByMinutes_26 : decode cX0_partByMinutes 26 = .ok (.invokestatic 66, 3) := by decide +kernel
theorem dX0_partByMinutes_29 : decode cX0_partByMinutes 29 = .ok (.lload_n 3, 1) := by decide +kernel
theorem dX0_partByMinutes_30 : decode cX0_partByMinutes 30 = .ok (.ladd, 1) := by decide +kernel
theorem dX0_partByMinutes_31 : decode cX0_partByMinutes 31 = .ok (.lconst 1, 1) := by decide +kernel
theorem dX0_partByMinutes_32 : decode cX0_partByMinutes 32 = .ok (.lsub, 1) := by decide +kernel
theorem dX0_partByMinutes_33 : decode cX0_partByMinutes 33 = .ok (.lload_n 3, 1) := by decide +kernel
theorem dX0_partByMinutes_34 : decode cX0_partByMinutes 34 = .ok (.ldiv, 1) := by decide +kernel
theorem dX0_partByMinutes_35 : decode cX0_partByMinutes 35 = .ok (.aload_n 0, 1) := by decide +kernel
theorem dX0_partByMinutes_36 : decode cX0_partByMinutes 36 = .ok (.getfield 15, 3) := by decide +kernel
theorem dX0_partByMinutes_39 : decode cX0_partByMinutes 39 = .ok (.iload_n 2, 1) := by decide +kernel
theorem dX0_partByMinutes_40 : decode cX0_partByMinutes 40 = .ok (.iaload, 1) := by decide +kernel
theorem dX0_partByMinutes_41 : decode cX0_partByMinutes 41 = .ok (.i2l, 1) := by decide +kernel
theorem dX0_partByMinutes_42 : decode cX0_partByMinutes 42 = .ok (.lmul, 1) := by decide +kernel
theorem dX0_partByMinutes_43 : decode cX0_partByMinutes 43 = .ok (.lastore, 1) := by decide +kernel
theorem dX0_partByMinutes_44 : decode cX0_partByMinutes 44 = .ok (.iinc 2 1, 3) := by decide +kernel
theorem dX0_partByMinutes_47 : decode cX0_partByMinutes 47 = .ok (.goto (-45), 3) := by decide +kernel
theorem dX0_partByMinutes_50 : decode cX0_partByMinutes 50 = .ok (.return_, 1) := by decide +kernel
theorem dX0_partByWeight_0 : decode cX0_partByWeight 0 = .ok (.iconst 0, 1) := by decide +kernel
theorem dX0_partByWeight_1 : decode cX0_partByWeight 1 = .ok (.istore_n 2, 1) := by decide +kernel
theorem dX0_partByWeight_2 : decode cX0_partByWeight 2 = .ok (.iload_n 2, 1) := by decide +kernel
theorem dX0_partByWeight_3 : decode cX0_partByWeight 3 = .ok (.iconst 4, 1) := by decide +kernel
theorem dX0_partByWeight_4 : decode cX0_partByWeight 4 = .ok (.if_icmp .ge 28, 3) := by decide +kernel
theorem dX0_partByWeight_7 : decode cX0_partByWeight 7 = .ok (.aload_n 0, 1) := by decide +kernel
theorem dX0_partByWeight_8 : decode cX0_partByWeight 8 = .ok (.getfield 30, 3) := by decide +kernel
theorem dX0_partByWeight_11 : decode cX0_partByWeight 11 = .ok (.iload_n 2, 1) := by decide +kernel
theorem dX0_partByWeight_12 : decode cX0_partByWeight 12 = .ok (.aload_n 1, 1) := by decide +kernel
theorem dX0_partByWeight_13 : decode cX0_partByWeight 13 = .ok (.iload_n 2, 1) := by decide +kernel
theorem dX0_partByWeight_14 : decode cX0_partByWeight 14 = .ok (.invokestatic 66, 3) := by decide +kernel
theorem dX0_partByWeight_17 : decode cX0_partByWeight 17 = .ok (.aload_n 0, 1) := by decide +kernel
theorem dX0_partByWeight_18 : decode cX0_partByWeight 18 = .ok (.getfield 18, 3) := by decide +kernel
theorem dX0_partByWeight_21 : decode cX0_partByWeight 21 = .ok (.iload_n 2, 1) := by decide +kernel
theorem dX0_partByWeight_22 : decode cX0_partByWeight 22 = .ok (.iaload, 1) := by decide +kernel
theorem dX0_partByWeight_23 : decode cX0_partByWeight 23 = .ok (.i2l, 1) := by decide +kernel
theorem dX0_partByWeight_24 : decode cX0_partByWeight 24 = .ok (.lmul, 1) := by decide +kernel
theorem dX0_partByWeight_25 : decode cX0_partByWeight 25 = .ok (.lastore, 1) := by decide +kernel
theorem dX0_partByWeight_26 : decode cX0_partByWeight 26 = .ok (.iinc 2 1, 3) := by decide +kernel
theorem dX0_partByWeight_29 : decode cX0_partByWeight 29 = .ok (.goto (-27), 3) := by decide +kernel
theorem dX0_partByWeight_32 : decode cX0_partByWeight 32 = .ok (.return_, 1) := by decide +kernel
theorem dX0_partByShops_0 : decode cX0_partByShops 0 = .ok (.iconst 0, 1) := by decide +kernel
theorem dX0_partByShops_1 : decode cX0_partByShops 1 = .ok (.istore_n 2, 1) := by decide +kernel
theorem dX0_partByShops_2 : decode cX0_partByShops 2 = .ok (.iload_n 2, 1) := by decide +kernel
theorem dX0_partByShops_3 : decode cX0_partByShops 3 = .ok (.iconst 4, 1) := by decide +kernel
theorem dX0_partByShops_4 : decode cX0_partByShops 4 = .ok (.if_icmp .ge 52, 3) := by decide +kernel
theorem dX0_partByShops_7 : decode cX0_partByShops 7 = .ok (.aload_n 0, 1) := by decide +kernel
theorem dX0_partByShops_8 : decode cX0_partByShops 8 = .ok (.getfield 30, 3) := by decide +kernel
theorem dX0_partByShops_11 : decode cX0_partByShops 11 = .ok (.iload_n 2, 1) := by decide +kernel
theorem dX0_partByShops_12 : decode cX0_partByShops 12 = .ok (.lconst 0, 1) := by decide +kernel
theorem dX0_partByShops_13 : decode cX0_partByShops 13 = .ok (.lastore, 1) := by decide +kernel
theorem dX0_partByShops_14 : decode cX0_partByShops 14 = .ok (.iconst 0, 1) := by decide +kernel
theorem dX0_partByShops_15 : decode cX0_partByShops 15 = .ok (.istore_n 3, 1) := by decide +kernel
theorem dX0_partByShops_16 : decode cX0_partByShops 16 = .ok (.iload_n 3, 1) := by decide +kernel
theorem dX0_partByShops_17 : decode cX0_partByShops 17 = .ok (.iconst 4, 1) := by decide +kernel
theorem dX0_partByShops_18 : decode cX0_partByShops 18 = .ok (.if_icmp .ge 32, 3) := by decide +kernel
theorem dX0_partByShops_21 : decode cX0_partByShops 21 = .ok (.aload_n 0, 1) := by decide +kernel
theorem dX0_partByShops_22 : decode cX0_partByShops 22 = .ok (.getfield 30, 3) := by decide +kernel
theorem dX0_partByShops_25 : decode cX0_partByShops 25 = .ok (.iload_n 2, 1) := by decide +kernel
theorem dX0_partByShops_26 : decode cX0_partByShops 26 = .ok (.dup2, 1) := by decide +kernel
theorem dX0_partByShops_27 : decode cX0_partByShops 27 = .ok (.laload, 1) := by decide +kernel
theorem dX0_partByShops_28 : decode cX0_partByShops 28 = .ok (.aload_n 1, 1) := by decide +kernel
theorem dX0_partByShops_29 : decode cX0_partByShops 29 = .ok (.iload_n 2, 1) := by decide +kernel
theorem dX0_partByShops_30 : decode cX0_partByShops 30 = .ok (.iload_n 3, 1) := by decide +kernel
theorem dX0_partByShops_31 : decode cX0_partByShops 31 = .ok (.invokestatic 62, 3) := by decide +kernel
theorem dX0_partByShops_34 : decode cX0_partByShops 34 = .ok (.aload_n 0, 1) := by decide +kernel
theorem dX0_partByShops_35 : decode cX0_partByShops 35 = .ok (.getfield 18, 3) := by decide +kernel
theorem dX0_partByShops_38 : decode cX0_partByShops 38 = .ok (.iload_n 3, 1) := by decide +kernel
theorem dX0_partByShops_39 : decode cX0_partByShops 39 = .ok (.iaload, 1) := by decide +kernel
theorem dX0_partByShops_40 : decode cX0_partByShops 40 = .ok (.i2l, 1) := by decide +kernel
theorem dX0_partByShops_41 : decode cX0_partByShops 41 = .ok (.lmul, 1) := by decide +kernel
theorem dX0_partByShops_42 : decode cX0_partByShops 42 = .ok (.ladd, 1) := by decide +kernel
theorem dX0_partByShops_43 : decode cX0_partByShops 43 = .ok (.lastore, 1) := by decide +kernel
theorem dX0_partByShops_44 : decode cX0_partByShops 44 = .ok (.iinc 3 1, 3) := by decide +kernel
theorem dX0_partByShops_47 : decode cX0_partByShops 47 = .ok (.goto (-31), 3) := by decide +kernel
theorem dX0_partByShops_50 : decode cX0_partByShops 50 = .ok (.iinc 2 1, 3) := by decide +kernel
theorem dX0_partByShops_53 : decode cX0_partByShops 53 = .ok (.goto (-51), 3) := by decide +kernel
theorem dX0_partByShops_56 : decode cX0_partByShops 56 = .ok (.return_, 1) := by decide +kernel
theorem dX0_ovensEnd_0 : decode cX0_ovensEnd 0 = .ok (.aload_n 0, 1) := by decide +kernel
theorem dX0_ovensEnd_1 : decode cX0_ovensEnd 1 = .ok (.aload_n 1, 1) := by decide +kernel
theorem dX0_ovensEnd_2 : decode cX0_ovensEnd 2 = .ok (.invokevirtual 70, 3) := by decide +kernel
theorem dX0_ovensEnd_5 : decode cX0_ovensEnd 5 = .ok (.aload_n 0, 1) := by decide +kernel
theorem dX0_ovensEnd_6 : decode cX0_ovensEnd 6 = .ok (.aload_n 0, 1) := by decide +kernel
theorem dX0_ovensEnd_7 : decode cX0_ovensEnd 7 = .ok (.getfield 27, 3) := by decide +kernel
theorem dX0_ovensEnd_10 : decode cX0_ovensEnd 10 = .ok (.invokevirtual 74, 3) := by decide +kernel
theorem dX0_ovensEnd_13 : decode cX0_ovensEnd 13 = .ok (.lreturn, 1) := by decide +kernel
theorem dX0_leastLoads_0 : decode cX0_leastLoads 0 = .ok (.aload_n 0, 1) := by decide +kernel
theorem dX0_leastLoads_1 : decode cX0_leastLoads 1 = .ok (.aload_n 1, 1) := by decide +kernel
theorem dX0_leastLoads_2 : decode cX0_leastLoads 2 = .ok (.invokevirtual 78, 3) := by decide +kernel
theorem dX0_leastLoads_5 : decode cX0_leastLoads 5 = .ok (.aload_n 0, 1) := by decide +kernel
theorem dX0_leastLoads_6 : decode cX0_leastLoads 6 = .ok (.aload_n 0, 1) := by decide +kernel
theorem dX0_leastLoads_7 : decode cX0_leastLoads 7 = .ok (.getfield 24, 3) := by decide +kernel
theorem dX0_leastLoads_10 : decode cX0_leastLoads 10 = .ok (.invokevirtual 74, 3) := by decide +kernel
theorem dX0_leastLoads_13 : decode cX0_leastLoads 13 = .ok (.lreturn, 1) := by decide +kernel
theorem dX0_leastAbove_0 : decode cX0_leastAbove 0 = .ok (.aload_n 0, 1) := by decide +kernel
theorem dX0_leastAbove_1 : decode cX0_leastAbove 1 = .ok (.aload_n 1, 1) := by decide +kernel
theorem dX0_leastAbove_2 : decode cX0_leastAbove 2 = .ok (.iconst 0, 1) := by decide +kernel
theorem dX0_leastAbove_3 : decode cX0_leastAbove 3 = .ok (.invokevirtual 81, 3) := by decide +kernel
theorem dX0_leastAbove_6 : decode cX0_leastAbove 6 = .ok (.lstore_n 2, 1) := by decide +kernel
theorem dX0_leastAbove_7 : decode cX0_leastAbove 7 = .ok (.iconst 1, 1) := by decide +kernel
theorem dX0_leastAbove_8 : decode cX0_leastAbove 8 = .ok (.istore 4, 2) := by decide +kernel
theorem dX0_leastAbove_10 : decode cX0_leastAbove 10 = .ok (.iload 4, 2) := by decide +kernel
theorem dX0_leastAbove_12 : decode cX0_leastAbove 12 = .ok (.bipush 81, 2) := by decide +kernel
theorem dX0_leastAbove_14 : decode cX0_leastAbove 14 = .ok (.if_icmp .ge 21, 3) := by decide +kernel
theorem dX0_leastAbove_17 : decode cX0_leastAbove 17 = .ok (.lload_n 2, 1) := by decide +kernel
theorem dX0_leastAbove_18 : decode cX0_leastAbove 18 = .ok (.aload_n 0, 1) := by decide +kernel
theorem dX0_leastAbove_19 : decode cX0_leastAbove 19 = .ok (.aload_n 1, 1) := by decide +kernel
theorem dX0_leastAbove_20 : decode cX0_leastAbove 20 = .ok (.iload 4, 2) := by decide +kernel
theorem dX0_leastAbove_22 : decode cX0_leastAbove 22 = .ok (.invokevirtual 81, 3) := by decide +kernel
theorem dX0_leastAbove_25 : decode cX0_leastAbove 25 = .ok (.invokestatic 85, 3) := by decide +kernel
theorem dX0_leastAbove_28 : decode cX0_leastAbove 28 = .ok (.lstore_n 2, 1) := by decide +kernel
theorem dX0_leastAbove_29 : decode cX0_leastAbove 29 = .ok (.iinc 4 1, 3) := by decide +kernel
theorem dX0_leastAbove_32 : decode cX0_leastAbove 32 = .ok (.goto (-22), 3) := by decide +kernel
theorem dX0_leastAbove_35 : decode cX0_leastAbove 35 = .ok (.lload_n 2, 1) := by decide +kernel
theorem dX0_leastAbove_36 : decode cX0_leastAbove 36 = .ok (.lreturn, 1) := by decide +kernel
theorem dX0_mostAbove_0 : decode cX0_mostAbove 0 = .ok (.aload_n 0, 1) := by decide +kernel
theorem dX0_mostAbove_1 : decode cX0_mostAbove 1 = .ok (.getfield 34, 3) := by decide +kernel
theorem dX0_mostAbove_4 : decode cX0_mostAbove 4 = .ok (.lconst 0, 1) := by decide +kernel
theorem dX0_mostAbove_5 : decode cX0_mostAbove 5 = .ok (.invokestatic 89, 3) := by decide +kernel
theorem dX0_mostAbove_8 : decode cX0_mostAbove 8 = .ok (.iload_n 2, 1) := by decide +kernel
theorem dX0_mostAbove_9 : decode cX0_mostAbove 9 = .ok (.istore_n 3, 1) := by decide +kernel
theorem dX0_mostAbove_10 : decode cX0_mostAbove 10 = .ok (.iconst 0, 1) := by decide +kernel
theorem dX0_mostAbove_11 : decode cX0_mostAbove 11 = .ok (.istore 4, 2) := by decide +kernel
theorem dX0_mostAbove_13 : decode cX0_mostAbove 13 = .ok (.iload 4, 2) := by decide +kernel
theorem dX0_mostAbove_15 : decode cX0_mostAbove 15 = .ok (.iconst 4, 1) := by decide +kernel
theorem dX0_mostAbove_16 : decode cX0_mostAbove 16 = .ok (.if_icmp .ge 33, 3) := by decide +kernel
theorem dX0_mostAbove_19 : decode cX0_mostAbove 19 = .ok (.aload_n 0, 1) := by decide +kernel
theorem dX0_mostAbove_20 : decode cX0_mostAbove 20 = .ok (.getfield 34, 3) := by decide +kernel
theorem dX0_mostAbove_23 : decode cX0_mostAbove 23 = .ok (.iload_n 3, 1) := by decide +kernel
theorem dX0_mostAbove_24 : decode cX0_mostAbove 24 = .ok (.iconst 3, 1) := by decide +kernel
theorem dX0_mostAbove_25 : decode cX0_mostAbove 25 = .ok (.invokestatic 92, 3) := by decide +kernel
theorem dX0_mostAbove_28 : decode cX0_mostAbove 28 = .ok (.dup2, 1) := by decide +kernel
theorem dX0_mostAbove_29 : decode cX0_mostAbove 29 = .ok (.laload, 1) := by decide +kernel
theorem dX0_mostAbove_30 : decode cX0_mostAbove 30 = .ok (.aload_n 0, 1) := by decide +kernel
theorem dX0_mostAbove_31 : decode cX0_mostAbove 31 = .ok (.getfield 30, 3) := by decide +kernel
theorem dX0_mostAbove_34 : decode cX0_mostAbove 34 = .ok (.iload 4, 2) := by decide +kernel
theorem dX0_mostAbove_36 : decode cX0_mostAbove 36 = .ok (.laload, 1) := by decide +kernel
theorem dX0_mostAbove_37 : decode cX0_mostAbove 37 = .ok (.ladd, 1) := by decide +kernel
theorem dX0_mostAbove_38 : decode cX0_mostAbove 38 = .ok (.lastore, 1) := by decide +kernel
theorem dX0_mostAbove_39 : decode cX0_mostAbove 39 = .ok (.iload_n 3, 1) := by decide +kernel
theorem dX0_mostAbove_40 : decode cX0_mostAbove 40 = .ok (.iconst 3, 1) := by decide +kernel
theorem dX0_mostAbove_41 : decode cX0_mostAbove 41 = .ok (.idiv, 1) := by decide +kernel
theorem dX0_mostAbove_42 : decode cX0_mostAbove 42 = .ok (.istore_n 3, 1) := by decide +kernel
theorem dX0_mostAbove_43 : decode cX0_mostAbove 43 = .ok (.iinc 4 1, 3) := by decide +kernel
theorem dX0_mostAbove_46 : decode cX0_mostAbove 46 = .ok (.goto (-33), 3) := by decide +kernel
theorem dX0_mostAbove_49 : decode cX0_mostAbove 49 = .ok (.lconst 0, 1) := by decide +kernel
theorem dX0_mostAbove_50 : decode cX0_mostAbove 50 = .ok (.lstore 4, 2) := by decide +kernel
theorem dX0_mostAbove_52 : decode cX0_mostAbove 52 = .ok (.iconst 0, 1) := by decide +kernel
theorem dX0_mostAbove_53 : decode cX0_mostAbove 53 = .ok (.istore 6, 2) := by decide +kernel
theorem dX0_mostAbove_55 : decode cX0_mostAbove 55 = .ok (.iload 6, 2) := by decide +kernel
theorem dX0_mostAbove_57 : decode cX0_mostAbove 57 = .ok (.iconst 3, 1) := by decide +kernel
theorem dX0_mostAbove_58 : decode cX0_mostAbove 58 = .ok (.if_icmp .ge 36, 3) := by decide +kernel
theorem dX0_mostAbove_61 : decode cX0_mostAbove 61 = .ok (.iload 6, 2) := by decide +kernel
theorem dX0_mostAbove_63 : decode cX0_mostAbove 63 = .ok (.aload_n 1, 1) := by decide +kernel
theorem dX0_mostAbove_64 : decode cX0_mostAbove 64 = .ok (.arraylength, 1) := by decide +kernel
theorem dX0_mostAbove_65 : decode cX0_mostAbove 65 = .ok (.if_icmp .ge 29, 3) := by decide +kernel
theorem dX0_mostAbove_68 : decode cX0_mostAbove 68 = .ok (.lload 4, 2) := by decide +kernel
theorem dX0_mostAbove_70 : decode cX0_mostAbove 70 = .ok (.aload_n 0, 1) := by decide +kernel
theorem dX0_mostAbove_71 : decode cX0_mostAbove 71 = .ok (.getfield 34, 3) := by decide +kernel
theorem dX0_mostAbove_74 : decode cX0_mostAbove 74 = .ok (.iload 6, 2) := by decide +kernel
theorem dX0_mostAbove_76 : decode cX0_mostAbove 76 = .ok (.laload, 1) := by decide +kernel
theorem dX0_mostAbove_77 : decode cX0_mostAbove 77 = .ok (.aload_n 1, 1) := by decide +kernel
theorem dX0_mostAbove_78 : decode cX0_mostAbove 78 = .ok (.iload 6, 2) := by decide +kernel
theorem dX0_mostAbove_80 : decode cX0_mostAbove 80 = .ok (.iaload, 1) := by decide +kernel
theorem dX0_mostAbove_81 : decode cX0_mostAbove 81 = .ok (.i2l, 1) := by decide +kernel
theorem dX0_mostAbove_82 : decode cX0_mostAbove 82 = .ok (.lsub, 1) := by decide +kernel
theorem dX0_mostAbove_83 : decode cX0_mostAbove 83 = .ok (.invokestatic 95, 3) := by decide +kernel
theorem dX0_mostAbove_86 : decode cX0_mostAbove 86 = .ok (.lstore 4, 2) := by decide +kernel
theorem dX0_mostAbove_88 : decode cX0_mostAbove 88 = .ok (.iinc 6 1, 3) := by decide +kernel
theorem dX0_mostAbove_91 : decode cX0_mostAbove 91 = .ok (.goto (-36), 3) := by decide +kernel
theorem dX0_mostAbove_94 : decode cX0_mostAbove 94 = .ok (.lload 4, 2) := by decide +kernel
theorem dX0_mostAbove_96 : decode cX0_mostAbove 96 = .ok (.lreturn, 1) := by decide +kernel
theorem dX0_costOf_0 : decode cX0_costOf 0 = .ok (.aload_n 1, 1) := by decide +kernel
theorem dX0_costOf_1 : decode cX0_costOf 1 = .ok (.iload_n 2, 1) := by decide +kernel
theorem dX0_costOf_2 : decode cX0_costOf 2 = .ok (.invokestatic 66, 3) := by decide +kernel
theorem dX0_costOf_5 : decode cX0_costOf 5 = .ok (.lstore_n 3, 1) := by decide +kernel
theorem dX0_costOf_6 : decode cX0_costOf 6 = .ok (.lload_n 3, 1) := by decide +kernel
theorem dX0_costOf_7 : decode cX0_costOf 7 = .ok (.lconst 0, 1) := by decide +kernel
theorem dX0_costOf_8 : decode cX0_costOf 8 = .ok (.lcmp, 1) := by decide +kernel
theorem dX0_costOf_9 : decode cX0_costOf 9 = .ok (.ifCond .eq 12, 3) := by decide +kernel
theorem dX0_costOf_12 : decode cX0_costOf 12 = .ok (.iload_n 2, 1) := by decide +kernel
theorem dX0_costOf_13 : decode cX0_costOf 13 = .ok (.ifCond .lt 8, 3) := by decide +kernel
theorem dX0_costOf_16 : decode cX0_costOf 16 = .ok (.iload_n 2, 1) := by decide +kernel
theorem dX0_costOf_17 : decode cX0_costOf 17 = .ok (.iconst 4, 1) := by decide +kernel
theorem dX0_costOf_18 : decode cX0_costOf 18 = .ok (.if_icmp .lt 5, 3) := by decide +kernel
theorem dX0_costOf_21 : decode cX0_costOf 21 = .ok (.lconst 0, 1) := by decide +kernel
theorem dX0_costOf_22 : decode cX0_costOf 22 = .ok (.lreturn, 1) := by decide +kernel
theorem dX0_costOf_23 : decode cX0_costOf 23 = .ok (.aload_n 0, 1) := by decide +kernel
theorem dX0_costOf_24 : decode cX0_costOf 24 = .ok (.aload_n 1, 1) := by decide +kernel
theorem dX0_costOf_25 : decode cX0_costOf 25 = .ok (.invokevirtual 70, 3) := by decide +kernel
theorem dX0_costOf_28 : decode cX0_costOf 28 = .ok (.aload_n 0, 1) := by decide +kernel
theorem dX0_costOf_29 : decode cX0_costOf 29 = .ok (.getfield 21, 3) := by decide +kernel
theorem dX0_costOf_32 : decode cX0_costOf 32 = .ok (.iload_n 2, 1) := by decide +kernel
theorem dX0_costOf_33 : decode cX0_costOf 33 = .ok (.iaload, 1) := by decide +kernel
theorem dX0_costOf_34 : decode cX0_costOf 34 = .ok (.i2l, 1) := by decide +kernel
theorem dX0_costOf_35 : decode cX0_costOf 35 = .ok (.lload_n 3, 1) := by decide +kernel
theorem dX0_costOf_36 : decode cX0_costOf 36 = .ok (.lmul, 1) := by decide +kernel
theorem dX0_costOf_37 : decode cX0_costOf 37 = .ok (.aload_n 0, 1) := by decide +kernel
theorem dX0_costOf_38 : decode cX0_costOf 38 = .ok (.iload_n 2, 1) := by decide +kernel
theorem dX0_costOf_39 : decode cX0_costOf 39 = .ok (.aload_n 0, 1) := by decide +kernel
theorem dX0_costOf_40 : decode cX0_costOf 40 = .ok (.getfield 43, 3) := by decide +kernel
theorem dX0_costOf_43 : decode cX0_costOf 43 = .ok (.i2l, 1) := by decide +kernel
theorem dX0_costOf_44 : decode cX0_costOf 44 = .ok (.invokevirtual 97, 3) := by decide +kernel
theorem dX0_costOf_47 : decode cX0_costOf 47 = .ok (.ladd, 1) := by decide +kernel
theorem dX0_costOf_48 : decode cX0_costOf 48 = .ok (.lstore 5, 2) := by decide +kernel
theorem dX0_costOf_50 : decode cX0_costOf 50 = .ok (.aload_n 0, 1) := by decide +kernel
theorem dX0_costOf_51 : decode cX0_costOf 51 = .ok (.aload_n 1, 1) := by decide +kernel
theorem dX0_costOf_52 : decode cX0_costOf 52 = .ok (.invokevirtual 101, 3) := by decide +kernel
theorem dX0_costOf_55 : decode cX0_costOf 55 = .ok (.lload 5, 2) := by decide +kernel
theorem dX0_costOf_57 : decode cX0_costOf 57 = .ok (.aload_n 0, 1) := by decide +kernel
theorem dX0_costOf_58 : decode cX0_costOf 58 = .ok (.iload_n 2, 1) := by decide +kernel
theorem dX0_costOf_59 : decode cX0_costOf 59 = .ok (.aload_n 0, 1) := by decide +kernel
theorem dX0_costOf_60 : decode cX0_costOf 60 = .ok (.getfield 47, 3) := by decide +kernel
theorem dX0_costOf_63 : decode cX0_costOf 63 = .ok (.i2l, 1) := by decide +kernel
theorem dX0_costOf_64 : decode cX0_costOf 64 = .ok (.invokevirtual 97, 3) := by decide +kernel
theorem dX0_costOf_67 : decode cX0_costOf 67 = .ok (.ladd, 1) := by decide +kernel
theorem dX0_costOf_68 : decode cX0_costOf 68 = .ok (.lreturn, 1) := by decide +kernel
theorem dX0_shareOf_0 : decode cX0_shareOf 0 = .ok (.lconst 0, 1) := by decide +kernel
theorem dX0_shareOf_1 : decode cX0_shareOf 1 = .ok (.lstore 4, 2) := by decide +kernel
theorem dX0_shareOf_3 : decode cX0_shareOf 3 = .ok (.iconst 0, 1) := by decide +kernel
theorem dX0_shareOf_4 : decode cX0_shareOf 4 = .ok (.istore 6, 2) := by decide +kernel
theorem dX0_shareOf_6 : decode cX0_shareOf 6 = .ok (.iload 6, 2) := by decide +kernel
theorem dX0_shareOf_8 : decode cX0_shareOf 8 = .ok (.iconst 4, 1) := by decide +kernel
theorem dX0_shareOf_9 : decode cX0_shareOf 9 = .ok (.if_icmp .ge 21, 3) := by decide +kernel
theorem dX0_shareOf_12 : decode cX0_shareOf 12 = .ok (.lload 4, 2) := by decide +kernel
theorem dX0_shareOf_14 : decode cX0_shareOf 14 = .ok (.aload_n 0, 1) := by decide +kernel
theorem dX0_shareOf_15 : decode cX0_shareOf 15 = .ok (.getfield 30, 3) := by decide +kernel
theorem dX0_shareOf_18 : decode cX0_shareOf 18 = .ok (.iload 6, 2) := by decide +kernel
theorem dX0_shareOf_20 : decode cX0_shareOf 20 = .ok (.laload, 1) := by decide +kernel
theorem dX0_shareOf_21 : decode cX0_shareOf 21 = .ok (.ladd, 1) := by decide +kernel
theorem dX0_shareOf_22 : decode cX0_shareOf 22 = .ok (.lstore 4, 2) := by decide +kernel
theorem dX0_shareOf_24 : decode cX0_shareOf 24 = .ok (.iinc 6 1, 3) := by decide +kernel
theorem dX0_shareOf_27 : decode cX0_shareOf 27 = .ok (.goto (-21), 3) := by decide +kernel
theorem dX0_shareOf_30 : decode cX0_shareOf 30 = .ok (.lload 4, 2) := by decide +kernel
theorem dX0_shareOf_32 : decode cX0_shareOf 32 = .ok (.lconst 0, 1) := by decide +kernel
theorem dX0_shareOf_33 : decode cX0_shareOf 33 = .ok (.lcmp, 1) := by decide +kernel
theorem dX0_shareOf_34 : decode cX0_shareOf 34 = .ok (.ifCond .le 12, 3) := by decide +kernel
theorem dX0_shareOf_37 : decode cX0_shareOf 37 = .ok (.iload_n 1, 1) := by decide +kernel
theorem dX0_shareOf_38 : decode cX0_shareOf 38 = .ok (.ifCond .lt 8, 3) := by decide +kernel
theorem dX0_shareOf_41 : decode cX0_shareOf 41 = .ok (.iload_n 1, 1) := by decide +kernel
theorem dX0_shareOf_42 : decode cX0_shareOf 42 = .ok (.iconst 4, 1) := by decide +kernel
theorem dX0_shareOf_43 : decode cX0_shareOf 43 = .ok (.if_icmp .lt 5, 3) := by decide +kernel
theorem dX0_shareOf_46 : decode cX0_shareOf 46 = .ok (.lconst 0, 1) := by decide +kernel
theorem dX0_shareOf_47 : decode cX0_shareOf 47 = .ok (.lreturn, 1) := by decide +kernel
theorem dX0_shareOf_48 : decode cX0_shareOf 48 = .ok (.lload_n 2, 1) := by decide +kernel
theorem dX0_shareOf_49 : decode cX0_shareOf 49 = .ok (.lstore 6, 2) := by decide +kernel
theorem dX0_shareOf_51 : decode cX0_shareOf 51 = .ok (.iconst 0, 1) := by decide +kernel
theorem dX0_shareOf_52 : decode cX0_shareOf 52 = .ok (.istore 8, 2) := by decide +kernel
theorem dX0_shareOf_54 : decode cX0_shareOf 54 = .ok (.iconst 0, 1) := by decide +kernel
theorem dX0_shareOf_55 : decode cX0_shareOf 55 = .ok (.istore 9, 2) := by decide +kernel
theorem dX0_shareOf_57 : decode cX0_shareOf 57 = .ok (.iload 9, 2) := by decide +kernel
theorem dX0_shareOf_59 : decode cX0_shareOf 59 = .ok (.iconst 4, 1) := by decide +kernel
theorem dX0_shareOf_60 : decode cX0_shareOf 60 = .ok (.if_icmp .ge 47, 3) := by decide +kernel
theorem dX0_shareOf_63 : decode cX0_shareOf 63 = .ok (.lload 6, 2) := by decide +kernel
theorem dX0_shareOf_65 : decode cX0_shareOf 65 = .ok (.lload_n 2, 1) := by decide +kernel
theorem dX0_shareOf_66 : decode cX0_shareOf 66 = .ok (.aload_n 0, 1) := by decide +kernel
theorem dX0_shareOf_67 : decode cX0_shareOf 67 = .ok (.getfield 30, 3) := by decide +kernel
theorem dX0_shareOf_70 : decode cX0_shareOf 70 = .ok (.iload 9, 2) := by decide +kernel
theorem dX0_shareOf_72 : decode cX0_shareOf 72 = .ok (.laload, 1) := by decide +kernel
theorem dX0_shareOf_73 : decode cX0_shareOf 73 = .ok (.lmul, 1) := by decide +kernel
theorem dX0_shareOf_74 : decode cX0_shareOf 74 = .ok (.lload 4, 2) := by decide +kernel
theorem dX0_shareOf_76 : decode cX0_shareOf 76 = .ok (.ldiv, 1) := by decide +kernel
theorem dX0_shareOf_77 : decode cX0_shareOf 77 = .ok (.lsub, 1) := by decide +kernel
theorem dX0_shareOf_78 : decode cX0_shareOf 78 = .ok (.lstore 6, 2) := by decide +kernel
theorem dX0_shareOf_80 : decode cX0_shareOf 80 = .ok (.iload 9, 2) := by decide +kernel
theorem dX0_shareOf_82 : decode cX0_shareOf 82 = .ok (.iload_n 1, 1) := by decide +kernel
theorem dX0_shareOf_83 : decode cX0_shareOf 83 = .ok (.if_icmp .ge 18, 3) := by decide +kernel
theorem dX0_shareOf_86 : decode cX0_shareOf 86 = .ok (.aload_n 0, 1) := by decide +kernel
theorem dX0_shareOf_87 : decode cX0_shareOf 87 = .ok (.getfield 30, 3) := by decide +kernel
theorem dX0_shareOf_90 : decode cX0_shareOf 90 = .ok (.iload 9, 2) := by decide +kernel
theorem dX0_shareOf_92 : decode cX0_shareOf 92 = .ok (.laload, 1) := by decide +kernel
theorem dX0_shareOf_93 : decode cX0_shareOf 93 = .ok (.lconst 0, 1) := by decide +kernel
theorem dX0_shareOf_94 : decode cX0_shareOf 94 = .ok (.lcmp, 1) := by decide +kernel
theorem dX0_shareOf_95 : decode cX0_shareOf 95 = .ok (.ifCond .le 6, 3) := by decide +kernel
theorem dX0_shareOf_98 : decode cX0_shareOf 98 = .ok (.iinc 8 1, 3) := by decide +kernel
theorem dX0_shareOf_101 : decode cX0_shareOf 101 = .ok (.iinc 9 1, 3) := by decide +kernel
theorem dX0_shareOf_104 : decode cX0_shareOf 104 = .ok (.goto (-47), 3) := by decide +kernel
theorem dX0_shareOf_107 : decode cX0_shareOf 107 = .ok (.lload_n 2, 1) := by decide +kernel
theorem dX0_shareOf_108 : decode cX0_shareOf 108 = .ok (.aload_n 0, 1) := by decide +kernel
theorem dX0_shareOf_109 : decode cX0_shareOf 109 = .ok (.getfield 30, 3) := by decide +kernel
theorem dX0_shareOf_112 : decode cX0_shareOf 112 = .ok (.iload_n 1, 1) := by decide +kernel
theorem dX0_shareOf_113 : decode cX0_shareOf 113 = .ok (.laload, 1) := by decide +kernel
theorem dX0_shareOf_114 : decode cX0_shareOf 114 = .ok (.lmul, 1) := by decide +kernel
theorem dX0_shareOf_115 : decode cX0_shareOf 115 = .ok (.lload 4, 2) := by decide +kernel
theorem dX0_shareOf_117 : decode cX0_shareOf 117 = .ok (.ldiv, 1) := by decide +kernel
theorem dX0_shareOf_118 : decode cX0_shareOf 118 = .ok (.lstore 9, 2) := by decide +kernel
theorem dX0_shareOf_120 : decode cX0_shareOf 120 = .ok (.iload 8, 2) := by decide +kernel
theorem dX0_shareOf_122 : decode cX0_shareOf 122 = .ok (.i2l, 1) := by decide +kernel
theorem dX0_shareOf_123 : decode cX0_shareOf 123 = .ok (.lload 6, 2) := by decide +kernel
theorem dX0_shareOf_125 : decode cX0_shareOf 125 = .ok (.lcmp, 1) := by decide +kernel
theorem dX0_shareOf_126 : decode cX0_shareOf 126 = .ok (.ifCond .ge 10, 3) := by decide +kernel
theorem dX0_shareOf_129 : decode cX0_shareOf 129 = .ok (.lload 9, 2) := by decide +kernel
theorem dX0_shareOf_131 : decode cX0_shareOf 131 = .ok (.lconst 1, 1) := by decide +kernel
theorem dX0_shareOf_132 : decode cX0_shareOf 132 = .ok (.ladd, 1) := by decide +kernel
theorem dX0_shareOf_133 : decode cX0_shareOf 133 = .ok (.goto 5, 3) := by decide +kernel
theorem dX0_shareOf_136 : decode cX0_shareOf 136 = .ok (.lload 9, 2) := by decide +kernel
theorem dX0_shareOf_138 : decode cX0_shareOf 138 = .ok (.lreturn, 1) := by decide +kernel
theorem dX0_copyFrom_0 : decode cX0_copyFrom 0 = .ok (.aload_n 1, 1) := by decide +kernel
theorem dX0_copyFrom_1 : decode cX0_copyFrom 1 = .ok (.getfield 9, 3) := by decide +kernel
theorem dX0_copyFrom_4 : decode cX0_copyFrom 4 = .ok (.iconst 0, 1) := by decide +kernel
theorem dX0_copyFrom_5 : decode cX0_copyFrom 5 = .ok (.aload_n 0, 1) := by decide +kernel
theorem dX0_copyFrom_6 : decode cX0_copyFrom 6 = .ok (.getfield 9, 3) := by decide +kernel
theorem dX0_copyFrom_9 : decode cX0_copyFrom 9 = .ok (.iconst 0, 1) := by decide +kernel
theorem dX0_copyFrom_10 : decode cX0_copyFrom 10 = .ok (.iconst 4, 1) := by decide +kernel
theorem dX0_copyFrom_11 : decode cX0_copyFrom 11 = .ok (.invokestatic 104, 3) := by decide +kernel
theorem dX0_copyFrom_14 : decode cX0_copyFrom 14 = .ok (.aload_n 1, 1) := by decide +kernel
theorem dX0_copyFrom_15 : decode cX0_copyFrom 15 = .ok (.getfield 15, 3) := by decide +kernel
theorem dX0_copyFrom_18 : decode cX0_copyFrom 18 = .ok (.iconst 0, 1) := by decide +kernel
theorem dX0_copyFrom_19 : decode cX0_copyFrom 19 = .ok (.aload_n 0, 1) := by decide +kernel
theorem dX0_copyFrom_20 : decode cX0_copyFrom 20 = .ok (.getfield 15, 3) := by decide +kernel
theorem dX0_copyFrom_23 : decode cX0_copyFrom 23 = .ok (.iconst 0, 1) := by decide +kernel
theorem dX0_copyFrom_24 : decode cX0_copyFrom 24 = .ok (.iconst 4, 1) := by decide +kernel
theorem dX0_copyFrom_25 : decode cX0_copyFrom 25 = .ok (.invokestatic 104, 3) := by decide +kernel
theorem dX0_copyFrom_28 : decode cX0_copyFrom 28 = .ok (.aload_n 1, 1) := by decide +kernel
theorem dX0_copyFrom_29 : decode cX0_copyFrom 29 = .ok (.getfield 18, 3) := by decide +kernel
theorem dX0_copyFrom_32 : decode cX0_copyFrom 32 = .ok (.iconst 0, 1) := by decide +kernel
theorem dX0_copyFrom_33 : decode cX0_copyFrom 33 = .ok (.aload_n 0, 1) := by decide +kernel
theorem dX0_copyFrom_34 : decode cX0_copyFrom 34 = .ok (.getfield 18, 3) := by decide +kernel
theorem dX0_copyFrom_37 : decode cX0_copyFrom 37 = .ok (.iconst 0, 1) := by decide +kernel
theorem dX0_copyFrom_38 : decode cX0_copyFrom 38 = .ok (.iconst 4, 1) := by decide +kernel
theorem dX0_copyFrom_39 : decode cX0_copyFrom 39 = .ok (.invokestatic 104, 3) := by decide +kernel
theorem dX0_copyFrom_42 : decode cX0_copyFrom 42 = .ok (.aload_n 1, 1) := by decide +kernel
theorem dX0_copyFrom_43 : decode cX0_copyFrom 43 = .ok (.getfield 21, 3) := by decide +kernel
theorem dX0_copyFrom_46 : decode cX0_copyFrom 46 = .ok (.iconst 0, 1) := by decide +kernel
theorem dX0_copyFrom_47 : decode cX0_copyFrom 47 = .ok (.aload_n 0, 1) := by decide +kernel
theorem dX0_copyFrom_48 : decode cX0_copyFrom 48 = .ok (.getfield 21, 3) := by decide +kernel
theorem dX0_copyFrom_51 : decode cX0_copyFrom 51 = .ok (.iconst 0, 1) := by decide +kernel
theorem dX0_copyFrom_52 : decode cX0_copyFrom 52 = .ok (.iconst 4, 1) := by decide +kernel
theorem dX0_copyFrom_53 : decode cX0_copyFrom 53 = .ok (.invokestatic 104, 3) := by decide +kernel
theorem dX0_copyFrom_56 : decode cX0_copyFrom 56 = .ok (.aload_n 1, 1) := by decide +kernel
theorem dX0_copyFrom_57 : decode cX0_copyFrom 57 = .ok (.getfield 24, 3) := by decide +kernel
theorem dX0_copyFrom_60 : decode cX0_copyFrom 60 = .ok (.iconst 0, 1) := by decide +kernel
theorem dX0_copyFrom_61 : decode cX0_copyFrom 61 = .ok (.aload_n 0, 1) := by decide +kernel
theorem dX0_copyFrom_62 : decode cX0_copyFrom 62 = .ok (.getfield 24, 3) := by decide +kernel
theorem dX0_copyFrom_65 : decode cX0_copyFrom 65 = .ok (.iconst 0, 1) := by decide +kernel
theorem dX0_copyFrom_66 : decode cX0_copyFrom 66 = .ok (.iconst 3, 1) := by decide +kernel
theorem dX0_copyFrom_67 : decode cX0_copyFrom 67 = .ok (.invokestatic 104, 3) := by decide +kernel
theorem dX0_copyFrom_70 : decode cX0_copyFrom 70 = .ok (.aload_n 0, 1) := by decide +kernel
theorem dX0_copyFrom_71 : decode cX0_copyFrom 71 = .ok (.aload_n 1, 1) := by decide +kernel
theorem dX0_copyFrom_72 : decode cX0_copyFrom 72 = .ok (.getfield 43, 3) := by decide +kernel
theorem dX0_copyFrom_75 : decode cX0_copyFrom 75 = .ok (.putfield 43, 3) := by decide +kernel
theorem dX0_copyFrom_78 : decode cX0_copyFrom 78 = .ok (.aload_n 0, 1) := by decide +kernel
theorem dX0_copyFrom_79 : decode cX0_copyFrom 79 = .ok (.aload_n 1, 1) := by decide +kernel
theorem dX0_copyFrom_80 : decode cX0_copyFrom 80 = .ok (.getfield 47, 3) := by decide +kernel
theorem dX0_copyFrom_83 : decode cX0_copyFrom 83 = .ok (.putfield 47, 3) := by decide +kernel
theorem dX0_copyFrom_86 : decode cX0_copyFrom 86 = .ok (.return_, 1) := by decide +kernel
theorem dX1_init_0 : decode cX1_init 0 = .ok (.aload_n 0, 1) := by decide +kernel
theorem dX1_init_1 : decode cX1_init 1 = .ok (.invokespecial 3, 3) := by decide +kernel
theorem dX1_init_4 : decode cX1_init 4 = .ok (.aload_n 0, 1) := by decide +kernel
theorem dX1_init_5 : decode cX1_init 5 = .ok (.new 9, 3) := by decide +kernel
theorem dX1_init_8 : decode cX1_init 8 = .ok (.dup, 1) := by decide +kernel
theorem dX1_init_9 : decode cX1_init 9 = .ok (.invokespecial 11, 3) := by decide +kernel
theorem dX1_init_12 : decode cX1_init 12 = .ok (.putfield 12, 3) := by decide +kernel
theorem dX1_init_15 : decode cX1_init 15 = .ok (.aload_n 0, 1) := by decide +kernel
theorem dX1_init_16 : decode cX1_init 16 = .ok (.iconst (-1), 1) := by decide +kernel
theorem dX1_init_17 : decode cX1_init 17 = .ok (.putfield 18, 3) := by decide +kernel
theorem dX1_init_20 : decode cX1_init 20 = .ok (.return_, 1) := by decide +kernel
theorem dX1_doText_0 : decode cX1_doText 0 = .ok (.aload_n 0, 1) := by decide +kernel
theorem dX1_doText_1 : decode cX1_doText 1 = .ok (.aload_n 1, 1) := by decide +kernel
theorem dX1_doText_2 : decode cX1_doText 2 = .ok (.putfield 22, 3) := by decide +kernel
theorem dX1_doText_5 : decode cX1_doText 5 = .ok (.aload_n 0, 1) := by decide +kernel
theorem dX1_doText_6 : decode cX1_doText 6 = .ok (.iload_n 2, 1) := by decide +kernel
theorem dX1_doText_7 : decode cX1_doText 7 = .ok (.putfield 26, 3) := by decide +kernel
theorem dX1_doText_10 : decode cX1_doText 10 = .ok (.aload_n 0, 1) := by decide +kernel
theorem dX1_doText_11 : decode cX1_doText 11 = .ok (.iload_n 3, 1) := by decide +kernel
theorem dX1_doText_12 : decode cX1_doText 12 = .ok (.putfield 29, 3) := by decide +kernel
theorem dX1_doText_15 : decode cX1_doText 15 = .ok (.aload_n 0, 1) := by decide +kernel
theorem dX1_doText_16 : decode cX1_doText 16 = .ok (.iconst 0, 1) := by decide +kernel
theorem dX1_doText_17 : decode cX1_doText 17 = .ok (.putfield 32, 3) := by decide +kernel
theorem dX1_doText_20 : decode cX1_doText 20 = .ok (.aload_n 0, 1) := by decide +kernel
theorem dX1_doText_21 : decode cX1_doText 21 = .ok (.iconst 0, 1) := by decide +kernel
theorem dX1_doText_22 : decode cX1_doText 22 = .ok (.putfield 35, 3) := by decide +kernel
theorem dX1_doText_25 : decode cX1_doText 25 = .ok (.aload_n 1, 1) := by decide +kernel
theorem dX1_doText_26 : decode cX1_doText 26 = .ok (.ifnonnull 7, 3) := by decide +kernel
theorem dX1_doText_29 : decode cX1_doText 29 = .ok (.iconst 0, 1) := by decide +kernel
theorem dX1_doText_30 : decode cX1_doText 30 = .ok (.goto 7, 3) := by decide +kernel
theorem dX1_doText_33 : decode cX1_doText 33 = .ok (.aload_n 1, 1) := by decide +kernel
theorem dX1_doText_34 : decode cX1_doText 34 = .ok (.getfield 38, 3) := by decide +kernel
theorem dX1_doText_37 : decode cX1_doText 37 = .ok (.istore 4, 2) := by decide +kernel
theorem dX1_doText_39 : decode cX1_doText 39 = .ok (.iconst 1, 1) := by decide +kernel
theorem dX1_doText_40 : decode cX1_doText 40 = .ok (.istore 5, 2) := by decide +kernel
theorem dX1_doText_42 : decode cX1_doText 42 = .ok (.iconst 0, 1) := by decide +kernel
theorem dX1_doText_43 : decode cX1_doText 43 = .ok (.istore 6, 2) := by decide +kernel
theorem dX1_doText_45 : decode cX1_doText 45 = .ok (.iload 6, 2) := by decide +kernel
theorem dX1_doText_47 : decode cX1_doText 47 = .ok (.iload 4, 2) := by decide +kernel
theorem dX1_doText_49 : decode cX1_doText 49 = .ok (.if_icmp .ge 154, 3) := by decide +kernel
theorem dX1_doText_52 : decode cX1_doText 52 = .ok (.iload 5, 2) := by decide +kernel
theorem dX1_doText_54 : decode cX1_doText 54 = .ok (.ifCond .eq 149, 3) := by decide +kernel
theorem dX1_doText_57 : decode cX1_doText 57 = .ok (.aload_n 0, 1) := by decide +kernel
theorem dX1_doText_58 : decode cX1_doText 58 = .ok (.invokevirtual 43, 3) := by decide +kernel
theorem dX1_doText_61 : decode cX1_doText 61 = .ok (.tableswitch 122 257 263 #[43, 60, 122, 122, 81, 122, 98], 43) := by decide +kernel
theorem dX1_doText_104 : decode cX1_doText 104 = .ok (.aload_n 0, 1) := by decide +kernel
theorem dX1_doText_105 : decode cX1_doText 105 = .ok (.aload_n 0, 1) := by decide +kernel
theorem dX1_doText_106 : decode cX1_doText 106 = .ok (.invokevirtual 43, 3) := by decide +kernel
theorem dX1_doText_109 : decode cX1_doText 109 = .ok (.aload_n 0, 1) := by decide +kernel
theorem dX1_doText_110 : decode cX1_doText 110 = .ok (.invokevirtual 43, 3) := by decide +kernel
theorem dX1_doText_113 : decode cX1_doText 113 = .ok (.invokevirtual 47, 3) := by decide +kernel
theorem dX1_doText_116 : decode cX1_doText 116 = .ok (.istore 5, 2) := by decide +kernel
theorem dX1_doText_118 : decode cX1_doText 118 = .ok (.goto 79, 3) := by decide +kernel
theorem dX1_doText_121 : decode cX1_doText 121 = .ok (.aload_n 0, 1) := by decide +kernel
theorem dX1_doText_122 : decode cX1_doText 122 = .ok (.aload_n 0, 1) := by decide +kernel
theorem dX1_doText_123 : decode cX1_doText 123 = .ok (.invokevirtual 43, 3) := by decide +kernel
theorem dX1_doText_126 : decode cX1_doText 126 = .ok (.aload_n 0, 1) := by decide +kernel
theorem dX1_doText_127 : decode cX1_doText 127 = .ok (.invokevirtual 43, 3) := by decide +kernel
theorem dX1_doText_130 : decode cX1_doText 130 = .ok (.aload_n 0, 1) := by decide +kernel
theorem dX1_doText_131 : decode cX1_doText 131 = .ok (.invokevirtual 43, 3) := by decide +kernel
theorem dX1_doText_134 : decode cX1_doText 134 = .ok (.invokevirtual 51, 3) := by decide +kernel
theorem dX1_doText_137 : decode cX1_doText 137 = .ok (.istore 5, 2) := by decide +kernel
theorem dX1_doText_139 : decode cX1_doText 139 = .ok (.goto 58, 3) := by decide +kernel
theorem dX1_doText_142 : decode cX1_doText 142 = .ok (.aload_n 0, 1) := by decide +kernel
theorem dX1_doText_143 : decode cX1_doText 143 = .ok (.aload_n 0, 1) := by decide +kernel
theorem dX1_doText_144 : decode cX1_doText 144 = .ok (.invokevirtual 43, 3) := by decide +kernel
theorem dX1_doText_147 : decode cX1_doText 147 = .ok (.aload_n 0, 1) := by decide +kernel
theorem dX1_doText_148 : decode cX1_doText 148 = .ok (.invokevirtual 43, 3) := by decide +kernel
theorem dX1_doText_151 : decode cX1_doText 151 = .ok (.invokevirtual 55, 3) := by decide +kernel
theorem dX1_doText_154 : decode cX1_doText 154 = .ok (.istore 5, 2) := by decide +kernel
theorem dX1_doText_156 : decode cX1_doText 156 = .ok (.goto 41, 3) := by decide +kernel
theorem dX1_doText_159 : decode cX1_doText 159 = .ok (.aload_n 0, 1) := by decide +kernel
theorem dX1_doText_160 : decode cX1_doText 160 = .ok (.dup, 1) := by decide +kernel
theorem dX1_doText_161 : decode cX1_doText 161 = .ok (.getfield 35, 3) := by decide +kernel
theorem dX1_doText_164 : decode cX1_doText 164 = .ok (.aload_n 0, 1) := by decide +kernel
theorem dX1_doText_165 : decode cX1_doText 165 = .ok (.invokevirtual 58, 3) := by decide +kernel
theorem dX1_doText_168 : decode cX1_doText 168 = .ok (.ifCond .eq 7, 3) := by decide +kernel
theorem dX1_doText_171 : decode cX1_doText 171 = .ok (.iconst 1, 1) := by decide +kernel
theorem dX1_doText_172 : decode cX1_doText 172 = .ok (.goto 4, 3) := by decide +kernel
theorem dX1_doText_175 : decode cX1_doText 175 = .ok (.iconst 0, 1) := by decide +kernel
theorem dX1_doText_176 : decode cX1_doText 176 = .ok (.iadd, 1) := by decide +kernel
theorem dX1_doText_177 : decode cX1_doText 177 = .ok (.putfield 35, 3) := by decide +kernel
theorem dX1_doText_180 : decode cX1_doText 180 = .ok (.goto 17, 3) := by decide +kernel
theorem dX1_doText_183 : decode cX1_doText 183 = .ok (.aload_n 0, 1) := by decide +kernel
theorem dX1_doText_184 : decode cX1_doText 184 = .ok (.invokevirtual 58, 3) := by decide +kernel
theorem dX1_doText_187 : decode cX1_doText 187 = .ok (.ifCond .ne 7, 3) := by decide +kernel
theorem dX1_doText_190 : decode cX1_doText 190 = .ok (.iconst 1, 1) := by decide +kernel
theorem dX1_doText_191 : decode cX1_doText 191 = .ok (.goto 4, 3) := by decide +kernel
theorem dX1_doText_194 : decode cX1_doText 194 = .ok (.iconst 0, 1) := by decide +kernel
theorem dX1_doText_195 : decode cX1_doText 195 = .ok (.istore 5, 2) := by decide +kernel
theorem dX1_doText_197 : decode cX1_doText 197 = .ok (.iinc 6 1, 3) := by decide +kernel
theorem dX1_doText_200 : decode cX1_doText 200 = .ok (.goto (-155), 3) := by decide +kernel
theorem dX1_doText_203 : decode cX1_doText 203 = .ok (.iload 5, 2) := by decide +kernel
theorem dX1_doText_205 : decode cX1_doText 205 = .ok (.ireturn, 1) := by decide +kernel
theorem dX1_doShortly_0 : decode cX1_doShortly 0 = .ok (.iconst 0, 1) := by decide +kernel
theorem dX1_doShortly_1 : decode cX1_doShortly 1 = .ok (.istore 4, 2) := by decide +kernel
theorem dX1_doShortly_3 : decode cX1_doShortly 3 = .ok (.iload 4, 2) := by decide +kernel
theorem dX1_doShortly_5 : decode cX1_doShortly 5 = .ok (.bipush 64, 2) := by decide +kernel
theorem dX1_doShortly_7 : decode cX1_doShortly 7 = .ok (.if_icmp .ge 44, 3) := by decide +kernel
theorem dX1_doShortly_10 : decode cX1_doShortly 10 = .ok (.lload_n 1, 1) := by decide +kernel
theorem dX1_doShortly_11 : decode cX1_doShortly 11 = .ok (.iload 4, 2) := by decide +kernel
theorem dX1_doShortly_13 : decode cX1_doShortly 13 = .ok (.lushr, 1) := by decide +kernel
theorem dX1_doShortly_14 : decode cX1_doShortly 14 = .ok (.lconst 1, 1) := by decide +kernel
theorem dX1_doShortly_15 : decode cX1_doShortly 15 = .ok (.land, 1) := by decide +kernel
theorem dX1_doShortly_16 : decode cX1_doShortly 16 = .ok (.lconst 0, 1) := by decide +kernel
theorem dX1_doShortly_17 : decode cX1_doShortly 17 = .ok (.lcmp, 1) := by decide +kernel
theorem dX1_doShortly_18 : decode cX1_doShortly 18 = .ok (.ifCond .eq 27, 3) := by decide +kernel
theorem dX1_doShortly_21 : decode cX1_doShortly 21 = .ok (.aload_n 0, 1) := by decide +kernel
theorem dX1_doShortly_22 : decode cX1_doShortly 22 = .ok (.iload 4, 2) := by decide +kernel
theorem dX1_doShortly_24 : decode cX1_doShortly 24 = .ok (.aload_n 0, 1) := by decide +kernel
theorem dX1_doShortly_25 : decode cX1_doShortly 25 = .ok (.getfield 12, 3) := by decide +kernel
theorem dX1_doShortly_28 : decode cX1_doShortly 28 = .ok (.iload 4, 2) := by decide +kernel
theorem dX1_doShortly_30 : decode cX1_doShortly 30 = .ok (.invokevirtual 62, 3) := by decide +kernel
theorem dX1_doShortly_33 : decode cX1_doShortly 33 = .ok (.i2l, 1) := by decide +kernel
theorem dX1_doShortly_34 : decode cX1_doShortly 34 = .ok (.iload_n 3, 1) := by decide +kernel
theorem dX1_doShortly_35 : decode cX1_doShortly 35 = .ok (.i2l, 1) := by decide +kernel
theorem dX1_doShortly_36 : decode cX1_doShortly 36 = .ok (.ladd, 1) := by decide +kernel
theorem dX1_doShortly_37 : decode cX1_doShortly 37 = .ok (.invokevirtual 66, 3) := by decide +kernel
theorem dX1_doShortly_40 : decode cX1_doShortly 40 = .ok (.ifCond .ne 5, 3) := by decide +kernel
theorem dX1_doShortly_43 : decode cX1_doShortly 43 = .ok (.iconst 0, 1) := by decide +kernel
theorem dX1_doShortly_44 : decode cX1_doShortly 44 = .ok (.ireturn, 1) := by decide +kernel
theorem dX1_doShortly_45 : decode cX1_doShortly 45 = .ok (.iinc 4 1, 3) := by decide +kernel
theorem dX1_doShortly_48 : decode cX1_doShortly 48 = .ok (.goto (-45), 3) := by decide +kernel
theorem dX1_doShortly_51 : decode cX1_doShortly 51 = .ok (.iconst 1, 1) := by decide +kernel
theorem dX1_doShortly_52 : decode cX1_doShortly 52 = .ok (.ireturn, 1) := by decide +kernel
theorem dX1_doSet_0 : decode cX1_doSet 0 = .ok (.aload_n 0, 1) := by decide +kernel
theorem dX1_doSet_1 : decode cX1_doSet 1 = .ok (.getfield 32, 3) := by decide +kernel
theorem dX1_doSet_4 : decode cX1_doSet 4 = .ok (.istore_n 3, 1) := by decide +kernel
theorem dX1_doSet_5 : decode cX1_doSet 5 = .ok (.lconst 0, 1) := by decide +kernel
theorem dX1_doSet_6 : decode cX1_doSet 6 = .ok (.lstore 4, 2) := by decide +kernel
theorem dX1_doSet_8 : decode cX1_doSet 8 = .ok (.iconst 1, 1) := by decide +kernel
theorem dX1_doSet_9 : decode cX1_doSet 9 = .ok (.istore 6, 2) := by decide +kernel
theorem dX1_doSet_11 : decode cX1_doSet 11 = .ok (.iconst 0, 1) := by decide +kernel
theorem dX1_doSet_12 : decode cX1_doSet 12 = .ok (.istore 7, 2) := by decide +kernel
theorem dX1_doSet_14 : decode cX1_doSet 14 = .ok (.iload 7, 2) := by decide +kernel
theorem dX1_doSet_16 : decode cX1_doSet 16 = .ok (.iload_n 2, 1) := by decide +kernel
theorem dX1_doSet_17 : decode cX1_doSet 17 = .ok (.if_icmp .ge 51, 3) := by decide +kernel
theorem dX1_doSet_20 : decode cX1_doSet 20 = .ok (.iload 6, 2) := by decide +kernel
theorem dX1_doSet_22 : decode cX1_doSet 22 = .ok (.ifCond .eq 46, 3) := by decide +kernel
theorem dX1_doSet_25 : decode cX1_doSet 25 = .ok (.aload_n 0, 1) := by decide +kernel
theorem dX1_doSet_26 : decode cX1_doSet 26 = .ok (.iload_n 3, 1) := by decide +kernel
theorem dX1_doSet_27 : decode cX1_doSet 27 = .ok (.putfield 32, 3) := by decide +kernel
theorem dX1_doSet_30 : decode cX1_doSet 30 = .ok (.aload_n 0, 1) := by decide +kernel
theorem dX1_doSet_31 : decode cX1_doSet 31 = .ok (.invokevirtual 70, 3) := by decide +kernel
theorem dX1_doSet_34 : decode cX1_doSet 34 = .ok (.lstore 4, 2) := by decide +kernel
theorem dX1_doSet_36 : decode cX1_doSet 36 = .ok (.lload 4, 2) := by decide +kernel
theorem dX1_doSet_38 : decode cX1_doSet 38 = .ok (.invokestatic 74, 3) := by decide +kernel
theorem dX1_doSet_41 : decode cX1_doSet 41 = .ok (.ifCond .ne 7, 3) := by decide +kernel
theorem dX1_doSet_44 : decode cX1_doSet 44 = .ok (.iconst 1, 1) := by decide +kernel
theorem dX1_doSet_45 : decode cX1_doSet 45 = .ok (.goto 4, 3) := by decide +kernel
theorem dX1_doSet_48 : decode cX1_doSet 48 = .ok (.iconst 0, 1) := by decide +kernel
theorem dX1_doSet_49 : decode cX1_doSet 49 = .ok (.istore 6, 2) := by decide +kernel
theorem dX1_doSet_51 : decode cX1_doSet 51 = .ok (.aload_n 0, 1) := by decide +kernel
theorem dX1_doSet_52 : decode cX1_doSet 52 = .ok (.iload_n 1, 1) := by decide +kernel
theorem dX1_doSet_53 : decode cX1_doSet 53 = .ok (.putfield 18, 3) := by decide +kernel
theorem dX1_doSet_56 : decode cX1_doSet 56 = .ok (.aload_n 0, 1) := by decide +kernel
theorem dX1_doSet_57 : decode cX1_doSet 57 = .ok (.lload 4, 2) := by decide +kernel
theorem dX1_doSet_59 : decode cX1_doSet 59 = .ok (.putfield 78, 3) := by decide +kernel
theorem dX1_doSet_62 : decode cX1_doSet 62 = .ok (.iinc 7 1, 3) := by decide +kernel
theorem dX1_doSet_65 : decode cX1_doSet 65 = .ok (.goto (-51), 3) := by decide +kernel
theorem dX1_doSet_68 : decode cX1_doSet 68 = .ok (.aload_n 0, 1) := by decide +kernel
theorem dX1_doSet_69 : decode cX1_doSet 69 = .ok (.iconst (-1), 1) := by decide +kernel
theorem dX1_doSet_70 : decode cX1_doSet 70 = .ok (.putfield 18, 3) := by decide +kernel
theorem dX1_doSet_73 : decode cX1_doSet 73 = .ok (.iload 6, 2) := by decide +kernel
theorem dX1_doSet_75 : decode cX1_doSet 75 = .ok (.ifCond .eq 17, 3) := by decide +kernel
theorem dX1_doSet_78 : decode cX1_doSet 78 = .ok (.aload_n 0, 1) := by decide +kernel
theorem dX1_doSet_79 : decode cX1_doSet 79 = .ok (.iload_n 1, 1) := by decide +kernel
theorem dX1_doSet_80 : decode cX1_doSet 80 = .ok (.lload 4, 2) := by decide +kernel
theorem dX1_doSet_82 : decode cX1_doSet 82 = .ok (.invokevirtual 66, 3) := by decide +kernel
theorem dX1_doSet_85 : decode cX1_doSet 85 = .ok (.ifCond .eq 7, 3) := by decide +kernel
theorem dX1_doSet_88 : decode cX1_doSet 88 = .ok (.iconst 1, 1) := by decide +kernel
theorem dX1_doSet_89 : decode cX1_doSet 89 = .ok (.goto 4, 3) := by decide +kernel
theorem dX1_doSet_92 : decode cX1_doSet 92 = .ok (.iconst 0, 1) := by decide +kernel
theorem dX1_doSet_93 : decode cX1_doSet 93 = .ok (.ireturn, 1) := by decide +kernel
theorem dX1_doTotal_0 : decode cX1_doTotal 0 = .ok (.lconst 0, 1) := by decide +kernel
theorem dX1_doTotal_1 : decode cX1_doTotal 1 = .ok (.lstore 4, 2) := by decide +kernel
theorem dX1_doTotal_3 : decode cX1_doTotal 3 = .ok (.iload_n 2, 1) := by decide +kernel
theorem dX1_doTotal_4 : decode cX1_doTotal 4 = .ok (.istore 6, 2) := by decide +kernel
theorem dX1_doTotal_6 : decode cX1_doTotal 6 = .ok (.iload 6, 2) := by decide +kernel
theorem dX1_doTotal_8 : decode cX1_doTotal 8 = .ok (.iload_n 3, 1) := by decide +kernel
theorem dX1_doTotal_9 : decode cX1_doTotal 9 = .ok (.if_icmp .gt 31, 3) := by decide +kernel
theorem dX1_doTotal_12 : decode cX1_doTotal 12 = .ok (.iload 6, 2) := by decide +kernel
theorem dX1_doTotal_14 : decode cX1_doTotal 14 = .ok (.bipush 64, 2) := by decide +kernel
theorem dX1_doTotal_16 : decode cX1_doTotal 16 = .ok (.if_icmp .ge 24, 3) := by decide +kernel
theorem dX1_doTotal_19 : decode cX1_doTotal 19 = .ok (.lload 4, 2) := by decide +kernel
theorem dX1_doTotal_21 : decode cX1_doTotal 21 = .ok (.aload_n 0, 1) := by decide +kernel
theorem dX1_doTotal_22 : decode cX1_doTotal 22 = .ok (.getfield 12, 3) := by decide +kernel
theorem dX1_doTotal_25 : decode cX1_doTotal 25 = .ok (.iload 6, 2) := by decide +kernel
theorem dX1_doTotal_27 : decode cX1_doTotal 27 = .ok (.invokevirtual 82, 3) := by decide +kernel
theorem dX1_doTotal_30 : decode cX1_doTotal 30 = .ok (.i2l, 1) := by decide +kernel
theorem dX1_doTotal_31 : decode cX1_doTotal 31 = .ok (.ladd, 1) := by decide +kernel
theorem dX1_doTotal_32 : decode cX1_doTotal 32 = .ok (.lstore 4, 2) := by decide +kernel
theorem dX1_doTotal_34 : decode cX1_doTotal 34 = .ok (.iinc 6 1, 3) := by decide +kernel
theorem dX1_doTotal_37 : decode cX1_doTotal 37 = .ok (.goto (-31), 3) := by decide +kernel
theorem dX1_doTotal_40 : decode cX1_doTotal 40 = .ok (.aload_n 0, 1) := by decide +kernel
theorem dX1_doTotal_41 : decode cX1_doTotal 41 = .ok (.iload_n 1, 1) := by decide +kernel
theorem dX1_doTotal_42 : decode cX1_doTotal 42 = .ok (.lload 4, 2) := by decide +kernel
theorem dX1_doTotal_44 : decode cX1_doTotal 44 = .ok (.invokevirtual 66, 3) := by decide +kernel
theorem dX1_doTotal_47 : decode cX1_doTotal 47 = .ok (.ireturn, 1) := by decide +kernel
theorem dX1_doRound_0 : decode cX1_doRound 0 = .ok (.iload_n 2, 1) := by decide +kernel
theorem dX1_doRound_1 : decode cX1_doRound 1 = .ok (.ifCond .gt 5, 3) := by decide +kernel
theorem dX1_doRound_4 : decode cX1_doRound 4 = .ok (.iconst 0, 1) := by decide +kernel
theorem dX1_doRound_5 : decode cX1_doRound 5 = .ok (.ireturn, 1) := by decide +kernel
theorem dX1_doRound_6 : decode cX1_doRound 6 = .ok (.aload_n 0, 1) := by decide +kernel
theorem dX1_doRound_7 : decode cX1_doRound 7 = .ok (.getfield 12, 3) := by decide +kernel
theorem dX1_doRound_10 : decode cX1_doRound 10 = .ok (.iload_n 1, 1) := by decide +kernel
theorem dX1_doRound_11 : decode cX1_doRound 11 = .ok (.invokevirtual 82, 3) := by decide +kernel
theorem dX1_doRound_14 : decode cX1_doRound 14 = .ok (.i2l, 1) := by decide +kernel
theorem dX1_doRound_15 : decode cX1_doRound 15 = .ok (.lstore_n 3, 1) := by decide +kernel
theorem dX1_doRound_16 : decode cX1_doRound 16 = .ok (.lload_n 3, 1) := by decide +kernel
theorem dX1_doRound_17 : decode cX1_doRound 17 = .ok (.iload_n 2, 1) := by decide +kernel
theorem dX1_doRound_18 : decode cX1_doRound 18 = .ok (.i2l, 1) := by decide +kernel
theorem dX1_doRound_19 : decode cX1_doRound 19 = .ok (.invokestatic 85, 3) := by decide +kernel
theorem dX1_doRound_22 : decode cX1_doRound 22 = .ok (.lstore 5, 2) := by decide +kernel
theorem dX1_doRound_24 : decode cX1_doRound 24 = .ok (.aload_n 0, 1) := by decide +kernel
theorem dX1_doRound_25 : decode cX1_doRound 25 = .ok (.iload_n 1, 1) := by decide +kernel
theorem dX1_doRound_26 : decode cX1_doRound 26 = .ok (.ldc2_w 91, 3) := by decide +kernel
theorem dX1_doRound_29 : decode cX1_doRound 29 = .ok (.lload 5, 2) := by decide +kernel
theorem dX1_doRound_31 : decode cX1_doRound 31 = .ok (.lmul, 1) := by decide +kernel
theorem dX1_doRound_32 : decode cX1_doRound 32 = .ok (.iload_n 2, 1) := by decide +kernel
theorem dX1_doRound_33 : decode cX1_doRound 33 = .ok (.i2l, 1) := by decide +kernel
theorem dX1_doRound_34 : decode cX1_doRound 34 = .ok (.lcmp, 1) := by decide +kernel
theorem dX1_doRound_35 : decode cX1_doRound 35 = .ok (.ifCond .lt 13, 3) := by decide +kernel
theorem dX1_doRound_38 : decode cX1_doRound 38 = .ok (.lload_n 3, 1) := by decide +kernel
theorem dX1_doRound_39 : decode cX1_doRound 39 = .ok (.lload 5, 2) := by decide +kernel
theorem dX1_doRound_41 : decode cX1_doRound 41 = .ok (.lsub, 1) := by decide +kernel
theorem dX1_doRound_42 : decode cX1_doRound 42 = .ok (.iload_n 2, 1) := by decide +kernel
theorem dX1_doRound_43 : decode cX1_doRound 43 = .ok (.i2l, 1) := by decide +kernel
theorem dX1_doRound_44 : decode cX1_doRound 44 = .ok (.ladd, 1) := by decide +kernel
theorem dX1_doRound_45 : decode cX1_doRound 45 = .ok (.goto 7, 3) := by decide +kernel
theorem dX1_doRound_48 : decode cX1_doRound 48 = .ok (.lload_n 3, 1) := by decide +kernel
theorem dX1_doRound_49 : decode cX1_doRound 49 = .ok (.lload 5, 2) := by decide +kernel
theorem dX1_doRound_51 : decode cX1_doRound 51 = .ok (.lsub, 1) := by decide +kernel
theorem dX1_doRound_52 : decode cX1_doRound 52 = .ok (.invokevirtual 66, 3) := by decide +kernel
theorem dX1_doRound_55 : decode cX1_doRound 55 = .ok (.ireturn, 1) := by decide +kernel
theorem dX1_put_0 : decode cX1_put 0 = .ok (.lload_n 2, 1) := by decide +kernel
theorem dX1_put_1 : decode cX1_put 1 = .ok (.invokestatic 74, 3) := by decide +kernel
theorem dX1_put_4 : decode cX1_put 4 = .ok (.ifCond .eq 5, 3) := by decide +kernel
theorem dX1_put_7 : decode cX1_put 7 = .ok (.iconst 0, 1) := by decide +kernel
theorem dX1_put_8 : decode cX1_put 8 = .ok (.ireturn, 1) := by decide +kernel
theorem dX1_put_9 : decode cX1_put 9 = .ok (.aload_n 0, 1) := by decide +kernel
theorem dX1_put_10 : decode cX1_put 10 = .ok (.getfield 12, 3) := by decide +kernel
theorem dX1_put_13 : decode cX1_put 13 = .ok (.iload_n 1, 1) := by decide +kernel
theorem dX1_put_14 : decode cX1_put 14 = .ok (.lload_n 2, 1) := by decide +kernel
theorem dX1_put_15 : decode cX1_put 15 = .ok (.l2i, 1) := by decide +kernel
theorem dX1_put_16 : decode cX1_put 16 = .ok (.invokevirtual 93, 3) := by decide +kernel
theorem dX1_put_19 : decode cX1_put 19 = .ok (.iconst 1, 1) := by decide +kernel
theorem dX1_put_20 : decode cX1_put 20 = .ok (.ireturn, 1) := by decide +kernel
theorem dX1_holds_0 : decode cX1_holds 0 = .ok (.lconst 0, 1) := by decide +kernel
theorem dX1_holds_1 : decode cX1_holds 1 = .ok (.lstore_n 1, 1) := by decide +kernel
theorem dX1_holds_2 : decode cX1_holds 2 = .ok (.iconst 0, 1) := by decide +kernel
theorem dX1_holds_3 : decode cX1_holds 3 = .ok (.istore_n 3, 1) := by decide +kernel
theorem dX1_holds_4 : decode cX1_holds 4 = .ok (.iload_n 3, 1) := by decide +kernel
theorem dX1_holds_5 : decode cX1_holds 5 = .ok (.sipush 1208, 3) := by decide +kernel
theorem dX1_holds_8 : decode cX1_holds 8 = .ok (.if_icmp .ge 157, 3) := by decide +kernel
theorem dX1_holds_11 : decode cX1_holds 11 = .ok (.aload_n 0, 1) := by decide +kernel
theorem dX1_holds_12 : decode cX1_holds 12 = .ok (.invokevirtual 43, 3) := by decide +kernel
theorem dX1_holds_15 : decode cX1_holds 15 = .ok (.lookupswitch 130 #[(60, 49), (62, 74), (266, 119), (267, 106), (268, 99)], 49) := by decide +kernel
theorem dX1_holds_64 : decode cX1_holds 64 = .ok (.lload_n 1, 1) := by decide +kernel
theorem dX1_holds_65 : decode cX1_holds 65 = .ok (.iconst 1, 1) := by decide +kernel
theorem dX1_holds_66 : decode cX1_holds 66 = .ok (.lshl, 1) := by decide +kernel
theorem dX1_holds_67 : decode cX1_holds 67 = .ok (.aload_n 0, 1) := by decide +kernel
theorem dX1_holds_68 : decode cX1_holds 68 = .ok (.invokevirtual 70, 3) := by decide +kernel
theorem dX1_holds_71 : decode cX1_holds 71 = .ok (.aload_n 0, 1) := by decide +kernel
theorem dX1_holds_72 : decode cX1_holds 72 = .ok (.invokevirtual 70, 3) := by decide +kernel
theorem dX1_holds_75 : decode cX1_holds 75 = .ok (.lcmp, 1) := by decide +kernel
theorem dX1_holds_76 : decode cX1_holds 76 = .ok (.ifCond .ge 7, 3) := by decide +kernel
theorem dX1_holds_79 : decode cX1_holds 79 = .ok (.lconst 1, 1) := by decide +kernel
theorem dX1_holds_80 : decode cX1_holds 80 = .ok (.goto 4, 3) := by decide +kernel
theorem dX1_holds_83 : decode cX1_holds 83 = .ok (.lconst 0, 1) := by decide +kernel
theorem dX1_holds_84 : decode cX1_holds 84 = .ok (.lor, 1) := by decide +kernel
theorem dX1_holds_85 : decode cX1_holds 85 = .ok (.lstore_n 1, 1) := by decide +kernel
theorem dX1_holds_86 : decode cX1_holds 86 = .ok (.goto 73, 3) := by decide +kernel
theorem dX1_holds_89 : decode cX1_holds 89 = .ok (.lload_n 1, 1) := by decide +kernel
theorem dX1_holds_90 : decode cX1_holds 90 = .ok (.iconst 1, 1) := by decide +kernel
theorem dX1_holds_91 : decode cX1_holds 91 = .ok (.lshl, 1) := by decide +kernel
theorem dX1_holds_92 : decode cX1_holds 92 = .ok (.aload_n 0, 1) := by decide +kernel
theorem dX1_holds_93 : decode cX1_holds 93 = .ok (.invokevirtual 70, 3) := by decide +kernel
theorem dX1_holds_96 : decode cX1_holds 96 = .ok (.aload_n 0, 1) := by decide +kernel
theorem dX1_holds_97 : decode cX1_holds 97 = .ok (.invokevirtual 70, 3) := by decide +kernel
theorem dX1_holds_100 : decode cX1_holds 100 = .ok (.lcmp, 1) := by decide +kernel
theorem dX1_holds_101 : decode cX1_holds 101 = .ok (.ifCond .le 7, 3) := by decide +kernel
theorem dX1_holds_104 : decode cX1_holds 104 = .ok (.lconst 1, 1) := by decide +kernel
theorem dX1_holds_105 : decode cX1_holds 105 = .ok (.goto 4, 3) := by decide +kernel
theorem dX1_holds_108 : decode cX1_holds 108 = .ok (.lconst 0, 1) := by decide +kernel
theorem dX1_holds_109 : decode cX1_holds 109 = .ok (.lor, 1) := by decide +kernel
theorem dX1_holds_110 : decode cX1_holds 110 = .ok (.lstore_n 1, 1) := by decide +kernel
theorem dX1_holds_111 : decode cX1_holds 111 = .ok (.goto 48, 3) := by decide +kernel
theorem dX1_holds_114 : decode cX1_holds 114 = .ok (.lload_n 1, 1) := by decide +kernel
theorem dX1_holds_115 : decode cX1_holds 115 = .ok (.lconst 1, 1) := by decide +kernel
theorem dX1_holds_116 : decode cX1_holds 116 = .ok (.lxor, 1) := by decide +kernel
theorem dX1_holds_117 : decode cX1_holds 117 = .ok (.lstore_n 1, 1) := by decide +kernel
theorem dX1_holds_118 : decode cX1_holds 118 = .ok (.goto 41, 3) := by decide +kernel
theorem dX1_holds_121 : decode cX1_holds 121 = .ok (.lload_n 1, 1) := by decide +kernel
theorem dX1_holds_122 : decode cX1_holds 122 = .ok (.iconst 1, 1) := by decide +kernel
theorem dX1_holds_123 : decode cX1_holds 123 = .ok (.lushr, 1) := by decide +kernel
theorem dX1_holds_124 : decode cX1_holds 124 = .ok (.lload_n 1, 1) := by decide +kernel
theorem dX1_holds_125 : decode cX1_holds 125 = .ok (.ldc2_w 97, 3) := by decide +kernel
theorem dX1_holds_128 : decode cX1_holds 128 = .ok (.lor, 1) := by decide +kernel
theorem dX1_holds_129 : decode cX1_holds 129 = .ok (.land, 1) := by decide +kernel
theorem dX1_holds_130 : decode cX1_holds 130 = .ok (.lstore_n 1, 1) := by decide +kernel
theorem dX1_holds_131 : decode cX1_holds 131 = .ok (.goto 28, 3) := by decide +kernel
theorem dX1_holds_134 : decode cX1_holds 134 = .ok (.lload_n 1, 1) := by decide +kernel
theorem dX1_holds_135 : decode cX1_holds 135 = .ok (.iconst 1, 1) := by decide +kernel
theorem dX1_holds_136 : decode cX1_holds 136 = .ok (.lushr, 1) := by decide +kernel
theorem dX1_holds_137 : decode cX1_holds 137 = .ok (.lload_n 1, 1) := by decide +kernel
theorem dX1_holds_138 : decode cX1_holds 138 = .ok (.lconst 1, 1) := by decide +kernel
theorem dX1_holds_139 : decode cX1_holds 139 = .ok (.land, 1) := by decide +kernel
theorem dX1_holds_140 : decode cX1_holds 140 = .ok (.lor, 1) := by decide +kernel
theorem dX1_holds_141 : decode cX1_holds 141 = .ok (.lstore_n 1, 1) := by decide +kernel
theorem dX1_holds_142 : decode cX1_holds 142 = .ok (.goto 17, 3) := by decide +kernel
theorem dX1_holds_145 : decode cX1_holds 145 = .ok (.lload_n 1, 1) := by decide +kernel
theorem dX1_holds_146 : decode cX1_holds 146 = .ok (.lconst 1, 1) := by decide +kernel
theorem dX1_holds_147 : decode cX1_holds 147 = .ok (.land, 1) := by decide +kernel
theorem dX1_holds_148 : decode cX1_holds 148 = .ok (.lconst 0, 1) := by decide +kernel
theorem dX1_holds_149 : decode cX1_holds 149 = .ok (.lcmp, 1) := by decide +kernel
theorem dX1_holds_150 : decode cX1_holds 150 = .ok (.ifCond .eq 7, 3) := by decide +kernel
theorem dX1_holds_153 : decode cX1_holds 153 = .ok (.iconst 1, 1) := by decide +kernel
theorem dX1_holds_154 : decode cX1_holds 154 = .ok (.goto 4, 3) := by decide +kernel
theorem dX1_holds_157 : decode cX1_holds 157 = .ok (.iconst 0, 1) := by decide +kernel
theorem dX1_holds_158 : decode cX1_holds 158 = .ok (.ireturn, 1) := by decide +kernel
theorem dX1_holds_159 : decode cX1_holds 159 = .ok (.iinc 3 1, 3) := by decide +kernel
theorem dX1_holds_162 : decode cX1_holds 162 = .ok (.goto (-158), 3) := by decide +kernel
theorem dX1_holds_165 : decode cX1_holds 165 = .ok (.iconst 0, 1) := by decide +kernel
theorem dX1_holds_166 : decode cX1_holds 166 = .ok (.ireturn, 1) := by decide +kernel
theorem dX1_sum_0 : decode cX1_sum 0 = .ok (.aload_n 0, 1) := by decide +kernel
theorem dX1_sum_1 : decode cX1_sum 1 = .ok (.invokevirtual 43, 3) := by decide +kernel
theorem dX1_sum_4 : decode cX1_sum 4 = .ok (.istore_n 1, 1) := by decide +kernel
theorem dX1_sum_5 : decode cX1_sum 5 = .ok (.lconst 0, 1) := by decide +kernel
theorem dX1_sum_6 : decode cX1_sum 6 = .ok (.lstore_n 2, 1) := by decide +kernel
theorem dX1_sum_7 : decode cX1_sum 7 = .ok (.iconst 0, 1) := by decide +kernel
theorem dX1_sum_8 : decode cX1_sum 8 = .ok (.istore 4, 2) := by decide +kernel
theorem dX1_sum_10 : decode cX1_sum 10 = .ok (.iload 4, 2) := by decide +kernel
theorem dX1_sum_12 : decode cX1_sum 12 = .ok (.iload_n 1, 1) := by decide +kernel
theorem dX1_sum_13 : decode cX1_sum 13 = .ok (.if_icmp .ge 46, 3) := by decide +kernel
theorem dX1_sum_16 : decode cX1_sum 16 = .ok (.iload 4, 2) := by decide +kernel
theorem dX1_sum_18 : decode cX1_sum 18 = .ok (.sipush 400, 3) := by decide +kernel
theorem dX1_sum_21 : decode cX1_sum 21 = .ok (.if_icmp .ge 38, 3) := by decide +kernel
theorem dX1_sum_24 : decode cX1_sum 24 = .ok (.aload_n 0, 1) := by decide +kernel
theorem dX1_sum_25 : decode cX1_sum 25 = .ok (.invokevirtual 43, 3) := by decide +kernel
theorem dX1_sum_28 : decode cX1_sum 28 = .ok (.i2l, 1) := by decide +kernel
theorem dX1_sum_29 : decode cX1_sum 29 = .ok (.lstore 5, 2) := by decide +kernel
theorem dX1_sum_31 : decode cX1_sum 31 = .ok (.aload_n 0, 1) := by decide +kernel
theorem dX1_sum_32 : decode cX1_sum 32 = .ok (.invokevirtual 43, 3) := by decide +kernel
theorem dX1_sum_35 : decode cX1_sum 35 = .ok (.istore 7, 2) := by decide +kernel
theorem dX1_sum_37 : decode cX1_sum 37 = .ok (.lload_n 2, 1) := by decide +kernel
theorem dX1_sum_38 : decode cX1_sum 38 = .ok (.lload 5, 2) := by decide +kernel
theorem dX1_sum_40 : decode cX1_sum 40 = .ok (.aload_n 0, 1) := by decide +kernel
theorem dX1_sum_41 : decode cX1_sum 41 = .ok (.iload 7, 2) := by decide +kernel
theorem dX1_sum_43 : decode cX1_sum 43 = .ok (.aload_n 0, 1) := by decide +kernel
theorem dX1_sum_44 : decode cX1_sum 44 = .ok (.invokevirtual 43, 3) := by decide +kernel
theorem dX1_sum_47 : decode cX1_sum 47 = .ok (.invokevirtual 99, 3) := by decide +kernel
theorem dX1_sum_50 : decode cX1_sum 50 = .ok (.lmul, 1) := by decide +kernel
theorem dX1_sum_51 : decode cX1_sum 51 = .ok (.ladd, 1) := by decide +kernel
theorem dX1_sum_52 : decode cX1_sum 52 = .ok (.lstore_n 2, 1) := by decide +kernel
theorem dX1_sum_53 : decode cX1_sum 53 = .ok (.iinc 4 1, 3) := by decide +kernel
theorem dX1_sum_56 : decode cX1_sum 56 = .ok (.goto (-46), 3) := by decide +kernel
theorem dX1_sum_59 : decode cX1_sum 59 = .ok (.lload_n 2, 1) := by decide +kernel
theorem dX1_sum_60 : decode cX1_sum 60 = .ok (.lreturn, 1) := by decide +kernel
theorem dX1_atom_0 : decode cX1_atom 0 = .ok (.iload_n 1, 1) := by decide +kernel
theorem dX1_atom_1 : decode cX1_atom 1 = .ok (.lookupswitch 101 #[(-2, 51), (269, 54), (270, 79), (271, 89), (272, 95)], 51) := by decide +kernel
theorem dX1_atom_52 : decode cX1_atom 52 = .ok (.iload_n 2, 1) := by decide +kernel
theorem dX1_atom_53 : decode cX1_atom 53 = .ok (.i2l, 1) := by decide +kernel
theorem dX1_atom_54 : decode cX1_atom 54 = .ok (.lreturn, 1) := by decide +kernel
theorem dX1_atom_55 : decode cX1_atom 55 = .ok (.iload_n 2, 1) := by decide +kernel
theorem dX1_atom_56 : decode cX1_atom 56 = .ok (.aload_n 0, 1) := by decide +kernel
theorem dX1_atom_57 : decode cX1_atom 57 = .ok (.getfield 18, 3) := by decide +kernel
theorem dX1_atom_60 : decode cX1_atom 60 = .ok (.if_icmp .ne 10, 3) := by decide +kernel
theorem dX1_atom_63 : decode cX1_atom 63 = .ok (.aload_n 0, 1) := by decide +kernel
theorem dX1_atom_64 : decode cX1_atom 64 = .ok (.getfield 78, 3) := by decide +kernel
theorem dX1_atom_67 : decode cX1_atom 67 = .ok (.goto 12, 3) := by decide +kernel
theorem dX1_atom_70 : decode cX1_atom 70 = .ok (.aload_n 0, 1) := by decide +kernel
theorem dX1_atom_71 : decode cX1_atom 71 = .ok (.getfield 12, 3) := by decide +kernel
theorem dX1_atom_74 : decode cX1_atom 74 = .ok (.iload_n 2, 1) := by decide +kernel
theorem dX1_atom_75 : decode cX1_atom 75 = .ok (.invokevirtual 82, 3) := by decide +kernel
theorem dX1_atom_78 : decode cX1_atom 78 = .ok (.i2l, 1) := by decide +kernel
theorem dX1_atom_79 : decode cX1_atom 79 = .ok (.lreturn, 1) := by decide +kernel
theorem dX1_atom_80 : decode cX1_atom 80 = .ok (.aload_n 0, 1) := by decide +kernel
theorem dX1_atom_81 : decode cX1_atom 81 = .ok (.getfield 12, 3) := by decide +kernel
theorem dX1_atom_84 : decode cX1_atom 84 = .ok (.iload_n 2, 1) := by decide +kernel
theorem dX1_atom_85 : decode cX1_atom 85 = .ok (.invokevirtual 62, 3) := by decide +kernel
theorem dX1_atom_88 : decode cX1_atom 88 = .ok (.i2l, 1) := by decide +kernel
theorem dX1_atom_89 : decode cX1_atom 89 = .ok (.lreturn, 1) := by decide +kernel
theorem dX1_atom_90 : decode cX1_atom 90 = .ok (.aload_n 0, 1) := by decide +kernel
theorem dX1_atom_91 : decode cX1_atom 91 = .ok (.getfield 26, 3) := by decide +kernel
theorem dX1_atom_94 : decode cX1_atom 94 = .ok (.i2l, 1) := by decide +kernel
theorem dX1_atom_95 : decode cX1_atom 95 = .ok (.lreturn, 1) := by decide +kernel
theorem dX1_atom_96 : decode cX1_atom 96 = .ok (.aload_n 0, 1) := by decide +kernel
theorem dX1_atom_97 : decode cX1_atom 97 = .ok (.getfield 29, 3) := by decide +kernel
theorem dX1_atom_100 : decode cX1_atom 100 = .ok (.i2l, 1) := by decide +kernel
theorem dX1_atom_101 : decode cX1_atom 101 = .ok (.lreturn, 1) := by decide +kernel
theorem dX1_atom_102 : decode cX1_atom 102 = .ok (.lconst 0, 1) := by decide +kernel
theorem dX1_atom_103 : decode cX1_atom 103 = .ok (.lreturn, 1) := by decide +kernel
theorem dX1_nextCode_0 : decode cX1_nextCode 0 = .ok (.aload_n 0, 1) := by decide +kernel
theorem dX1_nextCode_1 : decode cX1_nextCode 1 = .ok (.getfield 22, 3) := by decide +kernel
theorem dX1_nextCode_4 : decode cX1_nextCode 4 = .ok (.ifnonnull 7, 3) := by decide +kernel
theorem dX1_nextCode_7 : decode cX1_nextCode 7 = .ok (.iconst 0, 1) := by decide +kernel
theorem dX1_nextCode_8 : decode cX1_nextCode 8 = .ok (.goto 14, 3) := by decide +kernel
theorem dX1_nextCode_11 : decode cX1_nextCode 11 = .ok (.aload_n 0, 1) := by decide +kernel
theorem dX1_nextCode_12 : decode cX1_nextCode 12 = .ok (.getfield 22, 3) := by decide +kernel
theorem dX1_nextCode_15 : decode cX1_nextCode 15 = .ok (.aload_n 0, 1) := by decide +kernel
theorem dX1_nextCode_16 : decode cX1_nextCode 16 = .ok (.getfield 32, 3) := by decide +kernel
theorem dX1_nextCode_19 : decode cX1_nextCode 19 = .ok (.invokevirtual 103, 3) := by decide +kernel
theorem dX1_nextCode_22 : decode cX1_nextCode 22 = .ok (.istore_n 1, 1) := by decide +kernel
theorem dX1_nextCode_23 : decode cX1_nextCode 23 = .ok (.aload_n 0, 1) := by decide +kernel
theorem dX1_nextCode_24 : decode cX1_nextCode 24 = .ok (.dup, 1) := by decide +kernel
theorem dX1_nextCode_25 : decode cX1_nextCode 25 = .ok (.getfield 32, 3) := by decide +kernel
theorem dX1_nextCode_28 : decode cX1_nextCode 28 = .ok (.iconst 1, 1) := by decide +kernel
theorem dX1_nextCode_29 : decode cX1_nextCode 29 = .ok (.iadd, 1) := by decide +kernel
theorem dX1_nextCode_30 : decode cX1_nextCode 30 = .ok (.putfield 32, 3) := by decide +kernel
theorem dX1_nextCode_33 : decode cX1_nextCode 33 = .ok (.iload_n 1, 1) := by decide +kernel
theorem dX1_nextCode_34 : decode cX1_nextCode 34 = .ok (.ireturn, 1) := by decide +kernel
theorem dX2_init_0 : decode cX2_init 0 = .ok (.aload_n 0, 1) := by decide +kernel
theorem dX2_init_1 : decode cX2_init 1 = .ok (.invokespecial 3, 3) := by decide +kernel
theorem dX2_init_4 : decode cX2_init 4 = .ok (.return_, 1) := by decide +kernel
theorem dX2_setUp_0 : decode cX2_setUp 0 = .ok (.aload_n 0, 1) := by decide +kernel
theorem dX2_setUp_1 : decode cX2_setUp 1 = .ok (.iload_n 1, 1) := by decide +kernel
theorem dX2_setUp_2 : decode cX2_setUp 2 = .ok (.putfield 9, 3) := by decide +kernel
theorem dX2_setUp_5 : decode cX2_setUp 5 = .ok (.aload_n 0, 1) := by decide +kernel
theorem dX2_setUp_6 : decode cX2_setUp 6 = .ok (.iload_n 2, 1) := by decide +kernel
theorem dX2_setUp_7 : decode cX2_setUp 7 = .ok (.putfield 15, 3) := by decide +kernel
theorem dX2_setUp_10 : decode cX2_setUp 10 = .ok (.aload_n 0, 1) := by decide +kernel
theorem dX2_setUp_11 : decode cX2_setUp 11 = .ok (.iload_n 3, 1) := by decide +kernel
theorem dX2_setUp_12 : decode cX2_setUp 12 = .ok (.putfield 18, 3) := by decide +kernel
theorem dX2_setUp_15 : decode cX2_setUp 15 = .ok (.aload_n 0, 1) := by decide +kernel
theorem dX2_setUp_16 : decode cX2_setUp 16 = .ok (.iload 4, 2) := by decide +kernel
theorem dX2_setUp_18 : decode cX2_setUp 18 = .ok (.putfield 21, 3) := by decide +kernel
theorem dX2_setUp_21 : decode cX2_setUp 21 = .ok (.aload_n 0, 1) := by decide +kernel
theorem dX2_setUp_22 : decode cX2_setUp 22 = .ok (.iload 5, 2) := by decide +kernel
theorem dX2_setUp_24 : decode cX2_setUp 24 = .ok (.putfield 24, 3) := by decide +kernel
theorem dX2_setUp_27 : decode cX2_setUp 27 = .ok (.aload_n 0, 1) := by decide +kernel
theorem dX2_setUp_28 : decode cX2_setUp 28 = .ok (.aload 6, 2) := by decide +kernel
theorem dX2_setUp_30 : decode cX2_setUp 30 = .ok (.putfield 28, 3) := by decide +kernel
theorem dX2_setUp_33 : decode cX2_setUp 33 = .ok (.aload_n 0, 1) := by decide +kernel
theorem dX2_setUp_34 : decode cX2_setUp 34 = .ok (.iconst 0, 1) := by decide +kernel
theorem dX2_setUp_35 : decode cX2_setUp 35 = .ok (.putfield 32, 3) := by decide +kernel
theorem dX2_setUp_38 : decode cX2_setUp 38 = .ok (.aload_n 0, 1) := by decide +kernel
theorem dX2_setUp_39 : decode cX2_setUp 39 = .ok (.iconst 0, 1) := by decide +kernel
theorem dX2_setUp_40 : decode cX2_setUp 40 = .ok (.putfield 35, 3) := by decide +kernel
theorem dX2_setUp_43 : decode cX2_setUp 43 = .ok (.aload_n 0, 1) := by decide +kernel
theorem dX2_setUp_44 : decode cX2_setUp 44 = .ok (.iconst 0, 1) := by decide +kernel
theorem dX2_setUp_45 : decode cX2_setUp 45 = .ok (.putfield 38, 3) := by decide +kernel
theorem dX2_setUp_48 : decode cX2_setUp 48 = .ok (.aload_n 0, 1) := by decide +kernel
theorem dX2_setUp_49 : decode cX2_setUp 49 = .ok (.iconst 0, 1) := by decide +kernel
theorem dX2_setUp_50 : decode cX2_setUp 50 = .ok (.putfield 41, 3) := by decide +kernel
theorem dX2_setUp_53 : decode cX2_setUp 53 = .ok (.aload_n 0, 1) := by decide +kernel
theorem dX2_setUp_54 : decode cX2_setUp 54 = .ok (.iconst 0, 1) := by decide +kernel
theorem dX2_setUp_55 : decode cX2_setUp 55 = .ok (.putfield 44, 3) := by decide +kernel
theorem dX2_setUp_58 : decode cX2_setUp 58 = .ok (.aload_n 0, 1) := by decide +kernel
theorem dX2_setUp_59 : decode cX2_setUp 59 = .ok (.iconst 0, 1) := by decide +kernel
theorem dX2_setUp_60 : decode cX2_setUp 60 = .ok (.putfield 47, 3) := by decide +kernel
theorem dX2_setUp_63 : decode cX2_setUp 63 = .ok (.aload_n 0, 1) := by decide +kernel
theorem dX2_setUp_64 : decode cX2_setUp 64 = .ok (.iconst 0, 1) := by decide +kernel
theorem dX2_setUp_65 : decode cX2_setUp 65 = .ok (.putfield 50, 3) := by decide +kernel
theorem dX2_setUp_68 : decode cX2_setUp 68 = .ok (.aload_n 0, 1) := by decide +kernel
theorem dX2_setUp_69 : decode cX2_setUp 69 = .ok (.iconst 0, 1) := by decide +kernel
theorem dX2_setUp_70 : decode cX2_setUp 70 = .ok (.putfield 53, 3) := by decide +kernel
theorem dX2_setUp_73 : decode cX2_setUp 73 = .ok (.aload_n 0, 1) := by decide +kernel
theorem dX2_setUp_74 : decode cX2_setUp 74 = .ok (.iconst (-1), 1) := by decide +kernel
theorem dX2_setUp_75 : decode cX2_setUp 75 = .ok (.putfield 56, 3) := by decide +kernel
theorem dX2_setUp_78 : decode cX2_setUp 78 = .ok (.aload_n 0, 1) := by decide +kernel
theorem dX2_setUp_79 : decode cX2_setUp 79 = .ok (.iconst 0, 1) := by decide +kernel
theorem dX2_setUp_80 : decode cX2_setUp 80 = .ok (.putfield 59, 3) := by decide +kernel
theorem dX2_setUp_83 : decode cX2_setUp 83 = .ok (.aload_n 0, 1) := by decide +kernel
theorem dX2_setUp_84 : decode cX2_setUp 84 = .ok (.iconst 0, 1) := by decide +kernel
theorem dX2_setUp_85 : decode cX2_setUp 85 = .ok (.putfield 62, 3) := by decide +kernel
theorem dX2_setUp_88 : decode cX2_setUp 88 = .ok (.aload_n 0, 1) := by decide +kernel
theorem dX2_setUp_89 : decode cX2_setUp 89 = .ok (.iconst 0, 1) := by decide +kernel
theorem dX2_setUp_90 : decode cX2_setUp 90 = .ok (.putfield 65, 3) := by decide +kernel
theorem dX2_setUp_93 : decode cX2_setUp 93 = .ok (.return_, 1) := by decide +kernel
theorem dX2_reads_0 : decode cX2_reads 0 = .ok (.aload_n 0, 1) := by decide +kernel
theorem dX2_reads_1 : decode cX2_reads 1 = .ok (.getfield 28, 3) := by decide +kernel
theorem dX2_reads_4 : decode cX2_reads 4 = .ok (.ifnonnull 7, 3) := by decide +kernel
theorem dX2_reads_7 : decode cX2_reads 7 = .ok (.lconst 0, 1) := by decide +kernel
theorem dX2_reads_8 : decode cX2_reads 8 = .ok (.goto 10, 3) := by decide +kernel
theorem dX2_reads_11 : decode cX2_reads 11 = .ok (.aload_n 0, 1) := by decide +kernel
theorem dX2_reads_12 : decode cX2_reads 12 = .ok (.getfield 28, 3) := by decide +kernel
theorem dX2_reads_15 : decode cX2_reads 15 = .ok (.getfield 68, 3) := by decide +kernel
theorem dX2_reads_18 : decode cX2_reads 18 = .ok (.lreturn, 1) := by decide +kernel
theorem dX2_writes_0 : decode cX2_writes 0 = .ok (.aload_n 0, 1) := by decide +kernel
theorem dX2_writes_1 : decode cX2_writes 1 = .ok (.getfield 28, 3) := by decide +kernel
theorem dX2_writes_4 : decode cX2_writes 4 = .ok (.ifnonnull 7, 3) := by decide +kernel
theorem dX2_writes_7 : decode cX2_writes 7 = .ok (.lconst 0, 1) := by decide +kernel
theorem dX2_writes_8 : decode cX2_writes 8 = .ok (.goto 10, 3) := by decide +kernel
theorem dX2_writes_11 : decode cX2_writes 11 = .ok (.aload_n 0, 1) := by decide +kernel
theorem dX2_writes_12 : decode cX2_writes 12 = .ok (.getfield 28, 3) := by decide +kernel
theorem dX2_writes_15 : decode cX2_writes 15 = .ok (.getfield 74, 3) := by decide +kernel
theorem dX2_writes_18 : decode cX2_writes 18 = .ok (.lreturn, 1) := by decide +kernel
theorem dX2_hasWay_0 : decode cX2_hasWay 0 = .ok (.iload_n 1, 1) := by decide +kernel
theorem dX2_hasWay_1 : decode cX2_hasWay 1 = .ok (.ifCond .eq 27, 3) := by decide +kernel
theorem dX2_hasWay_4 : decode cX2_hasWay 4 = .ok (.iload_n 1, 1) := by decide +kernel
theorem dX2_hasWay_5 : decode cX2_hasWay 5 = .ok (.iconst 1, 1) := by decide +kernel
theorem dX2_hasWay_6 : decode cX2_hasWay 6 = .ok (.if_icmp .ne 10, 3) := by decide +kernel
theorem dX2_hasWay_9 : decode cX2_hasWay 9 = .ok (.aload_n 0, 1) := by decide +kernel
theorem dX2_hasWay_10 : decode cX2_hasWay 10 = .ok (.getfield 32, 3) := by decide +kernel
theorem dX2_hasWay_13 : decode cX2_hasWay 13 = .ok (.ifCond .gt 15, 3) := by decide +kernel
theorem dX2_hasWay_16 : decode cX2_hasWay 16 = .ok (.iload_n 1, 1) := by decide +kernel
theorem dX2_hasWay_17 : decode cX2_hasWay 17 = .ok (.iconst 2, 1) := by decide +kernel
theorem dX2_hasWay_18 : decode cX2_hasWay 18 = .ok (.if_icmp .ne 14, 3) := by decide +kernel
theorem dX2_hasWay_21 : decode cX2_hasWay 21 = .ok (.aload_n 0, 1) := by decide +kernel
theorem dX2_hasWay_22 : decode cX2_hasWay 22 = .ok (.getfield 18, 3) := by decide +kernel
theorem dX2_hasWay_25 : decode cX2_hasWay 25 = .ok (.ifCond .le 7, 3) := by decide +kernel
theorem dX2_hasWay_28 : decode cX2_hasWay 28 = .ok (.iconst 1, 1) := by decide +kernel
theorem dX2_hasWay_29 : decode cX2_hasWay 29 = .ok (.goto 4, 3) := by decide +kernel
theorem dX2_hasWay_32 : decode cX2_hasWay 32 = .ok (.iconst 0, 1) := by decide +kernel
theorem dX2_hasWay_33 : decode cX2_hasWay 33 = .ok (.ireturn, 1) := by decide +kernel
theorem dX2_begin_0 : decode cX2_begin 0 = .ok (.aload_n 0, 1) := by decide +kernel
theorem dX2_begin_1 : decode cX2_begin 1 = .ok (.iconst 1, 1) := by decide +kernel
theorem dX2_begin_2 : decode cX2_begin 2 = .ok (.putfield 41, 3) := by decide +kernel
theorem dX2_begin_5 : decode cX2_begin 5 = .ok (.aload_n 0, 1) := by decide +kernel
theorem dX2_begin_6 : decode cX2_begin 6 = .ok (.aload_n 0, 1) := by decide +kernel
theorem dX2_begin_7 : decode cX2_begin 7 = .ok (.getfield 44, 3) := by decide +kernel
theorem dX2_begin_10 : decode cX2_begin 10 = .ok (.iconst 1, 1) := by decide +kernel
theorem dX2_begin_11 : decode cX2_begin 11 = .ok (.if_icmp .ne 10, 3) := by decide +kernel
theorem dX2_begin_14 : decode cX2_begin 14 = .ok (.aload_n 0, 1) := by decide +kernel
theorem dX2_begin_15 : decode cX2_begin 15 = .ok (.getfield 32, 3) := by decide +kernel
theorem dX2_begin_18 : decode cX2_begin 18 = .ok (.goto 7, 3) := by decide +kernel
theorem dX2_begin_21 : decode cX2_begin 21 = .ok (.aload_n 0, 1) := by decide +kernel
theorem dX2_begin_22 : decode cX2_begin 22 = .ok (.getfield 9, 3) := by decide +kernel
theorem dX2_begin_25 : decode cX2_begin 25 = .ok (.putfield 47, 3) := by decide +kernel
theorem dX2_begin_28 : decode cX2_begin 28 = .ok (.aload_n 0, 1) := by decide +kernel
theorem dX2_begin_29 : decode cX2_begin 29 = .ok (.aload_n 0, 1) := by decide +kernel
theorem dX2_begin_30 : decode cX2_begin 30 = .ok (.getfield 47, 3) := by decide +kernel
theorem dX2_begin_33 : decode cX2_begin 33 = .ok (.putfield 50, 3) := by decide +kernel
theorem dX2_begin_36 : decode cX2_begin 36 = .ok (.return_, 1) := by decide +kernel
theorem dX2_fallBack_0 : decode cX2_fallBack 0 = .ok (.aload_n 0, 1) := by decide +kernel
theorem dX2_fallBack_1 : decode cX2_fallBack 1 = .ok (.getfield 47, 3) := by decide +kernel
theorem dX2_fallBack_4 : decode cX2_fallBack 4 = .ok (.aload_n 0, 1) := by decide +kernel
theorem dX2_fallBack_5 : decode cX2_fallBack 5 = .ok (.getfield 50, 3) := by decide +kernel
theorem dX2_fallBack_8 : decode cX2_fallBack 8 = .ok (.isub, 1) := by decide +kernel
theorem dX2_fallBack_9 : decode cX2_fallBack 9 = .ok (.istore_n 1, 1) := by decide +kernel
theorem dX2_fallBack_10 : decode cX2_fallBack 10 = .ok (.aload_n 0, 1) := by decide +kernel
theorem dX2_fallBack_11 : decode cX2_fallBack 11 = .ok (.aload_n 0, 1) := by decide +kernel
theorem dX2_fallBack_12 : decode cX2_fallBack 12 = .ok (.getfield 21, 3) := by decide +kernel
theorem dX2_fallBack_15 : decode cX2_fallBack 15 = .ok (.ifCond .le 22, 3) := by decide +kernel
theorem dX2_fallBack_18 : decode cX2_fallBack 18 = .ok (.aload_n 0, 1) := by decide +kernel
theorem dX2_fallBack_19 : decode cX2_fallBack 19 = .ok (.getfield 47, 3) := by decide +kernel
theorem dX2_fallBack_22 : decode cX2_fallBack 22 = .ok (.iload_n 1, 1) := by decide +kernel
theorem dX2_fallBack_23 : decode cX2_fallBack 23 = .ok (.aload_n 0, 1) := by decide +kernel
theorem dX2_fallBack_24 : decode cX2_fallBack 24 = .ok (.getfield 21, 3) := by decide +kernel
theorem dX2_fallBack_27 : decode cX2_fallBack 27 = .ok (.idiv, 1) := by decide +kernel
theorem dX2_fallBack_28 : decode cX2_fallBack 28 = .ok (.aload_n 0, 1) := by decide +kernel
theorem dX2_fallBack_29 : decode cX2_fallBack 29 = .ok (.getfield 21, 3) := by decide +kernel
theorem dX2_fallBack_32 : decode cX2_fallBack 32 = .ok (.imul, 1) := by decide +kernel
theorem dX2_fallBack_33 : decode cX2_fallBack 33 = .ok (.isub, 1) := by decide +kernel
theorem dX2_fallBack_34 : decode cX2_fallBack 34 = .ok (.goto 7, 3) := by decide +kernel
theorem dX2_fallBack_37 : decode cX2_fallBack 37 = .ok (.aload_n 0, 1) := by decide +kernel
theorem dX2_fallBack_38 : decode cX2_fallBack 38 = .ok (.getfield 47, 3) := by decide +kernel
theorem dX2_fallBack_41 : decode cX2_fallBack 41 = .ok (.putfield 50, 3) := by decide +kernel
theorem dX2_fallBack_44 : decode cX2_fallBack 44 = .ok (.return_, 1) := by decide +kernel
theorem dX2_leave_0 : decode cX2_leave 0 = .ok (.aload_n 0, 1) := by decide +kernel
theorem dX2_leave_1 : decode cX2_leave 1 = .ok (.iload_n 1, 1) := by decide +kernel
theorem dX2_leave_2 : decode cX2_leave 2 = .ok (.putfield 41, 3) := by decide +kernel
theorem dX2_leave_5 : decode cX2_leave 5 = .ok (.aload_n 0, 1) := by decide +kernel
theorem dX2_leave_6 : decode cX2_leave 6 = .ok (.iconst 0, 1) := by decide +kernel
theorem dX2_leave_7 : decode cX2_leave 7 = .ok (.putfield 50, 3) := by decide +kernel
theorem dX2_leave_10 : decode cX2_leave 10 = .ok (.aload_n 0, 1) := by decide +kernel
theorem dX2_leave_11 : decode cX2_leave 11 = .ok (.iload_n 2, 1) := by decide +kernel
theorem dX2_leave_12 : decode cX2_leave 12 = .ok (.putfield 56, 3) := by decide +kernel
theorem dX2_leave_15 : decode cX2_leave 15 = .ok (.aload_n 0, 1) := by decide +kernel
theorem dX2_leave_16 : decode cX2_leave 16 = .ok (.dup, 1) := by decide +kernel
theorem dX2_leave_17 : decode cX2_leave 17 = .ok (.getfield 59, 3) := by decide +kernel
theorem dX2_leave_20 : decode cX2_leave 20 = .ok (.iconst 1, 1) := by decide +kernel
theorem dX2_leave_21 : decode cX2_leave 21 = .ok (.iadd, 1) := by decide +kernel
theorem dX2_leave_22 : decode cX2_leave 22 = .ok (.putfield 59, 3) := by decide +kernel
theorem dX2_leave_25 : decode cX2_leave 25 = .ok (.iload_n 1, 1) := by decide +kernel
theorem dX2_leave_26 : decode cX2_leave 26 = .ok (.bipush 6, 2) := by decide +kernel
theorem dX2_leave_28 : decode cX2_leave 28 = .ok (.if_icmp .ne 13, 3) := by decide +kernel
theorem dX2_leave_31 : decode cX2_leave 31 = .ok (.aload_n 0, 1) := by decide +kernel
theorem dX2_leave_32 : decode cX2_leave 32 = .ok (.dup, 1) := by decide +kernel
theorem dX2_leave_33 : decode cX2_leave 33 = .ok (.getfield 62, 3) := by decide +kernel
theorem dX2_leave_36 : decode cX2_leave 36 = .ok (.iconst 1, 1) := by decide +kernel
theorem dX2_leave_37 : decode cX2_leave 37 = .ok (.iadd, 1) := by decide +kernel
theorem dX2_leave_38 : decode cX2_leave 38 = .ok (.putfield 62, 3) := by decide +kernel
theorem dX2_leave_41 : decode cX2_leave 41 = .ok (.return_, 1) := by decide +kernel
theorem dX2_shown_0 : decode cX2_shown 0 = .ok (.iload_n 1, 1) := by decide +kernel
theorem dX2_shown_1 : decode cX2_shown 1 = .ok (.tableswitch 110 0 8 #[51, 56, 61, 66, 71, 90, 95, 100, 105], 51) := by decide +kernel
theorem dX2_shown_52 : decode cX2_shown 52 = .ok (.aload_n 0, 1) := by decide +kernel
theorem dX2_shown_53 : decode cX2_shown 53 = .ok (.getfield 41, 3) := by decide +kernel
theorem dX2_shown_56 : decode cX2_shown 56 = .ok (.ireturn, 1) := by decide +kernel
theorem dX2_shown_57 : decode cX2_shown 57 = .ok (.aload_n 0, 1) := by decide +kernel
theorem dX2_shown_58 : decode cX2_shown 58 = .ok (.getfield 50, 3) := by decide +kernel
theorem dX2_shown_61 : decode cX2_shown 61 = .ok (.ireturn, 1) := by decide +kernel
theorem dX2_shown_62 : decode cX2_shown 62 = .ok (.aload_n 0, 1) := by decide +kernel
theorem dX2_shown_63 : decode cX2_shown 63 = .ok (.getfield 53, 3) := by decide +kernel
theorem dX2_shown_66 : decode cX2_shown 66 = .ok (.ireturn, 1) := by decide +kernel
theorem dX2_shown_67 : decode cX2_shown 67 = .ok (.aload_n 0, 1) := by decide +kernel
theorem dX2_shown_68 : decode cX2_shown 68 = .ok (.getfield 44, 3) := by decide +kernel
theorem dX2_shown_71 : decode cX2_shown 71 = .ok (.ireturn, 1) := by decide +kernel
theorem dX2_shown_72 : decode cX2_shown 72 = .ok (.aload_n 0, 1) := by decide +kernel
theorem dX2_shown_73 : decode cX2_shown 73 = .ok (.getfield 28, 3) := by decide +kernel
theorem dX2_shown_76 : decode cX2_shown 76 = .ok (.ifnonnull 7, 3) := by decide +kernel
theorem dX2_shown_79 : decode cX2_shown 79 = .ok (.iconst 0, 1) := by decide +kernel
theorem dX2_shown_80 : decode cX2_shown 80 = .ok (.goto 10, 3) := by decide +kernel
theorem dX2_shown_83 : decode cX2_shown 83 = .ok (.aload_n 0, 1) := by decide +kernel
theorem dX2_shown_84 : decode cX2_shown 84 = .ok (.getfield 28, 3) := by decide +kernel
theorem dX2_shown_87 : decode cX2_shown 87 = .ok (.getfield 77, 3) := by decide +kernel
theorem dX2_shown_90 : decode cX2_shown 90 = .ok (.ireturn, 1) := by decide +kernel
theorem dX2_shown_91 : decode cX2_shown 91 = .ok (.aload_n 0, 1) := by decide +kernel
theorem dX2_shown_92 : decode cX2_shown 92 = .ok (.getfield 56, 3) := by decide +kernel
theorem dX2_shown_95 : decode cX2_shown 95 = .ok (.ireturn, 1) := by decide +kernel
theorem dX2_shown_96 : decode cX2_shown 96 = .ok (.aload_n 0, 1) := by decide +kernel
theorem dX2_shown_97 : decode cX2_shown 97 = .ok (.getfield 59, 3) := by decide +kernel
theorem dX2_shown_100 : decode cX2_shown 100 = .ok (.ireturn, 1) := by decide +kernel
theorem dX2_shown_101 : decode cX2_shown 101 = .ok (.aload_n 0, 1) := by decide +kernel
theorem dX2_shown_102 : decode cX2_shown 102 = .ok (.getfield 62, 3) := by decide +kernel
theorem dX2_shown_105 : decode cX2_shown 105 = .ok (.ireturn, 1) := by decide +kernel
theorem dX2_shown_106 : decode cX2_shown 106 = .ok (.aload_n 0, 1) := by decide +kernel
theorem dX2_shown_107 : decode cX2_shown 107 = .ok (.getfield 65, 3) := by decide +kernel
theorem dX2_shown_110 : decode cX2_shown 110 = .ok (.ireturn, 1) := by decide +kernel
theorem dX2_shown_111 : decode cX2_shown 111 = .ok (.iconst (-1), 1) := by decide +kernel
theorem dX2_shown_112 : decode cX2_shown 112 = .ok (.ireturn, 1) := by decide +kernel
theorem dX2_copyFrom_0 : decode cX2_copyFrom 0 = .ok (.aload_n 0, 1) := by decide +kernel
theorem dX2_copyFrom_1 : decode cX2_copyFrom 1 = .ok (.aload_n 1, 1) := by decide +kernel
theorem dX2_copyFrom_2 : decode cX2_copyFrom 2 = .ok (.getfield 9, 3) := by decide +kernel
theorem dX2_copyFrom_5 : decode cX2_copyFrom 5 = .ok (.putfield 9, 3) := by decide +kernel
theorem dX2_copyFrom_8 : decode cX2_copyFrom 8 = .ok (.aload_n 0, 1) := by decide +kernel
theorem dX2_copyFrom_9 : decode cX2_copyFrom 9 = .ok (.aload_n 1, 1) := by decide +kernel
theorem dX2_copyFrom_10 : decode cX2_copyFrom 10 = .ok (.getfield 15, 3) := by decide +kernel
theorem dX2_copyFrom_13 : decode cX2_copyFrom 13 = .ok (.putfield 15, 3) := by decide +kernel
theorem dX2_copyFrom_16 : decode cX2_copyFrom 16 = .ok (.aload_n 0, 1) := by decide +kernel
theorem dX2_copyFrom_17 : decode cX2_copyFrom 17 = .ok (.aload_n 1, 1) := by decide +kernel
theorem dX2_copyFrom_18 : decode cX2_copyFrom 18 = .ok (.getfield 18, 3) := by decide +kernel
theorem dX2_copyFrom_21 : decode cX2_copyFrom 21 = .ok (.putfield 18, 3) := by decide +kernel
theorem dX2_copyFrom_24 : decode cX2_copyFrom 24 = .ok (.aload_n 0, 1) := by decide +kernel
theorem dX2_copyFrom_25 : decode cX2_copyFrom 25 = .ok (.aload_n 1, 1) := by decide +kernel
theorem dX2_copyFrom_26 : decode cX2_copyFrom 26 = .ok (.getfield 21, 3) := by decide +kernel
theorem dX2_copyFrom_29 : decode cX2_copyFrom 29 = .ok (.putfield 21, 3) := by decide +kernel
theorem dX2_copyFrom_32 : decode cX2_copyFrom 32 = .ok (.aload_n 0, 1) := by decide +kernel
theorem dX2_copyFrom_33 : decode cX2_copyFrom 33 = .ok (.aload_n 1, 1) := by decide +kernel
theorem dX2_copyFrom_34 : decode cX2_copyFrom 34 = .ok (.getfield 24, 3) := by decide +kernel
theorem dX2_copyFrom_37 : decode cX2_copyFrom 37 = .ok (.putfield 24, 3) := by decide +kernel
theorem dX2_copyFrom_40 : decode cX2_copyFrom 40 = .ok (.aload_n 0, 1) := by decide +kernel
theorem dX2_copyFrom_41 : decode cX2_copyFrom 41 = .ok (.aload_n 1, 1) := by decide +kernel
theorem dX2_copyFrom_42 : decode cX2_copyFrom 42 = .ok (.getfield 28, 3) := by decide +kernel
theorem dX2_copyFrom_45 : decode cX2_copyFrom 45 = .ok (.putfield 28, 3) := by decide +kernel
theorem dX2_copyFrom_48 : decode cX2_copyFrom 48 = .ok (.aload_n 0, 1) := by decide +kernel
theorem dX2_copyFrom_49 : decode cX2_copyFrom 49 = .ok (.aload_n 1, 1) := by decide +kernel
theorem dX2_copyFrom_50 : decode cX2_copyFrom 50 = .ok (.getfield 32, 3) := by decide +kernel
theorem dX2_copyFrom_53 : decode cX2_copyFrom 53 = .ok (.putfield 32, 3) := by decide +kernel
theorem dX2_copyFrom_56 : decode cX2_copyFrom 56 = .ok (.aload_n 0, 1) := by decide +kernel
theorem dX2_copyFrom_57 : decode cX2_copyFrom 57 = .ok (.aload_n 1, 1) := by decide +kernel
theorem dX2_copyFrom_58 : decode cX2_copyFrom 58 = .ok (.getfield 35, 3) := by decide +kernel
theorem dX2_copyFrom_61 : decode cX2_copyFrom 61 = .ok (.putfield 35, 3) := by decide +kernel
theorem dX2_copyFrom_64 : decode cX2_copyFrom 64 = .ok (.aload_n 0, 1) := by decide +kernel
theorem dX2_copyFrom_65 : decode cX2_copyFrom 65 = .ok (.aload_n 1, 1) := by decide +kernel
theorem dX2_copyFrom_66 : decode cX2_copyFrom 66 = .ok (.getfield 38, 3) := by decide +kernel
theorem dX2_copyFrom_69 : decode cX2_copyFrom 69 = .ok (.putfield 38, 3) := by decide +kernel
theorem dX2_copyFrom_72 : decode cX2_copyFrom 72 = .ok (.aload_n 0, 1) := by decide +kernel
theorem dX2_copyFrom_73 : decode cX2_copyFrom 73 = .ok (.aload_n 1, 1) := by decide +kernel
theorem dX2_copyFrom_74 : decode cX2_copyFrom 74 = .ok (.getfield 41, 3) := by decide +kernel
theorem dX2_copyFrom_77 : decode cX2_copyFrom 77 = .ok (.putfield 41, 3) := by decide +kernel
theorem dX2_copyFrom_80 : decode cX2_copyFrom 80 = .ok (.aload_n 0, 1) := by decide +kernel
theorem dX2_copyFrom_81 : decode cX2_copyFrom 81 = .ok (.aload_n 1, 1) := by decide +kernel
theorem dX2_copyFrom_82 : decode cX2_copyFrom 82 = .ok (.getfield 44, 3) := by decide +kernel
theorem dX2_copyFrom_85 : decode cX2_copyFrom 85 = .ok (.putfield 44, 3) := by decide +kernel
theorem dX2_copyFrom_88 : decode cX2_copyFrom 88 = .ok (.aload_n 0, 1) := by decide +kernel
theorem dX2_copyFrom_89 : decode cX2_copyFrom 89 = .ok (.aload_n 1, 1) := by decide +kernel
theorem dX2_copyFrom_90 : decode cX2_copyFrom 90 = .ok (.getfield 47, 3) := by decide +kernel
theorem dX2_copyFrom_93 : decode cX2_copyFrom 93 = .ok (.putfield 47, 3) := by decide +kernel
theorem dX2_copyFrom_96 : decode cX2_copyFrom 96 = .ok (.aload_n 0, 1) := by decide +kernel
theorem dX2_copyFrom_97 : decode cX2_copyFrom 97 = .ok (.aload_n 1, 1) := by decide +kernel
theorem dX2_copyFrom_98 : decode cX2_copyFrom 98 = .ok (.getfield 50, 3) := by decide +kernel
theorem dX2_copyFrom_101 : decode cX2_copyFrom 101 = .ok (.putfield 50, 3) := by decide +kernel
theorem dX2_copyFrom_104 : decode cX2_copyFrom 104 = .ok (.aload_n 0, 1) := by decide +kernel
theorem dX2_copyFrom_105 : decode cX2_copyFrom 105 = .ok (.aload_n 1, 1) := by decide +kernel
theorem dX2_copyFrom_106 : decode cX2_copyFrom 106 = .ok (.getfield 53, 3) := by decide +kernel
theorem dX2_copyFrom_109 : decode cX2_copyFrom 109 = .ok (.putfield 53, 3) := by decide +kernel
theorem dX2_copyFrom_112 : decode cX2_copyFrom 112 = .ok (.aload_n 0, 1) := by decide +kernel
theorem dX2_copyFrom_113 : decode cX2_copyFrom 113 = .ok (.aload_n 1, 1) := by decide +kernel
theorem dX2_copyFrom_114 : decode cX2_copyFrom 114 = .ok (.getfield 56, 3) := by decide +kernel
theorem dX2_copyFrom_117 : decode cX2_copyFrom 117 = .ok (.putfield 56, 3) := by decide +kernel
theorem dX2_copyFrom_120 : decode cX2_copyFrom 120 = .ok (.aload_n 0, 1) := by decide +kernel
theorem dX2_copyFrom_121 : decode cX2_copyFrom 121 = .ok (.aload_n 1, 1) := by decide +kernel
theorem dX2_copyFrom_122 : decode cX2_copyFrom 122 = .ok (.getfield 59, 3) := by decide +kernel
theorem dX2_copyFrom_125 : decode cX2_copyFrom 125 = .ok (.putfield 59, 3) := by decide +kernel
theorem dX2_copyFrom_128 : decode cX2_copyFrom 128 = .ok (.aload_n 0, 1) := by decide +kernel
theorem dX2_copyFrom_129 : decode cX2_copyFrom 129 = .ok (.aload_n 1, 1) := by decide +kernel
theorem dX2_copyFrom_130 : decode cX2_copyFrom 130 = .ok (.getfield 62, 3) := by decide +kernel
theorem dX2_copyFrom_133 : decode cX2_copyFrom 133 = .ok (.putfield 62, 3) := by decide +kernel
theorem dX2_copyFrom_136 : decode cX2_copyFrom 136 = .ok (.aload_n 0, 1) := by decide +kernel
theorem dX2_copyFrom_137 : decode cX2_copyFrom 137 = .ok (.aload_n 1, 1) := by decide +kernel
theorem dX2_copyFrom_138 : decode cX2_copyFrom 138 = .ok (.getfield 65, 3) := by decide +kernel
theorem dX2_copyFrom_141 : decode cX2_copyFrom 141 = .ok (.putfield 65, 3) := by decide +kernel
theorem dX2_copyFrom_144 : decode cX2_copyFrom 144 = .ok (.return_, 1) := by decide +kernel
theorem dX3_init_0 : decode cX3_init 0 = .ok (.aload_n 0, 1) := by decide +kernel
theorem dX3_init_1 : decode cX3_init 1 = .ok (.invokespecial 3, 3) := by decide +kernel
theorem dX3_init_4 : decode cX3_init 4 = .ok (.aload_n 0, 1) := by decide +kernel
theorem dX3_init_5 : decode cX3_init 5 = .ok (.bipush 12, 2) := by decide +kernel
theorem dX3_init_7 : decode cX3_init 7 = .ok (.anewarray 9, 3) := by decide +kernel
theorem dX3_init_10 : decode cX3_init 10 = .ok (.putfield 11, 3) := by decide +kernel
theorem dX3_init_13 : decode cX3_init 13 = .ok (.aload_n 0, 1) := by decide +kernel
theorem dX3_init_14 : decode cX3_init 14 = .ok (.bipush 12, 2) := by decide +kernel
theorem dX3_init_16 : decode cX3_init 16 = .ok (.newarray .int, 2) := by decide +kernel
theorem dX3_init_18 : decode cX3_init 18 = .ok (.putfield 17, 3) := by decide +kernel
theorem dX3_init_21 : decode cX3_init 21 = .ok (.aload_n 0, 1) := by decide +kernel
theorem dX3_init_22 : decode cX3_init 22 = .ok (.bipush 12, 2) := by decide +kernel
theorem dX3_init_24 : decode cX3_init 24 = .ok (.newarray .int, 2) := by decide +kernel
theorem dX3_init_26 : decode cX3_init 26 = .ok (.putfield 21, 3) := by decide +kernel
theorem dX3_init_29 : decode cX3_init 29 = .ok (.aload_n 0, 1) := by decide +kernel
theorem dX3_init_30 : decode cX3_init 30 = .ok (.bipush 12, 2) := by decide +kernel
theorem dX3_init_32 : decode cX3_init 32 = .ok (.newarray .int, 2) := by decide +kernel
theorem dX3_init_34 : decode cX3_init 34 = .ok (.putfield 24, 3) := by decide +kernel
theorem dX3_init_37 : decode cX3_init 37 = .ok (.aload_n 0, 1) := by decide +kernel
theorem dX3_init_38 : decode cX3_init 38 = .ok (.iconst 1, 1) := by decide +kernel
theorem dX3_init_39 : decode cX3_init 39 = .ok (.putfield 27, 3) := by decide +kernel
theorem dX3_init_42 : decode cX3_init 42 = .ok (.aload_n 0, 1) := by decide +kernel
theorem dX3_init_43 : decode cX3_init 43 = .ok (.new 9, 3) := by decide +kernel
theorem dX3_init_46 : decode cX3_init 46 = .ok (.dup, 1) := by decide +kernel
theorem dX3_init_47 : decode cX3_init 47 = .ok (.invokespecial 31, 3) := by decide +kernel
theorem dX3_init_50 : decode cX3_init 50 = .ok (.putfield 32, 3) := by decide +kernel
theorem dX3_init_53 : decode cX3_init 53 = .ok (.iconst 0, 1) := by decide +kernel
theorem dX3_init_54 : decode cX3_init 54 = .ok (.istore_n 1, 1) := by decide +kernel
theorem dX3_init_55 : decode cX3_init 55 = .ok (.iload_n 1, 1) := by decide +kernel
theorem dX3_init_56 : decode cX3_init 56 = .ok (.bipush 12, 2) := by decide +kernel
theorem dX3_init_58 : decode cX3_init 58 = .ok (.if_icmp .ge 22, 3) := by decide +kernel
theorem dX3_init_61 : decode cX3_init 61 = .ok (.aload_n 0, 1) := by decide +kernel
theorem dX3_init_62 : decode cX3_init 62 = .ok (.getfield 11, 3) := by decide +kernel
theorem dX3_init_65 : decode cX3_init 65 = .ok (.iload_n 1, 1) := by decide +kernel
theorem dX3_init_66 : decode cX3_init 66 = .ok (.new 9, 3) := by decide +kernel
theorem dX3_init_69 : decode cX3_init 69 = .ok (.dup, 1) := by decide +kernel
theorem dX3_init_70 : decode cX3_init 70 = .ok (.invokespecial 31, 3) := by decide +kernel
theorem dX3_init_73 : decode cX3_init 73 = .ok (.aastore, 1) := by decide +kernel
theorem dX3_init_74 : decode cX3_init 74 = .ok (.iinc 1 1, 3) := by decide +kernel
theorem dX3_init_77 : decode cX3_init 77 = .ok (.goto (-22), 3) := by decide +kernel
theorem dX3_init_80 : decode cX3_init 80 = .ok (.return_, 1) := by decide +kernel
theorem dX3_at_0 : decode cX3_at 0 = .ok (.iload_n 1, 1) := by decide +kernel
theorem dX3_at_1 : decode cX3_at 1 = .ok (.ifCond .lt 27, 3) := by decide +kernel
theorem dX3_at_4 : decode cX3_at 4 = .ok (.iload_n 1, 1) := by decide +kernel
theorem dX3_at_5 : decode cX3_at 5 = .ok (.bipush 12, 2) := by decide +kernel
theorem dX3_at_7 : decode cX3_at 7 = .ok (.if_icmp .ge 21, 3) := by decide +kernel
theorem dX3_at_10 : decode cX3_at 10 = .ok (.aload_n 0, 1) := by decide +kernel
theorem dX3_at_11 : decode cX3_at 11 = .ok (.getfield 11, 3) := by decide +kernel
theorem dX3_at_14 : decode cX3_at 14 = .ok (.iload_n 1, 1) := by decide +kernel
theorem dX3_at_15 : decode cX3_at 15 = .ok (.aaload, 1) := by decide +kernel
theorem dX3_at_16 : decode cX3_at 16 = .ok (.ifnull 12, 3) := by decide +kernel
theorem dX3_at_19 : decode cX3_at 19 = .ok (.aload_n 0, 1) := by decide +kernel
theorem dX3_at_20 : decode cX3_at 20 = .ok (.getfield 11, 3) := by decide +kernel
theorem dX3_at_23 : decode cX3_at 23 = .ok (.iload_n 1, 1) := by decide +kernel
theorem dX3_at_24 : decode cX3_at 24 = .ok (.aaload, 1) := by decide +kernel
theorem dX3_at_25 : decode cX3_at 25 = .ok (.goto 7, 3) := by decide +kernel
theorem dX3_at_28 : decode cX3_at 28 = .ok (.aload_n 0, 1) := by decide +kernel
theorem dX3_at_29 : decode cX3_at 29 = .ok (.getfield 32, 3) := by decide +kernel
theorem dX3_at_32 : decode cX3_at 32 = .ok (.areturn, 1) := by decide +kernel
theorem dX3_leansOf_0 : decode cX3_leansOf 0 = .ok (.iload_n 1, 1) := by decide +kernel
theorem dX3_leansOf_1 : decode cX3_leansOf 1 = .ok (.ifCond .lt 18, 3) := by decide +kernel
theorem dX3_leansOf_4 : decode cX3_leansOf 4 = .ok (.iload_n 1, 1) := by decide +kernel
theorem dX3_leansOf_5 : decode cX3_leansOf 5 = .ok (.bipush 12, 2) := by decide +kernel
theorem dX3_leansOf_7 : decode cX3_leansOf 7 = .ok (.if_icmp .ge 12, 3) := by decide +kernel
theorem dX3_leansOf_10 : decode cX3_leansOf 10 = .ok (.aload_n 0, 1) := by decide +kernel
theorem dX3_leansOf_11 : decode cX3_leansOf 11 = .ok (.getfield 17, 3) := by decide +kernel
theorem dX3_leansOf_14 : decode cX3_leansOf 14 = .ok (.iload_n 1, 1) := by decide +kernel
theorem dX3_leansOf_15 : decode cX3_leansOf 15 = .ok (.iaload, 1) := by decide +kernel
theorem dX3_leansOf_16 : decode cX3_leansOf 16 = .ok (.goto 4, 3) := by decide +kernel
theorem dX3_leansOf_19 : decode cX3_leansOf 19 = .ok (.iconst 0, 1) := by decide +kernel
theorem dX3_leansOf_20 : decode cX3_leansOf 20 = .ok (.ireturn, 1) := by decide +kernel
theorem dX3_admit_0 : decode cX3_admit 0 = .ok (.aload_n 0, 1) := by decide +kernel
theorem dX3_admit_1 : decode cX3_admit 1 = .ok (.getfield 36, 3) := by decide +kernel
theorem dX3_admit_4 : decode cX3_admit 4 = .ok (.istore_n 1, 1) := by decide +kernel
theorem dX3_admit_5 : decode cX3_admit 5 = .ok (.aload_n 0, 1) := by decide +kernel
theorem dX3_admit_6 : decode cX3_admit 6 = .ok (.aload_n 0, 1) := by decide +kernel
theorem dX3_admit_7 : decode cX3_admit 7 = .ok (.getfield 36, 3) := by decide +kernel
theorem dX3_admit_10 : decode cX3_admit 10 = .ok (.iconst 1, 1) := by decide +kernel
theorem dX3_admit_11 : decode cX3_admit 11 = .ok (.iadd, 1) := by decide +kernel
theorem dX3_admit_12 : decode cX3_admit 12 = .ok (.bipush 12, 2) := by decide +kernel
theorem dX3_admit_14 : decode cX3_admit 14 = .ok (.invokestatic 40, 3) := by decide +kernel
theorem dX3_admit_17 : decode cX3_admit 17 = .ok (.putfield 36, 3) := by decide +kernel
theorem dX3_admit_20 : decode cX3_admit 20 = .ok (.aload_n 0, 1) := by decide +kernel
theorem dX3_admit_21 : decode cX3_admit 21 = .ok (.invokevirtual 46, 3) := by decide +kernel
theorem dX3_admit_24 : decode cX3_admit 24 = .ok (.aload_n 0, 1) := by decide +kernel
theorem dX3_admit_25 : decode cX3_admit 25 = .ok (.invokevirtual 49, 3) := by decide +kernel
theorem dX3_admit_28 : decode cX3_admit 28 = .ok (.iload_n 1, 1) := by decide +kernel
theorem dX3_admit_29 : decode cX3_admit 29 = .ok (.ireturn, 1) := by decide +kernel
theorem dX3_findLeaning_0 : decode cX3_findLeaning 0 = .ok (.iconst 0, 1) := by decide +kernel
theorem dX3_findLeaning_1 : decode cX3_findLeaning 1 = .ok (.istore_n 1, 1) := by decide +kernel
theorem dX3_findLeaning_2 : decode cX3_findLeaning 2 = .ok (.iload_n 1, 1) := by decide +kernel
theorem dX3_findLeaning_3 : decode cX3_findLeaning 3 = .ok (.aload_n 0, 1) := by decide +kernel
theorem dX3_findLeaning_4 : decode cX3_findLeaning 4 = .ok (.getfield 36, 3) := by decide +kernel
theorem dX3_findLeaning_7 : decode cX3_findLeaning 7 = .ok (.if_icmp .ge 73, 3) := by decide +kernel
theorem dX3_findLeaning_10 : decode cX3_findLeaning 10 = .ok (.iload_n 1, 1) := by decide +kernel
theorem dX3_findLeaning_11 : decode cX3_findLeaning 11 = .ok (.bipush 12, 2) := by decide +kernel
theorem dX3_findLeaning_13 : decode cX3_findLeaning 13 = .ok (.if_icmp .ge 67, 3) := by decide +kernel
theorem dX3_findLeaning_16 : decode cX3_findLeaning 16 = .ok (.iconst 0, 1) := by decide +kernel
theorem dX3_findLeaning_17 : decode cX3_findLeaning 17 = .ok (.istore_n 2, 1) := by decide +kernel
theorem dX3_findLeaning_18 : decode cX3_findLeaning 18 = .ok (.iconst 0, 1) := by decide +kernel
theorem dX3_findLeaning_19 : decode cX3_findLeaning 19 = .ok (.istore_n 3, 1) := by decide +kernel
theorem dX3_findLeaning_20 : decode cX3_findLeaning 20 = .ok (.iload_n 3, 1) := by decide +kernel
theorem dX3_findLeaning_21 : decode cX3_findLeaning 21 = .ok (.aload_n 0, 1) := by decide +kernel
theorem dX3_findLeaning_22 : decode cX3_findLeaning 22 = .ok (.getfield 36, 3) := by decide +kernel
theorem dX3_findLeaning_25 : decode cX3_findLeaning 25 = .ok (.if_icmp .ge 42, 3) := by decide +kernel
theorem dX3_findLeaning_28 : decode cX3_findLeaning 28 = .ok (.iload_n 3, 1) := by decide +kernel
theorem dX3_findLeaning_29 : decode cX3_findLeaning 29 = .ok (.iload_n 1, 1) := by decide +kernel
theorem dX3_findLeaning_30 : decode cX3_findLeaning 30 = .ok (.if_icmp .eq 31, 3) := by decide +kernel
theorem dX3_findLeaning_33 : decode cX3_findLeaning 33 = .ok (.aload_n 0, 1) := by decide +kernel
theorem dX3_findLeaning_34 : decode cX3_findLeaning 34 = .ok (.iload_n 1, 1) := by decide +kernel
theorem dX3_findLeaning_35 : decode cX3_findLeaning 35 = .ok (.invokevirtual 52, 3) := by decide +kernel
theorem dX3_findLeaning_38 : decode cX3_findLeaning 38 = .ok (.invokevirtual 56, 3) := by decide +kernel
theorem dX3_findLeaning_41 : decode cX3_findLeaning 41 = .ok (.aload_n 0, 1) := by decide +kernel
theorem dX3_findLeaning_42 : decode cX3_findLeaning 42 = .ok (.iload_n 3, 1) := by decide +kernel
theorem dX3_findLeaning_43 : decode cX3_findLeaning 43 = .ok (.invokevirtual 52, 3) := by decide +kernel
theorem dX3_findLeaning_46 : decode cX3_findLeaning 46 = .ok (.invokevirtual 60, 3) := by decide +kernel
theorem dX3_findLeaning_49 : decode cX3_findLeaning 49 = .ok (.land, 1) := by decide +kernel
theorem dX3_findLeaning_50 : decode cX3_findLeaning 50 = .ok (.lconst 0, 1) := by decide +kernel
theorem dX3_findLeaning_51 : decode cX3_findLeaning 51 = .ok (.lcmp, 1) := by decide +kernel
theorem dX3_findLeaning_52 : decode cX3_findLeaning 52 = .ok (.ifCond .eq 9, 3) := by decide +kernel
theorem dX3_findLeaning_55 : decode cX3_findLeaning 55 = .ok (.iload_n 2, 1) := by decide +kernel
theorem dX3_findLeaning_56 : decode cX3_findLeaning 56 = .ok (.iconst 1, 1) := by decide +kernel
theorem dX3_findLeaning_57 : decode cX3_findLeaning 57 = .ok (.iload_n 3, 1) := by decide +kernel
theorem dX3_findLeaning_58 : decode cX3_findLeaning 58 = .ok (.ishl, 1) := by decide +kernel
theorem dX3_findLeaning_59 : decode cX3_findLeaning 59 = .ok (.ior, 1) := by decide +kernel
theorem dX3_findLeaning_60 : decode cX3_findLeaning 60 = .ok (.istore_n 2, 1) := by decide +kernel
theorem dX3_findLeaning_61 : decode cX3_findLeaning 61 = .ok (.iinc 3 1, 3) := by decide +kernel
theorem dX3_findLeaning_64 : decode cX3_findLeaning 64 = .ok (.goto (-44), 3) := by decide +kernel
theorem dX3_findLeaning_67 : decode cX3_findLeaning 67 = .ok (.aload_n 0, 1) := by decide +kernel
theorem dX3_findLeaning_68 : decode cX3_findLeaning 68 = .ok (.getfield 17, 3) := by decide +kernel
theorem dX3_findLeaning_71 : decode cX3_findLeaning 71 = .ok (.iload_n 1, 1) := by decide +kernel
theorem dX3_findLeaning_72 : decode cX3_findLeaning 72 = .ok (.iload_n 2, 1) := by decide +kernel
theorem dX3_findLeaning_73 : decode cX3_findLeaning 73 = .ok (.iastore, 1) := by decide +kernel
theorem dX3_findLeaning_74 : decode cX3_findLeaning 74 = .ok (.iinc 1 1, 3) := by decide +kernel
theorem dX3_findLeaning_77 : decode cX3_findLeaning 77 = .ok (.goto (-75), 3) := by decide +kernel
theorem dX3_findLeaning_80 : decode cX3_findLeaning 80 = .ok (.return_, 1) := by decide +kernel
theorem dX3_findOrder_0 : decode cX3_findOrder 0 = .ok (.iconst 0, 1) := by decide +kernel
theorem dX3_findOrder_1 : decode cX3_findOrder 1 = .ok (.istore_n 1, 1) := by decide +kernel
theorem dX3_findOrder_2 : decode cX3_findOrder 2 = .ok (.aload_n 0, 1) := by decide +kernel
theorem dX3_findOrder_3 : decode cX3_findOrder 3 = .ok (.iconst 1, 1) := by decide +kernel
theorem dX3_findOrder_4 : decode cX3_findOrder 4 = .ok (.putfield 27, 3) := by decide +kernel
theorem dX3_findOrder_7 : decode cX3_findOrder 7 = .ok (.iconst 0, 1) := by decide +kernel
theorem dX3_findOrder_8 : decode cX3_findOrder 8 = .ok (.istore_n 2, 1) := by decide +kernel
theorem dX3_findOrder_9 : decode cX3_findOrder 9 = .ok (.iload_n 2, 1) := by decide +kernel
theorem dX3_findOrder_10 : decode cX3_findOrder 10 = .ok (.aload_n 0, 1) := by decide +kernel
theorem dX3_findOrder_11 : decode cX3_findOrder 11 = .ok (.getfield 36, 3) := by decide +kernel
theorem dX3_findOrder_14 : decode cX3_findOrder 14 = .ok (.if_icmp .ge 45, 3) := by decide +kernel
theorem dX3_findOrder_17 : decode cX3_findOrder 17 = .ok (.iload_n 2, 1) := by decide +kernel
theorem dX3_findOrder_18 : decode cX3_findOrder 18 = .ok (.bipush 12, 2) := by decide +kernel
theorem dX3_findOrder_20 : decode cX3_findOrder 20 = .ok (.if_icmp .ge 39, 3) := by decide +kernel
theorem dX3_findOrder_23 : decode cX3_findOrder 23 = .ok (.aload_n 0, 1) := by decide +kernel
theorem dX3_findOrder_24 : decode cX3_findOrder 24 = .ok (.iload_n 1, 1) := by decide +kernel
theorem dX3_findOrder_25 : decode cX3_findOrder 25 = .ok (.invokevirtual 63, 3) := by decide +kernel
theorem dX3_findOrder_28 : decode cX3_findOrder 28 = .ok (.istore_n 3, 1) := by decide +kernel
theorem dX3_findOrder_29 : decode cX3_findOrder 29 = .ok (.iload_n 3, 1) := by decide +kernel
theorem dX3_findOrder_30 : decode cX3_findOrder 30 = .ok (.iconst (-1), 1) := by decide +kernel
theorem dX3_findOrder_31 : decode cX3_findOrder 31 = .ok (.if_icmp .ne 9, 3) := by decide +kernel
theorem dX3_findOrder_34 : decode cX3_findOrder 34 = .ok (.aload_n 0, 1) := by decide +kernel
theorem dX3_findOrder_35 : decode cX3_findOrder 35 = .ok (.iconst 0, 1) := by decide +kernel
theorem dX3_findOrder_36 : decode cX3_findOrder 36 = .ok (.putfield 27, 3) := by decide +kernel
theorem dX3_findOrder_39 : decode cX3_findOrder 39 = .ok (.return_, 1) := by decide +kernel
theorem dX3_findOrder_40 : decode cX3_findOrder 40 = .ok (.aload_n 0, 1) := by decide +kernel
theorem dX3_findOrder_41 : decode cX3_findOrder 41 = .ok (.getfield 21, 3) := by decide +kernel
theorem dX3_findOrder_44 : decode cX3_findOrder 44 = .ok (.iload_n 2, 1) := by decide +kernel
theorem dX3_findOrder_45 : decode cX3_findOrder 45 = .ok (.iload_n 3, 1) := by decide +kernel
theorem dX3_findOrder_46 : decode cX3_findOrder 46 = .ok (.iastore, 1) := by decide +kernel
theorem dX3_findOrder_47 : decode cX3_findOrder 47 = .ok (.iload_n 1, 1) := by decide +kernel
theorem dX3_findOrder_48 : decode cX3_findOrder 48 = .ok (.iconst 1, 1) := by decide +kernel
theorem dX3_findOrder_49 : decode cX3_findOrder 49 = .ok (.iload_n 3, 1) := by decide +kernel
theorem dX3_findOrder_50 : decode cX3_findOrder 50 = .ok (.ishl, 1) := by decide +kernel
theorem dX3_findOrder_51 : decode cX3_findOrder 51 = .ok (.ior, 1) := by decide +kernel
theorem dX3_findOrder_52 : decode cX3_findOrder 52 = .ok (.istore_n 1, 1) := by decide +kernel
theorem dX3_findOrder_53 : decode cX3_findOrder 53 = .ok (.iinc 2 1, 3) := by decide +kernel
theorem dX3_findOrder_56 : decode cX3_findOrder 56 = .ok (.goto (-47), 3) := by decide +kernel
theorem dX3_findOrder_59 : decode cX3_findOrder 59 = .ok (.return_, 1) := by decide +kernel
theorem dX3_nextPlaced_0 : decode cX3_nextPlaced 0 = .ok (.iconst 0, 1) := by decide +kernel
theorem dX3_nextPlaced_1 : decode cX3_nextPlaced 1 = .ok (.istore_n 2, 1) := by decide +kernel
theorem dX3_nextPlaced_2 : decode cX3_nextPlaced 2 = .ok (.iload_n 2, 1) := by decide +kernel
theorem dX3_nextPlaced_3 : decode cX3_nextPlaced 3 = .ok (.aload_n 0, 1) := by decide +kernel
theorem dX3_nextPlaced_4 : decode cX3_nextPlaced 4 = .ok (.getfield 36, 3) := by decide +kernel
theorem dX3_nextPlaced_7 : decode cX3_nextPlaced 7 = .ok (.if_icmp .ge 31, 3) := by decide +kernel
theorem dX3_nextPlaced_10 : decode cX3_nextPlaced 10 = .ok (.iload_n 1, 1) := by decide +kernel
theorem dX3_nextPlaced_11 : decode cX3_nextPlaced 11 = .ok (.iload_n 2, 1) := by decide +kernel
theorem dX3_nextPlaced_12 : decode cX3_nextPlaced 12 = .ok (.iushr, 1) := by decide +kernel
theorem dX3_nextPlaced_13 : decode cX3_nextPlaced 13 = .ok (.iconst 1, 1) := by decide +kernel
theorem dX3_nextPlaced_14 : decode cX3_nextPlaced 14 = .ok (.iand, 1) := by decide +kernel
theorem dX3_nextPlaced_15 : decode cX3_nextPlaced 15 = .ok (.ifCond .ne 17, 3) := by decide +kernel
theorem dX3_nextPlaced_18 : decode cX3_nextPlaced 18 = .ok (.aload_n 0, 1) := by decide +kernel
theorem dX3_nextPlaced_19 : decode cX3_nextPlaced 19 = .ok (.iload_n 2, 1) := by decide +kernel
theorem dX3_nextPlaced_20 : decode cX3_nextPlaced 20 = .ok (.invokevirtual 67, 3) := by decide +kernel
theorem dX3_nextPlaced_23 : decode cX3_nextPlaced 23 = .ok (.iload_n 1, 1) := by decide +kernel
theorem dX3_nextPlaced_24 : decode cX3_nextPlaced 24 = .ok (.iconst (-1), 1) := by decide +kernel
theorem dX3_nextPlaced_25 : decode cX3_nextPlaced 25 = .ok (.ixor, 1) := by decide +kernel
theorem dX3_nextPlaced_26 : decode cX3_nextPlaced 26 = .ok (.iand, 1) := by decide +kernel
theorem dX3_nextPlaced_27 : decode cX3_nextPlaced 27 = .ok (.ifCond .ne 5, 3) := by decide +kernel
theorem dX3_nextPlaced_30 : decode cX3_nextPlaced 30 = .ok (.iload_n 2, 1) := by decide +kernel
theorem dX3_nextPlaced_31 : decode cX3_nextPlaced 31 = .ok (.ireturn, 1) := by decide +kernel
theorem dX3_nextPlaced_32 : decode cX3_nextPlaced 32 = .ok (.iinc 2 1, 3) := by decide +kernel
theorem dX3_nextPlaced_35 : decode cX3_nextPlaced 35 = .ok (.goto (-33), 3) := by decide +kernel
theorem dX3_nextPlaced_38 : decode cX3_nextPlaced 38 = .ok (.iconst (-1), 1) := by decide +kernel
theorem dX3_nextPlaced_39 : decode cX3_nextPlaced 39 = .ok (.ireturn, 1) := by decide +kernel
theorem dX3_placed_0 : decode cX3_placed 0 = .ok (.aload_n 0, 1) := by decide +kernel
theorem dX3_placed_1 : decode cX3_placed 1 = .ok (.getfield 27, 3) := by decide +kernel
theorem dX3_placed_4 : decode cX3_placed 4 = .ok (.ifCond .eq 30, 3) := by decide +kernel
theorem dX3_placed_7 : decode cX3_placed 7 = .ok (.iload_n 1, 1) := by decide +kernel
theorem dX3_placed_8 : decode cX3_placed 8 = .ok (.ifCond .lt 26, 3) := by decide +kernel
theorem dX3_placed_11 : decode cX3_placed 11 = .ok (.iload_n 1, 1) := by decide +kernel
theorem dX3_placed_12 : decode cX3_placed 12 = .ok (.aload_n 0, 1) := by decide +kernel
theorem dX3_placed_13 : decode cX3_placed 13 = .ok (.getfield 36, 3) := by decide +kernel
theorem dX3_placed_16 : decode cX3_placed 16 = .ok (.if_icmp .ge 18, 3) := by decide +kernel
theorem dX3_placed_19 : decode cX3_placed 19 = .ok (.iload_n 1, 1) := by decide +kernel
theorem dX3_placed_20 : decode cX3_placed 20 = .ok (.bipush 12, 2) := by decide +kernel
theorem dX3_placed_22 : decode cX3_placed 22 = .ok (.if_icmp .ge 12, 3) := by decide +kernel
theorem dX3_placed_25 : decode cX3_placed 25 = .ok (.aload_n 0, 1) := by decide +kernel
theorem dX3_placed_26 : decode cX3_placed 26 = .ok (.getfield 21, 3) := by decide +kernel
theorem dX3_placed_29 : decode cX3_placed 29 = .ok (.iload_n 1, 1) := by decide +kernel
theorem dX3_placed_30 : decode cX3_placed 30 = .ok (.iaload, 1) := by decide +kernel
theorem dX3_placed_31 : decode cX3_placed 31 = .ok (.goto 4, 3) := by decide +kernel
theorem dX3_placed_34 : decode cX3_placed 34 = .ok (.iconst (-1), 1) := by decide +kernel
theorem dX3_placed_35 : decode cX3_placed 35 = .ok (.ireturn, 1) := by decide +kernel
theorem dX3_placeOf_0 : decode cX3_placeOf 0 = .ok (.iconst 0, 1) := by decide +kernel
theorem dX3_placeOf_1 : decode cX3_placeOf 1 = .ok (.istore_n 2, 1) := by decide +kernel
theorem dX3_placeOf_2 : decode cX3_placeOf 2 = .ok (.iload_n 2, 1) := by decide +kernel
theorem dX3_placeOf_3 : decode cX3_placeOf 3 = .ok (.aload_n 0, 1) := by decide +kernel
theorem dX3_placeOf_4 : decode cX3_placeOf 4 = .ok (.getfield 36, 3) := by decide +kernel
theorem dX3_placeOf_7 : decode cX3_placeOf 7 = .ok (.if_icmp .ge 20, 3) := by decide +kernel
theorem dX3_placeOf_10 : decode cX3_placeOf 10 = .ok (.aload_n 0, 1) := by decide +kernel
theorem dX3_placeOf_11 : decode cX3_placeOf 11 = .ok (.iload_n 2, 1) := by decide +kernel
theorem dX3_placeOf_12 : decode cX3_placeOf 12 = .ok (.invokevirtual 70, 3) := by decide +kernel
theorem dX3_placeOf_15 : decode cX3_placeOf 15 = .ok (.iload_n 1, 1) := by decide +kernel
theorem dX3_placeOf_16 : decode cX3_placeOf 16 = .ok (.if_icmp .ne 5, 3) := by decide +kernel
theorem dX3_placeOf_19 : decode cX3_placeOf 19 = .ok (.iload_n 2, 1) := by decide +kernel
theorem dX3_placeOf_20 : decode cX3_placeOf 20 = .ok (.ireturn, 1) := by decide +kernel
theorem dX3_placeOf_21 : decode cX3_placeOf 21 = .ok (.iinc 2 1, 3) := by decide +kernel
theorem dX3_placeOf_24 : decode cX3_placeOf 24 = .ok (.goto (-22), 3) := by decide +kernel
theorem dX3_placeOf_27 : decode cX3_placeOf 27 = .ok (.iconst (-1), 1) := by decide +kernel
theorem dX3_placeOf_28 : decode cX3_placeOf 28 = .ok (.ireturn, 1) := by decide +kernel
theorem dX3_quarrelAt_0 : decode cX3_quarrelAt 0 = .ok (.iconst 0, 1) := by decide +kernel
theorem dX3_quarrelAt_1 : decode cX3_quarrelAt 1 = .ok (.istore_n 2, 1) := by decide +kernel
theorem dX3_quarrelAt_2 : decode cX3_quarrelAt 2 = .ok (.iconst 0, 1) := by decide +kernel
theorem dX3_quarrelAt_3 : decode cX3_quarrelAt 3 = .ok (.istore_n 3, 1) := by decide +kernel
theorem dX3_quarrelAt_4 : decode cX3_quarrelAt 4 = .ok (.iload_n 3, 1) := by decide +kernel
theorem dX3_quarrelAt_5 : decode cX3_quarrelAt 5 = .ok (.aload_n 0, 1) := by decide +kernel
theorem dX3_quarrelAt_6 : decode cX3_quarrelAt 6 = .ok (.getfield 36, 3) := by decide +kernel
theorem dX3_quarrelAt_9 : decode cX3_quarrelAt 9 = .ok (.if_icmp .ge 68, 3) := by decide +kernel
theorem dX3_quarrelAt_12 : decode cX3_quarrelAt 12 = .ok (.iload_n 3, 1) := by decide +kernel
theorem dX3_quarrelAt_13 : decode cX3_quarrelAt 13 = .ok (.iconst 1, 1) := by decide +kernel
theorem dX3_quarrelAt_14 : decode cX3_quarrelAt 14 = .ok (.iadd, 1) := by decide +kernel
theorem dX3_quarrelAt_15 : decode cX3_quarrelAt 15 = .ok (.istore 4, 2) := by decide +kernel
theorem dX3_quarrelAt_17 : decode cX3_quarrelAt 17 = .ok (.iload 4, 2) := by decide +kernel
theorem dX3_quarrelAt_19 : decode cX3_quarrelAt 19 = .ok (.aload_n 0, 1) := by decide +kernel
theorem dX3_quarrelAt_20 : decode cX3_quarrelAt 20 = .ok (.getfield 36, 3) := by decide +kernel
theorem dX3_quarrelAt_23 : decode cX3_quarrelAt 23 = .ok (.if_icmp .ge 48, 3) := by decide +kernel
theorem dX3_quarrelAt_26 : decode cX3_quarrelAt 26 = .ok (.aload_n 0, 1) := by decide +kernel
theorem dX3_quarrelAt_27 : decode cX3_quarrelAt 27 = .ok (.iload_n 3, 1) := by decide +kernel
theorem dX3_quarrelAt_28 : decode cX3_quarrelAt 28 = .ok (.invokevirtual 52, 3) := by decide +kernel
theorem dX3_quarrelAt_31 : decode cX3_quarrelAt 31 = .ok (.invokevirtual 60, 3) := by decide +kernel
theorem dX3_quarrelAt_34 : decode cX3_quarrelAt 34 = .ok (.aload_n 0, 1) := by decide +kernel
theorem dX3_quarrelAt_35 : decode cX3_quarrelAt 35 = .ok (.iload 4, 2) := by decide +kernel
theorem dX3_quarrelAt_37 : decode cX3_quarrelAt 37 = .ok (.invokevirtual 52, 3) := by decide +kernel
theorem dX3_quarrelAt_40 : decode cX3_quarrelAt 40 = .ok (.invokevirtual 60, 3) := by decide +kernel
theorem dX3_quarrelAt_43 : decode cX3_quarrelAt 43 = .ok (.land, 1) := by decide +kernel
theorem dX3_quarrelAt_44 : decode cX3_quarrelAt 44 = .ok (.lconst 0, 1) := by decide +kernel
theorem dX3_quarrelAt_45 : decode cX3_quarrelAt 45 = .ok (.lcmp, 1) := by decide +kernel
theorem dX3_quarrelAt_46 : decode cX3_quarrelAt 46 = .ok (.ifCond .eq 19, 3) := by decide +kernel
theorem dX3_quarrelAt_49 : decode cX3_quarrelAt 49 = .ok (.iload_n 2, 1) := by decide +kernel
theorem dX3_quarrelAt_50 : decode cX3_quarrelAt 50 = .ok (.iload_n 1, 1) := by decide +kernel
theorem dX3_quarrelAt_51 : decode cX3_quarrelAt 51 = .ok (.if_icmp .ne 11, 3) := by decide +kernel
theorem dX3_quarrelAt_54 : decode cX3_quarrelAt 54 = .ok (.bipush 12, 2) := by decide +kernel
theorem dX3_quarrelAt_56 : decode cX3_quarrelAt 56 = .ok (.iload_n 3, 1) := by decide +kernel
theorem dX3_quarrelAt_57 : decode cX3_quarrelAt 57 = .ok (.imul, 1) := by decide +kernel
theorem dX3_quarrelAt_58 : decode cX3_quarrelAt 58 = .ok (.iload 4, 2) := by decide +kernel
theorem dX3_quarrelAt_60 : decode cX3_quarrelAt 60 = .ok (.iadd, 1) := by decide +kernel
theorem dX3_quarrelAt_61 : decode cX3_quarrelAt 61 = .ok (.ireturn, 1) := by decide +kernel
theorem dX3_quarrelAt_62 : decode cX3_quarrelAt 62 = .ok (.iinc 2 1, 3) := by decide +kernel
theorem dX3_quarrelAt_65 : decode cX3_quarrelAt 65 = .ok (.iinc 4 1, 3) := by decide +kernel
theorem dX3_quarrelAt_68 : decode cX3_quarrelAt 68 = .ok (.goto (-51), 3) := by decide +kernel
theorem dX3_quarrelAt_71 : decode cX3_quarrelAt 71 = .ok (.iinc 3 1, 3) := by decide +kernel
theorem dX3_quarrelAt_74 : decode cX3_quarrelAt 74 = .ok (.goto (-70), 3) := by decide +kernel
theorem dX3_quarrelAt_77 : decode cX3_quarrelAt 77 = .ok (.iconst (-1), 1) := by decide +kernel
theorem dX3_quarrelAt_78 : decode cX3_quarrelAt 78 = .ok (.ireturn, 1) := by decide +kernel
theorem dX3_nextForMachine_0 : decode cX3_nextForMachine 0 = .ok (.aload_n 0, 1) := by decide +kernel
theorem dX3_nextForMachine_1 : decode cX3_nextForMachine 1 = .ok (.invokevirtual 73, 3) := by decide +kernel
theorem dX3_nextForMachine_4 : decode cX3_nextForMachine 4 = .ok (.istore_n 1, 1) := by decide +kernel
theorem dX3_nextForMachine_5 : decode cX3_nextForMachine 5 = .ok (.iconst 0, 1) := by decide +kernel
theorem dX3_nextForMachine_6 : decode cX3_nextForMachine 6 = .ok (.istore_n 2, 1) := by decide +kernel
theorem dX3_nextForMachine_7 : decode cX3_nextForMachine 7 = .ok (.iload_n 2, 1) := by decide +kernel
theorem dX3_nextForMachine_8 : decode cX3_nextForMachine 8 = .ok (.aload_n 0, 1) := by decide +kernel
theorem dX3_nextForMachine_9 : decode cX3_nextForMachine 9 = .ok (.getfield 36, 3) := by decide +kernel
theorem dX3_nextForMachine_12 : decode cX3_nextForMachine 12 = .ok (.if_icmp .ge 64, 3) := by decide +kernel
theorem dX3_nextForMachine_15 : decode cX3_nextForMachine 15 = .ok (.aload_n 0, 1) := by decide +kernel
theorem dX3_nextForMachine_16 : decode cX3_nextForMachine 16 = .ok (.getfield 27, 3) := by decide +kernel
theorem dX3_nextForMachine_19 : decode cX3_nextForMachine 19 = .ok (.ifCond .eq 11, 3) := by decide +kernel
theorem dX3_nextForMachine_22 : decode cX3_nextForMachine 22 = .ok (.aload_n 0, 1) := by decide +kernel
theorem dX3_nextForMachine_23 : decode cX3_nextForMachine 23 = .ok (.iload_n 2, 1) := by decide +kernel
theorem dX3_nextForMachine_24 : decode cX3_nextForMachine 24 = .ok (.invokevirtual 70, 3) := by decide +kernel
theorem dX3_nextForMachine_27 : decode cX3_nextForMachine 27 = .ok (.goto 4, 3) := by decide +kernel
theorem dX3_nextForMachine_30 : decode cX3_nextForMachine 30 = .ok (.iload_n 2, 1) := by decide +kernel
theorem dX3_nextForMachine_31 : decode cX3_nextForMachine 31 = .ok (.istore_n 3, 1) := by decide +kernel
theorem dX3_nextForMachine_32 : decode cX3_nextForMachine 32 = .ok (.aload_n 0, 1) := by decide +kernel
theorem dX3_nextForMachine_33 : decode cX3_nextForMachine 33 = .ok (.iload_n 3, 1) := by decide +kernel
theorem dX3_nextForMachine_34 : decode cX3_nextForMachine 34 = .ok (.invokevirtual 52, 3) := by decide +kernel
theorem dX3_nextForMachine_37 : decode cX3_nextForMachine 37 = .ok (.astore 4, 2) := by decide +kernel
theorem dX3_nextForMachine_39 : decode cX3_nextForMachine 39 = .ok (.aload 4, 2) := by decide +kernel
theorem dX3_nextForMachine_41 : decode cX3_nextForMachine 41 = .ok (.getfield 77, 3) := by decide +kernel
theorem dX3_nextForMachine_44 : decode cX3_nextForMachine 44 = .ok (.ifCond .ne 26, 3) := by decide +kernel
theorem dX3_nextForMachine_47 : decode cX3_nextForMachine 47 = .ok (.aload 4, 2) := by decide +kernel
theorem dX3_nextForMachine_49 : decode cX3_nextForMachine 49 = .ok (.getfield 80, 3) := by decide +kernel
theorem dX3_nextForMachine_52 : decode cX3_nextForMachine 52 = .ok (.iconst 2, 1) := by decide +kernel
theorem dX3_nextForMachine_53 : decode cX3_nextForMachine 53 = .ok (.if_icmp .eq 17, 3) := by decide +kernel
theorem dX3_nextForMachine_56 : decode cX3_nextForMachine 56 = .ok (.aload_n 0, 1) := by decide +kernel
theorem dX3_nextForMachine_57 : decode cX3_nextForMachine 57 = .ok (.iload_n 3, 1) := by decide +kernel
theorem dX3_nextForMachine_58 : decode cX3_nextForMachine 58 = .ok (.invokevirtual 67, 3) := by decide +kernel
theorem dX3_nextForMachine_61 : decode cX3_nextForMachine 61 = .ok (.iload_n 1, 1) := by decide +kernel
theorem dX3_nextForMachine_62 : decode cX3_nextForMachine 62 = .ok (.iconst (-1), 1) := by decide +kernel
theorem dX3_nextForMachine_63 : decode cX3_nextForMachine 63 = .ok (.ixor, 1) := by decide +kernel
theorem dX3_nextForMachine_64 : decode cX3_nextForMachine 64 = .ok (.iand, 1) := by decide +kernel
theorem dX3_nextForMachine_65 : decode cX3_nextForMachine 65 = .ok (.ifCond .ne 5, 3) := by decide +kernel
theorem dX3_nextForMachine_68 : decode cX3_nextForMachine 68 = .ok (.iload_n 3, 1) := by decide +kernel
theorem dX3_nextForMachine_69 : decode cX3_nextForMachine 69 = .ok (.ireturn, 1) := by decide +kernel
theorem dX3_nextForMachine_70 : decode cX3_nextForMachine 70 = .ok (.iinc 2 1, 3) := by decide +kernel
theorem dX3_nextForMachine_73 : decode cX3_nextForMachine 73 = .ok (.goto (-66), 3) := by decide +kernel
theorem dX3_nextForMachine_76 : decode cX3_nextForMachine 76 = .ok (.iconst (-1), 1) := by decide +kernel
theorem dX3_nextForMachine_77 : decode cX3_nextForMachine 77 = .ok (.ireturn, 1) := by decide +kernel
theorem dX3_nextForClerks_0 : decode cX3_nextForClerks 0 = .ok (.iconst 0, 1) := by decide +kernel
theorem dX3_nextForClerks_1 : decode cX3_nextForClerks 1 = .ok (.istore_n 1, 1) := by decide +kernel
theorem dX3_nextForClerks_2 : decode cX3_nextForClerks 2 = .ok (.iload_n 1, 1) := by decide +kernel
theorem dX3_nextForClerks_3 : decode cX3_nextForClerks 3 = .ok (.aload_n 0, 1) := by decide +kernel
theorem dX3_nextForClerks_4 : decode cX3_nextForClerks 4 = .ok (.getfield 36, 3) := by decide +kernel
theorem dX3_nextForClerks_7 : decode cX3_nextForClerks 7 = .ok (.if_icmp .ge 34, 3) := by decide +kernel
theorem dX3_nextForClerks_10 : decode cX3_nextForClerks 10 = .ok (.aload_n 0, 1) := by decide +kernel
theorem dX3_nextForClerks_11 : decode cX3_nextForClerks 11 = .ok (.iload_n 1, 1) := by decide +kernel
theorem dX3_nextForClerks_12 : decode cX3_nextForClerks 12 = .ok (.invokevirtual 52, 3) := by decide +kernel
theorem dX3_nextForClerks_15 : decode cX3_nextForClerks 15 = .ok (.getfield 77, 3) := by decide +kernel
theorem dX3_nextForClerks_18 : decode cX3_nextForClerks 18 = .ok (.ifCond .ne 17, 3) := by decide +kernel
theorem dX3_nextForClerks_21 : decode cX3_nextForClerks 21 = .ok (.aload_n 0, 1) := by decide +kernel
theorem dX3_nextForClerks_22 : decode cX3_nextForClerks 22 = .ok (.iload_n 1, 1) := by decide +kernel
theorem dX3_nextForClerks_23 : decode cX3_nextForClerks 23 = .ok (.invokevirtual 52, 3) := by decide +kernel
theorem dX3_nextForClerks_26 : decode cX3_nextForClerks 26 = .ok (.getfield 80, 3) := by decide +kernel
theorem dX3_nextForClerks_29 : decode cX3_nextForClerks 29 = .ok (.iconst 2, 1) := by decide +kernel
theorem dX3_nextForClerks_30 : decode cX3_nextForClerks 30 = .ok (.if_icmp .ne 5, 3) := by decide +kernel
theorem dX3_nextForClerks_33 : decode cX3_nextForClerks 33 = .ok (.iload_n 1, 1) := by decide +kernel
theorem dX3_nextForClerks_34 : decode cX3_nextForClerks 34 = .ok (.ireturn, 1) := by decide +kernel
theorem dX3_nextForClerks_35 : decode cX3_nextForClerks 35 = .ok (.iinc 1 1, 3) := by decide +kernel
theorem dX3_nextForClerks_38 : decode cX3_nextForClerks 38 = .ok (.goto (-36), 3) := by decide +kernel
theorem dX3_nextForClerks_41 : decode cX3_nextForClerks 41 = .ok (.iconst (-1), 1) := by decide +kernel
theorem dX3_nextForClerks_42 : decode cX3_nextForClerks 42 = .ok (.ireturn, 1) := by decide +kernel
theorem dX3_endedBits_0 : decode cX3_endedBits 0 = .ok (.iconst 0, 1) := by decide +kernel
theorem dX3_endedBits_1 : decode cX3_endedBits 1 = .ok (.istore_n 1, 1) := by decide +kernel
theorem dX3_endedBits_2 : decode cX3_endedBits 2 = .ok (.iconst 0, 1) := by decide +kernel
theorem dX3_endedBits_3 : decode cX3_endedBits 3 = .ok (.istore_n 2, 1) := by decide +kernel
theorem dX3_endedBits_4 : decode cX3_endedBits 4 = .ok (.iload_n 2, 1) := by decide +kernel
theorem dX3_endedBits_5 : decode cX3_endedBits 5 = .ok (.aload_n 0, 1) := by decide +kernel
theorem dX3_endedBits_6 : decode cX3_endedBits 6 = .ok (.getfield 36, 3) := by decide +kernel
theorem dX3_endedBits_9 : decode cX3_endedBits 9 = .ok (.if_icmp .ge 39, 3) := by decide +kernel
theorem dX3_endedBits_12 : decode cX3_endedBits 12 = .ok (.aload_n 0, 1) := by decide +kernel
theorem dX3_endedBits_13 : decode cX3_endedBits 13 = .ok (.iload_n 2, 1) := by decide +kernel
theorem dX3_endedBits_14 : decode cX3_endedBits 14 = .ok (.invokevirtual 52, 3) := by decide +kernel
theorem dX3_endedBits_17 : decode cX3_endedBits 17 = .ok (.getfield 77, 3) := by decide +kernel
theorem dX3_endedBits_20 : decode cX3_endedBits 20 = .ok (.istore_n 3, 1) := by decide +kernel
theorem dX3_endedBits_21 : decode cX3_endedBits 21 = .ok (.iload_n 3, 1) := by decide +kernel
theorem dX3_endedBits_22 : decode cX3_endedBits 22 = .ok (.iconst 2, 1) := by decide +kernel
theorem dX3_endedBits_23 : decode cX3_endedBits 23 = .ok (.if_icmp .eq 13, 3) := by decide +kernel
theorem dX3_endedBits_26 : decode cX3_endedBits 26 = .ok (.iload_n 3, 1) := by decide +kernel
theorem dX3_endedBits_27 : decode cX3_endedBits 27 = .ok (.iconst 3, 1) := by decide +kernel
theorem dX3_endedBits_28 : decode cX3_endedBits 28 = .ok (.if_icmp .eq 8, 3) := by decide +kernel
theorem dX3_endedBits_31 : decode cX3_endedBits 31 = .ok (.iload_n 3, 1) := by decide +kernel
theorem dX3_endedBits_32 : decode cX3_endedBits 32 = .ok (.iconst 4, 1) := by decide +kernel
theorem dX3_endedBits_33 : decode cX3_endedBits 33 = .ok (.if_icmp .ne 9, 3) := by decide +kernel
theorem dX3_endedBits_36 : decode cX3_endedBits 36 = .ok (.iload_n 1, 1) := by decide +kernel
theorem dX3_endedBits_37 : decode cX3_endedBits 37 = .ok (.iconst 1, 1) := by decide +kernel
theorem dX3_endedBits_38 : decode cX3_endedBits 38 = .ok (.iload_n 2, 1) := by decide +kernel
theorem dX3_endedBits_39 : decode cX3_endedBits 39 = .ok (.ishl, 1) := by decide +kernel
theorem dX3_endedBits_40 : decode cX3_endedBits 40 = .ok (.ior, 1) := by decide +kernel
theorem dX3_endedBits_41 : decode cX3_endedBits 41 = .ok (.istore_n 1, 1) := by decide +kernel
theorem dX3_endedBits_42 : decode cX3_endedBits 42 = .ok (.iinc 2 1, 3) := by decide +kernel
theorem dX3_endedBits_45 : decode cX3_endedBits 45 = .ok (.goto (-41), 3) := by decide +kernel
theorem dX3_endedBits_48 : decode cX3_endedBits 48 = .ok (.iload_n 1, 1) := by decide +kernel
theorem dX3_endedBits_49 : decode cX3_endedBits 49 = .ok (.ireturn, 1) := by decide +kernel
theorem dX3_beyondDoubt_0 : decode cX3_beyondDoubt 0 = .ok (.aload_n 0, 1) := by decide +kernel
theorem dX3_beyondDoubt_1 : decode cX3_beyondDoubt 1 = .ok (.iload_n 1, 1) := by decide +kernel
theorem dX3_beyondDoubt_2 : decode cX3_beyondDoubt 2 = .ok (.invokevirtual 83, 3) := by decide +kernel
theorem dX3_beyondDoubt_5 : decode cX3_beyondDoubt 5 = .ok (.istore 4, 2) := by decide +kernel
theorem dX3_beyondDoubt_7 : decode cX3_beyondDoubt 7 = .ok (.iconst 0, 1) := by decide +kernel
theorem dX3_beyondDoubt_8 : decode cX3_beyondDoubt 8 = .ok (.istore 5, 2) := by decide +kernel
theorem dX3_beyondDoubt_10 : decode cX3_beyondDoubt 10 = .ok (.iload 5, 2) := by decide +kernel
theorem dX3_beyondDoubt_12 : decode cX3_beyondDoubt 12 = .ok (.aload_n 0, 1) := by decide +kernel
theorem dX3_beyondDoubt_13 : decode cX3_beyondDoubt 13 = .ok (.getfield 36, 3) := by decide +kernel
theorem dX3_beyondDoubt_16 : decode cX3_beyondDoubt 16 = .ok (.if_icmp .ge 71, 3) := by decide +kernel
theorem dX3_beyondDoubt_19 : decode cX3_beyondDoubt 19 = .ok (.aload_n 0, 1) := by decide +kernel
theorem dX3_beyondDoubt_20 : decode cX3_beyondDoubt 20 = .ok (.iload 5, 2) := by decide +kernel
theorem dX3_beyondDoubt_22 : decode cX3_beyondDoubt 22 = .ok (.invokevirtual 52, 3) := by decide +kernel
theorem dX3_beyondDoubt_25 : decode cX3_beyondDoubt 25 = .ok (.astore 6, 2) := by decide +kernel
theorem dX3_beyondDoubt_27 : decode cX3_beyondDoubt 27 = .ok (.aload 6, 2) := by decide +kernel
theorem dX3_beyondDoubt_29 : decode cX3_beyondDoubt 29 = .ok (.getfield 77, 3) := by decide +kernel
theorem dX3_beyondDoubt_32 : decode cX3_beyondDoubt 32 = .ok (.iconst 2, 1) := by decide +kernel
theorem dX3_beyondDoubt_33 : decode cX3_beyondDoubt 33 = .ok (.if_icmp .eq 12, 3) := by decide +kernel
theorem dX3_beyondDoubt_36 : decode cX3_beyondDoubt 36 = .ok (.aload 6, 2) := by decide +kernel
theorem dX3_beyondDoubt_38 : decode cX3_beyondDoubt 38 = .ok (.getfield 77, 3) := by decide +kernel
theorem dX3_beyondDoubt_41 : decode cX3_beyondDoubt 41 = .ok (.iconst 4, 1) := by decide +kernel
theorem dX3_beyondDoubt_42 : decode cX3_beyondDoubt 42 = .ok (.if_icmp .ne 19, 3) := by decide +kernel
theorem dX3_beyondDoubt_45 : decode cX3_beyondDoubt 45 = .ok (.aload 6, 2) := by decide +kernel
theorem dX3_beyondDoubt_47 : decode cX3_beyondDoubt 47 = .ok (.invokevirtual 60, 3) := by decide +kernel
theorem dX3_beyondDoubt_50 : decode cX3_beyondDoubt 50 = .ok (.lload_n 2, 1) := by decide +kernel
theorem dX3_beyondDoubt_51 : decode cX3_beyondDoubt 51 = .ok (.land, 1) := by decide +kernel
theorem dX3_beyondDoubt_52 : decode cX3_beyondDoubt 52 = .ok (.lconst 0, 1) := by decide +kernel
theorem dX3_beyondDoubt_53 : decode cX3_beyondDoubt 53 = .ok (.lcmp, 1) := by decide +kernel
theorem dX3_beyondDoubt_54 : decode cX3_beyondDoubt 54 = .ok (.ifCond .ne 7, 3) := by decide +kernel
theorem dX3_beyondDoubt_57 : decode cX3_beyondDoubt 57 = .ok (.iconst 1, 1) := by decide +kernel
theorem dX3_beyondDoubt_58 : decode cX3_beyondDoubt 58 = .ok (.goto 4, 3) := by decide +kernel
theorem dX3_beyondDoubt_61 : decode cX3_beyondDoubt 61 = .ok (.iconst 0, 1) := by decide +kernel
theorem dX3_beyondDoubt_62 : decode cX3_beyondDoubt 62 = .ok (.istore 7, 2) := by decide +kernel
theorem dX3_beyondDoubt_64 : decode cX3_beyondDoubt 64 = .ok (.iload 4, 2) := by decide +kernel
theorem dX3_beyondDoubt_66 : decode cX3_beyondDoubt 66 = .ok (.iload 5, 2) := by decide +kernel
theorem dX3_beyondDoubt_68 : decode cX3_beyondDoubt 68 = .ok (.iushr, 1) := by decide +kernel
theorem dX3_beyondDoubt_69 : decode cX3_beyondDoubt 69 = .ok (.iconst 1, 1) := by decide +kernel
theorem dX3_beyondDoubt_70 : decode cX3_beyondDoubt 70 = .ok (.iand, 1) := by decide +kernel
theorem dX3_beyondDoubt_71 : decode cX3_beyondDoubt 71 = .ok (.ifCond .eq 10, 3) := by decide +kernel
theorem dX3_beyondDoubt_74 : decode cX3_beyondDoubt 74 = .ok (.iload 7, 2) := by decide +kernel
theorem dX3_beyondDoubt_76 : decode cX3_beyondDoubt 76 = .ok (.ifCond .ne 5, 3) := by decide +kernel
theorem dX3_beyondDoubt_79 : decode cX3_beyondDoubt 79 = .ok (.iconst 0, 1) := by decide +kernel
theorem dX3_beyondDoubt_80 : decode cX3_beyondDoubt 80 = .ok (.ireturn, 1) := by decide +kernel
theorem dX3_beyondDoubt_81 : decode cX3_beyondDoubt 81 = .ok (.iinc 5 1, 3) := by decide +kernel
theorem dX3_beyondDoubt_84 : decode cX3_beyondDoubt 84 = .ok (.goto (-74), 3) := by decide +kernel
theorem dX3_beyondDoubt_87 : decode cX3_beyondDoubt 87 = .ok (.iconst 1, 1) := by decide +kernel
theorem dX3_beyondDoubt_88 : decode cX3_beyondDoubt 88 = .ok (.ireturn, 1) := by decide +kernel
theorem dX3_withAllBehind_0 : decode cX3_withAllBehind 0 = .ok (.iconst 1, 1) := by decide +kernel
theorem dX3_withAllBehind_1 : decode cX3_withAllBehind 1 = .ok (.iload_n 1, 1) := by decide +kernel
theorem dX3_withAllBehind_2 : decode cX3_withAllBehind 2 = .ok (.ishl, 1) := by decide +kernel
theorem dX3_withAllBehind_3 : decode cX3_withAllBehind 3 = .ok (.istore_n 2, 1) := by decide +kernel
theorem dX3_withAllBehind_4 : decode cX3_withAllBehind 4 = .ok (.iconst 0, 1) := by decide +kernel
theorem dX3_withAllBehind_5 : decode cX3_withAllBehind 5 = .ok (.istore_n 3, 1) := by decide +kernel
theorem dX3_withAllBehind_6 : decode cX3_withAllBehind 6 = .ok (.iload_n 3, 1) := by decide +kernel
theorem dX3_withAllBehind_7 : decode cX3_withAllBehind 7 = .ok (.aload_n 0, 1) := by decide +kernel
theorem dX3_withAllBehind_8 : decode cX3_withAllBehind 8 = .ok (.getfield 36, 3) := by decide +kernel
theorem dX3_withAllBehind_11 : decode cX3_withAllBehind 11 = .ok (.if_icmp .ge 45, 3) := by decide +kernel
theorem dX3_withAllBehind_14 : decode cX3_withAllBehind 14 = .ok (.iconst 0, 1) := by decide +kernel
theorem dX3_withAllBehind_15 : decode cX3_withAllBehind 15 = .ok (.istore 4, 2) := by decide +kernel
theorem dX3_withAllBehind_17 : decode cX3_withAllBehind 17 = .ok (.iload 4, 2) := by decide +kernel
theorem dX3_withAllBehind_19 : decode cX3_withAllBehind 19 = .ok (.aload_n 0, 1) := by decide +kernel
theorem dX3_withAllBehind_20 : decode cX3_withAllBehind 20 = .ok (.getfield 36, 3) := by decide +kernel
theorem dX3_withAllBehind_23 : decode cX3_withAllBehind 23 = .ok (.if_icmp .ge 27, 3) := by decide +kernel
theorem dX3_withAllBehind_26 : decode cX3_withAllBehind 26 = .ok (.iload_n 2, 1) := by decide +kernel
theorem dX3_withAllBehind_27 : decode cX3_withAllBehind 27 = .ok (.iload 4, 2) := by decide +kernel
theorem dX3_withAllBehind_29 : decode cX3_withAllBehind 29 = .ok (.iushr, 1) := by decide +kernel
theorem dX3_withAllBehind_30 : decode cX3_withAllBehind 30 = .ok (.iconst 1, 1) := by decide +kernel
theorem dX3_withAllBehind_31 : decode cX3_withAllBehind 31 = .ok (.iand, 1) := by decide +kernel
theorem dX3_withAllBehind_32 : decode cX3_withAllBehind 32 = .ok (.ifCond .eq 12, 3) := by decide +kernel
theorem dX3_withAllBehind_35 : decode cX3_withAllBehind 35 = .ok (.iload_n 2, 1) := by decide +kernel
theorem dX3_withAllBehind_36 : decode cX3_withAllBehind 36 = .ok (.aload_n 0, 1) := by decide +kernel
theorem dX3_withAllBehind_37 : decode cX3_withAllBehind 37 = .ok (.iload 4, 2) := by decide +kernel
theorem dX3_withAllBehind_39 : decode cX3_withAllBehind 39 = .ok (.invokevirtual 67, 3) := by decide +kernel
theorem dX3_withAllBehind_42 : decode cX3_withAllBehind 42 = .ok (.ior, 1) := by decide +kernel
theorem dX3_withAllBehind_43 : decode cX3_withAllBehind 43 = .ok (.istore_n 2, 1) := by decide +kernel
theorem dX3_withAllBehind_44 : decode cX3_withAllBehind 44 = .ok (.iinc 4 1, 3) := by decide +kernel
theorem dX3_withAllBehind_47 : decode cX3_withAllBehind 47 = .ok (.goto (-30), 3) := by decide +kernel
theorem dX3_withAllBehind_50 : decode cX3_withAllBehind 50 = .ok (.iinc 3 1, 3) := by decide +kernel
theorem dX3_withAllBehind_53 : decode cX3_withAllBehind 53 = .ok (.goto (-47), 3) := by decide +kernel
theorem dX3_withAllBehind_56 : decode cX3_withAllBehind 56 = .ok (.iload_n 2, 1) := by decide +kernel
theorem dX3_withAllBehind_57 : decode cX3_withAllBehind 57 = .ok (.ireturn, 1) := by decide +kernel
theorem dX3_wagesMayBePaid_0 : decode cX3_wagesMayBePaid 0 = .ok (.iconst 0, 1) := by decide +kernel
theorem dX3_wagesMayBePaid_1 : decode cX3_wagesMayBePaid 1 = .ok (.istore_n 3, 1) := by decide +kernel
theorem dX3_wagesMayBePaid_2 : decode cX3_wagesMayBePaid 2 = .ok (.iconst 0, 1) := by decide +kernel
theorem dX3_wagesMayBePaid_3 : decode cX3_wagesMayBePaid 3 = .ok (.istore 4, 2) := by decide +kernel
theorem dX3_wagesMayBePaid_5 : decode cX3_wagesMayBePaid 5 = .ok (.iload 4, 2) := by decide +kernel
theorem dX3_wagesMayBePaid_7 : decode cX3_wagesMayBePaid 7 = .ok (.aload_n 0, 1) := by decide +kernel
theorem dX3_wagesMayBePaid_8 : decode cX3_wagesMayBePaid 8 = .ok (.getfield 36, 3) := by decide +kernel
theorem dX3_wagesMayBePaid_11 : decode cX3_wagesMayBePaid 11 = .ok (.if_icmp .ge 35, 3) := by decide +kernel
theorem dX3_wagesMayBePaid_14 : decode cX3_wagesMayBePaid 14 = .ok (.aload_n 0, 1) := by decide +kernel
theorem dX3_wagesMayBePaid_15 : decode cX3_wagesMayBePaid 15 = .ok (.iload 4, 2) := by decide +kernel
theorem dX3_wagesMayBePaid_17 : decode cX3_wagesMayBePaid 17 = .ok (.invokevirtual 52, 3) := by decide +kernel
theorem dX3_wagesMayBePaid_20 : decode cX3_wagesMayBePaid 20 = .ok (.getfield 86, 3) := by decide +kernel
theorem dX3_wagesMayBePaid_23 : decode cX3_wagesMayBePaid 23 = .ok (.ifCond .eq 17, 3) := by decide +kernel
theorem dX3_wagesMayBePaid_26 : decode cX3_wagesMayBePaid 26 = .ok (.iconst 1, 1) := by decide +kernel
theorem dX3_wagesMayBePaid_27 : decode cX3_wagesMayBePaid 27 = .ok (.istore_n 3, 1) := by decide +kernel
theorem dX3_wagesMayBePaid_28 : decode cX3_wagesMayBePaid 28 = .ok (.aload_n 0, 1) := by decide +kernel
theorem dX3_wagesMayBePaid_29 : decode cX3_wagesMayBePaid 29 = .ok (.iload 4, 2) := by decide +kernel
theorem dX3_wagesMayBePaid_31 : decode cX3_wagesMayBePaid 31 = .ok (.lload_n 1, 1) := by decide +kernel
theorem dX3_wagesMayBePaid_32 : decode cX3_wagesMayBePaid 32 = .ok (.invokevirtual 89, 3) := by decide +kernel
theorem dX3_wagesMayBePaid_35 : decode cX3_wagesMayBePaid 35 = .ok (.ifCond .ne 5, 3) := by decide +kernel
theorem dX3_wagesMayBePaid_38 : decode cX3_wagesMayBePaid 38 = .ok (.iconst 0, 1) := by decide +kernel
theorem dX3_wagesMayBePaid_39 : decode cX3_wagesMayBePaid 39 = .ok (.ireturn, 1) := by decide +kernel
theorem dX3_wagesMayBePaid_40 : decode cX3_wagesMayBePaid 40 = .ok (.iinc 4 1, 3) := by decide +kernel
theorem dX3_wagesMayBePaid_43 : decode cX3_wagesMayBePaid 43 = .ok (.goto (-38), 3) := by decide +kernel
theorem dX3_wagesMayBePaid_46 : decode cX3_wagesMayBePaid 46 = .ok (.iload_n 3, 1) := by decide +kernel
theorem dX3_wagesMayBePaid_47 : decode cX3_wagesMayBePaid 47 = .ok (.ireturn, 1) := by decide +kernel
theorem dX3_byClerksAlone_0 : decode cX3_byClerksAlone 0 = .ok (.iconst 0, 1) := by decide +kernel
theorem dX3_byClerksAlone_1 : decode cX3_byClerksAlone 1 = .ok (.istore_n 1, 1) := by decide +kernel
theorem dX3_byClerksAlone_2 : decode cX3_byClerksAlone 2 = .ok (.iconst 0, 1) := by decide +kernel
theorem dX3_byClerksAlone_3 : decode cX3_byClerksAlone 3 = .ok (.istore_n 2, 1) := by decide +kernel
theorem dX3_byClerksAlone_4 : decode cX3_byClerksAlone 4 = .ok (.iload_n 2, 1) := by decide +kernel
theorem dX3_byClerksAlone_5 : decode cX3_byClerksAlone 5 = .ok (.aload_n 0, 1) := by decide +kernel
theorem dX3_byClerksAlone_6 : decode cX3_byClerksAlone 6 = .ok (.getfield 36, 3) := by decide +kernel
theorem dX3_byClerksAlone_9 : decode cX3_byClerksAlone 9 = .ok (.if_icmp .ge 33, 3) := by decide +kernel
theorem dX3_byClerksAlone_12 : decode cX3_byClerksAlone 12 = .ok (.aload_n 0, 1) := by decide +kernel
theorem dX3_byClerksAlone_13 : decode cX3_byClerksAlone 13 = .ok (.iload_n 2, 1) := by decide +kernel
theorem dX3_byClerksAlone_14 : decode cX3_byClerksAlone 14 = .ok (.invokevirtual 52, 3) := by decide +kernel
theorem dX3_byClerksAlone_17 : decode cX3_byClerksAlone 17 = .ok (.getfield 93, 3) := by decide +kernel
theorem dX3_byClerksAlone_20 : decode cX3_byClerksAlone 20 = .ok (.ifCond .ne 5, 3) := by decide +kernel
theorem dX3_byClerksAlone_23 : decode cX3_byClerksAlone 23 = .ok (.iconst (-1), 1) := by decide +kernel
theorem dX3_byClerksAlone_24 : decode cX3_byClerksAlone 24 = .ok (.ireturn, 1) := by decide +kernel
theorem dX3_byClerksAlone_25 : decode cX3_byClerksAlone 25 = .ok (.iload_n 1, 1) := by decide +kernel
theorem dX3_byClerksAlone_26 : decode cX3_byClerksAlone 26 = .ok (.aload_n 0, 1) := by decide +kernel
theorem dX3_byClerksAlone_27 : decode cX3_byClerksAlone 27 = .ok (.iload_n 2, 1) := by decide +kernel
theorem dX3_byClerksAlone_28 : decode cX3_byClerksAlone 28 = .ok (.invokevirtual 52, 3) := by decide +kernel
theorem dX3_byClerksAlone_31 : decode cX3_byClerksAlone 31 = .ok (.getfield 93, 3) := by decide +kernel
theorem dX3_byClerksAlone_34 : decode cX3_byClerksAlone 34 = .ok (.iadd, 1) := by decide +kernel
theorem dX3_byClerksAlone_35 : decode cX3_byClerksAlone 35 = .ok (.istore_n 1, 1) := by decide +kernel
theorem dX3_byClerksAlone_36 : decode cX3_byClerksAlone 36 = .ok (.iinc 2 1, 3) := by decide +kernel
theorem dX3_byClerksAlone_39 : decode cX3_byClerksAlone 39 = .ok (.goto (-35), 3) := by decide +kernel
theorem dX3_byClerksAlone_42 : decode cX3_byClerksAlone 42 = .ok (.iload_n 1, 1) := by decide +kernel
theorem dX3_byClerksAlone_43 : decode cX3_byClerksAlone 43 = .ok (.ireturn, 1) := by decide +kernel
theorem dX3_withTwoMachines_0 : decode cX3_withTwoMachines 0 = .ok (.aload_n 0, 1) := by decide +kernel
theorem dX3_withTwoMachines_1 : decode cX3_withTwoMachines 1 = .ok (.getfield 27, 3) := by decide +kernel
theorem dX3_withTwoMachines_4 : decode cX3_withTwoMachines 4 = .ok (.ifCond .ne 5, 3) := by decide +kernel
theorem dX3_withTwoMachines_7 : decode cX3_withTwoMachines 7 = .ok (.iconst (-1), 1) := by decide +kernel
theorem dX3_withTwoMachines_8 : decode cX3_withTwoMachines 8 = .ok (.ireturn, 1) := by decide +kernel
theorem dX3_withTwoMachines_9 : decode cX3_withTwoMachines 9 = .ok (.iconst 0, 1) := by decide +kernel
theorem dX3_withTwoMachines_10 : decode cX3_withTwoMachines 10 = .ok (.istore_n 1, 1) := by decide +kernel
theorem dX3_withTwoMachines_11 : decode cX3_withTwoMachines 11 = .ok (.iconst 0, 1) := by decide +kernel
theorem dX3_withTwoMachines_12 : decode cX3_withTwoMachines 12 = .ok (.istore_n 2, 1) := by decide +kernel
theorem dX3_withTwoMachines_13 : decode cX3_withTwoMachines 13 = .ok (.iconst 0, 1) := by decide +kernel
theorem dX3_withTwoMachines_14 : decode cX3_withTwoMachines 14 = .ok (.istore_n 3, 1) := by decide +kernel
theorem dX3_withTwoMachines_15 : decode cX3_withTwoMachines 15 = .ok (.iload_n 3, 1) := by decide +kernel
theorem dX3_withTwoMachines_16 : decode cX3_withTwoMachines 16 = .ok (.aload_n 0, 1) := by decide +kernel
theorem dX3_withTwoMachines_17 : decode cX3_withTwoMachines 17 = .ok (.getfield 36, 3) := by decide +kernel
theorem dX3_withTwoMachines_20 : decode cX3_withTwoMachines 20 = .ok (.if_icmp .ge 81, 3) := by decide +kernel
theorem dX3_withTwoMachines_23 : decode cX3_withTwoMachines 23 = .ok (.aload_n 0, 1) := by decide +kernel
theorem dX3_withTwoMachines_24 : decode cX3_withTwoMachines 24 = .ok (.iload_n 3, 1) := by decide +kernel
theorem dX3_withTwoMachines_25 : decode cX3_withTwoMachines 25 = .ok (.invokevirtual 70, 3) := by decide +kernel
theorem dX3_withTwoMachines_28 : decode cX3_withTwoMachines 28 = .ok (.istore 4, 2) := by decide +kernel
theorem dX3_withTwoMachines_30 : decode cX3_withTwoMachines 30 = .ok (.iload_n 1, 1) := by decide +kernel
theorem dX3_withTwoMachines_31 : decode cX3_withTwoMachines 31 = .ok (.iload_n 2, 1) := by decide +kernel
theorem dX3_withTwoMachines_32 : decode cX3_withTwoMachines 32 = .ok (.invokestatic 40, 3) := by decide +kernel
theorem dX3_withTwoMachines_35 : decode cX3_withTwoMachines 35 = .ok (.aload_n 0, 1) := by decide +kernel
theorem dX3_withTwoMachines_36 : decode cX3_withTwoMachines 36 = .ok (.iload 4, 2) := by decide +kernel
theorem dX3_withTwoMachines_38 : decode cX3_withTwoMachines 38 = .ok (.invokevirtual 96, 3) := by decide +kernel
theorem dX3_withTwoMachines_41 : decode cX3_withTwoMachines 41 = .ok (.invokestatic 99, 3) := by decide +kernel
theorem dX3_withTwoMachines_44 : decode cX3_withTwoMachines 44 = .ok (.istore 5, 2) := by decide +kernel
theorem dX3_withTwoMachines_46 : decode cX3_withTwoMachines 46 = .ok (.iload 5, 2) := by decide +kernel
theorem dX3_withTwoMachines_48 : decode cX3_withTwoMachines 48 = .ok (.aload_n 0, 1) := by decide +kernel
theorem dX3_withTwoMachines_49 : decode cX3_withTwoMachines 49 = .ok (.iload 4, 2) := by decide +kernel
theorem dX3_withTwoMachines_51 : decode cX3_withTwoMachines 51 = .ok (.invokevirtual 52, 3) := by decide +kernel
theorem dX3_withTwoMachines_54 : decode cX3_withTwoMachines 54 = .ok (.getfield 102, 3) := by decide +kernel
theorem dX3_withTwoMachines_57 : decode cX3_withTwoMachines 57 = .ok (.iadd, 1) := by decide +kernel
theorem dX3_withTwoMachines_58 : decode cX3_withTwoMachines 58 = .ok (.istore 6, 2) := by decide +kernel
theorem dX3_withTwoMachines_60 : decode cX3_withTwoMachines 60 = .ok (.iload 4, 2) := by decide +kernel
theorem dX3_withTwoMachines_62 : decode cX3_withTwoMachines 62 = .ok (.ifCond .lt 19, 3) := by decide +kernel
theorem dX3_withTwoMachines_65 : decode cX3_withTwoMachines 65 = .ok (.iload 4, 2) := by decide +kernel
theorem dX3_withTwoMachines_67 : decode cX3_withTwoMachines 67 = .ok (.bipush 12, 2) := by decide +kernel
theorem dX3_withTwoMachines_69 : decode cX3_withTwoMachines 69 = .ok (.if_icmp .ge 12, 3) := by decide +kernel
theorem dX3_withTwoMachines_72 : decode cX3_withTwoMachines 72 = .ok (.aload_n 0, 1) := by decide +kernel
theorem dX3_withTwoMachines_73 : decode cX3_withTwoMachines 73 = .ok (.getfield 24, 3) := by decide +kernel
theorem dX3_withTwoMachines_76 : decode cX3_withTwoMachines 76 = .ok (.iload 4, 2) := by decide +kernel
theorem dX3_withTwoMachines_78 : decode cX3_withTwoMachines 78 = .ok (.iload 6, 2) := by decide +kernel
theorem dX3_withTwoMachines_80 : decode cX3_withTwoMachines 80 = .ok (.iastore, 1) := by decide +kernel
theorem dX3_withTwoMachines_81 : decode cX3_withTwoMachines 81 = .ok (.iload_n 1, 1) := by decide +kernel
theorem dX3_withTwoMachines_82 : decode cX3_withTwoMachines 82 = .ok (.iload_n 2, 1) := by decide +kernel
theorem dX3_withTwoMachines_83 : decode cX3_withTwoMachines 83 = .ok (.if_icmp .gt 9, 3) := by decide +kernel
theorem dX3_withTwoMachines_86 : decode cX3_withTwoMachines 86 = .ok (.iload 6, 2) := by decide +kernel
theorem dX3_withTwoMachines_88 : decode cX3_withTwoMachines 88 = .ok (.istore_n 1, 1) := by decide +kernel
theorem dX3_withTwoMachines_89 : decode cX3_withTwoMachines 89 = .ok (.goto 6, 3) := by decide +kernel
theorem dX3_withTwoMachines_92 : decode cX3_withTwoMachines 92 = .ok (.iload 6, 2) := by decide +kernel
theorem dX3_withTwoMachines_94 : decode cX3_withTwoMachines 94 = .ok (.istore_n 2, 1) := by decide +kernel
theorem dX3_withTwoMachines_95 : decode cX3_withTwoMachines 95 = .ok (.iinc 3 1, 3) := by decide +kernel
theorem dX3_withTwoMachines_98 : decode cX3_withTwoMachines 98 = .ok (.goto (-83), 3) := by decide +kernel
theorem dX3_withTwoMachines_101 : decode cX3_withTwoMachines 101 = .ok (.iload_n 1, 1) := by decide +kernel
theorem dX3_withTwoMachines_102 : decode cX3_withTwoMachines 102 = .ok (.iload_n 2, 1) := by decide +kernel
theorem dX3_withTwoMachines_103 : decode cX3_withTwoMachines 103 = .ok (.invokestatic 99, 3) := by decide +kernel
theorem dX3_withTwoMachines_106 : decode cX3_withTwoMachines 106 = .ok (.ireturn, 1) := by decide +kernel
theorem dX3_leansDone_0 : decode cX3_leansDone 0 = .ok (.iconst 0, 1) := by decide +kernel
theorem dX3_leansDone_1 : decode cX3_leansDone 1 = .ok (.istore_n 2, 1) := by decide +kernel
theorem dX3_leansDone_2 : decode cX3_leansDone 2 = .ok (.iconst 0, 1) := by decide +kernel
theorem dX3_leansDone_3 : decode cX3_leansDone 3 = .ok (.istore_n 3, 1) := by decide +kernel
theorem dX3_leansDone_4 : decode cX3_leansDone 4 = .ok (.iload_n 3, 1) := by decide +kernel
theorem dX3_leansDone_5 : decode cX3_leansDone 5 = .ok (.aload_n 0, 1) := by decide +kernel
theorem dX3_leansDone_6 : decode cX3_leansDone 6 = .ok (.getfield 36, 3) := by decide +kernel
theorem dX3_leansDone_9 : decode cX3_leansDone 9 = .ok (.if_icmp .ge 38, 3) := by decide +kernel
theorem dX3_leansDone_12 : decode cX3_leansDone 12 = .ok (.iload_n 3, 1) := by decide +kernel
theorem dX3_leansDone_13 : decode cX3_leansDone 13 = .ok (.bipush 12, 2) := by decide +kernel
theorem dX3_leansDone_15 : decode cX3_leansDone 15 = .ok (.if_icmp .ge 32, 3) := by decide +kernel
theorem dX3_leansDone_18 : decode cX3_leansDone 18 = .ok (.aload_n 0, 1) := by decide +kernel
theorem dX3_leansDone_19 : decode cX3_leansDone 19 = .ok (.iload_n 1, 1) := by decide +kernel
theorem dX3_leansDone_20 : decode cX3_leansDone 20 = .ok (.invokevirtual 67, 3) := by decide +kernel
theorem dX3_leansDone_23 : decode cX3_leansDone 23 = .ok (.iload_n 3, 1) := by decide +kernel
theorem dX3_leansDone_24 : decode cX3_leansDone 24 = .ok (.iushr, 1) := by decide +kernel
theorem dX3_leansDone_25 : decode cX3_leansDone 25 = .ok (.iconst 1, 1) := by decide +kernel
theorem dX3_leansDone_26 : decode cX3_leansDone 26 = .ok (.iand, 1) := by decide +kernel
theorem dX3_leansDone_27 : decode cX3_leansDone 27 = .ok (.ifCond .eq 14, 3) := by decide +kernel
theorem dX3_leansDone_30 : decode cX3_leansDone 30 = .ok (.iload_n 2, 1) := by decide +kernel
theorem dX3_leansDone_31 : decode cX3_leansDone 31 = .ok (.aload_n 0, 1) := by decide +kernel
theorem dX3_leansDone_32 : decode cX3_leansDone 32 = .ok (.getfield 24, 3) := by decide +kernel
theorem dX3_leansDone_35 : decode cX3_leansDone 35 = .ok (.iload_n 3, 1) := by decide +kernel
theorem dX3_leansDone_36 : decode cX3_leansDone 36 = .ok (.iaload, 1) := by decide +kernel
theorem dX3_leansDone_37 : decode cX3_leansDone 37 = .ok (.invokestatic 99, 3) := by decide +kernel
theorem dX3_leansDone_40 : decode cX3_leansDone 40 = .ok (.istore_n 2, 1) := by decide +kernel
theorem dX3_leansDone_41 : decode cX3_leansDone 41 = .ok (.iinc 3 1, 3) := by decide +kernel
theorem dX3_leansDone_44 : decode cX3_leansDone 44 = .ok (.goto (-40), 3) := by decide +kernel
theorem dX3_leansDone_47 : decode cX3_leansDone 47 = .ok (.iload_n 2, 1) := by decide +kernel
theorem dX3_leansDone_48 : decode cX3_leansDone 48 = .ok (.ireturn, 1) := by decide +kernel
theorem dX3_waiting_0 : decode cX3_waiting 0 = .ok (.iconst 0, 1) := by decide +kernel
theorem dX3_waiting_1 : decode cX3_waiting 1 = .ok (.istore_n 1, 1) := by decide +kernel
theorem dX3_waiting_2 : decode cX3_waiting 2 = .ok (.iconst 0, 1) := by decide +kernel
theorem dX3_waiting_3 : decode cX3_waiting 3 = .ok (.istore_n 2, 1) := by decide +kernel
theorem dX3_waiting_4 : decode cX3_waiting 4 = .ok (.iload_n 2, 1) := by decide +kernel
theorem dX3_waiting_5 : decode cX3_waiting 5 = .ok (.aload_n 0, 1) := by decide +kernel
theorem dX3_waiting_6 : decode cX3_waiting 6 = .ok (.getfield 36, 3) := by decide +kernel
theorem dX3_waiting_9 : decode cX3_waiting 9 = .ok (.if_icmp .ge 23, 3) := by decide +kernel
theorem dX3_waiting_12 : decode cX3_waiting 12 = .ok (.aload_n 0, 1) := by decide +kernel
theorem dX3_waiting_13 : decode cX3_waiting 13 = .ok (.iload_n 2, 1) := by decide +kernel
theorem dX3_waiting_14 : decode cX3_waiting 14 = .ok (.invokevirtual 52, 3) := by decide +kernel
theorem dX3_waiting_17 : decode cX3_waiting 17 = .ok (.getfield 77, 3) := by decide +kernel
theorem dX3_waiting_20 : decode cX3_waiting 20 = .ok (.ifCond .ne 6, 3) := by decide +kernel
theorem dX3_waiting_23 : decode cX3_waiting 23 = .ok (.iinc 1 1, 3) := by decide +kernel
theorem dX3_waiting_26 : decode cX3_waiting 26 = .ok (.iinc 2 1, 3) := by decide +kernel
theorem dX3_waiting_29 : decode cX3_waiting 29 = .ok (.goto (-25), 3) := by decide +kernel
theorem dX3_waiting_32 : decode cX3_waiting 32 = .ok (.iload_n 1, 1) := by decide +kernel
theorem dX3_waiting_33 : decode cX3_waiting 33 = .ok (.ireturn, 1) := by decide +kernel
theorem dX3_askedTogether_0 : decode cX3_askedTogether 0 = .ok (.iconst 0, 1) := by decide +kernel
theorem dX3_askedTogether_1 : decode cX3_askedTogether 1 = .ok (.istore_n 1, 1) := by decide +kernel
theorem dX3_askedTogether_2 : decode cX3_askedTogether 2 = .ok (.iconst 0, 1) := by decide +kernel
theorem dX3_askedTogether_3 : decode cX3_askedTogether 3 = .ok (.istore_n 2, 1) := by decide +kernel
theorem dX3_askedTogether_4 : decode cX3_askedTogether 4 = .ok (.iload_n 2, 1) := by decide +kernel
theorem dX3_askedTogether_5 : decode cX3_askedTogether 5 = .ok (.aload_n 0, 1) := by decide +kernel
theorem dX3_askedTogether_6 : decode cX3_askedTogether 6 = .ok (.getfield 36, 3) := by decide +kernel
theorem dX3_askedTogether_9 : decode cX3_askedTogether 9 = .ok (.if_icmp .ge 20, 3) := by decide +kernel
theorem dX3_askedTogether_12 : decode cX3_askedTogether 12 = .ok (.iload_n 1, 1) := by decide +kernel
theorem dX3_askedTogether_13 : decode cX3_askedTogether 13 = .ok (.aload_n 0, 1) := by decide +kernel
theorem dX3_askedTogether_14 : decode cX3_askedTogether 14 = .ok (.iload_n 2, 1) := by decide +kernel
theorem dX3_askedTogether_15 : decode cX3_askedTogether 15 = .ok (.invokevirtual 52, 3) := by decide +kernel
theorem dX3_askedTogether_18 : decode cX3_askedTogether 18 = .ok (.getfield 105, 3) := by decide +kernel
theorem dX3_askedTogether_21 : decode cX3_askedTogether 21 = .ok (.iadd, 1) := by decide +kernel
theorem dX3_askedTogether_22 : decode cX3_askedTogether 22 = .ok (.istore_n 1, 1) := by decide +kernel
theorem dX3_askedTogether_23 : decode cX3_askedTogether 23 = .ok (.iinc 2 1, 3) := by decide +kernel
theorem dX3_askedTogether_26 : decode cX3_askedTogether 26 = .ok (.goto (-22), 3) := by decide +kernel
theorem dX3_askedTogether_29 : decode cX3_askedTogether 29 = .ok (.iload_n 1, 1) := by decide +kernel
theorem dX3_askedTogether_30 : decode cX3_askedTogether 30 = .ok (.ireturn, 1) := by decide +kernel
theorem dX3_failedTogether_0 : decode cX3_failedTogether 0 = .ok (.iconst 0, 1) := by decide +kernel
theorem dX3_failedTogether_1 : decode cX3_failedTogether 1 = .ok (.istore_n 1, 1) := by decide +kernel
theorem dX3_failedTogether_2 : decode cX3_failedTogether 2 = .ok (.iconst 0, 1) := by decide +kernel
theorem dX3_failedTogether_3 : decode cX3_failedTogether 3 = .ok (.istore_n 2, 1) := by decide +kernel
theorem dX3_failedTogether_4 : decode cX3_failedTogether 4 = .ok (.iload_n 2, 1) := by decide +kernel
theorem dX3_failedTogether_5 : decode cX3_failedTogether 5 = .ok (.aload_n 0, 1) := by decide +kernel
theorem dX3_failedTogether_6 : decode cX3_failedTogether 6 = .ok (.getfield 36, 3) := by decide +kernel
theorem dX3_failedTogether_9 : decode cX3_failedTogether 9 = .ok (.if_icmp .ge 20, 3) := by decide +kernel
theorem dX3_failedTogether_12 : decode cX3_failedTogether 12 = .ok (.iload_n 1, 1) := by decide +kernel
theorem dX3_failedTogether_13 : decode cX3_failedTogether 13 = .ok (.aload_n 0, 1) := by decide +kernel
theorem dX3_failedTogether_14 : decode cX3_failedTogether 14 = .ok (.iload_n 2, 1) := by decide +kernel
theorem dX3_failedTogether_15 : decode cX3_failedTogether 15 = .ok (.invokevirtual 52, 3) := by decide +kernel
theorem dX3_failedTogether_18 : decode cX3_failedTogether 18 = .ok (.getfield 108, 3) := by decide +kernel
theorem dX3_failedTogether_21 : decode cX3_failedTogether 21 = .ok (.iadd, 1) := by decide +kernel
theorem dX3_failedTogether_22 : decode cX3_failedTogether 22 = .ok (.istore_n 1, 1) := by decide +kernel
theorem dX3_failedTogether_23 : decode cX3_failedTogether 23 = .ok (.iinc 2 1, 3) := by decide +kernel
theorem dX3_failedTogether_26 : decode cX3_failedTogether 26 = .ok (.goto (-22), 3) := by decide +kernel
theorem dX3_failedTogether_29 : decode cX3_failedTogether 29 = .ok (.iload_n 1, 1) := by decide +kernel
theorem dX3_failedTogether_30 : decode cX3_failedTogether 30 = .ok (.ireturn, 1) := by decide +kernel
theorem dX3_copyFrom_0 : decode cX3_copyFrom 0 = .ok (.iconst 0, 1) := by decide +kernel
theorem dX3_copyFrom_1 : decode cX3_copyFrom 1 = .ok (.istore_n 2, 1) := by decide +kernel
theorem dX3_copyFrom_2 : decode cX3_copyFrom 2 = .ok (.iload_n 2, 1) := by decide +kernel
theorem dX3_copyFrom_3 : decode cX3_copyFrom 3 = .ok (.bipush 12, 2) := by decide +kernel
theorem dX3_copyFrom_5 : decode cX3_copyFrom 5 = .ok (.if_icmp .ge 22, 3) := by decide +kernel
theorem dX3_copyFrom_8 : decode cX3_copyFrom 8 = .ok (.aload_n 0, 1) := by decide +kernel
theorem dX3_copyFrom_9 : decode cX3_copyFrom 9 = .ok (.iload_n 2, 1) := by decide +kernel
theorem dX3_copyFrom_10 : decode cX3_copyFrom 10 = .ok (.invokevirtual 52, 3) := by decide +kernel
theorem dX3_copyFrom_13 : decode cX3_copyFrom 13 = .ok (.aload_n 1, 1) := by decide +kernel
theorem dX3_copyFrom_14 : decode cX3_copyFrom 14 = .ok (.iload_n 2, 1) := by decide +kernel
theorem dX3_copyFrom_15 : decode cX3_copyFrom 15 = .ok (.invokevirtual 52, 3) := by decide +kernel
theorem dX3_copyFrom_18 : decode cX3_copyFrom 18 = .ok (.invokevirtual 111, 3) := by decide +kernel
theorem dX3_copyFrom_21 : decode cX3_copyFrom 21 = .ok (.iinc 2 1, 3) := by decide +kernel
theorem dX3_copyFrom_24 : decode cX3_copyFrom 24 = .ok (.goto (-22), 3) := by decide +kernel
theorem dX3_copyFrom_27 : decode cX3_copyFrom 27 = .ok (.aload_n 1, 1) := by decide +kernel
theorem dX3_copyFrom_28 : decode cX3_copyFrom 28 = .ok (.getfield 17, 3) := by decide +kernel
theorem dX3_copyFrom_31 : decode cX3_copyFrom 31 = .ok (.iconst 0, 1) := by decide +kernel
theorem dX3_copyFrom_32 : decode cX3_copyFrom 32 = .ok (.aload_n 0, 1) := by decide +kernel
theorem dX3_copyFrom_33 : decode cX3_copyFrom 33 = .ok (.getfield 17, 3) := by decide +kernel
theorem dX3_copyFrom_36 : decode cX3_copyFrom 36 = .ok (.iconst 0, 1) := by decide +kernel
theorem dX3_copyFrom_37 : decode cX3_copyFrom 37 = .ok (.bipush 12, 2) := by decide +kernel
theorem dX3_copyFrom_39 : decode cX3_copyFrom 39 = .ok (.invokestatic 115, 3) := by decide +kernel
theorem dX3_copyFrom_42 : decode cX3_copyFrom 42 = .ok (.aload_n 1, 1) := by decide +kernel
theorem dX3_copyFrom_43 : decode cX3_copyFrom 43 = .ok (.getfield 21, 3) := by decide +kernel
theorem dX3_copyFrom_46 : decode cX3_copyFrom 46 = .ok (.iconst 0, 1) := by decide +kernel
theorem dX3_copyFrom_47 : decode cX3_copyFrom 47 = .ok (.aload_n 0, 1) := by decide +kernel
theorem dX3_copyFrom_48 : decode cX3_copyFrom 48 = .ok (.getfield 21, 3) := by decide +kernel
theorem dX3_copyFrom_51 : decode cX3_copyFrom 51 = .ok (.iconst 0, 1) := by decide +kernel
theorem dX3_copyFrom_52 : decode cX3_copyFrom 52 = .ok (.bipush 12, 2) := by decide +kernel
theorem dX3_copyFrom_54 : decode cX3_copyFrom 54 = .ok (.invokestatic 115, 3) := by decide +kernel
theorem dX3_copyFrom_57 : decode cX3_copyFrom 57 = .ok (.aload_n 0, 1) := by decide +kernel
theorem dX3_copyFrom_58 : decode cX3_copyFrom 58 = .ok (.aload_n 1, 1) := by decide +kernel
theorem dX3_copyFrom_59 : decode cX3_copyFrom 59 = .ok (.getfield 27, 3) := by decide +kernel
theorem dX3_copyFrom_62 : decode cX3_copyFrom 62 = .ok (.putfield 27, 3) := by decide +kernel
theorem dX3_copyFrom_65 : decode cX3_copyFrom 65 = .ok (.aload_n 0, 1) := by decide +kernel
theorem dX3_copyFrom_66 : decode cX3_copyFrom 66 = .ok (.aload_n 1, 1) := by decide +kernel
theorem dX3_copyFrom_67 : decode cX3_copyFrom 67 = .ok (.getfield 36, 3) := by decide +kernel
theorem dX3_copyFrom_70 : decode cX3_copyFrom 70 = .ok (.putfield 36, 3) := by decide +kernel
theorem dX3_copyFrom_73 : decode cX3_copyFrom 73 = .ok (.return_, 1) := by decide +kernel
theorem dX4_init_0 : decode cX4_init 0 = .ok (.aload_n 0, 1) := by decide +kernel
theorem dX4_init_1 : decode cX4_init 1 = .ok (.invokespecial 3, 3) := by decide +kernel
theorem dX4_init_4 : decode cX4_init 4 = .ok (.aload_n 0, 1) := by decide +kernel
theorem dX4_init_5 : decode cX4_init 5 = .ok (.new 9, 3) := by decide +kernel
theorem dX4_init_8 : decode cX4_init 8 = .ok (.dup, 1) := by decide +kernel
theorem dX4_init_9 : decode cX4_init 9 = .ok (.invokespecial 11, 3) := by decide +kernel
theorem dX4_init_12 : decode cX4_init 12 = .ok (.putfield 12, 3) := by decide +kernel
theorem dX4_init_15 : decode cX4_init 15 = .ok (.aload_n 0, 1) := by decide +kernel
theorem dX4_init_16 : decode cX4_init 16 = .ok (.aload_n 0, 1) := by decide +kernel
theorem dX4_init_17 : decode cX4_init 17 = .ok (.getfield 12, 3) := by decide +kernel
theorem dX4_init_20 : decode cX4_init 20 = .ok (.getfield 18, 3) := by decide +kernel
theorem dX4_init_23 : decode cX4_init 23 = .ok (.putfield 22, 3) := by decide +kernel
theorem dX4_init_26 : decode cX4_init 26 = .ok (.aload_n 0, 1) := by decide +kernel
theorem dX4_init_27 : decode cX4_init 27 = .ok (.new 23, 3) := by decide +kernel
theorem dX4_init_30 : decode cX4_init 30 = .ok (.dup, 1) := by decide +kernel
theorem dX4_init_31 : decode cX4_init 31 = .ok (.invokespecial 25, 3) := by decide +kernel
theorem dX4_init_34 : decode cX4_init 34 = .ok (.putfield 26, 3) := by decide +kernel
theorem dX4_init_37 : decode cX4_init 37 = .ok (.aload_n 0, 1) := by decide +kernel
theorem dX4_init_38 : decode cX4_init 38 = .ok (.new 30, 3) := by decide +kernel
theorem dX4_init_41 : decode cX4_init 41 = .ok (.dup, 1) := by decide +kernel
theorem dX4_init_42 : decode cX4_init 42 = .ok (.invokespecial 32, 3) := by decide +kernel
theorem dX4_init_45 : decode cX4_init 45 = .ok (.putfield 33, 3) := by decide +kernel
theorem dX4_init_48 : decode cX4_init 48 = .ok (.aload_n 0, 1) := by decide +kernel
theorem dX4_init_49 : decode cX4_init 49 = .ok (.new 37, 3) := by decide +kernel
theorem dX4_init_52 : decode cX4_init 52 = .ok (.dup, 1) := by decide +kernel
theorem dX4_init_53 : decode cX4_init 53 = .ok (.invokespecial 39, 3) := by decide +kernel
theorem dX4_init_56 : decode cX4_init 56 = .ok (.putfield 40, 3) := by decide +kernel
theorem dX4_init_59 : decode cX4_init 59 = .ok (.aload_n 0, 1) := by decide +kernel
theorem dX4_init_60 : decode cX4_init 60 = .ok (.new 44, 3) := by decide +kernel
theorem dX4_init_63 : decode cX4_init 63 = .ok (.dup, 1) := by decide +kernel
theorem dX4_init_64 : decode cX4_init 64 = .ok (.invokespecial 46, 3) := by decide +kernel
theorem dX4_init_67 : decode cX4_init 67 = .ok (.putfield 47, 3) := by decide +kernel
theorem dX4_init_70 : decode cX4_init 70 = .ok (.aload_n 0, 1) := by decide +kernel
theorem dX4_init_71 : decode cX4_init 71 = .ok (.iconst (-1), 1) := by decide +kernel
theorem dX4_init_72 : decode cX4_init 72 = .ok (.putfield 51, 3) := by decide +kernel
theorem dX4_init_75 : decode cX4_init 75 = .ok (.return_, 1) := by decide +kernel
theorem dX4_tellWord_0 : decode cX4_tellWord 0 = .ok (.aload_n 0, 1) := by decide +kernel
theorem dX4_tellWord_1 : decode cX4_tellWord 1 = .ok (.getfield 55, 3) := by decide +kernel
theorem dX4_tellWord_4 : decode cX4_tellWord 4 = .ok (.sipush 400, 3) := by decide +kernel
theorem dX4_tellWord_7 : decode cX4_tellWord 7 = .ok (.if_icmp .lt 5, 3) := by decide +kernel
theorem dX4_tellWord_10 : decode cX4_tellWord 10 = .ok (.iconst (-1), 1) := by decide +kernel
theorem dX4_tellWord_11 : decode cX4_tellWord 11 = .ok (.ireturn, 1) := by decide +kernel
theorem dX4_tellWord_12 : decode cX4_tellWord 12 = .ok (.aload_n 0, 1) := by decide +kernel
theorem dX4_tellWord_13 : decode cX4_tellWord 13 = .ok (.getfield 22, 3) := by decide +kernel
theorem dX4_tellWord_16 : decode cX4_tellWord 16 = .ok (.iconst (-1), 1) := by decide +kernel
theorem dX4_tellWord_17 : decode cX4_tellWord 17 = .ok (.aload_n 0, 1) := by decide +kernel
theorem dX4_tellWord_18 : decode cX4_tellWord 18 = .ok (.getfield 58, 3) := by decide +kernel
theorem dX4_tellWord_21 : decode cX4_tellWord 21 = .ok (.iconst 0, 1) := by decide +kernel
theorem dX4_tellWord_22 : decode cX4_tellWord 22 = .ok (.iconst 0, 1) := by decide +kernel
theorem dX4_tellWord_23 : decode cX4_tellWord 23 = .ok (.invokevirtual 61, 3) := by decide +kernel
theorem dX4_tellWord_26 : decode cX4_tellWord 26 = .ok (.aload_n 0, 1) := by decide +kernel
theorem dX4_tellWord_27 : decode cX4_tellWord 27 = .ok (.getfield 22, 3) := by decide +kernel
theorem dX4_tellWord_30 : decode cX4_tellWord 30 = .ok (.iload_n 1, 1) := by decide +kernel
theorem dX4_tellWord_31 : decode cX4_tellWord 31 = .ok (.iload_n 2, 1) := by decide +kernel
theorem dX4_tellWord_32 : decode cX4_tellWord 32 = .ok (.invokevirtual 67, 3) := by decide +kernel
theorem dX4_tellWord_35 : decode cX4_tellWord 35 = .ok (.aload_n 0, 1) := by decide +kernel
theorem dX4_tellWord_36 : decode cX4_tellWord 36 = .ok (.dup, 1) := by decide +kernel
theorem dX4_tellWord_37 : decode cX4_tellWord 37 = .ok (.getfield 55, 3) := by decide +kernel
theorem dX4_tellWord_40 : decode cX4_tellWord 40 = .ok (.iconst 1, 1) := by decide +kernel
theorem dX4_tellWord_41 : decode cX4_tellWord 41 = .ok (.iadd, 1) := by decide +kernel
theorem dX4_tellWord_42 : decode cX4_tellWord 42 = .ok (.putfield 55, 3) := by decide +kernel
theorem dX4_tellWord_45 : decode cX4_tellWord 45 = .ok (.aload_n 0, 1) := by decide +kernel
theorem dX4_tellWord_46 : decode cX4_tellWord 46 = .ok (.getfield 55, 3) := by decide +kernel
theorem dX4_tellWord_49 : decode cX4_tellWord 49 = .ok (.ireturn, 1) := by decide +kernel
theorem dX4_breakDown_0 : decode cX4_breakDown 0 = .ok (.aload_n 0, 1) := by decide +kernel
theorem dX4_breakDown_1 : decode cX4_breakDown 1 = .ok (.dup, 1) := by decide +kernel
theorem dX4_breakDown_2 : decode cX4_breakDown 2 = .ok (.getfield 71, 3) := by decide +kernel
theorem dX4_breakDown_5 : decode cX4_breakDown 5 = .ok (.iload_n 1, 1) := by decide +kernel
theorem dX4_breakDown_6 : decode cX4_breakDown 6 = .ok (.iadd, 1) := by decide +kernel
theorem dX4_breakDown_7 : decode cX4_breakDown 7 = .ok (.putfield 71, 3) := by decide +kernel
theorem dX4_breakDown_10 : decode cX4_breakDown 10 = .ok (.aload_n 0, 1) := by decide +kernel
theorem dX4_breakDown_11 : decode cX4_breakDown 11 = .ok (.getfield 51, 3) := by decide +kernel
theorem dX4_breakDown_14 : decode cX4_breakDown 14 = .ok (.iconst (-1), 1) := by decide +kernel
theorem dX4_breakDown_15 : decode cX4_breakDown 15 = .ok (.if_icmp .eq 17, 3) := by decide +kernel
theorem dX4_breakDown_18 : decode cX4_breakDown 18 = .ok (.aload_n 0, 1) := by decide +kernel
theorem dX4_breakDown_19 : decode cX4_breakDown 19 = .ok (.getfield 26, 3) := by decide +kernel
theorem dX4_breakDown_22 : decode cX4_breakDown 22 = .ok (.aload_n 0, 1) := by decide +kernel
theorem dX4_breakDown_23 : decode cX4_breakDown 23 = .ok (.getfield 51, 3) := by decide +kernel
theorem dX4_breakDown_26 : decode cX4_breakDown 26 = .ok (.invokevirtual 74, 3) := by decide +kernel
theorem dX4_breakDown_29 : decode cX4_breakDown 29 = .ok (.invokevirtual 78, 3) := by decide +kernel
theorem dX4_breakDown_32 : decode cX4_breakDown 32 = .ok (.return_, 1) := by decide +kernel
theorem dX4_oneMinute_0 : decode cX4_oneMinute 0 = .ok (.aload_n 0, 1) := by decide +kernel
theorem dX4_oneMinute_1 : decode cX4_oneMinute 1 = .ok (.dup, 1) := by decide +kernel
theorem dX4_oneMinute_2 : decode cX4_oneMinute 2 = .ok (.getfield 58, 3) := by decide +kernel
theorem dX4_oneMinute_5 : decode cX4_oneMinute 5 = .ok (.iconst 1, 1) := by decide +kernel
theorem dX4_oneMinute_6 : decode cX4_oneMinute 6 = .ok (.iadd, 1) := by decide +kernel
theorem dX4_oneMinute_7 : decode cX4_oneMinute 7 = .ok (.putfield 58, 3) := by decide +kernel
theorem dX4_oneMinute_10 : decode cX4_oneMinute 10 = .ok (.iconst (-1), 1) := by decide +kernel
theorem dX4_oneMinute_11 : decode cX4_oneMinute 11 = .ok (.istore_n 1, 1) := by decide +kernel
theorem dX4_oneMinute_12 : decode cX4_oneMinute 12 = .ok (.aload_n 0, 1) := by decide +kernel
theorem dX4_oneMinute_13 : decode cX4_oneMinute 13 = .ok (.getfield 71, 3) := by decide +kernel
theorem dX4_oneMinute_16 : decode cX4_oneMinute 16 = .ok (.ifCond .le 16, 3) := by decide +kernel
theorem dX4_oneMinute_19 : decode cX4_oneMinute 19 = .ok (.aload_n 0, 1) := by decide +kernel
theorem dX4_oneMinute_20 : decode cX4_oneMinute 20 = .ok (.dup, 1) := by decide +kernel
theorem dX4_oneMinute_21 : decode cX4_oneMinute 21 = .ok (.getfield 71, 3) := by decide +kernel
theorem dX4_oneMinute_24 : decode cX4_oneMinute 24 = .ok (.iconst 1, 1) := by decide +kernel
theorem dX4_oneMinute_25 : decode cX4_oneMinute 25 = .ok (.isub, 1) := by decide +kernel
theorem dX4_oneMinute_26 : decode cX4_oneMinute 26 = .ok (.putfield 71, 3) := by decide +kernel
theorem dX4_oneMinute_29 : decode cX4_oneMinute 29 = .ok (.goto 8, 3) := by decide +kernel
theorem dX4_oneMinute_32 : decode cX4_oneMinute 32 = .ok (.aload_n 0, 1) := by decide +kernel
theorem dX4_oneMinute_33 : decode cX4_oneMinute 33 = .ok (.invokevirtual 83, 3) := by decide +kernel
theorem dX4_oneMinute_36 : decode cX4_oneMinute 36 = .ok (.istore_n 1, 1) := by decide +kernel
theorem dX4_oneMinute_37 : decode cX4_oneMinute 37 = .ok (.iload_n 1, 1) := by decide +kernel
theorem dX4_oneMinute_38 : decode cX4_oneMinute 38 = .ok (.iconst (-1), 1) := by decide +kernel
theorem dX4_oneMinute_39 : decode cX4_oneMinute 39 = .ok (.if_icmp .eq 9, 3) := by decide +kernel
theorem dX4_oneMinute_42 : decode cX4_oneMinute 42 = .ok (.aload_n 0, 1) := by decide +kernel
theorem dX4_oneMinute_43 : decode cX4_oneMinute 43 = .ok (.iload_n 1, 1) := by decide +kernel
theorem dX4_oneMinute_44 : decode cX4_oneMinute 44 = .ok (.iconst 1, 1) := by decide +kernel
theorem dX4_oneMinute_45 : decode cX4_oneMinute 45 = .ok (.invokevirtual 87, 3) := by decide +kernel
theorem dX4_oneMinute_48 : decode cX4_oneMinute 48 = .ok (.aload_n 0, 1) := by decide +kernel
theorem dX4_oneMinute_49 : decode cX4_oneMinute 49 = .ok (.invokevirtual 91, 3) := by decide +kernel
theorem dX4_oneMinute_52 : decode cX4_oneMinute 52 = .ok (.istore_n 2, 1) := by decide +kernel
theorem dX4_oneMinute_53 : decode cX4_oneMinute 53 = .ok (.iload_n 2, 1) := by decide +kernel
theorem dX4_oneMinute_54 : decode cX4_oneMinute 54 = .ok (.iconst (-1), 1) := by decide +kernel
theorem dX4_oneMinute_55 : decode cX4_oneMinute 55 = .ok (.if_icmp .eq 9, 3) := by decide +kernel
theorem dX4_oneMinute_58 : decode cX4_oneMinute 58 = .ok (.aload_n 0, 1) := by decide +kernel
theorem dX4_oneMinute_59 : decode cX4_oneMinute 59 = .ok (.iload_n 2, 1) := by decide +kernel
theorem dX4_oneMinute_60 : decode cX4_oneMinute 60 = .ok (.iconst 0, 1) := by decide +kernel
theorem dX4_oneMinute_61 : decode cX4_oneMinute 61 = .ok (.invokevirtual 87, 3) := by decide +kernel
theorem dX4_oneMinute_64 : decode cX4_oneMinute 64 = .ok (.return_, 1) := by decide +kernel
theorem dX4_runMachine_0 : decode cX4_runMachine 0 = .ok (.aload_n 0, 1) := by decide +kernel
theorem dX4_runMachine_1 : decode cX4_runMachine 1 = .ok (.getfield 51, 3) := by decide +kernel
theorem dX4_runMachine_4 : decode cX4_runMachine 4 = .ok (.iconst (-1), 1) := by decide +kernel
theorem dX4_runMachine_5 : decode cX4_runMachine 5 = .ok (.if_icmp .ne 38, 3) := by decide +kernel
theorem dX4_runMachine_8 : decode cX4_runMachine 8 = .ok (.aload_n 0, 1) := by decide +kernel
theorem dX4_runMachine_9 : decode cX4_runMachine 9 = .ok (.aload_n 0, 1) := by decide +kernel
theorem dX4_runMachine_10 : decode cX4_runMachine 10 = .ok (.getfield 26, 3) := by decide +kernel
theorem dX4_runMachine_13 : decode cX4_runMachine 13 = .ok (.invokevirtual 94, 3) := by decide +kernel
theorem dX4_runMachine_16 : decode cX4_runMachine 16 = .ok (.putfield 51, 3) := by decide +kernel
theorem dX4_runMachine_19 : decode cX4_runMachine 19 = .ok (.aload_n 0, 1) := by decide +kernel
theorem dX4_runMachine_20 : decode cX4_runMachine 20 = .ok (.getfield 51, 3) := by decide +kernel
theorem dX4_runMachine_23 : decode cX4_runMachine 23 = .ok (.iconst (-1), 1) := by decide +kernel
theorem dX4_runMachine_24 : decode cX4_runMachine 24 = .ok (.if_icmp .ne 5, 3) := by decide +kernel
theorem dX4_runMachine_27 : decode cX4_runMachine 27 = .ok (.iconst (-1), 1) := by decide +kernel
theorem dX4_runMachine_28 : decode cX4_runMachine 28 = .ok (.ireturn, 1) := by decide +kernel
theorem dX4_runMachine_29 : decode cX4_runMachine 29 = .ok (.aload_n 0, 1) := by decide +kernel
theorem dX4_runMachine_30 : decode cX4_runMachine 30 = .ok (.getfield 26, 3) := by decide +kernel
theorem dX4_runMachine_33 : decode cX4_runMachine 33 = .ok (.aload_n 0, 1) := by decide +kernel
theorem dX4_runMachine_34 : decode cX4_runMachine 34 = .ok (.getfield 51, 3) := by decide +kernel
theorem dX4_runMachine_37 : decode cX4_runMachine 37 = .ok (.invokevirtual 74, 3) := by decide +kernel
theorem dX4_runMachine_40 : decode cX4_runMachine 40 = .ok (.invokevirtual 97, 3) := by decide +kernel
theorem dX4_runMachine_43 : decode cX4_runMachine 43 = .ok (.aload_n 0, 1) := by decide +kernel
theorem dX4_runMachine_44 : decode cX4_runMachine 44 = .ok (.getfield 26, 3) := by decide +kernel
theorem dX4_runMachine_47 : decode cX4_runMachine 47 = .ok (.aload_n 0, 1) := by decide +kernel
theorem dX4_runMachine_48 : decode cX4_runMachine 48 = .ok (.getfield 51, 3) := by decide +kernel
theorem dX4_runMachine_51 : decode cX4_runMachine 51 = .ok (.invokevirtual 74, 3) := by decide +kernel
theorem dX4_runMachine_54 : decode cX4_runMachine 54 = .ok (.astore_n 1, 1) := by decide +kernel
theorem dX4_runMachine_55 : decode cX4_runMachine 55 = .ok (.aload_n 1, 1) := by decide +kernel
theorem dX4_runMachine_56 : decode cX4_runMachine 56 = .ok (.dup, 1) := by decide +kernel
theorem dX4_runMachine_57 : decode cX4_runMachine 57 = .ok (.getfield 100, 3) := by decide +kernel
theorem dX4_runMachine_60 : decode cX4_runMachine 60 = .ok (.iconst 1, 1) := by decide +kernel
theorem dX4_runMachine_61 : decode cX4_runMachine 61 = .ok (.isub, 1) := by decide +kernel
theorem dX4_runMachine_62 : decode cX4_runMachine 62 = .ok (.putfield 100, 3) := by decide +kernel
theorem dX4_runMachine_65 : decode cX4_runMachine 65 = .ok (.aload_n 1, 1) := by decide +kernel
theorem dX4_runMachine_66 : decode cX4_runMachine 66 = .ok (.getfield 100, 3) := by decide +kernel
theorem dX4_runMachine_69 : decode cX4_runMachine 69 = .ok (.ifCond .le 5, 3) := by decide +kernel
theorem dX4_runMachine_72 : decode cX4_runMachine 72 = .ok (.iconst (-1), 1) := by decide +kernel
theorem dX4_runMachine_73 : decode cX4_runMachine 73 = .ok (.ireturn, 1) := by decide +kernel
theorem dX4_runMachine_74 : decode cX4_runMachine 74 = .ok (.aload_n 0, 1) := by decide +kernel
theorem dX4_runMachine_75 : decode cX4_runMachine 75 = .ok (.getfield 51, 3) := by decide +kernel
theorem dX4_runMachine_78 : decode cX4_runMachine 78 = .ok (.istore_n 2, 1) := by decide +kernel
theorem dX4_runMachine_79 : decode cX4_runMachine 79 = .ok (.aload_n 0, 1) := by decide +kernel
theorem dX4_runMachine_80 : decode cX4_runMachine 80 = .ok (.iconst (-1), 1) := by decide +kernel
theorem dX4_runMachine_81 : decode cX4_runMachine 81 = .ok (.putfield 51, 3) := by decide +kernel
theorem dX4_runMachine_84 : decode cX4_runMachine 84 = .ok (.iload_n 2, 1) := by decide +kernel
theorem dX4_runMachine_85 : decode cX4_runMachine 85 = .ok (.ireturn, 1) := by decide +kernel
theorem dX4_runClerks_0 : decode cX4_runClerks 0 = .ok (.aload_n 0, 1) := by decide +kernel
theorem dX4_runClerks_1 : decode cX4_runClerks 1 = .ok (.getfield 26, 3) := by decide +kernel
theorem dX4_runClerks_4 : decode cX4_runClerks 4 = .ok (.invokevirtual 103, 3) := by decide +kernel
theorem dX4_runClerks_7 : decode cX4_runClerks 7 = .ok (.istore_n 1, 1) := by decide +kernel
theorem dX4_runClerks_8 : decode cX4_runClerks 8 = .ok (.iload_n 1, 1) := by decide +kernel
theorem dX4_runClerks_9 : decode cX4_runClerks 9 = .ok (.iconst (-1), 1) := by decide +kernel
theorem dX4_runClerks_10 : decode cX4_runClerks 10 = .ok (.if_icmp .ne 5, 3) := by decide +kernel
theorem dX4_runClerks_13 : decode cX4_runClerks 13 = .ok (.iconst (-1), 1) := by decide +kernel
theorem dX4_runClerks_14 : decode cX4_runClerks 14 = .ok (.ireturn, 1) := by decide +kernel
theorem dX4_runClerks_15 : decode cX4_runClerks 15 = .ok (.aload_n 0, 1) := by decide +kernel
theorem dX4_runClerks_16 : decode cX4_runClerks 16 = .ok (.getfield 26, 3) := by decide +kernel
theorem dX4_runClerks_19 : decode cX4_runClerks 19 = .ok (.iload_n 1, 1) := by decide +kernel
theorem dX4_runClerks_20 : decode cX4_runClerks 20 = .ok (.invokevirtual 74, 3) := by decide +kernel
theorem dX4_runClerks_23 : decode cX4_runClerks 23 = .ok (.astore_n 2, 1) := by decide +kernel
theorem dX4_runClerks_24 : decode cX4_runClerks 24 = .ok (.aload_n 2, 1) := by decide +kernel
theorem dX4_runClerks_25 : decode cX4_runClerks 25 = .ok (.dup, 1) := by decide +kernel
theorem dX4_runClerks_26 : decode cX4_runClerks 26 = .ok (.getfield 106, 3) := by decide +kernel
theorem dX4_runClerks_29 : decode cX4_runClerks 29 = .ok (.iconst 1, 1) := by decide +kernel
theorem dX4_runClerks_30 : decode cX4_runClerks 30 = .ok (.iadd, 1) := by decide +kernel
theorem dX4_runClerks_31 : decode cX4_runClerks 31 = .ok (.putfield 106, 3) := by decide +kernel
theorem dX4_runClerks_34 : decode cX4_runClerks 34 = .ok (.aload_n 2, 1) := by decide +kernel
theorem dX4_runClerks_35 : decode cX4_runClerks 35 = .ok (.getfield 106, 3) := by decide +kernel
theorem dX4_runClerks_38 : decode cX4_runClerks 38 = .ok (.aload_n 2, 1) := by decide +kernel
theorem dX4_runClerks_39 : decode cX4_runClerks 39 = .ok (.getfield 109, 3) := by decide +kernel
theorem dX4_runClerks_42 : decode cX4_runClerks 42 = .ok (.if_icmp .lt 7, 3) := by decide +kernel
theorem dX4_runClerks_45 : decode cX4_runClerks 45 = .ok (.iload_n 1, 1) := by decide +kernel
theorem dX4_runClerks_46 : decode cX4_runClerks 46 = .ok (.goto 4, 3) := by decide +kernel
theorem dX4_runClerks_49 : decode cX4_runClerks 49 = .ok (.iconst (-1), 1) := by decide +kernel
theorem dX4_runClerks_50 : decode cX4_runClerks 50 = .ok (.ireturn, 1) := by decide +kernel
theorem dX4_finish_0 : decode cX4_finish 0 = .ok (.aload_n 0, 1) := by decide +kernel
theorem dX4_finish_1 : decode cX4_finish 1 = .ok (.getfield 26, 3) := by decide +kernel
theorem dX4_finish_4 : decode cX4_finish 4 = .ok (.iload_n 1, 1) := by decide +kernel
theorem dX4_finish_5 : decode cX4_finish 5 = .ok (.invokevirtual 74, 3) := by decide +kernel
theorem dX4_finish_8 : decode cX4_finish 8 = .ok (.astore_n 3, 1) := by decide +kernel
theorem dX4_finish_9 : decode cX4_finish 9 = .ok (.iload_n 2, 1) := by decide +kernel
theorem dX4_finish_10 : decode cX4_finish 10 = .ok (.ifCond .eq 15, 3) := by decide +kernel
theorem dX4_finish_13 : decode cX4_finish 13 = .ok (.aload_n 3, 1) := by decide +kernel
theorem dX4_finish_14 : decode cX4_finish 14 = .ok (.getfield 112, 3) := by decide +kernel
theorem dX4_finish_17 : decode cX4_finish 17 = .ok (.iconst 1, 1) := by decide +kernel
theorem dX4_finish_18 : decode cX4_finish 18 = .ok (.if_icmp .ne 7, 3) := by decide +kernel
theorem dX4_finish_21 : decode cX4_finish 21 = .ok (.iconst 1, 1) := by decide +kernel
theorem dX4_finish_22 : decode cX4_finish 22 = .ok (.goto 4, 3) := by decide +kernel
theorem dX4_finish_25 : decode cX4_finish 25 = .ok (.iconst 0, 1) := by decide +kernel
theorem dX4_finish_26 : decode cX4_finish 26 = .ok (.istore 4, 2) := by decide +kernel
theorem dX4_finish_28 : decode cX4_finish 28 = .ok (.aload_n 0, 1) := by decide +kernel
theorem dX4_finish_29 : decode cX4_finish 29 = .ok (.getfield 22, 3) := by decide +kernel
theorem dX4_finish_32 : decode cX4_finish 32 = .ok (.iload_n 1, 1) := by decide +kernel
theorem dX4_finish_33 : decode cX4_finish 33 = .ok (.aload_n 0, 1) := by decide +kernel
theorem dX4_finish_34 : decode cX4_finish 34 = .ok (.getfield 58, 3) := by decide +kernel
theorem dX4_finish_37 : decode cX4_finish 37 = .ok (.iload_n 2, 1) := by decide +kernel
theorem dX4_finish_38 : decode cX4_finish 38 = .ok (.iload 4, 2) := by decide +kernel
theorem dX4_finish_40 : decode cX4_finish 40 = .ok (.ifCond .ne 7, 3) := by decide +kernel
theorem dX4_finish_43 : decode cX4_finish 43 = .ok (.iconst 1, 1) := by decide +kernel
theorem dX4_finish_44 : decode cX4_finish 44 = .ok (.goto 4, 3) := by decide +kernel
theorem dX4_finish_47 : decode cX4_finish 47 = .ok (.iconst 0, 1) := by decide +kernel
theorem dX4_finish_48 : decode cX4_finish 48 = .ok (.invokevirtual 61, 3) := by decide +kernel
theorem dX4_finish_51 : decode cX4_finish 51 = .ok (.iload 4, 2) := by decide +kernel
theorem dX4_finish_53 : decode cX4_finish 53 = .ok (.ifCond .eq 21, 3) := by decide +kernel
theorem dX4_finish_56 : decode cX4_finish 56 = .ok (.aload_n 0, 1) := by decide +kernel
theorem dX4_finish_57 : decode cX4_finish 57 = .ok (.getfield 12, 3) := by decide +kernel
theorem dX4_finish_60 : decode cX4_finish 60 = .ok (.aload_n 3, 1) := by decide +kernel
theorem dX4_finish_61 : decode cX4_finish 61 = .ok (.invokevirtual 115, 3) := by decide +kernel
theorem dX4_finish_64 : decode cX4_finish 64 = .ok (.aload_n 3, 1) := by decide +kernel
theorem dX4_finish_65 : decode cX4_finish 65 = .ok (.getfield 119, 3) := by decide +kernel
theorem dX4_finish_68 : decode cX4_finish 68 = .ok (.invokevirtual 122, 3) := by decide +kernel
theorem dX4_finish_71 : decode cX4_finish 71 = .ok (.goto 22, 3) := by decide +kernel
theorem dX4_finish_74 : decode cX4_finish 74 = .ok (.aload_n 0, 1) := by decide +kernel
theorem dX4_finish_75 : decode cX4_finish 75 = .ok (.getfield 12, 3) := by decide +kernel
theorem dX4_finish_78 : decode cX4_finish 78 = .ok (.aload_n 3, 1) := by decide +kernel
theorem dX4_finish_79 : decode cX4_finish 79 = .ok (.getfield 126, 3) := by decide +kernel
theorem dX4_finish_82 : decode cX4_finish 82 = .ok (.aload_n 0, 1) := by decide +kernel
theorem dX4_finish_83 : decode cX4_finish 83 = .ok (.getfield 130, 3) := by decide +kernel
theorem dX4_finish_86 : decode cX4_finish 86 = .ok (.aload_n 0, 1) := by decide +kernel
theorem dX4_finish_87 : decode cX4_finish 87 = .ok (.getfield 133, 3) := by decide +kernel
theorem dX4_finish_90 : decode cX4_finish 90 = .ok (.invokevirtual 136, 3) := by decide +kernel
theorem dX4_finish_93 : decode cX4_finish 93 = .ok (.istore 5, 2) := by decide +kernel
theorem dX4_finish_95 : decode cX4_finish 95 = .ok (.iload 4, 2) := by decide +kernel
theorem dX4_finish_97 : decode cX4_finish 97 = .ok (.ifCond .ne 19, 3) := by decide +kernel
theorem dX4_finish_100 : decode cX4_finish 100 = .ok (.aload_n 3, 1) := by decide +kernel
theorem dX4_finish_101 : decode cX4_finish 101 = .ok (.dup, 1) := by decide +kernel
theorem dX4_finish_102 : decode cX4_finish 102 = .ok (.getfield 140, 3) := by decide +kernel
theorem dX4_finish_105 : decode cX4_finish 105 = .ok (.aload_n 0, 1) := by decide +kernel
theorem dX4_finish_106 : decode cX4_finish 106 = .ok (.getfield 12, 3) := by decide +kernel
theorem dX4_finish_109 : decode cX4_finish 109 = .ok (.getfield 143, 3) := by decide +kernel
theorem dX4_finish_112 : decode cX4_finish 112 = .ok (.iadd, 1) := by decide +kernel
theorem dX4_finish_113 : decode cX4_finish 113 = .ok (.putfield 140, 3) := by decide +kernel
theorem dX4_finish_116 : decode cX4_finish 116 = .ok (.iload_n 2, 1) := by decide +kernel
theorem dX4_finish_117 : decode cX4_finish 117 = .ok (.ifCond .ne 7, 3) := by decide +kernel
theorem dX4_finish_120 : decode cX4_finish 120 = .ok (.iconst 4, 1) := by decide +kernel
theorem dX4_finish_121 : decode cX4_finish 121 = .ok (.goto 13, 3) := by decide +kernel
theorem dX4_finish_124 : decode cX4_finish 124 = .ok (.iload 4, 2) := by decide +kernel
theorem dX4_finish_126 : decode cX4_finish 126 = .ok (.ifCond .eq 7, 3) := by decide +kernel
theorem dX4_finish_129 : decode cX4_finish 129 = .ok (.iconst 3, 1) := by decide +kernel
theorem dX4_finish_130 : decode cX4_finish 130 = .ok (.goto 4, 3) := by decide +kernel
theorem dX4_finish_133 : decode cX4_finish 133 = .ok (.iconst 2, 1) := by decide +kernel
theorem dX4_finish_134 : decode cX4_finish 134 = .ok (.istore 6, 2) := by decide +kernel
theorem dX4_finish_136 : decode cX4_finish 136 = .ok (.aload_n 3, 1) := by decide +kernel
theorem dX4_finish_137 : decode cX4_finish 137 = .ok (.iload 5, 2) := by decide +kernel
theorem dX4_finish_139 : decode cX4_finish 139 = .ok (.ifCond .eq 8, 3) := by decide +kernel
theorem dX4_finish_142 : decode cX4_finish 142 = .ok (.iload 6, 2) := by decide +kernel
theorem dX4_finish_144 : decode cX4_finish 144 = .ok (.goto 5, 3) := by decide +kernel
theorem dX4_finish_147 : decode cX4_finish 147 = .ok (.bipush 6, 2) := by decide +kernel
theorem dX4_finish_149 : decode cX4_finish 149 = .ok (.aload_n 0, 1) := by decide +kernel
theorem dX4_finish_150 : decode cX4_finish 150 = .ok (.getfield 58, 3) := by decide +kernel
theorem dX4_finish_153 : decode cX4_finish 153 = .ok (.invokevirtual 144, 3) := by decide +kernel
theorem dX4_finish_156 : decode cX4_finish 156 = .ok (.return_, 1) := by decide +kernel
theorem dX4_copyFrom_0 : decode cX4_copyFrom 0 = .ok (.aload_n 0, 1) := by decide +kernel
theorem dX4_copyFrom_1 : decode cX4_copyFrom 1 = .ok (.getfield 22, 3) := by decide +kernel
theorem dX4_copyFrom_4 : decode cX4_copyFrom 4 = .ok (.aload_n 1, 1) := by decide +kernel
theorem dX4_copyFrom_5 : decode cX4_copyFrom 5 = .ok (.getfield 22, 3) := by decide +kernel
theorem dX4_copyFrom_8 : decode cX4_copyFrom 8 = .ok (.invokevirtual 147, 3) := by decide +kernel
theorem dX4_copyFrom_11 : decode cX4_copyFrom 11 = .ok (.aload_n 0, 1) := by decide +kernel
theorem dX4_copyFrom_12 : decode cX4_copyFrom 12 = .ok (.getfield 26, 3) := by decide +kernel
theorem dX4_copyFrom_15 : decode cX4_copyFrom 15 = .ok (.aload_n 1, 1) := by decide +kernel
theorem dX4_copyFrom_16 : decode cX4_copyFrom 16 = .ok (.getfield 26, 3) := by decide +kernel
theorem dX4_copyFrom_19 : decode cX4_copyFrom 19 = .ok (.invokevirtual 151, 3) := by decide +kernel
theorem dX4_copyFrom_22 : decode cX4_copyFrom 22 = .ok (.aload_n 0, 1) := by decide +kernel
theorem dX4_copyFrom_23 : decode cX4_copyFrom 23 = .ok (.getfield 33, 3) := by decide +kernel
theorem dX4_copyFrom_26 : decode cX4_copyFrom 26 = .ok (.aload_n 1, 1) := by decide +kernel
theorem dX4_copyFrom_27 : decode cX4_copyFrom 27 = .ok (.getfield 33, 3) := by decide +kernel
theorem dX4_copyFrom_30 : decode cX4_copyFrom 30 = .ok (.invokevirtual 154, 3) := by decide +kernel
theorem dX4_copyFrom_33 : decode cX4_copyFrom 33 = .ok (.aload_n 0, 1) := by decide +kernel
theorem dX4_copyFrom_34 : decode cX4_copyFrom 34 = .ok (.getfield 40, 3) := by decide +kernel
theorem dX4_copyFrom_37 : decode cX4_copyFrom 37 = .ok (.aload_n 1, 1) := by decide +kernel
theorem dX4_copyFrom_38 : decode cX4_copyFrom 38 = .ok (.getfield 40, 3) := by decide +kernel
theorem dX4_copyFrom_41 : decode cX4_copyFrom 41 = .ok (.invokevirtual 157, 3) := by decide +kernel
theorem dX4_copyFrom_44 : decode cX4_copyFrom 44 = .ok (.aload_n 0, 1) := by decide +kernel
theorem dX4_copyFrom_45 : decode cX4_copyFrom 45 = .ok (.getfield 47, 3) := by decide +kernel
theorem dX4_copyFrom_48 : decode cX4_copyFrom 48 = .ok (.aload_n 1, 1) := by decide +kernel
theorem dX4_copyFrom_49 : decode cX4_copyFrom 49 = .ok (.getfield 47, 3) := by decide +kernel
theorem dX4_copyFrom_52 : decode cX4_copyFrom 52 = .ok (.invokevirtual 160, 3) := by decide +kernel
theorem dX4_copyFrom_55 : decode cX4_copyFrom 55 = .ok (.aload_n 0, 1) := by decide +kernel
theorem dX4_copyFrom_56 : decode cX4_copyFrom 56 = .ok (.aload_n 1, 1) := by decide +kernel
theorem dX4_copyFrom_57 : decode cX4_copyFrom 57 = .ok (.getfield 58, 3) := by decide +kernel
theorem dX4_copyFrom_60 : decode cX4_copyFrom 60 = .ok (.putfield 58, 3) := by decide +kernel
theorem dX4_copyFrom_63 : decode cX4_copyFrom 63 = .ok (.aload_n 0, 1) := by decide +kernel
theorem dX4_copyFrom_64 : decode cX4_copyFrom 64 = .ok (.aload_n 1, 1) := by decide +kernel
theorem dX4_copyFrom_65 : decode cX4_copyFrom 65 = .ok (.getfield 130, 3) := by decide +kernel
theorem dX4_copyFrom_68 : decode cX4_copyFrom 68 = .ok (.putfield 130, 3) := by decide +kernel
theorem dX4_copyFrom_71 : decode cX4_copyFrom 71 = .ok (.aload_n 0, 1) := by decide +kernel
theorem dX4_copyFrom_72 : decode cX4_copyFrom 72 = .ok (.aload_n 1, 1) := by decide +kernel
theorem dX4_copyFrom_73 : decode cX4_copyFrom 73 = .ok (.getfield 133, 3) := by decide +kernel
theorem dX4_copyFrom_76 : decode cX4_copyFrom 76 = .ok (.putfield 133, 3) := by decide +kernel
theorem dX4_copyFrom_79 : decode cX4_copyFrom 79 = .ok (.aload_n 0, 1) := by decide +kernel
theorem dX4_copyFrom_80 : decode cX4_copyFrom 80 = .ok (.aload_n 1, 1) := by decide +kernel
theorem dX4_copyFrom_81 : decode cX4_copyFrom 81 = .ok (.getfield 71, 3) := by decide +kernel
theorem dX4_copyFrom_84 : decode cX4_copyFrom 84 = .ok (.putfield 71, 3) := by decide +kernel
theorem dX4_copyFrom_87 : decode cX4_copyFrom 87 = .ok (.aload_n 0, 1) := by decide +kernel
theorem dX4_copyFrom_88 : decode cX4_copyFrom 88 = .ok (.aload_n 1, 1) := by decide +kernel
theorem dX4_copyFrom_89 : decode cX4_copyFrom 89 = .ok (.getfield 51, 3) := by decide +kernel
theorem dX4_copyFrom_92 : decode cX4_copyFrom 92 = .ok (.putfield 51, 3) := by decide +kernel
theorem dX4_copyFrom_95 : decode cX4_copyFrom 95 = .ok (.aload_n 0, 1) := by decide +kernel
theorem dX4_copyFrom_96 : decode cX4_copyFrom 96 = .ok (.aload_n 1, 1) := by decide +kernel
theorem dX4_copyFrom_97 : decode cX4_copyFrom 97 = .ok (.getfield 55, 3) := by decide +kernel
theorem dX4_copyFrom_100 : decode cX4_copyFrom 100 = .ok (.putfield 55, 3) := by decide +kernel
theorem dX4_copyFrom_103 : decode cX4_copyFrom 103 = .ok (.return_, 1) := by decide +kernel
theorem dX5_init_0 : decode cX5_init 0 = .ok (.aload_n 0, 1) := by decide +kernel
theorem dX5_init_1 : decode cX5_init 1 = .ok (.invokespecial 3, 3) := by decide +kernel
theorem dX5_init_4 : decode cX5_init 4 = .ok (.aload_n 0, 1) := by decide +kernel
theorem dX5_init_5 : decode cX5_init 5 = .ok (.bipush 20, 2) := by decide +kernel
theorem dX5_init_7 : decode cX5_init 7 = .ok (.newarray .int, 2) := by decide +kernel
theorem dX5_init_9 : decode cX5_init 9 = .ok (.putfield 9, 3) := by decide +kernel
theorem dX5_init_12 : decode cX5_init 12 = .ok (.aload_n 0, 1) := by decide +kernel
theorem dX5_init_13 : decode cX5_init 13 = .ok (.bipush 20, 2) := by decide +kernel
theorem dX5_init_15 : decode cX5_init 15 = .ok (.newarray .int, 2) := by decide +kernel
theorem dX5_init_17 : decode cX5_init 17 = .ok (.putfield 15, 3) := by decide +kernel
theorem dX5_init_20 : decode cX5_init 20 = .ok (.aload_n 0, 1) := by decide +kernel
theorem dX5_init_21 : decode cX5_init 21 = .ok (.bipush 20, 2) := by decide +kernel
theorem dX5_init_23 : decode cX5_init 23 = .ok (.newarray .int, 2) := by decide +kernel
theorem dX5_init_25 : decode cX5_init 25 = .ok (.putfield 18, 3) := by decide +kernel
theorem dX5_init_28 : decode cX5_init 28 = .ok (.aload_n 0, 1) := by decide +kernel
theorem dX5_init_29 : decode cX5_init 29 = .ok (.bipush 20, 2) := by decide +kernel
theorem dX5_init_31 : decode cX5_init 31 = .ok (.newarray .int, 2) := by decide +kernel
theorem dX5_init_33 : decode cX5_init 33 = .ok (.putfield 21, 3) := by decide +kernel
theorem dX5_init_36 : decode cX5_init 36 = .ok (.return_, 1) := by decide +kernel
theorem dX5_hire_0 : decode cX5_hire 0 = .ok (.aload_n 0, 1) := by decide +kernel
theorem dX5_hire_1 : decode cX5_hire 1 = .ok (.getfield 24, 3) := by decide +kernel
theorem dX5_hire_4 : decode cX5_hire 4 = .ok (.ifCond .lt 12, 3) := by decide +kernel
theorem dX5_hire_7 : decode cX5_hire 7 = .ok (.aload_n 0, 1) := by decide +kernel
theorem dX5_hire_8 : decode cX5_hire 8 = .ok (.getfield 24, 3) := by decide +kernel
theorem dX5_hire_11 : decode cX5_hire 11 = .ok (.bipush 20, 2) := by decide +kernel
theorem dX5_hire_13 : decode cX5_hire 13 = .ok (.if_icmp .lt 5, 3) := by decide +kernel
theorem dX5_hire_16 : decode cX5_hire 16 = .ok (.iconst (-1), 1) := by decide +kernel
theorem dX5_hire_17 : decode cX5_hire 17 = .ok (.ireturn, 1) := by decide +kernel
theorem dX5_hire_18 : decode cX5_hire 18 = .ok (.aload_n 0, 1) := by decide +kernel
theorem dX5_hire_19 : decode cX5_hire 19 = .ok (.getfield 9, 3) := by decide +kernel
theorem dX5_hire_22 : decode cX5_hire 22 = .ok (.aload_n 0, 1) := by decide +kernel
theorem dX5_hire_23 : decode cX5_hire 23 = .ok (.getfield 24, 3) := by decide +kernel
theorem dX5_hire_26 : decode cX5_hire 26 = .ok (.iload_n 1, 1) := by decide +kernel
theorem dX5_hire_27 : decode cX5_hire 27 = .ok (.iastore, 1) := by decide +kernel
theorem dX5_hire_28 : decode cX5_hire 28 = .ok (.aload_n 0, 1) := by decide +kernel
theorem dX5_hire_29 : decode cX5_hire 29 = .ok (.getfield 15, 3) := by decide +kernel
theorem dX5_hire_32 : decode cX5_hire 32 = .ok (.aload_n 0, 1) := by decide +kernel
theorem dX5_hire_33 : decode cX5_hire 33 = .ok (.getfield 24, 3) := by decide +kernel
theorem dX5_hire_36 : decode cX5_hire 36 = .ok (.iload_n 2, 1) := by decide +kernel
theorem dX5_hire_37 : decode cX5_hire 37 = .ok (.iastore, 1) := by decide +kernel
theorem dX5_hire_38 : decode cX5_hire 38 = .ok (.aload_n 0, 1) := by decide +kernel
theorem dX5_hire_39 : decode cX5_hire 39 = .ok (.getfield 18, 3) := by decide +kernel
theorem dX5_hire_42 : decode cX5_hire 42 = .ok (.aload_n 0, 1) := by decide +kernel
theorem dX5_hire_43 : decode cX5_hire 43 = .ok (.getfield 24, 3) := by decide +kernel
theorem dX5_hire_46 : decode cX5_hire 46 = .ok (.iconst (-1), 1) := by decide +kernel
theorem dX5_hire_47 : decode cX5_hire 47 = .ok (.iastore, 1) := by decide +kernel
theorem dX5_hire_48 : decode cX5_hire 48 = .ok (.aload_n 0, 1) := by decide +kernel
theorem dX5_hire_49 : decode cX5_hire 49 = .ok (.getfield 21, 3) := by decide +kernel
theorem dX5_hire_52 : decode cX5_hire 52 = .ok (.aload_n 0, 1) := by decide +kernel
theorem dX5_hire_53 : decode cX5_hire 53 = .ok (.getfield 24, 3) := by decide +kernel
theorem dX5_hire_56 : decode cX5_hire 56 = .ok (.iconst 0, 1) := by decide +kernel
theorem dX5_hire_57 : decode cX5_hire 57 = .ok (.iastore, 1) := by decide +kernel
theorem dX5_hire_58 : decode cX5_hire 58 = .ok (.aload_n 0, 1) := by decide +kernel
theorem dX5_hire_59 : decode cX5_hire 59 = .ok (.dup, 1) := by decide +kernel
theorem dX5_hire_60 : decode cX5_hire 60 = .ok (.getfield 24, 3) := by decide +kernel
theorem dX5_hire_63 : decode cX5_hire 63 = .ok (.iconst 1, 1) := by decide +kernel
theorem dX5_hire_64 : decode cX5_hire 64 = .ok (.iadd, 1) := by decide +kernel
theorem dX5_hire_65 : decode cX5_hire 65 = .ok (.putfield 24, 3) := by decide +kernel
theorem dX5_hire_68 : decode cX5_hire 68 = .ok (.aload_n 0, 1) := by decide +kernel
theorem dX5_hire_69 : decode cX5_hire 69 = .ok (.getfield 24, 3) := by decide +kernel
theorem dX5_hire_72 : decode cX5_hire 72 = .ok (.iconst 1, 1) := by decide +kernel
theorem dX5_hire_73 : decode cX5_hire 73 = .ok (.isub, 1) := by decide +kernel
theorem dX5_hire_74 : decode cX5_hire 74 = .ok (.ireturn, 1) := by decide +kernel
theorem dX5_change_0 : decode cX5_change 0 = .ok (.iload_n 1, 1) := by decide +kernel
theorem dX5_change_1 : decode cX5_change 1 = .ok (.ifCond .lt 19, 3) := by decide +kernel
theorem dX5_change_4 : decode cX5_change 4 = .ok (.iload_n 1, 1) := by decide +kernel
theorem dX5_change_5 : decode cX5_change 5 = .ok (.bipush 20, 2) := by decide +kernel
theorem dX5_change_7 : decode cX5_change 7 = .ok (.if_icmp .ge 13, 3) := by decide +kernel
theorem dX5_change_10 : decode cX5_change 10 = .ok (.aload_n 0, 1) := by decide +kernel
theorem dX5_change_11 : decode cX5_change 11 = .ok (.getfield 9, 3) := by decide +kernel
theorem dX5_change_14 : decode cX5_change 14 = .ok (.iload_n 1, 1) := by decide +kernel
theorem dX5_change_15 : decode cX5_change 15 = .ok (.iaload, 1) := by decide +kernel
theorem dX5_change_16 : decode cX5_change 16 = .ok (.iload_n 2, 1) := by decide +kernel
theorem dX5_change_17 : decode cX5_change 17 = .ok (.if_icmp .ne 5, 3) := by decide +kernel
theorem dX5_change_20 : decode cX5_change 20 = .ok (.iconst 0, 1) := by decide +kernel
theorem dX5_change_21 : decode cX5_change 21 = .ok (.ireturn, 1) := by decide +kernel
theorem dX5_change_22 : decode cX5_change 22 = .ok (.aload_n 0, 1) := by decide +kernel
theorem dX5_change_23 : decode cX5_change 23 = .ok (.getfield 9, 3) := by decide +kernel
theorem dX5_change_26 : decode cX5_change 26 = .ok (.iload_n 1, 1) := by decide +kernel
theorem dX5_change_27 : decode cX5_change 27 = .ok (.iload_n 2, 1) := by decide +kernel
theorem dX5_change_28 : decode cX5_change 28 = .ok (.iastore, 1) := by decide +kernel
theorem dX5_change_29 : decode cX5_change 29 = .ok (.aload_n 0, 1) := by decide +kernel
theorem dX5_change_30 : decode cX5_change 30 = .ok (.getfield 18, 3) := by decide +kernel
theorem dX5_change_33 : decode cX5_change 33 = .ok (.iload_n 1, 1) := by decide +kernel
theorem dX5_change_34 : decode cX5_change 34 = .ok (.iload_n 3, 1) := by decide +kernel
theorem dX5_change_35 : decode cX5_change 35 = .ok (.iastore, 1) := by decide +kernel
theorem dX5_change_36 : decode cX5_change 36 = .ok (.aload_n 0, 1) := by decide +kernel
theorem dX5_change_37 : decode cX5_change 37 = .ok (.getfield 21, 3) := by decide +kernel
theorem dX5_change_40 : decode cX5_change 40 = .ok (.iload_n 1, 1) := by decide +kernel
theorem dX5_change_41 : decode cX5_change 41 = .ok (.dup2, 1) := by decide +kernel
theorem dX5_change_42 : decode cX5_change 42 = .ok (.iaload, 1) := by decide +kernel
theorem dX5_change_43 : decode cX5_change 43 = .ok (.iconst 1, 1) := by decide +kernel
theorem dX5_change_44 : decode cX5_change 44 = .ok (.iadd, 1) := by decide +kernel
theorem dX5_change_45 : decode cX5_change 45 = .ok (.iastore, 1) := by decide +kernel
theorem dX5_change_46 : decode cX5_change 46 = .ok (.iconst 1, 1) := by decide +kernel
theorem dX5_change_47 : decode cX5_change 47 = .ok (.ireturn, 1) := by decide +kernel
theorem dX5_shown_0 : decode cX5_shown 0 = .ok (.iload_n 1, 1) := by decide +kernel
theorem dX5_shown_1 : decode cX5_shown 1 = .ok (.ifCond .lt 9, 3) := by decide +kernel
theorem dX5_shown_4 : decode cX5_shown 4 = .ok (.iload_n 1, 1) := by decide +kernel
theorem dX5_shown_5 : decode cX5_shown 5 = .ok (.bipush 20, 2) := by decide +kernel
theorem dX5_shown_7 : decode cX5_shown 7 = .ok (.if_icmp .lt 5, 3) := by decide +kernel
theorem dX5_shown_10 : decode cX5_shown 10 = .ok (.iconst (-1), 1) := by decide +kernel
theorem dX5_shown_11 : decode cX5_shown 11 = .ok (.ireturn, 1) := by decide +kernel
theorem dX5_shown_12 : decode cX5_shown 12 = .ok (.iload_n 2, 1) := by decide +kernel
theorem dX5_shown_13 : decode cX5_shown 13 = .ok (.tableswitch 47 0 2 #[27, 33, 40], 27) := by decide +kernel
theorem dX5_shown_40 : decode cX5_shown 40 = .ok (.aload_n 0, 1) := by decide +kernel
theorem dX5_shown_41 : decode cX5_shown 41 = .ok (.iload_n 1, 1) := by decide +kernel
theorem dX5_shown_42 : decode cX5_shown 42 = .ok (.invokevirtual 28, 3) := by decide +kernel
theorem dX5_shown_45 : decode cX5_shown 45 = .ok (.ireturn, 1) := by decide +kernel
theorem dX5_shown_46 : decode cX5_shown 46 = .ok (.aload_n 0, 1) := by decide +kernel
theorem dX5_shown_47 : decode cX5_shown 47 = .ok (.getfield 9, 3) := by decide +kernel
theorem dX5_shown_50 : decode cX5_shown 50 = .ok (.iload_n 1, 1) := by decide +kernel
theorem dX5_shown_51 : decode cX5_shown 51 = .ok (.iaload, 1) := by decide +kernel
theorem dX5_shown_52 : decode cX5_shown 52 = .ok (.ireturn, 1) := by decide +kernel
theorem dX5_shown_53 : decode cX5_shown 53 = .ok (.aload_n 0, 1) := by decide +kernel
theorem dX5_shown_54 : decode cX5_shown 54 = .ok (.getfield 18, 3) := by decide +kernel
theorem dX5_shown_57 : decode cX5_shown 57 = .ok (.iload_n 1, 1) := by decide +kernel
theorem dX5_shown_58 : decode cX5_shown 58 = .ok (.iaload, 1) := by decide +kernel
theorem dX5_shown_59 : decode cX5_shown 59 = .ok (.ireturn, 1) := by decide +kernel
theorem dX5_shown_60 : decode cX5_shown 60 = .ok (.aload_n 0, 1) := by decide +kernel
theorem dX5_shown_61 : decode cX5_shown 61 = .ok (.getfield 21, 3) := by decide +kernel
theorem dX5_shown_64 : decode cX5_shown 64 = .ok (.iload_n 1, 1) := by decide +kernel
theorem dX5_shown_65 : decode cX5_shown 65 = .ok (.iaload, 1) := by decide +kernel
theorem dX5_shown_66 : decode cX5_shown 66 = .ok (.ireturn, 1) := by decide +kernel
theorem dX5_due_0 : decode cX5_due 0 = .ok (.iload_n 1, 1) := by decide +kernel
theorem dX5_due_1 : decode cX5_due 1 = .ok (.ifCond .lt 9, 3) := by decide +kernel
theorem dX5_due_4 : decode cX5_due 4 = .ok (.iload_n 1, 1) := by decide +kernel
theorem dX5_due_5 : decode cX5_due 5 = .ok (.bipush 20, 2) := by decide +kernel
theorem dX5_due_7 : decode cX5_due 7 = .ok (.if_icmp .lt 5, 3) := by decide +kernel
theorem dX5_due_10 : decode cX5_due 10 = .ok (.iconst 0, 1) := by decide +kernel
theorem dX5_due_11 : decode cX5_due 11 = .ok (.ireturn, 1) := by decide +kernel
theorem dX5_due_12 : decode cX5_due 12 = .ok (.iconst 0, 1) := by decide +kernel
theorem dX5_due_13 : decode cX5_due 13 = .ok (.aload_n 0, 1) := by decide +kernel
theorem dX5_due_14 : decode cX5_due 14 = .ok (.getfield 9, 3) := by decide +kernel
theorem dX5_due_17 : decode cX5_due 17 = .ok (.iload_n 1, 1) := by decide +kernel
theorem dX5_due_18 : decode cX5_due 18 = .ok (.iaload, 1) := by decide +kernel
theorem dX5_due_19 : decode cX5_due 19 = .ok (.bipush 40, 2) := by decide +kernel
theorem dX5_due_21 : decode cX5_due 21 = .ok (.isub, 1) := by decide +kernel
theorem dX5_due_22 : decode cX5_due 22 = .ok (.invokestatic 32, 3) := by decide +kernel
theorem dX5_due_25 : decode cX5_due 25 = .ok (.istore_n 2, 1) := by decide +kernel
theorem dX5_due_26 : decode cX5_due 26 = .ok (.iconst 2, 1) := by decide +kernel
theorem dX5_due_27 : decode cX5_due 27 = .ok (.aload_n 0, 1) := by decide +kernel
theorem dX5_due_28 : decode cX5_due 28 = .ok (.getfield 9, 3) := by decide +kernel
theorem dX5_due_31 : decode cX5_due 31 = .ok (.iload_n 1, 1) := by decide +kernel
theorem dX5_due_32 : decode cX5_due 32 = .ok (.iaload, 1) := by decide +kernel
theorem dX5_due_33 : decode cX5_due 33 = .ok (.imul, 1) := by decide +kernel
theorem dX5_due_34 : decode cX5_due 34 = .ok (.iload_n 2, 1) := by decide +kernel
theorem dX5_due_35 : decode cX5_due 35 = .ok (.iadd, 1) := by decide +kernel
theorem dX5_due_36 : decode cX5_due 36 = .ok (.aload_n 0, 1) := by decide +kernel
theorem dX5_due_37 : decode cX5_due 37 = .ok (.getfield 15, 3) := by decide +kernel
theorem dX5_due_40 : decode cX5_due 40 = .ok (.iload_n 1, 1) := by decide +kernel
theorem dX5_due_41 : decode cX5_due 41 = .ok (.iaload, 1) := by decide +kernel
theorem dX5_due_42 : decode cX5_due 42 = .ok (.imul, 1) := by decide +kernel
theorem dX5_due_43 : decode cX5_due 43 = .ok (.iconst 2, 1) := by decide +kernel
theorem dX5_due_44 : decode cX5_due 44 = .ok (.idiv, 1) := by decide +kernel
theorem dX5_due_45 : decode cX5_due 45 = .ok (.ireturn, 1) := by decide +kernel
theorem dX5_together_0 : decode cX5_together 0 = .ok (.iconst 0, 1) := by decide +kernel
theorem dX5_together_1 : decode cX5_together 1 = .ok (.istore_n 1, 1) := by decide +kernel
theorem dX5_together_2 : decode cX5_together 2 = .ok (.iconst 0, 1) := by decide +kernel
theorem dX5_together_3 : decode cX5_together 3 = .ok (.istore_n 2, 1) := by decide +kernel
theorem dX5_together_4 : decode cX5_together 4 = .ok (.iload_n 2, 1) := by decide +kernel
theorem dX5_together_5 : decode cX5_together 5 = .ok (.aload_n 0, 1) := by decide +kernel
theorem dX5_together_6 : decode cX5_together 6 = .ok (.getfield 24, 3) := by decide +kernel
theorem dX5_together_9 : decode cX5_together 9 = .ok (.if_icmp .ge 17, 3) := by decide +kernel
theorem dX5_together_12 : decode cX5_together 12 = .ok (.iload_n 1, 1) := by decide +kernel
theorem dX5_together_13 : decode cX5_together 13 = .ok (.aload_n 0, 1) := by decide +kernel
theorem dX5_together_14 : decode cX5_together 14 = .ok (.iload_n 2, 1) := by decide +kernel
theorem dX5_together_15 : decode cX5_together 15 = .ok (.invokevirtual 28, 3) := by decide +kernel
theorem dX5_together_18 : decode cX5_together 18 = .ok (.iadd, 1) := by decide +kernel
theorem dX5_together_19 : decode cX5_together 19 = .ok (.istore_n 1, 1) := by decide +kernel
theorem dX5_together_20 : decode cX5_together 20 = .ok (.iinc 2 1, 3) := by decide +kernel
theorem dX5_together_23 : decode cX5_together 23 = .ok (.goto (-19), 3) := by decide +kernel
theorem dX5_together_26 : decode cX5_together 26 = .ok (.iload_n 1, 1) := by decide +kernel
theorem dX5_together_27 : decode cX5_together 27 = .ok (.ireturn, 1) := by decide +kernel
theorem dX5_copyFrom_0 : decode cX5_copyFrom 0 = .ok (.aload_n 1, 1) := by decide +kernel
theorem dX5_copyFrom_1 : decode cX5_copyFrom 1 = .ok (.getfield 9, 3) := by decide +kernel
theorem dX5_copyFrom_4 : decode cX5_copyFrom 4 = .ok (.iconst 0, 1) := by decide +kernel
theorem dX5_copyFrom_5 : decode cX5_copyFrom 5 = .ok (.aload_n 0, 1) := by decide +kernel
theorem dX5_copyFrom_6 : decode cX5_copyFrom 6 = .ok (.getfield 9, 3) := by decide +kernel
theorem dX5_copyFrom_9 : decode cX5_copyFrom 9 = .ok (.iconst 0, 1) := by decide +kernel
theorem dX5_copyFrom_10 : decode cX5_copyFrom 10 = .ok (.bipush 20, 2) := by decide +kernel
theorem dX5_copyFrom_12 : decode cX5_copyFrom 12 = .ok (.invokestatic 38, 3) := by decide +kernel
theorem dX5_copyFrom_15 : decode cX5_copyFrom 15 = .ok (.aload_n 1, 1) := by decide +kernel
theorem dX5_copyFrom_16 : decode cX5_copyFrom 16 = .ok (.getfield 15, 3) := by decide +kernel
theorem dX5_copyFrom_19 : decode cX5_copyFrom 19 = .ok (.iconst 0, 1) := by decide +kernel
theorem dX5_copyFrom_20 : decode cX5_copyFrom 20 = .ok (.aload_n 0, 1) := by decide +kernel
theorem dX5_copyFrom_21 : decode cX5_copyFrom 21 = .ok (.getfield 15, 3) := by decide +kernel
theorem dX5_copyFrom_24 : decode cX5_copyFrom 24 = .ok (.iconst 0, 1) := by decide +kernel
theorem dX5_copyFrom_25 : decode cX5_copyFrom 25 = .ok (.bipush 20, 2) := by decide +kernel
theorem dX5_copyFrom_27 : decode cX5_copyFrom 27 = .ok (.invokestatic 38, 3) := by decide +kernel
theorem dX5_copyFrom_30 : decode cX5_copyFrom 30 = .ok (.aload_n 1, 1) := by decide +kernel
theorem dX5_copyFrom_31 : decode cX5_copyFrom 31 = .ok (.getfield 18, 3) := by decide +kernel
theorem dX5_copyFrom_34 : decode cX5_copyFrom 34 = .ok (.iconst 0, 1) := by decide +kernel
theorem dX5_copyFrom_35 : decode cX5_copyFrom 35 = .ok (.aload_n 0, 1) := by decide +kernel
theorem dX5_copyFrom_36 : decode cX5_copyFrom 36 = .ok (.getfield 18, 3) := by decide +kernel
theorem dX5_copyFrom_39 : decode cX5_copyFrom 39 = .ok (.iconst 0, 1) := by decide +kernel
theorem dX5_copyFrom_40 : decode cX5_copyFrom 40 = .ok (.bipush 20, 2) := by decide +kernel
theorem dX5_copyFrom_42 : decode cX5_copyFrom 42 = .ok (.invokestatic 38, 3) := by decide +kernel
theorem dX5_copyFrom_45 : decode cX5_copyFrom 45 = .ok (.aload_n 1, 1) := by decide +kernel
theorem dX5_copyFrom_46 : decode cX5_copyFrom 46 = .ok (.getfield 21, 3) := by decide +kernel
theorem dX5_copyFrom_49 : decode cX5_copyFrom 49 = .ok (.iconst 0, 1) := by decide +kernel
theorem dX5_copyFrom_50 : decode cX5_copyFrom 50 = .ok (.aload_n 0, 1) := by decide +kernel
theorem dX5_copyFrom_51 : decode cX5_copyFrom 51 = .ok (.getfield 21, 3) := by decide +kernel
theorem dX5_copyFrom_54 : decode cX5_copyFrom 54 = .ok (.iconst 0, 1) := by decide +kernel
theorem dX5_copyFrom_55 : decode cX5_copyFrom 55 = .ok (.bipush 20, 2) := by decide +kernel
theorem dX5_copyFrom_57 : decode cX5_copyFrom 57 = .ok (.invokestatic 38, 3) := by decide +kernel
theorem dX5_copyFrom_60 : decode cX5_copyFrom 60 = .ok (.aload_n 0, 1) := by decide +kernel
theorem dX5_copyFrom_61 : decode cX5_copyFrom 61 = .ok (.aload_n 1, 1) := by decide +kernel
theorem dX5_copyFrom_62 : decode cX5_copyFrom 62 = .ok (.getfield 24, 3) := by decide +kernel
theorem dX5_copyFrom_65 : decode cX5_copyFrom 65 = .ok (.putfield 24, 3) := by decide +kernel
theorem dX5_copyFrom_68 : decode cX5_copyFrom 68 = .ok (.aload_n 0, 1) := by decide +kernel
theorem dX5_copyFrom_69 : decode cX5_copyFrom 69 = .ok (.aload_n 1, 1) := by decide +kernel
theorem dX5_copyFrom_70 : decode cX5_copyFrom 70 = .ok (.getfield 44, 3) := by decide +kernel
theorem dX5_copyFrom_73 : decode cX5_copyFrom 73 = .ok (.putfield 44, 3) := by decide +kernel
theorem dX5_copyFrom_76 : decode cX5_copyFrom 76 = .ok (.return_, 1) := by decide +kernel
theorem dX6_init_0 : decode cX6_init 0 = .ok (.aload_n 0, 1) := by decide +kernel
theorem dX6_init_1 : decode cX6_init 1 = .ok (.invokespecial 3, 3) := by decide +kernel
theorem dX6_init_4 : decode cX6_init 4 = .ok (.aload_n 0, 1) := by decide +kernel
theorem dX6_init_5 : decode cX6_init 5 = .ok (.bipush 7, 2) := by decide +kernel
theorem dX6_init_7 : decode cX6_init 7 = .ok (.newarray .int, 2) := by decide +kernel
theorem dX6_init_9 : decode cX6_init 9 = .ok (.putfield 9, 3) := by decide +kernel
theorem dX6_init_12 : decode cX6_init 12 = .ok (.aload_n 0, 1) := by decide +kernel
theorem dX6_init_13 : decode cX6_init 13 = .ok (.bipush 7, 2) := by decide +kernel
theorem dX6_init_15 : decode cX6_init 15 = .ok (.newarray .int, 2) := by decide +kernel
theorem dX6_init_17 : decode cX6_init 17 = .ok (.putfield 15, 3) := by decide +kernel
theorem dX6_init_20 : decode cX6_init 20 = .ok (.aload_n 0, 1) := by decide +kernel
theorem dX6_init_21 : decode cX6_init 21 = .ok (.bipush 7, 2) := by decide +kernel
theorem dX6_init_23 : decode cX6_init 23 = .ok (.newarray .int, 2) := by decide +kernel
theorem dX6_init_25 : decode cX6_init 25 = .ok (.putfield 18, 3) := by decide +kernel
theorem dX6_init_28 : decode cX6_init 28 = .ok (.aload_n 0, 1) := by decide +kernel
theorem dX6_init_29 : decode cX6_init 29 = .ok (.bipush 8, 2) := by decide +kernel
theorem dX6_init_31 : decode cX6_init 31 = .ok (.newarray .int, 2) := by decide +kernel
theorem dX6_init_33 : decode cX6_init 33 = .ok (.putfield 21, 3) := by decide +kernel
theorem dX6_init_36 : decode cX6_init 36 = .ok (.aload_n 0, 1) := by decide +kernel
theorem dX6_init_37 : decode cX6_init 37 = .ok (.bipush 8, 2) := by decide +kernel
theorem dX6_init_39 : decode cX6_init 39 = .ok (.newarray .int, 2) := by decide +kernel
theorem dX6_init_41 : decode cX6_init 41 = .ok (.putfield 24, 3) := by decide +kernel
theorem dX6_init_44 : decode cX6_init 44 = .ok (.aload_n 0, 1) := by decide +kernel
theorem dX6_init_45 : decode cX6_init 45 = .ok (.bipush 8, 2) := by decide +kernel
theorem dX6_init_47 : decode cX6_init 47 = .ok (.newarray .int, 2) := by decide +kernel
theorem dX6_init_49 : decode cX6_init 49 = .ok (.putfield 27, 3) := by decide +kernel
theorem dX6_init_52 : decode cX6_init 52 = .ok (.aload_n 0, 1) := by decide +kernel
theorem dX6_init_53 : decode cX6_init 53 = .ok (.bipush 8, 2) := by decide +kernel
theorem dX6_init_55 : decode cX6_init 55 = .ok (.newarray .int, 2) := by decide +kernel
theorem dX6_init_57 : decode cX6_init 57 = .ok (.putfield 30, 3) := by decide +kernel
theorem dX6_init_60 : decode cX6_init 60 = .ok (.aload_n 0, 1) := by decide +kernel
theorem dX6_init_61 : decode cX6_init 61 = .ok (.bipush 8, 2) := by decide +kernel
theorem dX6_init_63 : decode cX6_init 63 = .ok (.newarray .int, 2) := by decide +kernel
theorem dX6_init_65 : decode cX6_init 65 = .ok (.putfield 33, 3) := by decide +kernel
theorem dX6_init_68 : decode cX6_init 68 = .ok (.aload_n 0, 1) := by decide +kernel
theorem dX6_init_69 : decode cX6_init 69 = .ok (.bipush 8, 2) := by decide +kernel
theorem dX6_init_71 : decode cX6_init 71 = .ok (.newarray .int, 2) := by decide +kernel
theorem dX6_init_73 : decode cX6_init 73 = .ok (.putfield 36, 3) := by decide +kernel
theorem dX6_init_76 : decode cX6_init 76 = .ok (.return_, 1) := by decide +kernel
theorem dX6_bestWorth_0 : decode cX6_bestWorth 0 = .ok (.aload_n 0, 1) := by decide +kernel
theorem dX6_bestWorth_1 : decode cX6_bestWorth 1 = .ok (.iload_n 2, 1) := by decide +kernel
theorem dX6_bestWorth_2 : decode cX6_bestWorth 2 = .ok (.putfield 39, 3) := by decide +kernel
theorem dX6_bestWorth_5 : decode cX6_bestWorth 5 = .ok (.aload_n 0, 1) := by decide +kernel
theorem dX6_bestWorth_6 : decode cX6_bestWorth 6 = .ok (.iload_n 3, 1) := by decide +kernel
theorem dX6_bestWorth_7 : decode cX6_bestWorth 7 = .ok (.putfield 43, 3) := by decide +kernel
theorem dX6_bestWorth_10 : decode cX6_bestWorth 10 = .ok (.aload_n 0, 1) := by decide +kernel
theorem dX6_bestWorth_11 : decode cX6_bestWorth 11 = .ok (.iconst (-1), 1) := by decide +kernel
theorem dX6_bestWorth_12 : decode cX6_bestWorth 12 = .ok (.putfield 46, 3) := by decide +kernel
theorem dX6_bestWorth_15 : decode cX6_bestWorth 15 = .ok (.aload_n 0, 1) := by decide +kernel
theorem dX6_bestWorth_16 : decode cX6_bestWorth 16 = .ok (.iconst 0, 1) := by decide +kernel
theorem dX6_bestWorth_17 : decode cX6_bestWorth 17 = .ok (.putfield 49, 3) := by decide +kernel
theorem dX6_bestWorth_20 : decode cX6_bestWorth 20 = .ok (.aload_n 0, 1) := by decide +kernel
theorem dX6_bestWorth_21 : decode cX6_bestWorth 21 = .ok (.iconst 0, 1) := by decide +kernel
theorem dX6_bestWorth_22 : decode cX6_bestWorth 22 = .ok (.putfield 52, 3) := by decide +kernel
theorem dX6_bestWorth_25 : decode cX6_bestWorth 25 = .ok (.aload_n 0, 1) := by decide +kernel
theorem dX6_bestWorth_26 : decode cX6_bestWorth 26 = .ok (.aload_n 1, 1) := by decide +kernel
theorem dX6_bestWorth_27 : decode cX6_bestWorth 27 = .ok (.invokevirtual 55, 3) := by decide +kernel
theorem dX6_bestWorth_30 : decode cX6_bestWorth 30 = .ok (.aload_n 0, 1) := by decide +kernel
theorem dX6_bestWorth_31 : decode cX6_bestWorth 31 = .ok (.aload_n 1, 1) := by decide +kernel
theorem dX6_bestWorth_32 : decode cX6_bestWorth 32 = .ok (.iconst 0, 1) := by decide +kernel
theorem dX6_bestWorth_33 : decode cX6_bestWorth 33 = .ok (.invokevirtual 59, 3) := by decide +kernel
theorem dX6_bestWorth_36 : decode cX6_bestWorth 36 = .ok (.aload_n 0, 1) := by decide +kernel
theorem dX6_bestWorth_37 : decode cX6_bestWorth 37 = .ok (.getfield 46, 3) := by decide +kernel
theorem dX6_bestWorth_40 : decode cX6_bestWorth 40 = .ok (.ireturn, 1) := by decide +kernel
theorem dX6_chosen_0 : decode cX6_chosen 0 = .ok (.iconst 0, 1) := by decide +kernel
theorem dX6_chosen_1 : decode cX6_chosen 1 = .ok (.istore_n 2, 1) := by decide +kernel
theorem dX6_chosen_2 : decode cX6_chosen 2 = .ok (.iload_n 2, 1) := by decide +kernel
theorem dX6_chosen_3 : decode cX6_chosen 3 = .ok (.aload_n 0, 1) := by decide +kernel
theorem dX6_chosen_4 : decode cX6_chosen 4 = .ok (.getfield 63, 3) := by decide +kernel
theorem dX6_chosen_7 : decode cX6_chosen 7 = .ok (.if_icmp .ge 32, 3) := by decide +kernel
theorem dX6_chosen_10 : decode cX6_chosen 10 = .ok (.iload_n 2, 1) := by decide +kernel
theorem dX6_chosen_11 : decode cX6_chosen 11 = .ok (.bipush 7, 2) := by decide +kernel
theorem dX6_chosen_13 : decode cX6_chosen 13 = .ok (.if_icmp .ge 26, 3) := by decide +kernel
theorem dX6_chosen_16 : decode cX6_chosen 16 = .ok (.aload_n 0, 1) := by decide +kernel
theorem dX6_chosen_17 : decode cX6_chosen 17 = .ok (.getfield 9, 3) := by decide +kernel
theorem dX6_chosen_20 : decode cX6_chosen 20 = .ok (.iload_n 2, 1) := by decide +kernel
theorem dX6_chosen_21 : decode cX6_chosen 21 = .ok (.iaload, 1) := by decide +kernel
theorem dX6_chosen_22 : decode cX6_chosen 22 = .ok (.iload_n 1, 1) := by decide +kernel
theorem dX6_chosen_23 : decode cX6_chosen 23 = .ok (.if_icmp .ne 10, 3) := by decide +kernel
theorem dX6_chosen_26 : decode cX6_chosen 26 = .ok (.aload_n 0, 1) := by decide +kernel
theorem dX6_chosen_27 : decode cX6_chosen 27 = .ok (.getfield 18, 3) := by decide +kernel
theorem dX6_chosen_30 : decode cX6_chosen 30 = .ok (.iload_n 2, 1) := by decide +kernel
theorem dX6_chosen_31 : decode cX6_chosen 31 = .ok (.iaload, 1) := by decide +kernel
theorem dX6_chosen_32 : decode cX6_chosen 32 = .ok (.ireturn, 1) := by decide +kernel
theorem dX6_chosen_33 : decode cX6_chosen 33 = .ok (.iinc 2 1, 3) := by decide +kernel
theorem dX6_chosen_36 : decode cX6_chosen 36 = .ok (.goto (-34), 3) := by decide +kernel
theorem dX6_chosen_39 : decode cX6_chosen 39 = .ok (.iconst (-1), 1) := by decide +kernel
theorem dX6_chosen_40 : decode cX6_chosen 40 = .ok (.ireturn, 1) := by decide +kernel
theorem dX6_pick_0 : decode cX6_pick 0 = .ok (.aload_n 0, 1) := by decide +kernel
theorem dX6_pick_1 : decode cX6_pick 1 = .ok (.iconst 0, 1) := by decide +kernel
theorem dX6_pick_2 : decode cX6_pick 2 = .ok (.putfield 63, 3) := by decide +kernel
theorem dX6_pick_5 : decode cX6_pick 5 = .ok (.iconst 0, 1) := by decide +kernel
theorem dX6_pick_6 : decode cX6_pick 6 = .ok (.istore_n 2, 1) := by decide +kernel
theorem dX6_pick_7 : decode cX6_pick 7 = .ok (.iload_n 2, 1) := by decide +kernel
theorem dX6_pick_8 : decode cX6_pick 8 = .ok (.aload_n 1, 1) := by decide +kernel
theorem dX6_pick_9 : decode cX6_pick 9 = .ok (.getfield 66, 3) := by decide +kernel
theorem dX6_pick_12 : decode cX6_pick 12 = .ok (.if_icmp .ge 56, 3) := by decide +kernel
theorem dX6_pick_15 : decode cX6_pick 15 = .ok (.aload_n 0, 1) := by decide +kernel
theorem dX6_pick_16 : decode cX6_pick 16 = .ok (.getfield 63, 3) := by decide +kernel
theorem dX6_pick_19 : decode cX6_pick 19 = .ok (.ifCond .lt 49, 3) := by decide +kernel
theorem dX6_pick_22 : decode cX6_pick 22 = .ok (.aload_n 0, 1) := by decide +kernel
theorem dX6_pick_23 : decode cX6_pick 23 = .ok (.getfield 63, 3) := by decide +kernel
theorem dX6_pick_26 : decode cX6_pick 26 = .ok (.bipush 7, 2) := by decide +kernel
theorem dX6_pick_28 : decode cX6_pick 28 = .ok (.if_icmp .ge 40, 3) := by decide +kernel
theorem dX6_pick_31 : decode cX6_pick 31 = .ok (.aload_n 1, 1) := by decide +kernel
theorem dX6_pick_32 : decode cX6_pick 32 = .ok (.iload_n 2, 1) := by decide +kernel
theorem dX6_pick_33 : decode cX6_pick 33 = .ok (.invokevirtual 69, 3) := by decide +kernel
theorem dX6_pick_36 : decode cX6_pick 36 = .ok (.getfield 73, 3) := by decide +kernel
theorem dX6_pick_39 : decode cX6_pick 39 = .ok (.ifCond .ne 23, 3) := by decide +kernel
theorem dX6_pick_42 : decode cX6_pick 42 = .ok (.aload_n 0, 1) := by decide +kernel
theorem dX6_pick_43 : decode cX6_pick 43 = .ok (.getfield 9, 3) := by decide +kernel
theorem dX6_pick_46 : decode cX6_pick 46 = .ok (.aload_n 0, 1) := by decide +kernel
theorem dX6_pick_47 : decode cX6_pick 47 = .ok (.getfield 63, 3) := by decide +kernel
theorem dX6_pick_50 : decode cX6_pick 50 = .ok (.iload_n 2, 1) := by decide +kernel
theorem dX6_pick_51 : decode cX6_pick 51 = .ok (.iastore, 1) := by decide +kernel
theorem dX6_pick_52 : decode cX6_pick 52 = .ok (.aload_n 0, 1) := by decide +kernel
theorem dX6_pick_53 : decode cX6_pick 53 = .ok (.dup, 1) := by decide +kernel
theorem dX6_pick_54 : decode cX6_pick 54 = .ok (.getfield 63, 3) := by decide +kernel
theorem dX6_pick_57 : decode cX6_pick 57 = .ok (.iconst 1, 1) := by decide +kernel
theorem dX6_pick_58 : decode cX6_pick 58 = .ok (.iadd, 1) := by decide +kernel
theorem dX6_pick_59 : decode cX6_pick 59 = .ok (.putfield 63, 3) := by decide +kernel
theorem dX6_pick_62 : decode cX6_pick 62 = .ok (.iinc 2 1, 3) := by decide +kernel
theorem dX6_pick_65 : decode cX6_pick 65 = .ok (.goto (-58), 3) := by decide +kernel
theorem dX6_pick_68 : decode cX6_pick 68 = .ok (.aload_n 0, 1) := by decide +kernel
theorem dX6_pick_69 : decode cX6_pick 69 = .ok (.getfield 36, 3) := by decide +kernel
theorem dX6_pick_72 : decode cX6_pick 72 = .ok (.bipush 7, 2) := by decide +kernel
theorem dX6_pick_74 : decode cX6_pick 74 = .ok (.iconst 0, 1) := by decide +kernel
theorem dX6_pick_75 : decode cX6_pick 75 = .ok (.iastore, 1) := by decide +kernel
theorem dX6_pick_76 : decode cX6_pick 76 = .ok (.bipush 6, 2) := by decide +kernel
theorem dX6_pick_78 : decode cX6_pick 78 = .ok (.istore_n 2, 1) := by decide +kernel
theorem dX6_pick_79 : decode cX6_pick 79 = .ok (.iload_n 2, 1) := by decide +kernel
theorem dX6_pick_80 : decode cX6_pick 80 = .ok (.ifCond .lt 49, 3) := by decide +kernel
theorem dX6_pick_83 : decode cX6_pick 83 = .ok (.aload_n 0, 1) := by decide +kernel
theorem dX6_pick_84 : decode cX6_pick 84 = .ok (.getfield 36, 3) := by decide +kernel
theorem dX6_pick_87 : decode cX6_pick 87 = .ok (.iload_n 2, 1) := by decide +kernel
theorem dX6_pick_88 : decode cX6_pick 88 = .ok (.iload_n 2, 1) := by decide +kernel
theorem dX6_pick_89 : decode cX6_pick 89 = .ok (.aload_n 0, 1) := by decide +kernel
theorem dX6_pick_90 : decode cX6_pick 90 = .ok (.getfield 63, 3) := by decide +kernel
theorem dX6_pick_93 : decode cX6_pick 93 = .ok (.if_icmp .ge 28, 3) := by decide +kernel
theorem dX6_pick_96 : decode cX6_pick 96 = .ok (.aload_n 0, 1) := by decide +kernel
theorem dX6_pick_97 : decode cX6_pick 97 = .ok (.getfield 36, 3) := by decide +kernel
theorem dX6_pick_100 : decode cX6_pick 100 = .ok (.iload_n 2, 1) := by decide +kernel
theorem dX6_pick_101 : decode cX6_pick 101 = .ok (.iconst 1, 1) := by decide +kernel
theorem dX6_pick_102 : decode cX6_pick 102 = .ok (.iadd, 1) := by decide +kernel
theorem dX6_pick_103 : decode cX6_pick 103 = .ok (.iaload, 1) := by decide +kernel
theorem dX6_pick_104 : decode cX6_pick 104 = .ok (.aload_n 1, 1) := by decide +kernel
theorem dX6_pick_105 : decode cX6_pick 105 = .ok (.aload_n 0, 1) := by decide +kernel
theorem dX6_pick_106 : decode cX6_pick 106 = .ok (.getfield 9, 3) := by decide +kernel
theorem dX6_pick_109 : decode cX6_pick 109 = .ok (.iload_n 2, 1) := by decide +kernel
theorem dX6_pick_110 : decode cX6_pick 110 = .ok (.iaload, 1) := by decide +kernel
theorem dX6_pick_111 : decode cX6_pick 111 = .ok (.invokevirtual 69, 3) := by decide +kernel
theorem dX6_pick_114 : decode cX6_pick 114 = .ok (.invokestatic 78, 3) := by decide +kernel
theorem dX6_pick_117 : decode cX6_pick 117 = .ok (.iadd, 1) := by decide +kernel
theorem dX6_pick_118 : decode cX6_pick 118 = .ok (.goto 4, 3) := by decide +kernel
theorem dX6_pick_121 : decode cX6_pick 121 = .ok (.iconst 0, 1) := by decide +kernel
theorem dX6_pick_122 : decode cX6_pick 122 = .ok (.iastore, 1) := by decide +kernel
theorem dX6_pick_123 : decode cX6_pick 123 = .ok (.iinc 2 (-1), 3) := by decide +kernel
theorem dX6_pick_126 : decode cX6_pick 126 = .ok (.goto (-47), 3) := by decide +kernel
theorem dX6_pick_129 : decode cX6_pick 129 = .ok (.return_, 1) := by decide +kernel
theorem dX6_mostOf_0 : decode cX6_mostOf 0 = .ok (.aload_n 0, 1) := by decide +kernel
theorem dX6_mostOf_1 : decode cX6_mostOf 1 = .ok (.iconst 1, 1) := by decide +kernel
theorem dX6_mostOf_2 : decode cX6_mostOf 2 = .ok (.invokevirtual 82, 3) := by decide +kernel
theorem dX6_mostOf_5 : decode cX6_mostOf 5 = .ok (.ifCond .eq 17, 3) := by decide +kernel
theorem dX6_mostOf_8 : decode cX6_mostOf 8 = .ok (.aload_n 0, 1) := by decide +kernel
theorem dX6_mostOf_9 : decode cX6_mostOf 9 = .ok (.getfield 86, 3) := by decide +kernel
theorem dX6_mostOf_12 : decode cX6_mostOf 12 = .ok (.aload_n 0, 1) := by decide +kernel
theorem dX6_mostOf_13 : decode cX6_mostOf 13 = .ok (.getfield 89, 3) := by decide +kernel
theorem dX6_mostOf_16 : decode cX6_mostOf 16 = .ok (.invokestatic 92, 3) := by decide +kernel
theorem dX6_mostOf_19 : decode cX6_mostOf 19 = .ok (.goto 7, 3) := by decide +kernel
theorem dX6_mostOf_22 : decode cX6_mostOf 22 = .ok (.aload_n 0, 1) := by decide +kernel
theorem dX6_mostOf_23 : decode cX6_mostOf 23 = .ok (.getfield 86, 3) := by decide +kernel
theorem dX6_mostOf_26 : decode cX6_mostOf 26 = .ok (.ireturn, 1) := by decide +kernel
theorem dX6_search_0 : decode cX6_search 0 = .ok (.iload_n 2, 1) := by decide +kernel
theorem dX6_search_1 : decode cX6_search 1 = .ok (.ifCond .lt 41, 3) := by decide +kernel
theorem dX6_search_4 : decode cX6_search 4 = .ok (.iload_n 2, 1) := by decide +kernel
theorem dX6_search_5 : decode cX6_search 5 = .ok (.bipush 7, 2) := by decide +kernel
theorem dX6_search_7 : decode cX6_search 7 = .ok (.if_icmp .gt 35, 3) := by decide +kernel
theorem dX6_search_10 : decode cX6_search 10 = .ok (.aload_n 0, 1) := by decide +kernel
theorem dX6_search_11 : decode cX6_search 11 = .ok (.aload_n 0, 1) := by decide +kernel
theorem dX6_search_12 : decode cX6_search 12 = .ok (.getfield 21, 3) := by decide +kernel
theorem dX6_search_15 : decode cX6_search 15 = .ok (.iload_n 2, 1) := by decide +kernel
theorem dX6_search_16 : decode cX6_search 16 = .ok (.iaload, 1) := by decide +kernel
theorem dX6_search_17 : decode cX6_search 17 = .ok (.aload_n 0, 1) := by decide +kernel
theorem dX6_search_18 : decode cX6_search 18 = .ok (.getfield 36, 3) := by decide +kernel
theorem dX6_search_21 : decode cX6_search 21 = .ok (.iload_n 2, 1) := by decide +kernel
theorem dX6_search_22 : decode cX6_search 22 = .ok (.iaload, 1) := by decide +kernel
theorem dX6_search_23 : decode cX6_search 23 = .ok (.iadd, 1) := by decide +kernel
theorem dX6_search_24 : decode cX6_search 24 = .ok (.aload_n 0, 1) := by decide +kernel
theorem dX6_search_25 : decode cX6_search 25 = .ok (.getfield 24, 3) := by decide +kernel
theorem dX6_search_28 : decode cX6_search 28 = .ok (.iload_n 2, 1) := by decide +kernel
theorem dX6_search_29 : decode cX6_search 29 = .ok (.iaload, 1) := by decide +kernel
theorem dX6_search_30 : decode cX6_search 30 = .ok (.aload_n 0, 1) := by decide +kernel
theorem dX6_search_31 : decode cX6_search 31 = .ok (.getfield 27, 3) := by decide +kernel
theorem dX6_search_34 : decode cX6_search 34 = .ok (.iload_n 2, 1) := by decide +kernel
theorem dX6_search_35 : decode cX6_search 35 = .ok (.iaload, 1) := by decide +kernel
theorem dX6_search_36 : decode cX6_search 36 = .ok (.invokevirtual 98, 3) := by decide +kernel
theorem dX6_search_39 : decode cX6_search 39 = .ok (.ifCond .ne 4, 3) := by decide +kernel
theorem dX6_search_42 : decode cX6_search 42 = .ok (.return_, 1) := by decide +kernel
theorem dX6_search_43 : decode cX6_search 43 = .ok (.iload_n 2, 1) := by decide +kernel
theorem dX6_search_44 : decode cX6_search 44 = .ok (.aload_n 0, 1) := by decide +kernel
theorem dX6_search_45 : decode cX6_search 45 = .ok (.getfield 63, 3) := by decide +kernel
theorem dX6_search_48 : decode cX6_search 48 = .ok (.if_icmp .ge 9, 3) := by decide +kernel
theorem dX6_search_51 : decode cX6_search 51 = .ok (.iload_n 2, 1) := by decide +kernel
theorem dX6_search_52 : decode cX6_search 52 = .ok (.bipush 7, 2) := by decide +kernel
theorem dX6_search_54 : decode cX6_search 54 = .ok (.if_icmp .lt 49, 3) := by decide +kernel
theorem dX6_search_57 : decode cX6_search 57 = .ok (.aload_n 0, 1) := by decide +kernel
theorem dX6_search_58 : decode cX6_search 58 = .ok (.aload_n 0, 1) := by decide +kernel
theorem dX6_search_59 : decode cX6_search 59 = .ok (.getfield 21, 3) := by decide +kernel
theorem dX6_search_62 : decode cX6_search 62 = .ok (.iload_n 2, 1) := by decide +kernel
theorem dX6_search_63 : decode cX6_search 63 = .ok (.iaload, 1) := by decide +kernel
theorem dX6_search_64 : decode cX6_search 64 = .ok (.putfield 46, 3) := by decide +kernel
theorem dX6_search_67 : decode cX6_search 67 = .ok (.aload_n 0, 1) := by decide +kernel
theorem dX6_search_68 : decode cX6_search 68 = .ok (.aload_n 0, 1) := by decide +kernel
theorem dX6_search_69 : decode cX6_search 69 = .ok (.getfield 24, 3) := by decide +kernel
theorem dX6_search_72 : decode cX6_search 72 = .ok (.iload_n 2, 1) := by decide +kernel
theorem dX6_search_73 : decode cX6_search 73 = .ok (.iaload, 1) := by decide +kernel
theorem dX6_search_74 : decode cX6_search 74 = .ok (.putfield 49, 3) := by decide +kernel
theorem dX6_search_77 : decode cX6_search 77 = .ok (.aload_n 0, 1) := by decide +kernel
theorem dX6_search_78 : decode cX6_search 78 = .ok (.aload_n 0, 1) := by decide +kernel
theorem dX6_search_79 : decode cX6_search 79 = .ok (.getfield 27, 3) := by decide +kernel
theorem dX6_search_82 : decode cX6_search 82 = .ok (.iload_n 2, 1) := by decide +kernel
theorem dX6_search_83 : decode cX6_search 83 = .ok (.iaload, 1) := by decide +kernel
theorem dX6_search_84 : decode cX6_search 84 = .ok (.putfield 52, 3) := by decide +kernel
theorem dX6_search_87 : decode cX6_search 87 = .ok (.aload_n 0, 1) := by decide +kernel
theorem dX6_search_88 : decode cX6_search 88 = .ok (.getfield 15, 3) := by decide +kernel
theorem dX6_search_91 : decode cX6_search 91 = .ok (.iconst 0, 1) := by decide +kernel
theorem dX6_search_92 : decode cX6_search 92 = .ok (.aload_n 0, 1) := by decide +kernel
theorem dX6_search_93 : decode cX6_search 93 = .ok (.getfield 18, 3) := by decide +kernel
theorem dX6_search_96 : decode cX6_search 96 = .ok (.iconst 0, 1) := by decide +kernel
theorem dX6_search_97 : decode cX6_search 97 = .ok (.bipush 7, 2) := by decide +kernel
theorem dX6_search_99 : decode cX6_search 99 = .ok (.invokestatic 102, 3) := by decide +kernel
theorem dX6_search_102 : decode cX6_search 102 = .ok (.return_, 1) := by decide +kernel
theorem dX6_search_103 : decode cX6_search 103 = .ok (.iconst 0, 1) := by decide +kernel
theorem dX6_search_104 : decode cX6_search 104 = .ok (.istore_n 3, 1) := by decide +kernel
theorem dX6_search_105 : decode cX6_search 105 = .ok (.iload_n 3, 1) := by decide +kernel
theorem dX6_search_106 : decode cX6_search 106 = .ok (.iconst 3, 1) := by decide +kernel
theorem dX6_search_107 : decode cX6_search 107 = .ok (.if_icmp .gt 16, 3) := by decide +kernel
theorem dX6_search_110 : decode cX6_search 110 = .ok (.aload_n 0, 1) := by decide +kernel
theorem dX6_search_111 : decode cX6_search 111 = .ok (.aload_n 1, 1) := by decide +kernel
theorem dX6_search_112 : decode cX6_search 112 = .ok (.iload_n 2, 1) := by decide +kernel
theorem dX6_search_113 : decode cX6_search 113 = .ok (.iload_n 3, 1) := by decide +kernel
theorem dX6_search_114 : decode cX6_search 114 = .ok (.invokevirtual 108, 3) := by decide +kernel
theorem dX6_search_117 : decode cX6_search 117 = .ok (.iinc 3 1, 3) := by decide +kernel
theorem dX6_search_120 : decode cX6_search 120 = .ok (.goto (-15), 3) := by decide +kernel
theorem dX6_search_123 : decode cX6_search 123 = .ok (.return_, 1) := by decide +kernel
theorem dX6_attempt_0 : decode cX6_attempt 0 = .ok (.iload_n 2, 1) := by decide +kernel
theorem dX6_attempt_1 : decode cX6_attempt 1 = .ok (.ifCond .lt 19, 3) := by decide +kernel
theorem dX6_attempt_4 : decode cX6_attempt 4 = .ok (.iload_n 2, 1) := by decide +kernel
theorem dX6_attempt_5 : decode cX6_attempt 5 = .ok (.bipush 7, 2) := by decide +kernel
theorem dX6_attempt_7 : decode cX6_attempt 7 = .ok (.if_icmp .ge 13, 3) := by decide +kernel
theorem dX6_attempt_10 : decode cX6_attempt 10 = .ok (.aload_n 0, 1) := by decide +kernel
theorem dX6_attempt_11 : decode cX6_attempt 11 = .ok (.aload_n 1, 1) := by decide +kernel
theorem dX6_attempt_12 : decode cX6_attempt 12 = .ok (.iload_n 2, 1) := by decide +kernel
theorem dX6_attempt_13 : decode cX6_attempt 13 = .ok (.iload_n 3, 1) := by decide +kernel
theorem dX6_attempt_14 : decode cX6_attempt 14 = .ok (.invokevirtual 112, 3) := by decide +kernel
theorem dX6_attempt_17 : decode cX6_attempt 17 = .ok (.ifCond .ne 4, 3) := by decide +kernel
theorem dX6_attempt_20 : decode cX6_attempt 20 = .ok (.return_, 1) := by decide +kernel
theorem dX6_attempt_21 : decode cX6_attempt 21 = .ok (.aload_n 0, 1) := by decide +kernel
theorem dX6_attempt_22 : decode cX6_attempt 22 = .ok (.getfield 9, 3) := by decide +kernel
theorem dX6_attempt_25 : decode cX6_attempt 25 = .ok (.iload_n 2, 1) := by decide +kernel
theorem dX6_attempt_26 : decode cX6_attempt 26 = .ok (.iaload, 1) := by decide +kernel
theorem dX6_attempt_27 : decode cX6_attempt 27 = .ok (.istore 4, 2) := by decide +kernel
theorem dX6_attempt_29 : decode cX6_attempt 29 = .ok (.aload_n 1, 1) := by decide +kernel
theorem dX6_attempt_30 : decode cX6_attempt 30 = .ok (.iload 4, 2) := by decide +kernel
theorem dX6_attempt_32 : decode cX6_attempt 32 = .ok (.invokevirtual 69, 3) := by decide +kernel
theorem dX6_attempt_35 : decode cX6_attempt 35 = .ok (.astore 5, 2) := by decide +kernel
theorem dX6_attempt_37 : decode cX6_attempt 37 = .ok (.iload_n 2, 1) := by decide +kernel
theorem dX6_attempt_38 : decode cX6_attempt 38 = .ok (.iconst 1, 1) := by decide +kernel
theorem dX6_attempt_39 : decode cX6_attempt 39 = .ok (.iadd, 1) := by decide +kernel
theorem dX6_attempt_40 : decode cX6_attempt 40 = .ok (.istore 6, 2) := by decide +kernel
theorem dX6_attempt_42 : decode cX6_attempt 42 = .ok (.iload_n 3, 1) := by decide +kernel
theorem dX6_attempt_43 : decode cX6_attempt 43 = .ok (.iconst 3, 1) := by decide +kernel
theorem dX6_attempt_44 : decode cX6_attempt 44 = .ok (.if_icmp .ne 7, 3) := by decide +kernel
theorem dX6_attempt_47 : decode cX6_attempt 47 = .ok (.iconst 1, 1) := by decide +kernel
theorem dX6_attempt_48 : decode cX6_attempt 48 = .ok (.goto 4, 3) := by decide +kernel
theorem dX6_attempt_51 : decode cX6_attempt 51 = .ok (.iconst 0, 1) := by decide +kernel
theorem dX6_attempt_52 : decode cX6_attempt 52 = .ok (.istore 7, 2) := by decide +kernel
theorem dX6_attempt_54 : decode cX6_attempt 54 = .ok (.aload_n 0, 1) := by decide +kernel
theorem dX6_attempt_55 : decode cX6_attempt 55 = .ok (.getfield 21, 3) := by decide +kernel
theorem dX6_attempt_58 : decode cX6_attempt 58 = .ok (.iload 6, 2) := by decide +kernel
theorem dX6_attempt_60 : decode cX6_attempt 60 = .ok (.aload_n 0, 1) := by decide +kernel
theorem dX6_attempt_61 : decode cX6_attempt 61 = .ok (.getfield 21, 3) := by decide +kernel
theorem dX6_attempt_64 : decode cX6_attempt 64 = .ok (.iload_n 2, 1) := by decide +kernel
theorem dX6_attempt_65 : decode cX6_attempt 65 = .ok (.iaload, 1) := by decide +kernel
theorem dX6_attempt_66 : decode cX6_attempt 66 = .ok (.iload 7, 2) := by decide +kernel
theorem dX6_attempt_68 : decode cX6_attempt 68 = .ok (.ifCond .eq 7, 3) := by decide +kernel
theorem dX6_attempt_71 : decode cX6_attempt 71 = .ok (.iconst 0, 1) := by decide +kernel
theorem dX6_attempt_72 : decode cX6_attempt 72 = .ok (.goto 21, 3) := by decide +kernel
theorem dX6_attempt_75 : decode cX6_attempt 75 = .ok (.iload_n 3, 1) := by decide +kernel
theorem dX6_attempt_76 : decode cX6_attempt 76 = .ok (.iconst 1, 1) := by decide +kernel
theorem dX6_attempt_77 : decode cX6_attempt 77 = .ok (.if_icmp .ne 11, 3) := by decide +kernel
theorem dX6_attempt_80 : decode cX6_attempt 80 = .ok (.aload 5, 2) := by decide +kernel
theorem dX6_attempt_82 : decode cX6_attempt 82 = .ok (.getfield 89, 3) := by decide +kernel
theorem dX6_attempt_85 : decode cX6_attempt 85 = .ok (.goto 8, 3) := by decide +kernel
theorem dX6_attempt_88 : decode cX6_attempt 88 = .ok (.aload 5, 2) := by decide +kernel
theorem dX6_attempt_90 : decode cX6_attempt 90 = .ok (.getfield 86, 3) := by decide +kernel
theorem dX6_attempt_93 : decode cX6_attempt 93 = .ok (.iadd, 1) := by decide +kernel
theorem dX6_attempt_94 : decode cX6_attempt 94 = .ok (.iastore, 1) := by decide +kernel
theorem dX6_attempt_95 : decode cX6_attempt 95 = .ok (.aload_n 0, 1) := by decide +kernel
theorem dX6_attempt_96 : decode cX6_attempt 96 = .ok (.getfield 24, 3) := by decide +kernel
theorem dX6_attempt_99 : decode cX6_attempt 99 = .ok (.iload 6, 2) := by decide +kernel
theorem dX6_attempt_101 : decode cX6_attempt 101 = .ok (.aload_n 0, 1) := by decide +kernel
theorem dX6_attempt_102 : decode cX6_attempt 102 = .ok (.getfield 24, 3) := by decide +kernel
theorem dX6_attempt_105 : decode cX6_attempt 105 = .ok (.iload_n 2, 1) := by decide +kernel
theorem dX6_attempt_106 : decode cX6_attempt 106 = .ok (.iaload, 1) := by decide +kernel
theorem dX6_attempt_107 : decode cX6_attempt 107 = .ok (.iload_n 3, 1) := by decide +kernel
theorem dX6_attempt_108 : decode cX6_attempt 108 = .ok (.ifCond .ne 11, 3) := by decide +kernel
theorem dX6_attempt_111 : decode cX6_attempt 111 = .ok (.aload 5, 2) := by decide +kernel
theorem dX6_attempt_113 : decode cX6_attempt 113 = .ok (.getfield 116, 3) := by decide +kernel
theorem dX6_attempt_116 : decode cX6_attempt 116 = .ok (.goto 17, 3) := by decide +kernel
theorem dX6_attempt_119 : decode cX6_attempt 119 = .ok (.iload_n 3, 1) := by decide +kernel
theorem dX6_attempt_120 : decode cX6_attempt 120 = .ok (.iconst 1, 1) := by decide +kernel
theorem dX6_attempt_121 : decode cX6_attempt 121 = .ok (.if_icmp .ne 11, 3) := by decide +kernel
theorem dX6_attempt_124 : decode cX6_attempt 124 = .ok (.aload 5, 2) := by decide +kernel
theorem dX6_attempt_126 : decode cX6_attempt 126 = .ok (.getfield 119, 3) := by decide +kernel
theorem dX6_attempt_129 : decode cX6_attempt 129 = .ok (.goto 4, 3) := by decide +kernel
theorem dX6_attempt_132 : decode cX6_attempt 132 = .ok (.iconst 0, 1) := by decide +kernel
theorem dX6_attempt_133 : decode cX6_attempt 133 = .ok (.iadd, 1) := by decide +kernel
theorem dX6_attempt_134 : decode cX6_attempt 134 = .ok (.iastore, 1) := by decide +kernel
theorem dX6_attempt_135 : decode cX6_attempt 135 = .ok (.aload_n 0, 1) := by decide +kernel
theorem dX6_attempt_136 : decode cX6_attempt 136 = .ok (.getfield 27, 3) := by decide +kernel
theorem dX6_attempt_139 : decode cX6_attempt 139 = .ok (.iload 6, 2) := by decide +kernel
theorem dX6_attempt_141 : decode cX6_attempt 141 = .ok (.aload_n 0, 1) := by decide +kernel
theorem dX6_attempt_142 : decode cX6_attempt 142 = .ok (.getfield 27, 3) := by decide +kernel
theorem dX6_attempt_145 : decode cX6_attempt 145 = .ok (.iload_n 2, 1) := by decide +kernel
theorem dX6_attempt_146 : decode cX6_attempt 146 = .ok (.iaload, 1) := by decide +kernel
theorem dX6_attempt_147 : decode cX6_attempt 147 = .ok (.iload_n 3, 1) := by decide +kernel
theorem dX6_attempt_148 : decode cX6_attempt 148 = .ok (.iconst 2, 1) := by decide +kernel
theorem dX6_attempt_149 : decode cX6_attempt 149 = .ok (.if_icmp .ne 11, 3) := by decide +kernel
theorem dX6_attempt_152 : decode cX6_attempt 152 = .ok (.aload 5, 2) := by decide +kernel
theorem dX6_attempt_154 : decode cX6_attempt 154 = .ok (.getfield 122, 3) := by decide +kernel
theorem dX6_attempt_157 : decode cX6_attempt 157 = .ok (.goto 4, 3) := by decide +kernel
theorem dX6_attempt_160 : decode cX6_attempt 160 = .ok (.iconst 0, 1) := by decide +kernel
theorem dX6_attempt_161 : decode cX6_attempt 161 = .ok (.iadd, 1) := by decide +kernel
theorem dX6_attempt_162 : decode cX6_attempt 162 = .ok (.iastore, 1) := by decide +kernel
theorem dX6_attempt_163 : decode cX6_attempt 163 = .ok (.aload_n 0, 1) := by decide +kernel
theorem dX6_attempt_164 : decode cX6_attempt 164 = .ok (.getfield 30, 3) := by decide +kernel
theorem dX6_attempt_167 : decode cX6_attempt 167 = .ok (.iload 6, 2) := by decide +kernel
theorem dX6_attempt_169 : decode cX6_attempt 169 = .ok (.aload_n 0, 1) := by decide +kernel
theorem dX6_attempt_170 : decode cX6_attempt 170 = .ok (.getfield 30, 3) := by decide +kernel
theorem dX6_attempt_173 : decode cX6_attempt 173 = .ok (.iload_n 2, 1) := by decide +kernel
theorem dX6_attempt_174 : decode cX6_attempt 174 = .ok (.iaload, 1) := by decide +kernel
theorem dX6_attempt_175 : decode cX6_attempt 175 = .ok (.iload 7, 2) := by decide +kernel
theorem dX6_attempt_177 : decode cX6_attempt 177 = .ok (.ifCond .eq 10, 3) := by decide +kernel
theorem dX6_attempt_180 : decode cX6_attempt 180 = .ok (.iconst 1, 1) := by decide +kernel
theorem dX6_attempt_181 : decode cX6_attempt 181 = .ok (.iload 4, 2) := by decide +kernel
theorem dX6_attempt_183 : decode cX6_attempt 183 = .ok (.ishl, 1) := by decide +kernel
theorem dX6_attempt_184 : decode cX6_attempt 184 = .ok (.goto 4, 3) := by decide +kernel
theorem dX6_attempt_187 : decode cX6_attempt 187 = .ok (.iconst 0, 1) := by decide +kernel
theorem dX6_attempt_188 : decode cX6_attempt 188 = .ok (.ior, 1) := by decide +kernel
theorem dX6_attempt_189 : decode cX6_attempt 189 = .ok (.iastore, 1) := by decide +kernel
theorem dX6_attempt_190 : decode cX6_attempt 190 = .ok (.aload_n 0, 1) := by decide +kernel
theorem dX6_attempt_191 : decode cX6_attempt 191 = .ok (.getfield 33, 3) := by decide +kernel
theorem dX6_attempt_194 : decode cX6_attempt 194 = .ok (.iload 6, 2) := by decide +kernel
theorem dX6_attempt_196 : decode cX6_attempt 196 = .ok (.aload_n 0, 1) := by decide +kernel
theorem dX6_attempt_197 : decode cX6_attempt 197 = .ok (.getfield 33, 3) := by decide +kernel
theorem dX6_attempt_200 : decode cX6_attempt 200 = .ok (.iload_n 2, 1) := by decide +kernel
theorem dX6_attempt_201 : decode cX6_attempt 201 = .ok (.iaload, 1) := by decide +kernel
theorem dX6_attempt_202 : decode cX6_attempt 202 = .ok (.iload 7, 2) := by decide +kernel
theorem dX6_attempt_204 : decode cX6_attempt 204 = .ok (.ifCond .eq 7, 3) := by decide +kernel
theorem dX6_attempt_207 : decode cX6_attempt 207 = .ok (.iconst 0, 1) := by decide +kernel
theorem dX6_attempt_208 : decode cX6_attempt 208 = .ok (.goto 9, 3) := by decide +kernel
theorem dX6_attempt_211 : decode cX6_attempt 211 = .ok (.aload_n 1, 1) := by decide +kernel
theorem dX6_attempt_212 : decode cX6_attempt 212 = .ok (.iload 4, 2) := by decide +kernel
theorem dX6_attempt_214 : decode cX6_attempt 214 = .ok (.invokevirtual 125, 3) := by decide +kernel
theorem dX6_attempt_217 : decode cX6_attempt 217 = .ok (.ior, 1) := by decide +kernel
theorem dX6_attempt_218 : decode cX6_attempt 218 = .ok (.iastore, 1) := by decide +kernel
theorem dX6_attempt_219 : decode cX6_attempt 219 = .ok (.aload_n 0, 1) := by decide +kernel
theorem dX6_attempt_220 : decode cX6_attempt 220 = .ok (.getfield 24, 3) := by decide +kernel
theorem dX6_attempt_223 : decode cX6_attempt 223 = .ok (.iload 6, 2) := by decide +kernel
theorem dX6_attempt_225 : decode cX6_attempt 225 = .ok (.iaload, 1) := by decide +kernel
theorem dX6_attempt_226 : decode cX6_attempt 226 = .ok (.aload_n 0, 1) := by decide +kernel
theorem dX6_attempt_227 : decode cX6_attempt 227 = .ok (.getfield 39, 3) := by decide +kernel
theorem dX6_attempt_230 : decode cX6_attempt 230 = .ok (.if_icmp .gt 31, 3) := by decide +kernel
theorem dX6_attempt_233 : decode cX6_attempt 233 = .ok (.aload_n 0, 1) := by decide +kernel
theorem dX6_attempt_234 : decode cX6_attempt 234 = .ok (.getfield 27, 3) := by decide +kernel
theorem dX6_attempt_237 : decode cX6_attempt 237 = .ok (.iload 6, 2) := by decide +kernel
theorem dX6_attempt_239 : decode cX6_attempt 239 = .ok (.iaload, 1) := by decide +kernel
theorem dX6_attempt_240 : decode cX6_attempt 240 = .ok (.aload_n 0, 1) := by decide +kernel
theorem dX6_attempt_241 : decode cX6_attempt 241 = .ok (.getfield 43, 3) := by decide +kernel
theorem dX6_attempt_244 : decode cX6_attempt 244 = .ok (.if_icmp .gt 17, 3) := by decide +kernel
theorem dX6_attempt_247 : decode cX6_attempt 247 = .ok (.aload_n 0, 1) := by decide +kernel
theorem dX6_attempt_248 : decode cX6_attempt 248 = .ok (.getfield 15, 3) := by decide +kernel
theorem dX6_attempt_251 : decode cX6_attempt 251 = .ok (.iload_n 2, 1) := by decide +kernel
theorem dX6_attempt_252 : decode cX6_attempt 252 = .ok (.iload_n 3, 1) := by decide +kernel
theorem dX6_attempt_253 : decode cX6_attempt 253 = .ok (.iastore, 1) := by decide +kernel
theorem dX6_attempt_254 : decode cX6_attempt 254 = .ok (.aload_n 0, 1) := by decide +kernel
theorem dX6_attempt_255 : decode cX6_attempt 255 = .ok (.aload_n 1, 1) := by decide +kernel
theorem dX6_attempt_256 : decode cX6_attempt 256 = .ok (.iload 6, 2) := by decide +kernel
theorem dX6_attempt_258 : decode cX6_attempt 258 = .ok (.invokevirtual 59, 3) := by decide +kernel
theorem dX6_attempt_261 : decode cX6_attempt 261 = .ok (.return_, 1) := by decide +kernel
theorem dX6_mayHave_0 : decode cX6_mayHave 0 = .ok (.iload_n 2, 1) := by decide +kernel
theorem dX6_mayHave_1 : decode cX6_mayHave 1 = .ok (.ifCond .lt 9, 3) := by decide +kernel
theorem dX6_mayHave_4 : decode cX6_mayHave 4 = .ok (.iload_n 2, 1) := by decide +kernel
theorem dX6_mayHave_5 : decode cX6_mayHave 5 = .ok (.bipush 7, 2) := by decide +kernel
theorem dX6_mayHave_7 : decode cX6_mayHave 7 = .ok (.if_icmp .lt 5, 3) := by decide +kernel
theorem dX6_mayHave_10 : decode cX6_mayHave 10 = .ok (.iconst 0, 1) := by decide +kernel
theorem dX6_mayHave_11 : decode cX6_mayHave 11 = .ok (.ireturn, 1) := by decide +kernel
theorem dX6_mayHave_12 : decode cX6_mayHave 12 = .ok (.aload_n 0, 1) := by decide +kernel
theorem dX6_mayHave_13 : decode cX6_mayHave 13 = .ok (.getfield 9, 3) := by decide +kernel
theorem dX6_mayHave_16 : decode cX6_mayHave 16 = .ok (.iload_n 2, 1) := by decide +kernel
theorem dX6_mayHave_17 : decode cX6_mayHave 17 = .ok (.iaload, 1) := by decide +kernel
theorem dX6_mayHave_18 : decode cX6_mayHave 18 = .ok (.istore 4, 2) := by decide +kernel
theorem dX6_mayHave_20 : decode cX6_mayHave 20 = .ok (.iload_n 3, 1) := by decide +kernel
theorem dX6_mayHave_21 : decode cX6_mayHave 21 = .ok (.iconst 3, 1) := by decide +kernel
theorem dX6_mayHave_22 : decode cX6_mayHave 22 = .ok (.if_icmp .ne 23, 3) := by decide +kernel
theorem dX6_mayHave_25 : decode cX6_mayHave 25 = .ok (.aload_n 0, 1) := by decide +kernel
theorem dX6_mayHave_26 : decode cX6_mayHave 26 = .ok (.getfield 33, 3) := by decide +kernel
theorem dX6_mayHave_29 : decode cX6_mayHave 29 = .ok (.iload_n 2, 1) := by decide +kernel
theorem dX6_mayHave_30 : decode cX6_mayHave 30 = .ok (.iaload, 1) := by decide +kernel
theorem dX6_mayHave_31 : decode cX6_mayHave 31 = .ok (.iload 4, 2) := by decide +kernel
theorem dX6_mayHave_33 : decode cX6_mayHave 33 = .ok (.iushr, 1) := by decide +kernel
theorem dX6_mayHave_34 : decode cX6_mayHave 34 = .ok (.iconst 1, 1) := by decide +kernel
theorem dX6_mayHave_35 : decode cX6_mayHave 35 = .ok (.iand, 1) := by decide +kernel
theorem dX6_mayHave_36 : decode cX6_mayHave 36 = .ok (.ifCond .ne 7, 3) := by decide +kernel
theorem dX6_mayHave_39 : decode cX6_mayHave 39 = .ok (.iconst 1, 1) := by decide +kernel
theorem dX6_mayHave_40 : decode cX6_mayHave 40 = .ok (.goto 4, 3) := by decide +kernel
theorem dX6_mayHave_43 : decode cX6_mayHave 43 = .ok (.iconst 0, 1) := by decide +kernel
theorem dX6_mayHave_44 : decode cX6_mayHave 44 = .ok (.ireturn, 1) := by decide +kernel
theorem dX6_mayHave_45 : decode cX6_mayHave 45 = .ok (.aload_n 1, 1) := by decide +kernel
theorem dX6_mayHave_46 : decode cX6_mayHave 46 = .ok (.iload 4, 2) := by decide +kernel
theorem dX6_mayHave_48 : decode cX6_mayHave 48 = .ok (.invokevirtual 69, 3) := by decide +kernel
theorem dX6_mayHave_51 : decode cX6_mayHave 51 = .ok (.iload_n 3, 1) := by decide +kernel
theorem dX6_mayHave_52 : decode cX6_mayHave 52 = .ok (.invokevirtual 82, 3) := by decide +kernel
theorem dX6_mayHave_55 : decode cX6_mayHave 55 = .ok (.ifCond .eq 23, 3) := by decide +kernel
theorem dX6_mayHave_58 : decode cX6_mayHave 58 = .ok (.aload_n 1, 1) := by decide +kernel
theorem dX6_mayHave_59 : decode cX6_mayHave 59 = .ok (.iload 4, 2) := by decide +kernel
theorem dX6_mayHave_61 : decode cX6_mayHave 61 = .ok (.invokevirtual 125, 3) := by decide +kernel
theorem dX6_mayHave_64 : decode cX6_mayHave 64 = .ok (.aload_n 0, 1) := by decide +kernel
theorem dX6_mayHave_65 : decode cX6_mayHave 65 = .ok (.getfield 30, 3) := by decide +kernel
theorem dX6_mayHave_68 : decode cX6_mayHave 68 = .ok (.iload_n 2, 1) := by decide +kernel
theorem dX6_mayHave_69 : decode cX6_mayHave 69 = .ok (.iaload, 1) := by decide +kernel
theorem dX6_mayHave_70 : decode cX6_mayHave 70 = .ok (.iand, 1) := by decide +kernel
theorem dX6_mayHave_71 : decode cX6_mayHave 71 = .ok (.ifCond .ne 7, 3) := by decide +kernel
theorem dX6_mayHave_74 : decode cX6_mayHave 74 = .ok (.iconst 1, 1) := by decide +kernel
theorem dX6_mayHave_75 : decode cX6_mayHave 75 = .ok (.goto 4, 3) := by decide +kernel
theorem dX6_mayHave_78 : decode cX6_mayHave 78 = .ok (.iconst 0, 1) := by decide +kernel
theorem dX6_mayHave_79 : decode cX6_mayHave 79 = .ok (.ireturn, 1) := by decide +kernel
theorem dX6_isBetter_0 : decode cX6_isBetter 0 = .ok (.iload_n 1, 1) := by decide +kernel
theorem dX6_isBetter_1 : decode cX6_isBetter 1 = .ok (.aload_n 0, 1) := by decide +kernel
theorem dX6_isBetter_2 : decode cX6_isBetter 2 = .ok (.getfield 46, 3) := by decide +kernel
theorem dX6_isBetter_5 : decode cX6_isBetter 5 = .ok (.if_icmp .eq 17, 3) := by decide +kernel
theorem dX6_isBetter_8 : decode cX6_isBetter 8 = .ok (.iload_n 1, 1) := by decide +kernel
theorem dX6_isBetter_9 : decode cX6_isBetter 9 = .ok (.aload_n 0, 1) := by decide +kernel
theorem dX6_isBetter_10 : decode cX6_isBetter 10 = .ok (.getfield 46, 3) := by decide +kernel
theorem dX6_isBetter_13 : decode cX6_isBetter 13 = .ok (.if_icmp .le 7, 3) := by decide +kernel
theorem dX6_isBetter_16 : decode cX6_isBetter 16 = .ok (.iconst 1, 1) := by decide +kernel
theorem dX6_isBetter_17 : decode cX6_isBetter 17 = .ok (.goto 4, 3) := by decide +kernel
theorem dX6_isBetter_20 : decode cX6_isBetter 20 = .ok (.iconst 0, 1) := by decide +kernel
theorem dX6_isBetter_21 : decode cX6_isBetter 21 = .ok (.ireturn, 1) := by decide +kernel
theorem dX6_isBetter_22 : decode cX6_isBetter 22 = .ok (.iload_n 2, 1) := by decide +kernel
theorem dX6_isBetter_23 : decode cX6_isBetter 23 = .ok (.aload_n 0, 1) := by decide +kernel
theorem dX6_isBetter_24 : decode cX6_isBetter 24 = .ok (.getfield 49, 3) := by decide +kernel
theorem dX6_isBetter_27 : decode cX6_isBetter 27 = .ok (.if_icmp .eq 17, 3) := by decide +kernel
theorem dX6_isBetter_30 : decode cX6_isBetter 30 = .ok (.iload_n 2, 1) := by decide +kernel
theorem dX6_isBetter_31 : decode cX6_isBetter 31 = .ok (.aload_n 0, 1) := by decide +kernel
theorem dX6_isBetter_32 : decode cX6_isBetter 32 = .ok (.getfield 49, 3) := by decide +kernel
theorem dX6_isBetter_35 : decode cX6_isBetter 35 = .ok (.if_icmp .ge 7, 3) := by decide +kernel
theorem dX6_isBetter_38 : decode cX6_isBetter 38 = .ok (.iconst 1, 1) := by decide +kernel
theorem dX6_isBetter_39 : decode cX6_isBetter 39 = .ok (.goto 4, 3) := by decide +kernel
theorem dX6_isBetter_42 : decode cX6_isBetter 42 = .ok (.iconst 0, 1) := by decide +kernel
theorem dX6_isBetter_43 : decode cX6_isBetter 43 = .ok (.ireturn, 1) := by decide +kernel
theorem dX6_isBetter_44 : decode cX6_isBetter 44 = .ok (.iload_n 3, 1) := by decide +kernel
theorem dX6_isBetter_45 : decode cX6_isBetter 45 = .ok (.aload_n 0, 1) := by decide +kernel
theorem dX6_isBetter_46 : decode cX6_isBetter 46 = .ok (.getfield 52, 3) := by decide +kernel
theorem dX6_isBetter_49 : decode cX6_isBetter 49 = .ok (.if_icmp .ge 7, 3) := by decide +kernel
theorem dX6_isBetter_52 : decode cX6_isBetter 52 = .ok (.iconst 1, 1) := by decide +kernel
theorem dX6_isBetter_53 : decode cX6_isBetter 53 = .ok (.goto 4, 3) := by decide +kernel
theorem dX6_isBetter_56 : decode cX6_isBetter 56 = .ok (.iconst 0, 1) := by decide +kernel
theorem dX6_isBetter_57 : decode cX6_isBetter 57 = .ok (.ireturn, 1) := by decide +kernel
theorem dX7_init_0 : decode cX7_init 0 = .ok (.aload_n 0, 1) := by decide +kernel
theorem dX7_init_1 : decode cX7_init 1 = .ok (.invokespecial 3, 3) := by decide +kernel
theorem dX7_init_4 : decode cX7_init 4 = .ok (.aload_n 0, 1) := by decide +kernel
theorem dX7_init_5 : decode cX7_init 5 = .ok (.bipush 64, 2) := by decide +kernel
theorem dX7_init_7 : decode cX7_init 7 = .ok (.newarray .int, 2) := by decide +kernel
theorem dX7_init_9 : decode cX7_init 9 = .ok (.putfield 9, 3) := by decide +kernel
theorem dX7_init_12 : decode cX7_init 12 = .ok (.aload_n 0, 1) := by decide +kernel
theorem dX7_init_13 : decode cX7_init 13 = .ok (.bipush 64, 2) := by decide +kernel
theorem dX7_init_15 : decode cX7_init 15 = .ok (.newarray .int, 2) := by decide +kernel
theorem dX7_init_17 : decode cX7_init 17 = .ok (.putfield 15, 3) := by decide +kernel
theorem dX7_init_20 : decode cX7_init 20 = .ok (.aload_n 0, 1) := by decide +kernel
theorem dX7_init_21 : decode cX7_init 21 = .ok (.bipush 16, 2) := by decide +kernel
theorem dX7_init_23 : decode cX7_init 23 = .ok (.newarray .int, 2) := by decide +kernel
theorem dX7_init_25 : decode cX7_init 25 = .ok (.putfield 18, 3) := by decide +kernel
theorem dX7_init_28 : decode cX7_init 28 = .ok (.aload_n 0, 1) := by decide +kernel
theorem dX7_init_29 : decode cX7_init 29 = .ok (.bipush 16, 2) := by decide +kernel
theorem dX7_init_31 : decode cX7_init 31 = .ok (.newarray .int, 2) := by decide +kernel
theorem dX7_init_33 : decode cX7_init 33 = .ok (.putfield 21, 3) := by decide +kernel
theorem dX7_init_36 : decode cX7_init 36 = .ok (.aload_n 0, 1) := by decide +kernel
theorem dX7_init_37 : decode cX7_init 37 = .ok (.sipush 5120, 3) := by decide +kernel
theorem dX7_init_40 : decode cX7_init 40 = .ok (.newarray .int, 2) := by decide +kernel
theorem dX7_init_42 : decode cX7_init 42 = .ok (.putfield 24, 3) := by decide +kernel
theorem dX7_init_45 : decode cX7_init 45 = .ok (.aload_n 0, 1) := by decide +kernel
theorem dX7_init_46 : decode cX7_init 46 = .ok (.sipush 5120, 3) := by decide +kernel
theorem dX7_init_49 : decode cX7_init 49 = .ok (.newarray .int, 2) := by decide +kernel
theorem dX7_init_51 : decode cX7_init 51 = .ok (.putfield 27, 3) := by decide +kernel
theorem dX7_init_54 : decode cX7_init 54 = .ok (.aload_n 0, 1) := by decide +kernel
theorem dX7_init_55 : decode cX7_init 55 = .ok (.sipush 5120, 3) := by decide +kernel
theorem dX7_init_58 : decode cX7_init 58 = .ok (.newarray .int, 2) := by decide +kernel
theorem dX7_init_60 : decode cX7_init 60 = .ok (.putfield 30, 3) := by decide +kernel
theorem dX7_init_63 : decode cX7_init 63 = .ok (.return_, 1) := by decide +kernel
theorem dX7_wordAt_0 : decode cX7_wordAt 0 = .ok (.iload_n 1, 1) := by decide +kernel
theorem dX7_wordAt_1 : decode cX7_wordAt 1 = .ok (.ifCond .lt 18, 3) := by decide +kernel
theorem dX7_wordAt_4 : decode cX7_wordAt 4 = .ok (.iload_n 1, 1) := by decide +kernel
theorem dX7_wordAt_5 : decode cX7_wordAt 5 = .ok (.bipush 64, 2) := by decide +kernel
theorem dX7_wordAt_7 : decode cX7_wordAt 7 = .ok (.if_icmp .ge 12, 3) := by decide +kernel
theorem dX7_wordAt_10 : decode cX7_wordAt 10 = .ok (.aload_n 0, 1) := by decide +kernel
theorem dX7_wordAt_11 : decode cX7_wordAt 11 = .ok (.getfield 9, 3) := by decide +kernel
theorem dX7_wordAt_14 : decode cX7_wordAt 14 = .ok (.iload_n 1, 1) := by decide +kernel
theorem dX7_wordAt_15 : decode cX7_wordAt 15 = .ok (.iaload, 1) := by decide +kernel
theorem dX7_wordAt_16 : decode cX7_wordAt 16 = .ok (.goto 4, 3) := by decide +kernel
theorem dX7_wordAt_19 : decode cX7_wordAt 19 = .ok (.iconst 0, 1) := by decide +kernel
theorem dX7_wordAt_20 : decode cX7_wordAt 20 = .ok (.ireturn, 1) := by decide +kernel
theorem dX7_oldAt_0 : decode cX7_oldAt 0 = .ok (.iload_n 1, 1) := by decide +kernel
theorem dX7_oldAt_1 : decode cX7_oldAt 1 = .ok (.ifCond .lt 18, 3) := by decide +kernel
theorem dX7_oldAt_4 : decode cX7_oldAt 4 = .ok (.iload_n 1, 1) := by decide +kernel
theorem dX7_oldAt_5 : decode cX7_oldAt 5 = .ok (.bipush 64, 2) := by decide +kernel
theorem dX7_oldAt_7 : decode cX7_oldAt 7 = .ok (.if_icmp .ge 12, 3) := by decide +kernel
theorem dX7_oldAt_10 : decode cX7_oldAt 10 = .ok (.aload_n 0, 1) := by decide +kernel
theorem dX7_oldAt_11 : decode cX7_oldAt 11 = .ok (.getfield 15, 3) := by decide +kernel
theorem dX7_oldAt_14 : decode cX7_oldAt 14 = .ok (.iload_n 1, 1) := by decide +kernel
theorem dX7_oldAt_15 : decode cX7_oldAt 15 = .ok (.iaload, 1) := by decide +kernel
theorem dX7_oldAt_16 : decode cX7_oldAt 16 = .ok (.goto 4, 3) := by decide +kernel
theorem dX7_oldAt_19 : decode cX7_oldAt 19 = .ok (.iconst 0, 1) := by decide +kernel
theorem dX7_oldAt_20 : decode cX7_oldAt 20 = .ok (.ireturn, 1) := by decide +kernel
theorem dX7_putOld_0 : decode cX7_putOld 0 = .ok (.iload_n 1, 1) := by decide +kernel
theorem dX7_putOld_1 : decode cX7_putOld 1 = .ok (.ifCond .lt 16, 3) := by decide +kernel
theorem dX7_putOld_4 : decode cX7_putOld 4 = .ok (.iload_n 1, 1) := by decide +kernel
theorem dX7_putOld_5 : decode cX7_putOld 5 = .ok (.bipush 64, 2) := by decide +kernel
theorem dX7_putOld_7 : decode cX7_putOld 7 = .ok (.if_icmp .ge 10, 3) := by decide +kernel
theorem dX7_putOld_10 : decode cX7_putOld 10 = .ok (.aload_n 0, 1) := by decide +kernel
theorem dX7_putOld_11 : decode cX7_putOld 11 = .ok (.getfield 15, 3) := by decide +kernel
theorem dX7_putOld_14 : decode cX7_putOld 14 = .ok (.iload_n 1, 1) := by decide +kernel
theorem dX7_putOld_15 : decode cX7_putOld 15 = .ok (.iload_n 2, 1) := by decide +kernel
theorem dX7_putOld_16 : decode cX7_putOld 16 = .ok (.iastore, 1) := by decide +kernel
theorem dX7_putOld_17 : decode cX7_putOld 17 = .ok (.return_, 1) := by decide +kernel
theorem dX7_takePen_0 : decode cX7_takePen 0 = .ok (.aload_n 0, 1) := by decide +kernel
theorem dX7_takePen_1 : decode cX7_takePen 1 = .ok (.iload_n 1, 1) := by decide +kernel
theorem dX7_takePen_2 : decode cX7_takePen 2 = .ok (.iconst 1, 1) := by decide +kernel
theorem dX7_takePen_3 : decode cX7_takePen 3 = .ok (.iadd, 1) := by decide +kernel
theorem dX7_takePen_4 : decode cX7_takePen 4 = .ok (.bipush 6, 2) := by decide +kernel
theorem dX7_takePen_6 : decode cX7_takePen 6 = .ok (.ishl, 1) := by decide +kernel
theorem dX7_takePen_7 : decode cX7_takePen 7 = .ok (.iload_n 2, 1) := by decide +kernel
theorem dX7_takePen_8 : decode cX7_takePen 8 = .ok (.bipush 10, 2) := by decide +kernel
theorem dX7_takePen_10 : decode cX7_takePen 10 = .ok (.ishl, 1) := by decide +kernel
theorem dX7_takePen_11 : decode cX7_takePen 11 = .ok (.ior, 1) := by decide +kernel
theorem dX7_takePen_12 : decode cX7_takePen 12 = .ok (.ldc 33, 2) := by decide +kernel
theorem dX7_takePen_14 : decode cX7_takePen 14 = .ok (.ior, 1) := by decide +kernel
theorem dX7_takePen_15 : decode cX7_takePen 15 = .ok (.iload_n 3, 1) := by decide +kernel
theorem dX7_takePen_16 : decode cX7_takePen 16 = .ok (.ifCond .eq 8, 3) := by decide +kernel
theorem dX7_takePen_19 : decode cX7_takePen 19 = .ok (.ldc 34, 2) := by decide +kernel
theorem dX7_takePen_21 : decode cX7_takePen 21 = .ok (.goto 4, 3) := by decide +kernel
theorem dX7_takePen_24 : decode cX7_takePen 24 = .ok (.iconst 0, 1) := by decide +kernel
theorem dX7_takePen_25 : decode cX7_takePen 25 = .ok (.ior, 1) := by decide +kernel
theorem dX7_takePen_26 : decode cX7_takePen 26 = .ok (.iload 4, 2) := by decide +kernel
theorem dX7_takePen_28 : decode cX7_takePen 28 = .ok (.ifCond .eq 8, 3) := by decide +kernel
theorem dX7_takePen_31 : decode cX7_takePen 31 = .ok (.ldc 35, 2) := by decide +kernel
theorem dX7_takePen_33 : decode cX7_takePen 33 = .ok (.goto 4, 3) := by decide +kernel
theorem dX7_takePen_36 : decode cX7_takePen 36 = .ok (.iconst 0, 1) := by decide +kernel
theorem dX7_takePen_37 : decode cX7_takePen 37 = .ok (.ior, 1) := by decide +kernel
theorem dX7_takePen_38 : decode cX7_takePen 38 = .ok (.putfield 36, 3) := by decide +kernel
theorem dX7_takePen_41 : decode cX7_takePen 41 = .ok (.return_, 1) := by decide +kernel
theorem dX7_write_0 : decode cX7_write 0 = .ok (.iload_n 1, 1) := by decide +kernel
theorem dX7_write_1 : decode cX7_write 1 = .ok (.ifCond .lt 9, 3) := by decide +kernel
theorem dX7_write_4 : decode cX7_write 4 = .ok (.iload_n 1, 1) := by decide +kernel
theorem dX7_write_5 : decode cX7_write 5 = .ok (.bipush 64, 2) := by decide +kernel
theorem dX7_write_7 : decode cX7_write 7 = .ok (.if_icmp .lt 4, 3) := by decide +kernel
theorem dX7_write_10 : decode cX7_write 10 = .ok (.return_, 1) := by decide +kernel
theorem dX7_write_11 : decode cX7_write 11 = .ok (.iload_n 1, 1) := by decide +kernel
theorem dX7_write_12 : decode cX7_write 12 = .ok (.bipush 16, 2) := by decide +kernel
theorem dX7_write_14 : decode cX7_write 14 = .ok (.irem, 1) := by decide +kernel
theorem dX7_write_15 : decode cX7_write 15 = .ok (.istore_n 3, 1) := by decide +kernel
theorem dX7_write_16 : decode cX7_write 16 = .ok (.aload_n 0, 1) := by decide +kernel
theorem dX7_write_17 : decode cX7_write 17 = .ok (.getfield 36, 3) := by decide +kernel
theorem dX7_write_20 : decode cX7_write 20 = .ok (.ldc 34, 2) := by decide +kernel
theorem dX7_write_22 : decode cX7_write 22 = .ok (.iand, 1) := by decide +kernel
theorem dX7_write_23 : decode cX7_write 23 = .ok (.ifCond .eq 22, 3) := by decide +kernel
theorem dX7_write_26 : decode cX7_write 26 = .ok (.aload_n 0, 1) := by decide +kernel
theorem dX7_write_27 : decode cX7_write 27 = .ok (.iload_n 3, 1) := by decide +kernel
theorem dX7_write_28 : decode cX7_write 28 = .ok (.aload_n 0, 1) := by decide +kernel
theorem dX7_write_29 : decode cX7_write 29 = .ok (.getfield 36, 3) := by decide +kernel
theorem dX7_write_32 : decode cX7_write 32 = .ok (.invokestatic 40, 3) := by decide +kernel
theorem dX7_write_35 : decode cX7_write 35 = .ok (.invokevirtual 44, 3) := by decide +kernel
theorem dX7_write_38 : decode cX7_write 38 = .ok (.ifCond .eq 7, 3) := by decide +kernel
theorem dX7_write_41 : decode cX7_write 41 = .ok (.iconst 1, 1) := by decide +kernel
theorem dX7_write_42 : decode cX7_write 42 = .ok (.goto 4, 3) := by decide +kernel
theorem dX7_write_45 : decode cX7_write 45 = .ok (.iconst 0, 1) := by decide +kernel
theorem dX7_write_46 : decode cX7_write 46 = .ok (.istore 4, 2) := by decide +kernel
theorem dX7_write_48 : decode cX7_write 48 = .ok (.iload 4, 2) := by decide +kernel
theorem dX7_write_50 : decode cX7_write 50 = .ok (.ifCond .eq 14, 3) := by decide +kernel
theorem dX7_write_53 : decode cX7_write 53 = .ok (.iload_n 2, 1) := by decide +kernel
theorem dX7_write_54 : decode cX7_write 54 = .ok (.aload_n 0, 1) := by decide +kernel
theorem dX7_write_55 : decode cX7_write 55 = .ok (.getfield 21, 3) := by decide +kernel
theorem dX7_write_58 : decode cX7_write 58 = .ok (.iload_n 3, 1) := by decide +kernel
theorem dX7_write_59 : decode cX7_write 59 = .ok (.iaload, 1) := by decide +kernel
theorem dX7_write_60 : decode cX7_write 60 = .ok (.ixor, 1) := by decide +kernel
theorem dX7_write_61 : decode cX7_write 61 = .ok (.goto 4, 3) := by decide +kernel
theorem dX7_write_64 : decode cX7_write 64 = .ok (.iload_n 2, 1) := by decide +kernel
theorem dX7_write_65 : decode cX7_write 65 = .ok (.istore 5, 2) := by decide +kernel
theorem dX7_write_67 : decode cX7_write 67 = .ok (.aload_n 0, 1) := by decide +kernel
theorem dX7_write_68 : decode cX7_write 68 = .ok (.getfield 9, 3) := by decide +kernel
theorem dX7_write_71 : decode cX7_write 71 = .ok (.iload_n 1, 1) := by decide +kernel
theorem dX7_write_72 : decode cX7_write 72 = .ok (.iload 5, 2) := by decide +kernel
theorem dX7_write_74 : decode cX7_write 74 = .ok (.iastore, 1) := by decide +kernel
theorem dX7_write_75 : decode cX7_write 75 = .ok (.aload_n 0, 1) := by decide +kernel
theorem dX7_write_76 : decode cX7_write 76 = .ok (.getfield 48, 3) := by decide +kernel
theorem dX7_write_79 : decode cX7_write 79 = .ok (.ifCond .lt 59, 3) := by decide +kernel
theorem dX7_write_82 : decode cX7_write 82 = .ok (.aload_n 0, 1) := by decide +kernel
theorem dX7_write_83 : decode cX7_write 83 = .ok (.getfield 48, 3) := by decide +kernel
theorem dX7_write_86 : decode cX7_write 86 = .ok (.sipush 5120, 3) := by decide +kernel
theorem dX7_write_89 : decode cX7_write 89 = .ok (.if_icmp .ge 49, 3) := by decide +kernel
theorem dX7_write_92 : decode cX7_write 92 = .ok (.aload_n 0, 1) := by decide +kernel
theorem dX7_write_93 : decode cX7_write 93 = .ok (.getfield 24, 3) := by decide +kernel
theorem dX7_write_96 : decode cX7_write 96 = .ok (.aload_n 0, 1) := by decide +kernel
theorem dX7_write_97 : decode cX7_write 97 = .ok (.getfield 48, 3) := by decide +kernel
theorem dX7_write_100 : decode cX7_write 100 = .ok (.iload 5, 2) := by decide +kernel
theorem dX7_write_102 : decode cX7_write 102 = .ok (.iastore, 1) := by decide +kernel
theorem dX7_write_103 : decode cX7_write 103 = .ok (.aload_n 0, 1) := by decide +kernel
theorem dX7_write_104 : decode cX7_write 104 = .ok (.getfield 27, 3) := by decide +kernel
theorem dX7_write_107 : decode cX7_write 107 = .ok (.aload_n 0, 1) := by decide +kernel
theorem dX7_write_108 : decode cX7_write 108 = .ok (.getfield 48, 3) := by decide +kernel
theorem dX7_write_111 : decode cX7_write 111 = .ok (.iconst 0, 1) := by decide +kernel
theorem dX7_write_112 : decode cX7_write 112 = .ok (.iastore, 1) := by decide +kernel
theorem dX7_write_113 : decode cX7_write 113 = .ok (.aload_n 0, 1) := by decide +kernel
theorem dX7_write_114 : decode cX7_write 114 = .ok (.getfield 30, 3) := by decide +kernel
theorem dX7_write_117 : decode cX7_write 117 = .ok (.aload_n 0, 1) := by decide +kernel
theorem dX7_write_118 : decode cX7_write 118 = .ok (.getfield 48, 3) := by decide +kernel
theorem dX7_write_121 : decode cX7_write 121 = .ok (.aload_n 0, 1) := by decide +kernel
theorem dX7_write_122 : decode cX7_write 122 = .ok (.getfield 36, 3) := by decide +kernel
theorem dX7_write_125 : decode cX7_write 125 = .ok (.iload_n 1, 1) := by decide +kernel
theorem dX7_write_126 : decode cX7_write 126 = .ok (.ior, 1) := by decide +kernel
theorem dX7_write_127 : decode cX7_write 127 = .ok (.iastore, 1) := by decide +kernel
theorem dX7_write_128 : decode cX7_write 128 = .ok (.aload_n 0, 1) := by decide +kernel
theorem dX7_write_129 : decode cX7_write 129 = .ok (.dup, 1) := by decide +kernel
theorem dX7_write_130 : decode cX7_write 130 = .ok (.getfield 48, 3) := by decide +kernel
theorem dX7_write_133 : decode cX7_write 133 = .ok (.iconst 1, 1) := by decide +kernel
theorem dX7_write_134 : decode cX7_write 134 = .ok (.iadd, 1) := by decide +kernel
theorem dX7_write_135 : decode cX7_write 135 = .ok (.putfield 48, 3) := by decide +kernel
theorem dX7_write_138 : decode cX7_write 138 = .ok (.aload_n 0, 1) := by decide +kernel
theorem dX7_write_139 : decode cX7_write 139 = .ok (.dup, 1) := by decide +kernel
theorem dX7_write_140 : decode cX7_write 140 = .ok (.getfield 36, 3) := by decide +kernel
theorem dX7_write_143 : decode cX7_write 143 = .ok (.ldc 51, 2) := by decide +kernel
theorem dX7_write_145 : decode cX7_write 145 = .ok (.iand, 1) := by decide +kernel
theorem dX7_write_146 : decode cX7_write 146 = .ok (.putfield 36, 3) := by decide +kernel
theorem dX7_write_149 : decode cX7_write 149 = .ok (.return_, 1) := by decide +kernel
theorem dX7_hasFailed_0 : decode cX7_hasFailed 0 = .ok (.aload_n 0, 1) := by decide +kernel
theorem dX7_hasFailed_1 : decode cX7_hasFailed 1 = .ok (.getfield 21, 3) := by decide +kernel
theorem dX7_hasFailed_4 : decode cX7_hasFailed 4 = .ok (.iload_n 1, 1) := by decide +kernel
theorem dX7_hasFailed_5 : decode cX7_hasFailed 5 = .ok (.iaload, 1) := by decide +kernel
theorem dX7_hasFailed_6 : decode cX7_hasFailed 6 = .ok (.ifCond .eq 17, 3) := by decide +kernel
theorem dX7_hasFailed_9 : decode cX7_hasFailed 9 = .ok (.aload_n 0, 1) := by decide +kernel
theorem dX7_hasFailed_10 : decode cX7_hasFailed 10 = .ok (.getfield 18, 3) := by decide +kernel
theorem dX7_hasFailed_13 : decode cX7_hasFailed 13 = .ok (.iload_n 1, 1) := by decide +kernel
theorem dX7_hasFailed_14 : decode cX7_hasFailed 14 = .ok (.iaload, 1) := by decide +kernel
theorem dX7_hasFailed_15 : decode cX7_hasFailed 15 = .ok (.iload_n 2, 1) := by decide +kernel
theorem dX7_hasFailed_16 : decode cX7_hasFailed 16 = .ok (.if_icmp .gt 7, 3) := by decide +kernel
theorem dX7_hasFailed_19 : decode cX7_hasFailed 19 = .ok (.iconst 1, 1) := by decide +kernel
theorem dX7_hasFailed_20 : decode cX7_hasFailed 20 = .ok (.goto 4, 3) := by decide +kernel
theorem dX7_hasFailed_23 : decode cX7_hasFailed 23 = .ok (.iconst 0, 1) := by decide +kernel
theorem dX7_hasFailed_24 : decode cX7_hasFailed 24 = .ok (.ireturn, 1) := by decide +kernel
theorem dX7_failLamp_0 : decode cX7_failLamp 0 = .ok (.iload_n 1, 1) := by decide +kernel
theorem dX7_failLamp_1 : decode cX7_failLamp 1 = .ok (.ifCond .lt 18, 3) := by decide +kernel
theorem dX7_failLamp_4 : decode cX7_failLamp 4 = .ok (.iload_n 1, 1) := by decide +kernel
theorem dX7_failLamp_5 : decode cX7_failLamp 5 = .ok (.bipush 16, 2) := by decide +kernel
theorem dX7_failLamp_7 : decode cX7_failLamp 7 = .ok (.if_icmp .ge 12, 3) := by decide +kernel
theorem dX7_failLamp_10 : decode cX7_failLamp 10 = .ok (.aload_n 0, 1) := by decide +kernel
theorem dX7_failLamp_11 : decode cX7_failLamp 11 = .ok (.getfield 21, 3) := by decide +kernel
theorem dX7_failLamp_14 : decode cX7_failLamp 14 = .ok (.iload_n 1, 1) := by decide +kernel
theorem dX7_failLamp_15 : decode cX7_failLamp 15 = .ok (.iaload, 1) := by decide +kernel
theorem dX7_failLamp_16 : decode cX7_failLamp 16 = .ok (.ifCond .eq 5, 3) := by decide +kernel
theorem dX7_failLamp_19 : decode cX7_failLamp 19 = .ok (.iconst 0, 1) := by decide +kernel
theorem dX7_failLamp_20 : decode cX7_failLamp 20 = .ok (.ireturn, 1) := by decide +kernel
theorem dX7_failLamp_21 : decode cX7_failLamp 21 = .ok (.aload_n 0, 1) := by decide +kernel
theorem dX7_failLamp_22 : decode cX7_failLamp 22 = .ok (.getfield 18, 3) := by decide +kernel
theorem dX7_failLamp_25 : decode cX7_failLamp 25 = .ok (.iload_n 1, 1) := by decide +kernel
theorem dX7_failLamp_26 : decode cX7_failLamp 26 = .ok (.iload_n 2, 1) := by decide +kernel
theorem dX7_failLamp_27 : decode cX7_failLamp 27 = .ok (.iastore, 1) := by decide +kernel
theorem dX7_failLamp_28 : decode cX7_failLamp 28 = .ok (.aload_n 0, 1) := by decide +kernel
theorem dX7_failLamp_29 : decode cX7_failLamp 29 = .ok (.getfield 21, 3) := by decide +kernel
theorem dX7_failLamp_32 : decode cX7_failLamp 32 = .ok (.iload_n 1, 1) := by decide +kernel
theorem dX7_failLamp_33 : decode cX7_failLamp 33 = .ok (.iload_n 3, 1) := by decide +kernel
theorem dX7_failLamp_34 : decode cX7_failLamp 34 = .ok (.iastore, 1) := by decide +kernel
theorem dX7_failLamp_35 : decode cX7_failLamp 35 = .ok (.iconst 1, 1) := by decide +kernel
theorem dX7_failLamp_36 : decode cX7_failLamp 36 = .ok (.ireturn, 1) := by decide +kernel
theorem dX7_testLamps_0 : decode cX7_testLamps 0 = .ok (.iconst 0, 1) := by decide +kernel
theorem dX7_testLamps_1 : decode cX7_testLamps 1 = .ok (.istore 4, 2) := by decide +kernel
theorem dX7_testLamps_3 : decode cX7_testLamps 3 = .ok (.iconst 0, 1) := by decide +kernel
theorem dX7_testLamps_4 : decode cX7_testLamps 4 = .ok (.istore 5, 2) := by decide +kernel
theorem dX7_testLamps_6 : decode cX7_testLamps 6 = .ok (.iload 5, 2) := by decide +kernel
theorem dX7_testLamps_8 : decode cX7_testLamps 8 = .ok (.bipush 16, 2) := by decide +kernel
theorem dX7_testLamps_10 : decode cX7_testLamps 10 = .ok (.if_icmp .ge 58, 3) := by decide +kernel
theorem dX7_testLamps_13 : decode cX7_testLamps 13 = .ok (.iload 5, 2) := by decide +kernel
theorem dX7_testLamps_15 : decode cX7_testLamps 15 = .ok (.iload_n 1, 1) := by decide +kernel
theorem dX7_testLamps_16 : decode cX7_testLamps 16 = .ok (.if_icmp .lt 46, 3) := by decide +kernel
theorem dX7_testLamps_19 : decode cX7_testLamps 19 = .ok (.iload 5, 2) := by decide +kernel
theorem dX7_testLamps_21 : decode cX7_testLamps 21 = .ok (.iload_n 2, 1) := by decide +kernel
theorem dX7_testLamps_22 : decode cX7_testLamps 22 = .ok (.if_icmp .gt 40, 3) := by decide +kernel
theorem dX7_testLamps_25 : decode cX7_testLamps 25 = .ok (.aload_n 0, 1) := by decide +kernel
theorem dX7_testLamps_26 : decode cX7_testLamps 26 = .ok (.iload 5, 2) := by decide +kernel
theorem dX7_testLamps_28 : decode cX7_testLamps 28 = .ok (.iload_n 3, 1) := by decide +kernel
theorem dX7_testLamps_29 : decode cX7_testLamps 29 = .ok (.invokevirtual 44, 3) := by decide +kernel
theorem dX7_testLamps_32 : decode cX7_testLamps 32 = .ok (.ifCond .eq 30, 3) := by decide +kernel
theorem dX7_testLamps_35 : decode cX7_testLamps 35 = .ok (.iload 4, 2) := by decide +kernel
theorem dX7_testLamps_37 : decode cX7_testLamps 37 = .ok (.iconst 1, 1) := by decide +kernel
theorem dX7_testLamps_38 : decode cX7_testLamps 38 = .ok (.iload 5, 2) := by decide +kernel
theorem dX7_testLamps_40 : decode cX7_testLamps 40 = .ok (.ishl, 1) := by decide +kernel
theorem dX7_testLamps_41 : decode cX7_testLamps 41 = .ok (.ior, 1) := by decide +kernel
theorem dX7_testLamps_42 : decode cX7_testLamps 42 = .ok (.istore 4, 2) := by decide +kernel
theorem dX7_testLamps_44 : decode cX7_testLamps 44 = .ok (.aload_n 0, 1) := by decide +kernel
theorem dX7_testLamps_45 : decode cX7_testLamps 45 = .ok (.getfield 21, 3) := by decide +kernel
theorem dX7_testLamps_48 : decode cX7_testLamps 48 = .ok (.iload 5, 2) := by decide +kernel
theorem dX7_testLamps_50 : decode cX7_testLamps 50 = .ok (.iconst 0, 1) := by decide +kernel
theorem dX7_testLamps_51 : decode cX7_testLamps 51 = .ok (.iastore, 1) := by decide +kernel
theorem dX7_testLamps_52 : decode cX7_testLamps 52 = .ok (.aload_n 0, 1) := by decide +kernel
theorem dX7_testLamps_53 : decode cX7_testLamps 53 = .ok (.dup, 1) := by decide +kernel
theorem dX7_testLamps_54 : decode cX7_testLamps 54 = .ok (.getfield 52, 3) := by decide +kernel
theorem dX7_testLamps_57 : decode cX7_testLamps 57 = .ok (.iconst 1, 1) := by decide +kernel
theorem dX7_testLamps_58 : decode cX7_testLamps 58 = .ok (.iadd, 1) := by decide +kernel
theorem dX7_testLamps_59 : decode cX7_testLamps 59 = .ok (.putfield 52, 3) := by decide +kernel
theorem dX7_testLamps_62 : decode cX7_testLamps 62 = .ok (.iinc 5 1, 3) := by decide +kernel
theorem dX7_testLamps_65 : decode cX7_testLamps 65 = .ok (.goto (-59), 3) := by decide +kernel
theorem dX7_testLamps_68 : decode cX7_testLamps 68 = .ok (.iconst 0, 1) := by decide +kernel
theorem dX7_testLamps_69 : decode cX7_testLamps 69 = .ok (.istore 5, 2) := by decide +kernel
theorem dX7_testLamps_71 : decode cX7_testLamps 71 = .ok (.iload 5, 2) := by decide +kernel
theorem dX7_testLamps_73 : decode cX7_testLamps 73 = .ok (.aload_n 0, 1) := by decide +kernel
theorem dX7_testLamps_74 : decode cX7_testLamps 74 = .ok (.getfield 48, 3) := by decide +kernel
theorem dX7_testLamps_77 : decode cX7_testLamps 77 = .ok (.if_icmp .ge 109, 3) := by decide +kernel
theorem dX7_testLamps_80 : decode cX7_testLamps 80 = .ok (.iload 5, 2) := by decide +kernel
theorem dX7_testLamps_82 : decode cX7_testLamps 82 = .ok (.sipush 5120, 3) := by decide +kernel
theorem dX7_testLamps_85 : decode cX7_testLamps 85 = .ok (.if_icmp .ge 101, 3) := by decide +kernel
theorem dX7_testLamps_88 : decode cX7_testLamps 88 = .ok (.aload_n 0, 1) := by decide +kernel
theorem dX7_testLamps_89 : decode cX7_testLamps 89 = .ok (.getfield 30, 3) := by decide +kernel
theorem dX7_testLamps_92 : decode cX7_testLamps 92 = .ok (.iload 5, 2) := by decide +kernel
theorem dX7_testLamps_94 : decode cX7_testLamps 94 = .ok (.iaload, 1) := by decide +kernel
theorem dX7_testLamps_95 : decode cX7_testLamps 95 = .ok (.invokestatic 55, 3) := by decide +kernel
theorem dX7_testLamps_98 : decode cX7_testLamps 98 = .ok (.bipush 16, 2) := by decide +kernel
theorem dX7_testLamps_100 : decode cX7_testLamps 100 = .ok (.irem, 1) := by decide +kernel
theorem dX7_testLamps_101 : decode cX7_testLamps 101 = .ok (.istore 6, 2) := by decide +kernel
theorem dX7_testLamps_103 : decode cX7_testLamps 103 = .ok (.aload_n 0, 1) := by decide +kernel
theorem dX7_testLamps_104 : decode cX7_testLamps 104 = .ok (.getfield 30, 3) := by decide +kernel
theorem dX7_testLamps_107 : decode cX7_testLamps 107 = .ok (.iload 5, 2) := by decide +kernel
theorem dX7_testLamps_109 : decode cX7_testLamps 109 = .ok (.iaload, 1) := by decide +kernel
theorem dX7_testLamps_110 : decode cX7_testLamps 110 = .ok (.ldc 34, 2) := by decide +kernel
theorem dX7_testLamps_112 : decode cX7_testLamps 112 = .ok (.iand, 1) := by decide +kernel
theorem dX7_testLamps_113 : decode cX7_testLamps 113 = .ok (.ifCond .eq 20, 3) := by decide +kernel
theorem dX7_testLamps_116 : decode cX7_testLamps 116 = .ok (.aload_n 0, 1) := by decide +kernel
theorem dX7_testLamps_117 : decode cX7_testLamps 117 = .ok (.getfield 30, 3) := by decide +kernel
theorem dX7_testLamps_120 : decode cX7_testLamps 120 = .ok (.iload 5, 2) := by decide +kernel
theorem dX7_testLamps_122 : decode cX7_testLamps 122 = .ok (.iaload, 1) := by decide +kernel
theorem dX7_testLamps_123 : decode cX7_testLamps 123 = .ok (.ldc 58, 2) := by decide +kernel
theorem dX7_testLamps_125 : decode cX7_testLamps 125 = .ok (.iand, 1) := by decide +kernel
theorem dX7_testLamps_126 : decode cX7_testLamps 126 = .ok (.ifCond .ne 7, 3) := by decide +kernel
theorem dX7_testLamps_129 : decode cX7_testLamps 129 = .ok (.iconst 1, 1) := by decide +kernel
theorem dX7_testLamps_130 : decode cX7_testLamps 130 = .ok (.goto 4, 3) := by decide +kernel
theorem dX7_testLamps_133 : decode cX7_testLamps 133 = .ok (.iconst 0, 1) := by decide +kernel
theorem dX7_testLamps_134 : decode cX7_testLamps 134 = .ok (.istore 7, 2) := by decide +kernel
theorem dX7_testLamps_136 : decode cX7_testLamps 136 = .ok (.iload 7, 2) := by decide +kernel
theorem dX7_testLamps_138 : decode cX7_testLamps 138 = .ok (.ifCond .eq 42, 3) := by decide +kernel
theorem dX7_testLamps_141 : decode cX7_testLamps 141 = .ok (.iload 6, 2) := by decide +kernel
theorem dX7_testLamps_143 : decode cX7_testLamps 143 = .ok (.iload_n 1, 1) := by decide +kernel
theorem dX7_testLamps_144 : decode cX7_testLamps 144 = .ok (.if_icmp .lt 36, 3) := by decide +kernel
theorem dX7_testLamps_147 : decode cX7_testLamps 147 = .ok (.iload 6, 2) := by decide +kernel
theorem dX7_testLamps_149 : decode cX7_testLamps 149 = .ok (.iload_n 2, 1) := by decide +kernel
theorem dX7_testLamps_150 : decode cX7_testLamps 150 = .ok (.if_icmp .gt 30, 3) := by decide +kernel
theorem dX7_testLamps_153 : decode cX7_testLamps 153 = .ok (.aload_n 0, 1) := by decide +kernel
theorem dX7_testLamps_154 : decode cX7_testLamps 154 = .ok (.getfield 30, 3) := by decide +kernel
theorem dX7_testLamps_157 : decode cX7_testLamps 157 = .ok (.iload 5, 2) := by decide +kernel
theorem dX7_testLamps_159 : decode cX7_testLamps 159 = .ok (.dup2, 1) := by decide +kernel
theorem dX7_testLamps_160 : decode cX7_testLamps 160 = .ok (.iaload, 1) := by decide +kernel
theorem dX7_testLamps_161 : decode cX7_testLamps 161 = .ok (.iload 4, 2) := by decide +kernel
theorem dX7_testLamps_163 : decode cX7_testLamps 163 = .ok (.iload 6, 2) := by decide +kernel
theorem dX7_testLamps_165 : decode cX7_testLamps 165 = .ok (.iushr, 1) := by decide +kernel
theorem dX7_testLamps_166 : decode cX7_testLamps 166 = .ok (.iconst 1, 1) := by decide +kernel
theorem dX7_testLamps_167 : decode cX7_testLamps 167 = .ok (.iand, 1) := by decide +kernel
theorem dX7_testLamps_168 : decode cX7_testLamps 168 = .ok (.ifCond .eq 8, 3) := by decide +kernel
theorem dX7_testLamps_171 : decode cX7_testLamps 171 = .ok (.ldc 59, 2) := by decide +kernel
theorem dX7_testLamps_173 : decode cX7_testLamps 173 = .ok (.goto 5, 3) := by decide +kernel
theorem dX7_testLamps_176 : decode cX7_testLamps 176 = .ok (.ldc 58, 2) := by decide +kernel
theorem dX7_testLamps_178 : decode cX7_testLamps 178 = .ok (.ior, 1) := by decide +kernel
theorem dX7_testLamps_179 : decode cX7_testLamps 179 = .ok (.iastore, 1) := by decide +kernel
theorem dX7_testLamps_180 : decode cX7_testLamps 180 = .ok (.iinc 5 1, 3) := by decide +kernel
theorem dX7_testLamps_183 : decode cX7_testLamps 183 = .ok (.goto (-112), 3) := by decide +kernel
theorem dX7_testLamps_186 : decode cX7_testLamps 186 = .ok (.iload 4, 2) := by decide +kernel
theorem dX7_testLamps_188 : decode cX7_testLamps 188 = .ok (.ireturn, 1) := by decide +kernel
theorem dX7_badWords_0 : decode cX7_badWords 0 = .ok (.lconst 0, 1) := by decide +kernel
theorem dX7_badWords_1 : decode cX7_badWords 1 = .ok (.lstore_n 2, 1) := by decide +kernel
theorem dX7_badWords_2 : decode cX7_badWords 2 = .ok (.iconst 0, 1) := by decide +kernel
theorem dX7_badWords_3 : decode cX7_badWords 3 = .ok (.istore 4, 2) := by decide +kernel
theorem dX7_badWords_5 : decode cX7_badWords 5 = .ok (.iconst 0, 1) := by decide +kernel
theorem dX7_badWords_6 : decode cX7_badWords 6 = .ok (.istore 5, 2) := by decide +kernel
theorem dX7_badWords_8 : decode cX7_badWords 8 = .ok (.iload 5, 2) := by decide +kernel
theorem dX7_badWords_10 : decode cX7_badWords 10 = .ok (.aload_n 0, 1) := by decide +kernel
theorem dX7_badWords_11 : decode cX7_badWords 11 = .ok (.getfield 48, 3) := by decide +kernel
theorem dX7_badWords_14 : decode cX7_badWords 14 = .ok (.if_icmp .ge 106, 3) := by decide +kernel
theorem dX7_badWords_17 : decode cX7_badWords 17 = .ok (.iload 5, 2) := by decide +kernel
theorem dX7_badWords_19 : decode cX7_badWords 19 = .ok (.sipush 5120, 3) := by decide +kernel
theorem dX7_badWords_22 : decode cX7_badWords 22 = .ok (.if_icmp .ge 98, 3) := by decide +kernel
theorem dX7_badWords_25 : decode cX7_badWords 25 = .ok (.aload_n 0, 1) := by decide +kernel
theorem dX7_badWords_26 : decode cX7_badWords 26 = .ok (.getfield 30, 3) := by decide +kernel
theorem dX7_badWords_29 : decode cX7_badWords 29 = .ok (.iload 5, 2) := by decide +kernel
theorem dX7_badWords_31 : decode cX7_badWords 31 = .ok (.iaload, 1) := by decide +kernel
theorem dX7_badWords_32 : decode cX7_badWords 32 = .ok (.istore 6, 2) := by decide +kernel
theorem dX7_badWords_34 : decode cX7_badWords 34 = .ok (.iload 6, 2) := by decide +kernel
theorem dX7_badWords_36 : decode cX7_badWords 36 = .ok (.ldc 33, 2) := by decide +kernel
theorem dX7_badWords_38 : decode cX7_badWords 38 = .ok (.iand, 1) := by decide +kernel
theorem dX7_badWords_39 : decode cX7_badWords 39 = .ok (.ifCond .eq 37, 3) := by decide +kernel
theorem dX7_badWords_42 : decode cX7_badWords 42 = .ok (.iload 6, 2) := by decide +kernel
theorem dX7_badWords_44 : decode cX7_badWords 44 = .ok (.ldc 35, 2) := by decide +kernel
theorem dX7_badWords_46 : decode cX7_badWords 46 = .ok (.iand, 1) := by decide +kernel
theorem dX7_badWords_47 : decode cX7_badWords 47 = .ok (.ifCond .eq 26, 3) := by decide +kernel
theorem dX7_badWords_50 : decode cX7_badWords 50 = .ok (.aload_n 1, 1) := by decide +kernel
theorem dX7_badWords_51 : decode cX7_badWords 51 = .ok (.iload 6, 2) := by decide +kernel
theorem dX7_badWords_53 : decode cX7_badWords 53 = .ok (.invokestatic 60, 3) := by decide +kernel
theorem dX7_badWords_56 : decode cX7_badWords 56 = .ok (.invokevirtual 63, 3) := by decide +kernel
theorem dX7_badWords_59 : decode cX7_badWords 59 = .ok (.invokevirtual 69, 3) := by decide +kernel
theorem dX7_badWords_62 : decode cX7_badWords 62 = .ok (.lload_n 2, 1) := by decide +kernel
theorem dX7_badWords_63 : decode cX7_badWords 63 = .ok (.land, 1) := by decide +kernel
theorem dX7_badWords_64 : decode cX7_badWords 64 = .ok (.lconst 0, 1) := by decide +kernel
theorem dX7_badWords_65 : decode cX7_badWords 65 = .ok (.lcmp, 1) := by decide +kernel
theorem dX7_badWords_66 : decode cX7_badWords 66 = .ok (.ifCond .eq 7, 3) := by decide +kernel
theorem dX7_badWords_69 : decode cX7_badWords 69 = .ok (.iconst 1, 1) := by decide +kernel
theorem dX7_badWords_70 : decode cX7_badWords 70 = .ok (.goto 4, 3) := by decide +kernel
theorem dX7_badWords_73 : decode cX7_badWords 73 = .ok (.iconst 0, 1) := by decide +kernel
theorem dX7_badWords_74 : decode cX7_badWords 74 = .ok (.istore 4, 2) := by decide +kernel
theorem dX7_badWords_76 : decode cX7_badWords 76 = .ok (.lconst 1, 1) := by decide +kernel
theorem dX7_badWords_77 : decode cX7_badWords 77 = .ok (.iload 6, 2) := by decide +kernel
theorem dX7_badWords_79 : decode cX7_badWords 79 = .ok (.invokestatic 55, 3) := by decide +kernel
theorem dX7_badWords_82 : decode cX7_badWords 82 = .ok (.lshl, 1) := by decide +kernel
theorem dX7_badWords_83 : decode cX7_badWords 83 = .ok (.lstore 7, 2) := by decide +kernel
theorem dX7_badWords_85 : decode cX7_badWords 85 = .ok (.iload 4, 2) := by decide +kernel
theorem dX7_badWords_87 : decode cX7_badWords 87 = .ok (.ifCond .ne 11, 3) := by decide +kernel
theorem dX7_badWords_90 : decode cX7_badWords 90 = .ok (.iload 6, 2) := by decide +kernel
theorem dX7_badWords_92 : decode cX7_badWords 92 = .ok (.ldc 75, 2) := by decide +kernel
theorem dX7_badWords_94 : decode cX7_badWords 94 = .ok (.iand, 1) := by decide +kernel
theorem dX7_badWords_95 : decode cX7_badWords 95 = .ok (.ifCond .eq 10, 3) := by decide +kernel
theorem dX7_badWords_98 : decode cX7_badWords 98 = .ok (.lload_n 2, 1) := by decide +kernel
theorem dX7_badWords_99 : decode cX7_badWords 99 = .ok (.lload 7, 2) := by decide +kernel
theorem dX7_badWords_101 : decode cX7_badWords 101 = .ok (.lor, 1) := by decide +kernel
theorem dX7_badWords_102 : decode cX7_badWords 102 = .ok (.goto 11, 3) := by decide +kernel
theorem dX7_badWords_105 : decode cX7_badWords 105 = .ok (.lload_n 2, 1) := by decide +kernel
theorem dX7_badWords_106 : decode cX7_badWords 106 = .ok (.lload 7, 2) := by decide +kernel
theorem dX7_badWords_108 : decode cX7_badWords 108 = .ok (.ldc2_w 76, 3) := by decide +kernel
theorem dX7_badWords_111 : decode cX7_badWords 111 = .ok (.lxor, 1) := by decide +kernel
theorem dX7_badWords_112 : decode cX7_badWords 112 = .ok (.land, 1) := by decide +kernel
theorem dX7_badWords_113 : decode cX7_badWords 113 = .ok (.lstore_n 2, 1) := by decide +kernel
theorem dX7_badWords_114 : decode cX7_badWords 114 = .ok (.iinc 5 1, 3) := by decide +kernel
theorem dX7_badWords_117 : decode cX7_badWords 117 = .ok (.goto (-109), 3) := by decide +kernel
theorem dX7_badWords_120 : decode cX7_badWords 120 = .ok (.lload_n 2, 1) := by decide +kernel
theorem dX7_badWords_121 : decode cX7_badWords 121 = .ok (.lreturn, 1) := by decide +kernel
theorem dX7_latestRow_0 : decode cX7_latestRow 0 = .ok (.aload_n 0, 1) := by decide +kernel
theorem dX7_latestRow_1 : decode cX7_latestRow 1 = .ok (.getfield 48, 3) := by decide +kernel
theorem dX7_latestRow_4 : decode cX7_latestRow 4 = .ok (.sipush 5120, 3) := by decide +kernel
theorem dX7_latestRow_7 : decode cX7_latestRow 7 = .ok (.invokestatic 78, 3) := by decide +kernel
theorem dX7_latestRow_10 : decode cX7_latestRow 10 = .ok (.iconst 1, 1) := by decide +kernel
theorem dX7_latestRow_11 : decode cX7_latestRow 11 = .ok (.isub, 1) := by decide +kernel
theorem dX7_latestRow_12 : decode cX7_latestRow 12 = .ok (.istore_n 3, 1) := by decide +kernel
theorem dX7_latestRow_13 : decode cX7_latestRow 13 = .ok (.iload_n 3, 1) := by decide +kernel
theorem dX7_latestRow_14 : decode cX7_latestRow 14 = .ok (.ifCond .lt 37, 3) := by decide +kernel
theorem dX7_latestRow_17 : decode cX7_latestRow 17 = .ok (.aload_n 0, 1) := by decide +kernel
theorem dX7_latestRow_18 : decode cX7_latestRow 18 = .ok (.getfield 30, 3) := by decide +kernel
theorem dX7_latestRow_21 : decode cX7_latestRow 21 = .ok (.iload_n 3, 1) := by decide +kernel
theorem dX7_latestRow_22 : decode cX7_latestRow 22 = .ok (.iaload, 1) := by decide +kernel
theorem dX7_latestRow_23 : decode cX7_latestRow 23 = .ok (.invokestatic 55, 3) := by decide +kernel
theorem dX7_latestRow_26 : decode cX7_latestRow 26 = .ok (.iload_n 1, 1) := by decide +kernel
theorem dX7_latestRow_27 : decode cX7_latestRow 27 = .ok (.if_icmp .ne 18, 3) := by decide +kernel
theorem dX7_latestRow_30 : decode cX7_latestRow 30 = .ok (.aload_n 0, 1) := by decide +kernel
theorem dX7_latestRow_31 : decode cX7_latestRow 31 = .ok (.getfield 30, 3) := by decide +kernel
theorem dX7_latestRow_34 : decode cX7_latestRow 34 = .ok (.iload_n 3, 1) := by decide +kernel
theorem dX7_latestRow_35 : decode cX7_latestRow 35 = .ok (.iaload, 1) := by decide +kernel
theorem dX7_latestRow_36 : decode cX7_latestRow 36 = .ok (.invokestatic 40, 3) := by decide +kernel
theorem dX7_latestRow_39 : decode cX7_latestRow 39 = .ok (.iload_n 2, 1) := by decide +kernel
theorem dX7_latestRow_40 : decode cX7_latestRow 40 = .ok (.if_icmp .gt 5, 3) := by decide +kernel
theorem dX7_latestRow_43 : decode cX7_latestRow 43 = .ok (.iload_n 3, 1) := by decide +kernel
theorem dX7_latestRow_44 : decode cX7_latestRow 44 = .ok (.ireturn, 1) := by decide +kernel
theorem dX7_latestRow_45 : decode cX7_latestRow 45 = .ok (.iinc 3 (-1), 3) := by decide +kernel
theorem dX7_latestRow_48 : decode cX7_latestRow 48 = .ok (.goto (-35), 3) := by decide +kernel
theorem dX7_latestRow_51 : decode cX7_latestRow 51 = .ok (.iconst (-1), 1) := by decide +kernel
theorem dX7_latestRow_52 : decode cX7_latestRow 52 = .ok (.ireturn, 1) := by decide +kernel
theorem dX7_valueOf_0 : decode cX7_valueOf 0 = .ok (.iload_n 1, 1) := by decide +kernel
theorem dX7_valueOf_1 : decode cX7_valueOf 1 = .ok (.ifCond .lt 26, 3) := by decide +kernel
theorem dX7_valueOf_4 : decode cX7_valueOf 4 = .ok (.iload_n 1, 1) := by decide +kernel
theorem dX7_valueOf_5 : decode cX7_valueOf 5 = .ok (.sipush 5120, 3) := by decide +kernel
theorem dX7_valueOf_8 : decode cX7_valueOf 8 = .ok (.if_icmp .ge 19, 3) := by decide +kernel
theorem dX7_valueOf_11 : decode cX7_valueOf 11 = .ok (.aload_n 0, 1) := by decide +kernel
theorem dX7_valueOf_12 : decode cX7_valueOf 12 = .ok (.getfield 24, 3) := by decide +kernel
theorem dX7_valueOf_15 : decode cX7_valueOf 15 = .ok (.iload_n 1, 1) := by decide +kernel
theorem dX7_valueOf_16 : decode cX7_valueOf 16 = .ok (.iaload, 1) := by decide +kernel
theorem dX7_valueOf_17 : decode cX7_valueOf 17 = .ok (.aload_n 0, 1) := by decide +kernel
theorem dX7_valueOf_18 : decode cX7_valueOf 18 = .ok (.getfield 27, 3) := by decide +kernel
theorem dX7_valueOf_21 : decode cX7_valueOf 21 = .ok (.iload_n 1, 1) := by decide +kernel
theorem dX7_valueOf_22 : decode cX7_valueOf 22 = .ok (.iaload, 1) := by decide +kernel
theorem dX7_valueOf_23 : decode cX7_valueOf 23 = .ok (.ixor, 1) := by decide +kernel
theorem dX7_valueOf_24 : decode cX7_valueOf 24 = .ok (.goto 4, 3) := by decide +kernel
theorem dX7_valueOf_27 : decode cX7_valueOf 27 = .ok (.iconst 0, 1) := by decide +kernel
theorem dX7_valueOf_28 : decode cX7_valueOf 28 = .ok (.ireturn, 1) := by decide +kernel
theorem dX7_jobOf_0 : decode cX7_jobOf 0 = .ok (.iload_n 1, 1) := by decide +kernel
theorem dX7_jobOf_1 : decode cX7_jobOf 1 = .ok (.ifCond .lt 22, 3) := by decide +kernel
theorem dX7_jobOf_4 : decode cX7_jobOf 4 = .ok (.iload_n 1, 1) := by decide +kernel
theorem dX7_jobOf_5 : decode cX7_jobOf 5 = .ok (.sipush 5120, 3) := by decide +kernel
theorem dX7_jobOf_8 : decode cX7_jobOf 8 = .ok (.if_icmp .ge 15, 3) := by decide +kernel
theorem dX7_jobOf_11 : decode cX7_jobOf 11 = .ok (.aload_n 0, 1) := by decide +kernel
theorem dX7_jobOf_12 : decode cX7_jobOf 12 = .ok (.getfield 30, 3) := by decide +kernel
theorem dX7_jobOf_15 : decode cX7_jobOf 15 = .ok (.iload_n 1, 1) := by decide +kernel
theorem dX7_jobOf_16 : decode cX7_jobOf 16 = .ok (.iaload, 1) := by decide +kernel
theorem dX7_jobOf_17 : decode cX7_jobOf 17 = .ok (.invokestatic 60, 3) := by decide +kernel
theorem dX7_jobOf_20 : decode cX7_jobOf 20 = .ok (.goto 4, 3) := by decide +kernel
theorem dX7_jobOf_23 : decode cX7_jobOf 23 = .ok (.iconst (-1), 1) := by decide +kernel
theorem dX7_jobOf_24 : decode cX7_jobOf 24 = .ok (.ireturn, 1) := by decide +kernel
theorem dX7_shownRows_0 : decode cX7_shownRows 0 = .ok (.aload_n 0, 1) := by decide +kernel
theorem dX7_shownRows_1 : decode cX7_shownRows 1 = .ok (.getfield 48, 3) := by decide +kernel
theorem dX7_shownRows_4 : decode cX7_shownRows 4 = .ok (.bipush 8, 2) := by decide +kernel
theorem dX7_shownRows_6 : decode cX7_shownRows 6 = .ok (.invokestatic 78, 3) := by decide +kernel
theorem dX7_shownRows_9 : decode cX7_shownRows 9 = .ok (.ireturn, 1) := by decide +kernel
theorem dX7_tearRow_0 : decode cX7_tearRow 0 = .ok (.iload_n 1, 1) := by decide +kernel
theorem dX7_tearRow_1 : decode cX7_tearRow 1 = .ok (.ifCond .lt 20, 3) := by decide +kernel
theorem dX7_tearRow_4 : decode cX7_tearRow 4 = .ok (.iload_n 1, 1) := by decide +kernel
theorem dX7_tearRow_5 : decode cX7_tearRow 5 = .ok (.sipush 5120, 3) := by decide +kernel
theorem dX7_tearRow_8 : decode cX7_tearRow 8 = .ok (.if_icmp .ge 13, 3) := by decide +kernel
theorem dX7_tearRow_11 : decode cX7_tearRow 11 = .ok (.aload_n 0, 1) := by decide +kernel
theorem dX7_tearRow_12 : decode cX7_tearRow 12 = .ok (.getfield 27, 3) := by decide +kernel
theorem dX7_tearRow_15 : decode cX7_tearRow 15 = .ok (.iload_n 1, 1) := by decide +kernel
theorem dX7_tearRow_16 : decode cX7_tearRow 16 = .ok (.dup2, 1) := by decide +kernel
theorem dX7_tearRow_17 : decode cX7_tearRow 17 = .ok (.iaload, 1) := by decide +kernel
theorem dX7_tearRow_18 : decode cX7_tearRow 18 = .ok (.iload_n 2, 1) := by decide +kernel
theorem dX7_tearRow_19 : decode cX7_tearRow 19 = .ok (.ixor, 1) := by decide +kernel
theorem dX7_tearRow_20 : decode cX7_tearRow 20 = .ok (.iastore, 1) := by decide +kernel
theorem dX7_tearRow_21 : decode cX7_tearRow 21 = .ok (.aload_n 0, 1) := by decide +kernel
theorem dX7_tearRow_22 : decode cX7_tearRow 22 = .ok (.iload_n 1, 1) := by decide +kernel
theorem dX7_tearRow_23 : decode cX7_tearRow 23 = .ok (.invokevirtual 84, 3) := by decide +kernel
theorem dX7_tearRow_26 : decode cX7_tearRow 26 = .ok (.ireturn, 1) := by decide +kernel
theorem dX7_firstTorn_0 : decode cX7_firstTorn 0 = .ok (.aload_n 0, 1) := by decide +kernel
theorem dX7_firstTorn_1 : decode cX7_firstTorn 1 = .ok (.invokevirtual 87, 3) := by decide +kernel
theorem dX7_firstTorn_4 : decode cX7_firstTorn 4 = .ok (.istore_n 1, 1) := by decide +kernel
theorem dX7_firstTorn_5 : decode cX7_firstTorn 5 = .ok (.iconst 0, 1) := by decide +kernel
theorem dX7_firstTorn_6 : decode cX7_firstTorn 6 = .ok (.istore_n 2, 1) := by decide +kernel
theorem dX7_firstTorn_7 : decode cX7_firstTorn 7 = .ok (.iload_n 2, 1) := by decide +kernel
theorem dX7_firstTorn_8 : decode cX7_firstTorn 8 = .ok (.iload_n 1, 1) := by decide +kernel
theorem dX7_firstTorn_9 : decode cX7_firstTorn 9 = .ok (.if_icmp .ge 40, 3) := by decide +kernel
theorem dX7_firstTorn_12 : decode cX7_firstTorn 12 = .ok (.aload_n 0, 1) := by decide +kernel
theorem dX7_firstTorn_13 : decode cX7_firstTorn 13 = .ok (.getfield 48, 3) := by decide +kernel
theorem dX7_firstTorn_16 : decode cX7_firstTorn 16 = .ok (.iload_n 1, 1) := by decide +kernel
theorem dX7_firstTorn_17 : decode cX7_firstTorn 17 = .ok (.isub, 1) := by decide +kernel
theorem dX7_firstTorn_18 : decode cX7_firstTorn 18 = .ok (.iload_n 2, 1) := by decide +kernel
theorem dX7_firstTorn_19 : decode cX7_firstTorn 19 = .ok (.iadd, 1) := by decide +kernel
theorem dX7_firstTorn_20 : decode cX7_firstTorn 20 = .ok (.istore_n 3, 1) := by decide +kernel
theorem dX7_firstTorn_21 : decode cX7_firstTorn 21 = .ok (.iload_n 3, 1) := by decide +kernel
theorem dX7_firstTorn_22 : decode cX7_firstTorn 22 = .ok (.ifCond .lt 21, 3) := by decide +kernel
theorem dX7_firstTorn_25 : decode cX7_firstTorn 25 = .ok (.iload_n 3, 1) := by decide +kernel
theorem dX7_firstTorn_26 : decode cX7_firstTorn 26 = .ok (.sipush 5120, 3) := by decide +kernel
theorem dX7_firstTorn_29 : decode cX7_firstTorn 29 = .ok (.if_icmp .ge 14, 3) := by decide +kernel
theorem dX7_firstTorn_32 : decode cX7_firstTorn 32 = .ok (.aload_n 0, 1) := by decide +kernel
theorem dX7_firstTorn_33 : decode cX7_firstTorn 33 = .ok (.getfield 27, 3) := by decide +kernel
theorem dX7_firstTorn_36 : decode cX7_firstTorn 36 = .ok (.iload_n 3, 1) := by decide +kernel
theorem dX7_firstTorn_37 : decode cX7_firstTorn 37 = .ok (.iaload, 1) := by decide +kernel
theorem dX7_firstTorn_38 : decode cX7_firstTorn 38 = .ok (.ifCond .eq 5, 3) := by decide +kernel
theorem dX7_firstTorn_41 : decode cX7_firstTorn 41 = .ok (.iload_n 2, 1) := by decide +kernel
theorem dX7_firstTorn_42 : decode cX7_firstTorn 42 = .ok (.ireturn, 1) := by decide +kernel
theorem dX7_firstTorn_43 : decode cX7_firstTorn 43 = .ok (.iinc 2 1, 3) := by decide +kernel
theorem dX7_firstTorn_46 : decode cX7_firstTorn 46 = .ok (.goto (-39), 3) := by decide +kernel
theorem dX7_firstTorn_49 : decode cX7_firstTorn 49 = .ok (.iconst (-1), 1) := by decide +kernel
theorem dX7_firstTorn_50 : decode cX7_firstTorn 50 = .ok (.ireturn, 1) := by decide +kernel
theorem dX7_wordIn_0 : decode cX7_wordIn 0 = .ok (.iload_n 0, 1) := by decide +kernel
theorem dX7_wordIn_1 : decode cX7_wordIn 1 = .ok (.bipush 63, 2) := by decide +kernel
theorem dX7_wordIn_3 : decode cX7_wordIn 3 = .ok (.iand, 1) := by decide +kernel
theorem dX7_wordIn_4 : decode cX7_wordIn 4 = .ok (.ireturn, 1) := by decide +kernel
theorem dX7_jobIn_0 : decode cX7_jobIn 0 = .ok (.iload_n 0, 1) := by decide +kernel
theorem dX7_jobIn_1 : decode cX7_jobIn 1 = .ok (.bipush 6, 2) := by decide +kernel
theorem dX7_jobIn_3 : decode cX7_jobIn 3 = .ok (.iushr, 1) := by decide +kernel
theorem dX7_jobIn_4 : decode cX7_jobIn 4 = .ok (.bipush 15, 2) := by decide +kernel
theorem dX7_jobIn_6 : decode cX7_jobIn 6 = .ok (.iand, 1) := by decide +kernel
theorem dX7_jobIn_7 : decode cX7_jobIn 7 = .ok (.iconst 1, 1) := by decide +kernel
theorem dX7_jobIn_8 : decode cX7_jobIn 8 = .ok (.isub, 1) := by decide +kernel
theorem dX7_jobIn_9 : decode cX7_jobIn 9 = .ok (.ireturn, 1) := by decide +kernel
theorem dX7_minuteIn_0 : decode cX7_minuteIn 0 = .ok (.iload_n 0, 1) := by decide +kernel
theorem dX7_minuteIn_1 : decode cX7_minuteIn 1 = .ok (.bipush 10, 2) := by decide +kernel
theorem dX7_minuteIn_3 : decode cX7_minuteIn 3 = .ok (.iushr, 1) := by decide +kernel
theorem dX7_minuteIn_4 : decode cX7_minuteIn 4 = .ok (.sipush 511, 3) := by decide +kernel
theorem dX7_minuteIn_7 : decode cX7_minuteIn 7 = .ok (.iand, 1) := by decide +kernel
theorem dX7_minuteIn_8 : decode cX7_minuteIn 8 = .ok (.ireturn, 1) := by decide +kernel
theorem dX7_copyFrom_0 : decode cX7_copyFrom 0 = .ok (.iconst 0, 1) := by decide +kernel
theorem dX7_copyFrom_1 : decode cX7_copyFrom 1 = .ok (.aload_n 1, 1) := by decide +kernel
theorem dX7_copyFrom_2 : decode cX7_copyFrom 2 = .ok (.getfield 48, 3) := by decide +kernel
theorem dX7_copyFrom_5 : decode cX7_copyFrom 5 = .ok (.sipush 5120, 3) := by decide +kernel
theorem dX7_copyFrom_8 : decode cX7_copyFrom 8 = .ok (.invokestatic 78, 3) := by decide +kernel
theorem dX7_copyFrom_11 : decode cX7_copyFrom 11 = .ok (.invokestatic 91, 3) := by decide +kernel
theorem dX7_copyFrom_14 : decode cX7_copyFrom 14 = .ok (.istore_n 2, 1) := by decide +kernel
theorem dX7_copyFrom_15 : decode cX7_copyFrom 15 = .ok (.aload_n 1, 1) := by decide +kernel
theorem dX7_copyFrom_16 : decode cX7_copyFrom 16 = .ok (.getfield 9, 3) := by decide +kernel
theorem dX7_copyFrom_19 : decode cX7_copyFrom 19 = .ok (.iconst 0, 1) := by decide +kernel
theorem dX7_copyFrom_20 : decode cX7_copyFrom 20 = .ok (.aload_n 0, 1) := by decide +kernel
theorem dX7_copyFrom_21 : decode cX7_copyFrom 21 = .ok (.getfield 9, 3) := by decide +kernel
theorem dX7_copyFrom_24 : decode cX7_copyFrom 24 = .ok (.iconst 0, 1) := by decide +kernel
theorem dX7_copyFrom_25 : decode cX7_copyFrom 25 = .ok (.bipush 64, 2) := by decide +kernel
theorem dX7_copyFrom_27 : decode cX7_copyFrom 27 = .ok (.invokestatic 94, 3) := by decide +kernel
theorem dX7_copyFrom_30 : decode cX7_copyFrom 30 = .ok (.aload_n 1, 1) := by decide +kernel
theorem dX7_copyFrom_31 : decode cX7_copyFrom 31 = .ok (.getfield 15, 3) := by decide +kernel
theorem dX7_copyFrom_34 : decode cX7_copyFrom 34 = .ok (.iconst 0, 1) := by decide +kernel
theorem dX7_copyFrom_35 : decode cX7_copyFrom 35 = .ok (.aload_n 0, 1) := by decide +kernel
theorem dX7_copyFrom_36 : decode cX7_copyFrom 36 = .ok (.getfield 15, 3) := by decide +kernel
theorem dX7_copyFrom_39 : decode cX7_copyFrom 39 = .ok (.iconst 0, 1) := by decide +kernel
theorem dX7_copyFrom_40 : decode cX7_copyFrom 40 = .ok (.bipush 64, 2) := by decide +kernel
theorem dX7_copyFrom_42 : decode cX7_copyFrom 42 = .ok (.invokestatic 94, 3) := by decide +kernel
theorem dX7_copyFrom_45 : decode cX7_copyFrom 45 = .ok (.aload_n 1, 1) := by decide +kernel
theorem dX7_copyFrom_46 : decode cX7_copyFrom 46 = .ok (.getfield 18, 3) := by decide +kernel
theorem dX7_copyFrom_49 : decode cX7_copyFrom 49 = .ok (.iconst 0, 1) := by decide +kernel
theorem dX7_copyFrom_50 : decode cX7_copyFrom 50 = .ok (.aload_n 0, 1) := by decide +kernel
theorem dX7_copyFrom_51 : decode cX7_copyFrom 51 = .ok (.getfield 18, 3) := by decide +kernel
theorem dX7_copyFrom_54 : decode cX7_copyFrom 54 = .ok (.iconst 0, 1) := by decide +kernel
theorem dX7_copyFrom_55 : decode cX7_copyFrom 55 = .ok (.bipush 16, 2) := by decide +kernel
theorem dX7_copyFrom_57 : decode cX7_copyFrom 57 = .ok (.invokestatic 94, 3) := by decide +kernel
theorem dX7_copyFrom_60 : decode cX7_copyFrom 60 = .ok (.aload_n 1, 1) := by decide +kernel
theorem dX7_copyFrom_61 : decode cX7_copyFrom 61 = .ok (.getfield 21, 3) := by decide +kernel
theorem dX7_copyFrom_64 : decode cX7_copyFrom 64 = .ok (.iconst 0, 1) := by decide +kernel
theorem dX7_copyFrom_65 : decode cX7_copyFrom 65 = .ok (.aload_n 0, 1) := by decide +kernel
theorem dX7_copyFrom_66 : decode cX7_copyFrom 66 = .ok (.getfield 21, 3) := by decide +kernel
theorem dX7_copyFrom_69 : decode cX7_copyFrom 69 = .ok (.iconst 0, 1) := by decide +kernel
theorem dX7_copyFrom_70 : decode cX7_copyFrom 70 = .ok (.bipush 16, 2) := by decide +kernel
theorem dX7_copyFrom_72 : decode cX7_copyFrom 72 = .ok (.invokestatic 94, 3) := by decide +kernel
theorem dX7_copyFrom_75 : decode cX7_copyFrom 75 = .ok (.aload_n 1, 1) := by decide +kernel
theorem dX7_copyFrom_76 : decode cX7_copyFrom 76 = .ok (.getfield 24, 3) := by decide +kernel
theorem dX7_copyFrom_79 : decode cX7_copyFrom 79 = .ok (.iconst 0, 1) := by decide +kernel
theorem dX7_copyFrom_80 : decode cX7_copyFrom 80 = .ok (.aload_n 0, 1) := by decide +kernel
theorem dX7_copyFrom_81 : decode cX7_copyFrom 81 = .ok (.getfield 24, 3) := by decide +kernel
theorem dX7_copyFrom_84 : decode cX7_copyFrom 84 = .ok (.iconst 0, 1) := by decide +kernel
theorem dX7_copyFrom_85 : decode cX7_copyFrom 85 = .ok (.iload_n 2, 1) := by decide +kernel
theorem dX7_copyFrom_86 : decode cX7_copyFrom 86 = .ok (.invokestatic 94, 3) := by decide +kernel
theorem dX7_copyFrom_89 : decode cX7_copyFrom 89 = .ok (.aload_n 1, 1) := by decide +kernel
theorem dX7_copyFrom_90 : decode cX7_copyFrom 90 = .ok (.getfield 27, 3) := by decide +kernel
theorem dX7_copyFrom_93 : decode cX7_copyFrom 93 = .ok (.iconst 0, 1) := by decide +kernel
theorem dX7_copyFrom_94 : decode cX7_copyFrom 94 = .ok (.aload_n 0, 1) := by decide +kernel
theorem dX7_copyFrom_95 : decode cX7_copyFrom 95 = .ok (.getfield 27, 3) := by decide +kernel
theorem dX7_copyFrom_98 : decode cX7_copyFrom 98 = .ok (.iconst 0, 1) := by decide +kernel
theorem dX7_copyFrom_99 : decode cX7_copyFrom 99 = .ok (.iload_n 2, 1) := by decide +kernel
theorem dX7_copyFrom_100 : decode cX7_copyFrom 100 = .ok (.invokestatic 94, 3) := by decide +kernel
theorem dX7_copyFrom_103 : decode cX7_copyFrom 103 = .ok (.aload_n 1, 1) := by decide +kernel
theorem dX7_copyFrom_104 : decode cX7_copyFrom 104 = .ok (.getfield 30, 3) := by decide +kernel
theorem dX7_copyFrom_107 : decode cX7_copyFrom 107 = .ok (.iconst 0, 1) := by decide +kernel
theorem dX7_copyFrom_108 : decode cX7_copyFrom 108 = .ok (.aload_n 0, 1) := by decide +kernel
theorem dX7_copyFrom_109 : decode cX7_copyFrom 109 = .ok (.getfield 30, 3) := by decide +kernel
theorem dX7_copyFrom_112 : decode cX7_copyFrom 112 = .ok (.iconst 0, 1) := by decide +kernel
theorem dX7_copyFrom_113 : decode cX7_copyFrom 113 = .ok (.iload_n 2, 1) := by decide +kernel
theorem dX7_copyFrom_114 : decode cX7_copyFrom 114 = .ok (.invokestatic 94, 3) := by decide +kernel
theorem dX7_copyFrom_117 : decode cX7_copyFrom 117 = .ok (.aload_n 0, 1) := by decide +kernel
theorem dX7_copyFrom_118 : decode cX7_copyFrom 118 = .ok (.aload_n 1, 1) := by decide +kernel
theorem dX7_copyFrom_119 : decode cX7_copyFrom 119 = .ok (.getfield 48, 3) := by decide +kernel
theorem dX7_copyFrom_122 : decode cX7_copyFrom 122 = .ok (.putfield 48, 3) := by decide +kernel
theorem dX7_copyFrom_125 : decode cX7_copyFrom 125 = .ok (.aload_n 0, 1) := by decide +kernel
theorem dX7_copyFrom_126 : decode cX7_copyFrom 126 = .ok (.aload_n 1, 1) := by decide +kernel
theorem dX7_copyFrom_127 : decode cX7_copyFrom 127 = .ok (.getfield 52, 3) := by decide +kernel
theorem dX7_copyFrom_130 : decode cX7_copyFrom 130 = .ok (.putfield 52, 3) := by decide +kernel
theorem dX7_copyFrom_133 : decode cX7_copyFrom 133 = .ok (.aload_n 0, 1) := by decide +kernel
theorem dX7_copyFrom_134 : decode cX7_copyFrom 134 = .ok (.aload_n 1, 1) := by decide +kernel
theorem dX7_copyFrom_135 : decode cX7_copyFrom 135 = .ok (.getfield 36, 3) := by decide +kernel
theorem dX7_copyFrom_138 : decode cX7_copyFrom 138 = .ok (.putfield 36, 3) := by decide +kernel
theorem dX7_copyFrom_141 : decode cX7_copyFrom 141 = .ok (.return_, 1) := by decide +kernel
theorem dX8_init_0 : decode cX8_init 0 = .ok (.aload_n 0, 1) := by decide +kernel
theorem dX8_init_1 : decode cX8_init 1 = .ok (.invokespecial 3, 3) := by decide +kernel
theorem dX8_init_4 : decode cX8_init 4 = .ok (.aload_n 0, 1) := by decide +kernel
theorem dX8_init_5 : decode cX8_init 5 = .ok (.sipush 400, 3) := by decide +kernel
theorem dX8_init_8 : decode cX8_init 8 = .ok (.newarray .int, 2) := by decide +kernel
theorem dX8_init_10 : decode cX8_init 10 = .ok (.putfield 9, 3) := by decide +kernel
theorem dX8_init_13 : decode cX8_init 13 = .ok (.aload_n 0, 1) := by decide +kernel
theorem dX8_init_14 : decode cX8_init 14 = .ok (.sipush 401, 3) := by decide +kernel
theorem dX8_init_17 : decode cX8_init 17 = .ok (.newarray .int, 2) := by decide +kernel
theorem dX8_init_19 : decode cX8_init 19 = .ok (.putfield 15, 3) := by decide +kernel
theorem dX8_init_22 : decode cX8_init 22 = .ok (.aload_n 0, 1) := by decide +kernel
theorem dX8_init_23 : decode cX8_init 23 = .ok (.sipush 401, 3) := by decide +kernel
theorem dX8_init_26 : decode cX8_init 26 = .ok (.newarray .int, 2) := by decide +kernel
theorem dX8_init_28 : decode cX8_init 28 = .ok (.putfield 18, 3) := by decide +kernel
theorem dX8_init_31 : decode cX8_init 31 = .ok (.aload_n 0, 1) := by decide +kernel
theorem dX8_init_32 : decode cX8_init 32 = .ok (.sipush 401, 3) := by decide +kernel
theorem dX8_init_35 : decode cX8_init 35 = .ok (.newarray .int, 2) := by decide +kernel
theorem dX8_init_37 : decode cX8_init 37 = .ok (.putfield 21, 3) := by decide +kernel
theorem dX8_init_40 : decode cX8_init 40 = .ok (.aload_n 0, 1) := by decide +kernel
theorem dX8_init_41 : decode cX8_init 41 = .ok (.sipush 1208, 3) := by decide +kernel
theorem dX8_init_44 : decode cX8_init 44 = .ok (.newarray .int, 2) := by decide +kernel
theorem dX8_init_46 : decode cX8_init 46 = .ok (.putfield 24, 3) := by decide +kernel
theorem dX8_init_49 : decode cX8_init 49 = .ok (.aload_n 0, 1) := by decide +kernel
theorem dX8_init_50 : decode cX8_init 50 = .ok (.bipush 20, 2) := by decide +kernel
theorem dX8_init_52 : decode cX8_init 52 = .ok (.newarray .int, 2) := by decide +kernel
theorem dX8_init_54 : decode cX8_init 54 = .ok (.putfield 27, 3) := by decide +kernel
theorem dX8_init_57 : decode cX8_init 57 = .ok (.aload_n 0, 1) := by decide +kernel
theorem dX8_init_58 : decode cX8_init 58 = .ok (.iconst (-1), 1) := by decide +kernel
theorem dX8_init_59 : decode cX8_init 59 = .ok (.putfield 30, 3) := by decide +kernel
theorem dX8_init_62 : decode cX8_init 62 = .ok (.return_, 1) := by decide +kernel
theorem dX8_punch_0 : decode cX8_punch 0 = .ok (.bipush 24, 2) := by decide +kernel
theorem dX8_punch_2 : decode cX8_punch 2 = .ok (.istore_n 2, 1) := by decide +kernel
theorem dX8_punch_3 : decode cX8_punch 3 = .ok (.iload_n 2, 1) := by decide +kernel
theorem dX8_punch_4 : decode cX8_punch 4 = .ok (.ifCond .lt 52, 3) := by decide +kernel
theorem dX8_punch_7 : decode cX8_punch 7 = .ok (.aload_n 0, 1) := by decide +kernel
theorem dX8_punch_8 : decode cX8_punch 8 = .ok (.getfield 34, 3) := by decide +kernel
theorem dX8_punch_11 : decode cX8_punch 11 = .ok (.ifCond .lt 39, 3) := by decide +kernel
theorem dX8_punch_14 : decode cX8_punch 14 = .ok (.aload_n 0, 1) := by decide +kernel
theorem dX8_punch_15 : decode cX8_punch 15 = .ok (.getfield 34, 3) := by decide +kernel
theorem dX8_punch_18 : decode cX8_punch 18 = .ok (.sipush 400, 3) := by decide +kernel
theorem dX8_punch_21 : decode cX8_punch 21 = .ok (.if_icmp .ge 29, 3) := by decide +kernel
theorem dX8_punch_24 : decode cX8_punch 24 = .ok (.aload_n 0, 1) := by decide +kernel
theorem dX8_punch_25 : decode cX8_punch 25 = .ok (.getfield 9, 3) := by decide +kernel
theorem dX8_punch_28 : decode cX8_punch 28 = .ok (.aload_n 0, 1) := by decide +kernel
theorem dX8_punch_29 : decode cX8_punch 29 = .ok (.getfield 34, 3) := by decide +kernel
theorem dX8_punch_32 : decode cX8_punch 32 = .ok (.iload_n 1, 1) := by decide +kernel
theorem dX8_punch_33 : decode cX8_punch 33 = .ok (.iload_n 2, 1) := by decide +kernel
theorem dX8_punch_34 : decode cX8_punch 34 = .ok (.iushr, 1) := by decide +kernel
theorem dX8_punch_35 : decode cX8_punch 35 = .ok (.sipush 255, 3) := by decide +kernel
theorem dX8_punch_38 : decode cX8_punch 38 = .ok (.iand, 1) := by decide +kernel
theorem dX8_punch_39 : decode cX8_punch 39 = .ok (.iastore, 1) := by decide +kernel
theorem dX8_punch_40 : decode cX8_punch 40 = .ok (.aload_n 0, 1) := by decide +kernel
theorem dX8_punch_41 : decode cX8_punch 41 = .ok (.dup, 1) := by decide +kernel
theorem dX8_punch_42 : decode cX8_punch 42 = .ok (.getfield 34, 3) := by decide +kernel
theorem dX8_punch_45 : decode cX8_punch 45 = .ok (.iconst 1, 1) := by decide +kernel
theorem dX8_punch_46 : decode cX8_punch 46 = .ok (.iadd, 1) := by decide +kernel
theorem dX8_punch_47 : decode cX8_punch 47 = .ok (.putfield 34, 3) := by decide +kernel
theorem dX8_punch_50 : decode cX8_punch 50 = .ok (.iinc 2 (-8), 3) := by decide +kernel
theorem dX8_punch_53 : decode cX8_punch 53 = .ok (.goto (-50), 3) := by decide +kernel
theorem dX8_punch_56 : decode cX8_punch 56 = .ok (.return_, 1) := by decide +kernel
theorem dX8_readText_0 : decode cX8_readText 0 = .ok (.aload_n 0, 1) := by decide +kernel
theorem dX8_readText_1 : decode cX8_readText 1 = .ok (.iconst 0, 1) := by decide +kernel
theorem dX8_readText_2 : decode cX8_readText 2 = .ok (.iload_n 1, 1) := by decide +kernel
theorem dX8_readText_3 : decode cX8_readText 3 = .ok (.sipush 400, 3) := by decide +kernel
theorem dX8_readText_6 : decode cX8_readText 6 = .ok (.invokestatic 37, 3) := by decide +kernel
theorem dX8_readText_9 : decode cX8_readText 9 = .ok (.invokestatic 43, 3) := by decide +kernel
theorem dX8_readText_12 : decode cX8_readText 12 = .ok (.invokevirtual 46, 3) := by decide +kernel
theorem dX8_readText_15 : decode cX8_readText 15 = .ok (.aload_n 0, 1) := by decide +kernel
theorem dX8_readText_16 : decode cX8_readText 16 = .ok (.iconst 0, 1) := by decide +kernel
theorem dX8_readText_17 : decode cX8_readText 17 = .ok (.putfield 50, 3) := by decide +kernel
theorem dX8_readText_20 : decode cX8_readText 20 = .ok (.aload_n 0, 1) := by decide +kernel
theorem dX8_readText_21 : decode cX8_readText 21 = .ok (.iconst 0, 1) := by decide +kernel
theorem dX8_readText_22 : decode cX8_readText 22 = .ok (.putfield 53, 3) := by decide +kernel
theorem dX8_readText_25 : decode cX8_readText 25 = .ok (.aload_n 0, 1) := by decide +kernel
theorem dX8_readText_26 : decode cX8_readText 26 = .ok (.lconst 0, 1) := by decide +kernel
theorem dX8_readText_27 : decode cX8_readText 27 = .ok (.putfield 56, 3) := by decide +kernel
theorem dX8_readText_30 : decode cX8_readText 30 = .ok (.aload_n 0, 1) := by decide +kernel
theorem dX8_readText_31 : decode cX8_readText 31 = .ok (.lconst 0, 1) := by decide +kernel
theorem dX8_readText_32 : decode cX8_readText 32 = .ok (.putfield 60, 3) := by decide +kernel
theorem dX8_readText_35 : decode cX8_readText 35 = .ok (.iconst 0, 1) := by decide +kernel
theorem dX8_readText_36 : decode cX8_readText 36 = .ok (.istore_n 2, 1) := by decide +kernel
theorem dX8_readText_37 : decode cX8_readText 37 = .ok (.aload_n 0, 1) := by decide +kernel
theorem dX8_readText_38 : decode cX8_readText 38 = .ok (.invokevirtual 63, 3) := by decide +kernel
theorem dX8_readText_41 : decode cX8_readText 41 = .ok (.iconst (-1), 1) := by decide +kernel
theorem dX8_readText_42 : decode cX8_readText 42 = .ok (.if_icmp .ne 7, 3) := by decide +kernel
theorem dX8_readText_45 : decode cX8_readText 45 = .ok (.iconst 1, 1) := by decide +kernel
theorem dX8_readText_46 : decode cX8_readText 46 = .ok (.goto 4, 3) := by decide +kernel
theorem dX8_readText_49 : decode cX8_readText 49 = .ok (.iconst 0, 1) := by decide +kernel
theorem dX8_readText_50 : decode cX8_readText 50 = .ok (.istore_n 3, 1) := by decide +kernel
theorem dX8_readText_51 : decode cX8_readText 51 = .ok (.iload_n 3, 1) := by decide +kernel
theorem dX8_readText_52 : decode cX8_readText 52 = .ok (.ifCond .ne 7, 3) := by decide +kernel
theorem dX8_readText_55 : decode cX8_readText 55 = .ok (.iconst 1, 1) := by decide +kernel
theorem dX8_readText_56 : decode cX8_readText 56 = .ok (.goto 4, 3) := by decide +kernel
theorem dX8_readText_59 : decode cX8_readText 59 = .ok (.iconst 0, 1) := by decide +kernel
theorem dX8_readText_60 : decode cX8_readText 60 = .ok (.istore 4, 2) := by decide +kernel
theorem dX8_readText_62 : decode cX8_readText 62 = .ok (.iconst 0, 1) := by decide +kernel
theorem dX8_readText_63 : decode cX8_readText 63 = .ok (.istore 5, 2) := by decide +kernel
theorem dX8_readText_65 : decode cX8_readText 65 = .ok (.iload 5, 2) := by decide +kernel
theorem dX8_readText_67 : decode cX8_readText 67 = .ok (.bipush 10, 2) := by decide +kernel
theorem dX8_readText_69 : decode cX8_readText 69 = .ok (.if_icmp .ge 81, 3) := by decide +kernel
theorem dX8_readText_72 : decode cX8_readText 72 = .ok (.iload 4, 2) := by decide +kernel
theorem dX8_readText_74 : decode cX8_readText 74 = .ok (.ifCond .eq 76, 3) := by decide +kernel
theorem dX8_readText_77 : decode cX8_readText 77 = .ok (.aload_n 0, 1) := by decide +kernel
theorem dX8_readText_78 : decode cX8_readText 78 = .ok (.getfield 60, 3) := by decide +kernel
theorem dX8_readText_81 : decode cX8_readText 81 = .ok (.lstore 6, 2) := by decide +kernel
theorem dX8_readText_83 : decode cX8_readText 83 = .ok (.aload_n 0, 1) := by decide +kernel
theorem dX8_readText_84 : decode cX8_readText 84 = .ok (.lconst 0, 1) := by decide +kernel
theorem dX8_readText_85 : decode cX8_readText 85 = .ok (.putfield 67, 3) := by decide +kernel
theorem dX8_readText_88 : decode cX8_readText 88 = .ok (.aload_n 0, 1) := by decide +kernel
theorem dX8_readText_89 : decode cX8_readText 89 = .ok (.invokevirtual 70, 3) := by decide +kernel
theorem dX8_readText_92 : decode cX8_readText 92 = .ok (.istore 4, 2) := by decide +kernel
theorem dX8_readText_94 : decode cX8_readText 94 = .ok (.aload_n 0, 1) := by decide +kernel
theorem dX8_readText_95 : decode cX8_readText 95 = .ok (.dup, 1) := by decide +kernel
theorem dX8_readText_96 : decode cX8_readText 96 = .ok (.getfield 56, 3) := by decide +kernel
theorem dX8_readText_99 : decode cX8_readText 99 = .ok (.aload_n 0, 1) := by decide +kernel
theorem dX8_readText_100 : decode cX8_readText 100 = .ok (.getfield 67, 3) := by decide +kernel
theorem dX8_readText_103 : decode cX8_readText 103 = .ok (.lload 6, 2) := by decide +kernel
theorem dX8_readText_105 : decode cX8_readText 105 = .ok (.ldc2_w 74, 3) := by decide +kernel
theorem dX8_readText_108 : decode cX8_readText 108 = .ok (.lxor, 1) := by decide +kernel
theorem dX8_readText_109 : decode cX8_readText 109 = .ok (.land, 1) := by decide +kernel
theorem dX8_readText_110 : decode cX8_readText 110 = .ok (.lor, 1) := by decide +kernel
theorem dX8_readText_111 : decode cX8_readText 111 = .ok (.putfield 56, 3) := by decide +kernel
theorem dX8_readText_114 : decode cX8_readText 114 = .ok (.iload 4, 2) := by decide +kernel
theorem dX8_readText_116 : decode cX8_readText 116 = .ok (.ifCond .eq 28, 3) := by decide +kernel
theorem dX8_readText_119 : decode cX8_readText 119 = .ok (.iinc 2 1, 3) := by decide +kernel
theorem dX8_readText_122 : decode cX8_readText 122 = .ok (.aload_n 0, 1) := by decide +kernel
theorem dX8_readText_123 : decode cX8_readText 123 = .ok (.invokevirtual 63, 3) := by decide +kernel
theorem dX8_readText_126 : decode cX8_readText 126 = .ok (.iconst (-1), 1) := by decide +kernel
theorem dX8_readText_127 : decode cX8_readText 127 = .ok (.if_icmp .ne 7, 3) := by decide +kernel
theorem dX8_readText_130 : decode cX8_readText 130 = .ok (.iconst 1, 1) := by decide +kernel
theorem dX8_readText_131 : decode cX8_readText 131 = .ok (.goto 4, 3) := by decide +kernel
theorem dX8_readText_134 : decode cX8_readText 134 = .ok (.iconst 0, 1) := by decide +kernel
theorem dX8_readText_135 : decode cX8_readText 135 = .ok (.istore_n 3, 1) := by decide +kernel
theorem dX8_readText_136 : decode cX8_readText 136 = .ok (.aload_n 0, 1) := by decide +kernel
theorem dX8_readText_137 : decode cX8_readText 137 = .ok (.bipush 59, 2) := by decide +kernel
theorem dX8_readText_139 : decode cX8_readText 139 = .ok (.invokevirtual 76, 3) := by decide +kernel
theorem dX8_readText_142 : decode cX8_readText 142 = .ok (.istore 4, 2) := by decide +kernel
theorem dX8_readText_144 : decode cX8_readText 144 = .ok (.iinc 5 1, 3) := by decide +kernel
theorem dX8_readText_147 : decode cX8_readText 147 = .ok (.goto (-82), 3) := by decide +kernel
theorem dX8_readText_150 : decode cX8_readText 150 = .ok (.aload_n 0, 1) := by decide +kernel
theorem dX8_readText_151 : decode cX8_readText 151 = .ok (.iload_n 3, 1) := by decide +kernel
theorem dX8_readText_152 : decode cX8_readText 152 = .ok (.ifCond .eq 7, 3) := by decide +kernel
theorem dX8_readText_155 : decode cX8_readText 155 = .ok (.iconst (-1), 1) := by decide +kernel
theorem dX8_readText_156 : decode cX8_readText 156 = .ok (.goto 7, 3) := by decide +kernel
theorem dX8_readText_159 : decode cX8_readText 159 = .ok (.aload_n 0, 1) := by decide +kernel
theorem dX8_readText_160 : decode cX8_readText 160 = .ok (.invokevirtual 80, 3) := by decide +kernel
theorem dX8_readText_163 : decode cX8_readText 163 = .ok (.putfield 30, 3) := by decide +kernel
theorem dX8_readText_166 : decode cX8_readText 166 = .ok (.iload_n 3, 1) := by decide +kernel
theorem dX8_readText_167 : decode cX8_readText 167 = .ok (.ifCond .eq 37, 3) := by decide +kernel
theorem dX8_readText_170 : decode cX8_readText 170 = .ok (.new 83, 3) := by decide +kernel
theorem dX8_readText_173 : decode cX8_readText 173 = .ok (.dup, 1) := by decide +kernel
theorem dX8_readText_174 : decode cX8_readText 174 = .ok (.aload_n 0, 1) := by decide +kernel
theorem dX8_readText_175 : decode cX8_readText 175 = .ok (.getfield 24, 3) := by decide +kernel
theorem dX8_readText_178 : decode cX8_readText 178 = .ok (.iconst 0, 1) := by decide +kernel
theorem dX8_readText_179 : decode cX8_readText 179 = .ok (.aload_n 0, 1) := by decide +kernel
theorem dX8_readText_180 : decode cX8_readText 180 = .ok (.getfield 53, 3) := by decide +kernel
theorem dX8_readText_183 : decode cX8_readText 183 = .ok (.invokestatic 43, 3) := by decide +kernel
theorem dX8_readText_186 : decode cX8_readText 186 = .ok (.invokestatic 85, 3) := by decide +kernel
theorem dX8_readText_189 : decode cX8_readText 189 = .ok (.iload_n 2, 1) := by decide +kernel
theorem dX8_readText_190 : decode cX8_readText 190 = .ok (.aload_n 0, 1) := by decide +kernel
theorem dX8_readText_191 : decode cX8_readText 191 = .ok (.getfield 56, 3) := by decide +kernel
theorem dX8_readText_194 : decode cX8_readText 194 = .ok (.aload_n 0, 1) := by decide +kernel
theorem dX8_readText_195 : decode cX8_readText 195 = .ok (.getfield 60, 3) := by decide +kernel
theorem dX8_readText_198 : decode cX8_readText 198 = .ok (.invokespecial 91, 3) := by decide +kernel
theorem dX8_readText_201 : decode cX8_readText 201 = .ok (.goto 4, 3) := by decide +kernel
theorem dX8_readText_204 : decode cX8_readText 204 = .ok (.aconst_null, 1) := by decide +kernel
theorem dX8_readText_205 : decode cX8_readText 205 = .ok (.areturn, 1) := by decide +kernel
theorem dX8_readLine_0 : decode cX8_readLine 0 = .ok (.aload_n 0, 1) := by decide +kernel
theorem dX8_readLine_1 : decode cX8_readLine 1 = .ok (.sipush 256, 3) := by decide +kernel
theorem dX8_readLine_4 : decode cX8_readLine 4 = .ok (.invokevirtual 76, 3) := by decide +kernel
theorem dX8_readLine_7 : decode cX8_readLine 7 = .ok (.ifCond .eq 44, 3) := by decide +kernel
theorem dX8_readLine_10 : decode cX8_readLine 10 = .ok (.aload_n 0, 1) := by decide +kernel
theorem dX8_readLine_11 : decode cX8_readLine 11 = .ok (.iconst 1, 1) := by decide +kernel
theorem dX8_readLine_12 : decode cX8_readLine 12 = .ok (.bipush 9, 2) := by decide +kernel
theorem dX8_readLine_14 : decode cX8_readLine 14 = .ok (.invokevirtual 94, 3) := by decide +kernel
theorem dX8_readLine_17 : decode cX8_readLine 17 = .ok (.ifCond .ne 5, 3) := by decide +kernel
theorem dX8_readLine_20 : decode cX8_readLine 20 = .ok (.iconst 0, 1) := by decide +kernel
theorem dX8_readLine_21 : decode cX8_readLine 21 = .ok (.ireturn, 1) := by decide +kernel
theorem dX8_readLine_22 : decode cX8_readLine 22 = .ok (.aload_n 0, 1) := by decide +kernel
theorem dX8_readLine_23 : decode cX8_readLine 23 = .ok (.getfield 98, 3) := by decide +kernel
theorem dX8_readLine_26 : decode cX8_readLine 26 = .ok (.istore_n 1, 1) := by decide +kernel
theorem dX8_readLine_27 : decode cX8_readLine 27 = .ok (.aload_n 0, 1) := by decide +kernel
theorem dX8_readLine_28 : decode cX8_readLine 28 = .ok (.sipush 257, 3) := by decide +kernel
theorem dX8_readLine_31 : decode cX8_readLine 31 = .ok (.invokevirtual 76, 3) := by decide +kernel
theorem dX8_readLine_34 : decode cX8_readLine 34 = .ok (.ifCond .eq 15, 3) := by decide +kernel
theorem dX8_readLine_37 : decode cX8_readLine 37 = .ok (.aload_n 0, 1) := by decide +kernel
theorem dX8_readLine_38 : decode cX8_readLine 38 = .ok (.iload_n 1, 1) := by decide +kernel
theorem dX8_readLine_39 : decode cX8_readLine 39 = .ok (.invokevirtual 101, 3) := by decide +kernel
theorem dX8_readLine_42 : decode cX8_readLine 42 = .ok (.ifCond .eq 7, 3) := by decide +kernel
theorem dX8_readLine_45 : decode cX8_readLine 45 = .ok (.iconst 1, 1) := by decide +kernel
theorem dX8_readLine_46 : decode cX8_readLine 46 = .ok (.goto 4, 3) := by decide +kernel
theorem dX8_readLine_49 : decode cX8_readLine 49 = .ok (.iconst 0, 1) := by decide +kernel
theorem dX8_readLine_50 : decode cX8_readLine 50 = .ok (.ireturn, 1) := by decide +kernel
theorem dX8_readLine_51 : decode cX8_readLine 51 = .ok (.aload_n 0, 1) := by decide +kernel
theorem dX8_readLine_52 : decode cX8_readLine 52 = .ok (.sipush 257, 3) := by decide +kernel
theorem dX8_readLine_55 : decode cX8_readLine 55 = .ok (.invokevirtual 76, 3) := by decide +kernel
theorem dX8_readLine_58 : decode cX8_readLine 58 = .ok (.ifCond .eq 9, 3) := by decide +kernel
theorem dX8_readLine_61 : decode cX8_readLine 61 = .ok (.aload_n 0, 1) := by decide +kernel
theorem dX8_readLine_62 : decode cX8_readLine 62 = .ok (.iconst 1, 1) := by decide +kernel
theorem dX8_readLine_63 : decode cX8_readLine 63 = .ok (.invokevirtual 101, 3) := by decide +kernel
theorem dX8_readLine_66 : decode cX8_readLine 66 = .ok (.ireturn, 1) := by decide +kernel
theorem dX8_readLine_67 : decode cX8_readLine 67 = .ok (.aload_n 0, 1) := by decide +kernel
theorem dX8_readLine_68 : decode cX8_readLine 68 = .ok (.sipush 258, 3) := by decide +kernel
theorem dX8_readLine_71 : decode cX8_readLine 71 = .ok (.invokevirtual 76, 3) := by decide +kernel
theorem dX8_readLine_74 : decode cX8_readLine 74 = .ok (.ifCond .eq 8, 3) := by decide +kernel
theorem dX8_readLine_77 : decode cX8_readLine 77 = .ok (.aload_n 0, 1) := by decide +kernel
theorem dX8_readLine_78 : decode cX8_readLine 78 = .ok (.invokevirtual 104, 3) := by decide +kernel
theorem dX8_readLine_81 : decode cX8_readLine 81 = .ok (.ireturn, 1) := by decide +kernel
theorem dX8_readLine_82 : decode cX8_readLine 82 = .ok (.aload_n 0, 1) := by decide +kernel
theorem dX8_readLine_83 : decode cX8_readLine 83 = .ok (.sipush 261, 3) := by decide +kernel
theorem dX8_readLine_86 : decode cX8_readLine 86 = .ok (.invokevirtual 76, 3) := by decide +kernel
theorem dX8_readLine_89 : decode cX8_readLine 89 = .ok (.ifCond .eq 8, 3) := by decide +kernel
theorem dX8_readLine_92 : decode cX8_readLine 92 = .ok (.aload_n 0, 1) := by decide +kernel
theorem dX8_readLine_93 : decode cX8_readLine 93 = .ok (.invokevirtual 107, 3) := by decide +kernel
theorem dX8_readLine_96 : decode cX8_readLine 96 = .ok (.ireturn, 1) := by decide +kernel
theorem dX8_readLine_97 : decode cX8_readLine 97 = .ok (.aload_n 0, 1) := by decide +kernel
theorem dX8_readLine_98 : decode cX8_readLine 98 = .ok (.invokevirtual 63, 3) := by decide +kernel
theorem dX8_readLine_101 : decode cX8_readLine 101 = .ok (.istore_n 1, 1) := by decide +kernel
theorem dX8_readLine_102 : decode cX8_readLine 102 = .ok (.aload_n 0, 1) := by decide +kernel
theorem dX8_readLine_103 : decode cX8_readLine 103 = .ok (.sipush 263, 3) := by decide +kernel
theorem dX8_readLine_106 : decode cX8_readLine 106 = .ok (.invokevirtual 76, 3) := by decide +kernel
theorem dX8_readLine_109 : decode cX8_readLine 109 = .ok (.ifCond .ne 15, 3) := by decide +kernel
theorem dX8_readLine_112 : decode cX8_readLine 112 = .ok (.aload_n 0, 1) := by decide +kernel
theorem dX8_readLine_113 : decode cX8_readLine 113 = .ok (.sipush 264, 3) := by decide +kernel
theorem dX8_readLine_116 : decode cX8_readLine 116 = .ok (.invokevirtual 76, 3) := by decide +kernel
theorem dX8_readLine_119 : decode cX8_readLine 119 = .ok (.ifCond .ne 5, 3) := by decide +kernel
theorem dX8_readLine_122 : decode cX8_readLine 122 = .ok (.iconst 0, 1) := by decide +kernel
theorem dX8_readLine_123 : decode cX8_readLine 123 = .ok (.ireturn, 1) := by decide +kernel
theorem dX8_readLine_124 : decode cX8_readLine 124 = .ok (.aload_n 0, 1) := by decide +kernel
theorem dX8_readLine_125 : decode cX8_readLine 125 = .ok (.iload_n 1, 1) := by decide +kernel
theorem dX8_readLine_126 : decode cX8_readLine 126 = .ok (.invokevirtual 110, 3) := by decide +kernel
theorem dX8_readLine_129 : decode cX8_readLine 129 = .ok (.aload_n 0, 1) := by decide +kernel
theorem dX8_readLine_130 : decode cX8_readLine 130 = .ok (.sipush 265, 3) := by decide +kernel
theorem dX8_readLine_133 : decode cX8_readLine 133 = .ok (.invokevirtual 76, 3) := by decide +kernel
theorem dX8_readLine_136 : decode cX8_readLine 136 = .ok (.ifCond .eq 14, 3) := by decide +kernel
theorem dX8_readLine_139 : decode cX8_readLine 139 = .ok (.aload_n 0, 1) := by decide +kernel
theorem dX8_readLine_140 : decode cX8_readLine 140 = .ok (.invokevirtual 113, 3) := by decide +kernel
theorem dX8_readLine_143 : decode cX8_readLine 143 = .ok (.ifCond .eq 7, 3) := by decide +kernel
theorem dX8_readLine_146 : decode cX8_readLine 146 = .ok (.iconst 1, 1) := by decide +kernel
theorem dX8_readLine_147 : decode cX8_readLine 147 = .ok (.goto 4, 3) := by decide +kernel
theorem dX8_readLine_150 : decode cX8_readLine 150 = .ok (.iconst 0, 1) := by decide +kernel
theorem dX8_readLine_151 : decode cX8_readLine 151 = .ok (.ireturn, 1) := by decide +kernel
theorem dX8_readSet_0 : decode cX8_readSet 0 = .ok (.aload_n 0, 1) := by decide +kernel
theorem dX8_readSet_1 : decode cX8_readSet 1 = .ok (.sipush 257, 3) := by decide +kernel
theorem dX8_readSet_4 : decode cX8_readSet 4 = .ok (.invokevirtual 116, 3) := by decide +kernel
theorem dX8_readSet_7 : decode cX8_readSet 7 = .ok (.ifCond .eq 12, 3) := by decide +kernel
theorem dX8_readSet_10 : decode cX8_readSet 10 = .ok (.aload_n 0, 1) := by decide +kernel
theorem dX8_readSet_11 : decode cX8_readSet 11 = .ok (.bipush 61, 2) := by decide +kernel
theorem dX8_readSet_13 : decode cX8_readSet 13 = .ok (.invokevirtual 76, 3) := by decide +kernel
theorem dX8_readSet_16 : decode cX8_readSet 16 = .ok (.ifCond .ne 5, 3) := by decide +kernel
theorem dX8_readSet_19 : decode cX8_readSet 19 = .ok (.iconst 0, 1) := by decide +kernel
theorem dX8_readSet_20 : decode cX8_readSet 20 = .ok (.ireturn, 1) := by decide +kernel
theorem dX8_readSet_21 : decode cX8_readSet 21 = .ok (.aload_n 0, 1) := by decide +kernel
theorem dX8_readSet_22 : decode cX8_readSet 22 = .ok (.iload_n 1, 1) := by decide +kernel
theorem dX8_readSet_23 : decode cX8_readSet 23 = .ok (.invokevirtual 110, 3) := by decide +kernel
theorem dX8_readSet_26 : decode cX8_readSet 26 = .ok (.aload_n 0, 1) := by decide +kernel
theorem dX8_readSet_27 : decode cX8_readSet 27 = .ok (.invokevirtual 119, 3) := by decide +kernel
theorem dX8_readSet_30 : decode cX8_readSet 30 = .ok (.ireturn, 1) := by decide +kernel
theorem dX8_readTotal_0 : decode cX8_readTotal 0 = .ok (.aload_n 0, 1) := by decide +kernel
theorem dX8_readTotal_1 : decode cX8_readTotal 1 = .ok (.sipush 258, 3) := by decide +kernel
theorem dX8_readTotal_4 : decode cX8_readTotal 4 = .ok (.invokevirtual 116, 3) := by decide +kernel
theorem dX8_readTotal_7 : decode cX8_readTotal 7 = .ok (.ifCond .eq 23, 3) := by decide +kernel
theorem dX8_readTotal_10 : decode cX8_readTotal 10 = .ok (.aload_n 0, 1) := by decide +kernel
theorem dX8_readTotal_11 : decode cX8_readTotal 11 = .ok (.sipush 259, 3) := by decide +kernel
theorem dX8_readTotal_14 : decode cX8_readTotal 14 = .ok (.invokevirtual 76, 3) := by decide +kernel
theorem dX8_readTotal_17 : decode cX8_readTotal 17 = .ok (.ifCond .eq 13, 3) := by decide +kernel
theorem dX8_readTotal_20 : decode cX8_readTotal 20 = .ok (.aload_n 0, 1) := by decide +kernel
theorem dX8_readTotal_21 : decode cX8_readTotal 21 = .ok (.iconst 0, 1) := by decide +kernel
theorem dX8_readTotal_22 : decode cX8_readTotal 22 = .ok (.bipush 63, 2) := by decide +kernel
theorem dX8_readTotal_24 : decode cX8_readTotal 24 = .ok (.invokevirtual 94, 3) := by decide +kernel
theorem dX8_readTotal_27 : decode cX8_readTotal 27 = .ok (.ifCond .ne 5, 3) := by decide +kernel
theorem dX8_readTotal_30 : decode cX8_readTotal 30 = .ok (.iconst 0, 1) := by decide +kernel
theorem dX8_readTotal_31 : decode cX8_readTotal 31 = .ok (.ireturn, 1) := by decide +kernel
theorem dX8_readTotal_32 : decode cX8_readTotal 32 = .ok (.aload_n 0, 1) := by decide +kernel
theorem dX8_readTotal_33 : decode cX8_readTotal 33 = .ok (.getfield 98, 3) := by decide +kernel
theorem dX8_readTotal_36 : decode cX8_readTotal 36 = .ok (.istore_n 1, 1) := by decide +kernel
theorem dX8_readTotal_37 : decode cX8_readTotal 37 = .ok (.aload_n 0, 1) := by decide +kernel
theorem dX8_readTotal_38 : decode cX8_readTotal 38 = .ok (.sipush 260, 3) := by decide +kernel
theorem dX8_readTotal_41 : decode cX8_readTotal 41 = .ok (.invokevirtual 76, 3) := by decide +kernel
theorem dX8_readTotal_44 : decode cX8_readTotal 44 = .ok (.ifCond .eq 13, 3) := by decide +kernel
theorem dX8_readTotal_47 : decode cX8_readTotal 47 = .ok (.aload_n 0, 1) := by decide +kernel
theorem dX8_readTotal_48 : decode cX8_readTotal 48 = .ok (.iload_n 1, 1) := by decide +kernel
theorem dX8_readTotal_49 : decode cX8_readTotal 49 = .ok (.bipush 63, 2) := by decide +kernel
theorem dX8_readTotal_51 : decode cX8_readTotal 51 = .ok (.invokevirtual 94, 3) := by decide +kernel
theorem dX8_readTotal_54 : decode cX8_readTotal 54 = .ok (.ifCond .ne 5, 3) := by decide +kernel
theorem dX8_readTotal_57 : decode cX8_readTotal 57 = .ok (.iconst 0, 1) := by decide +kernel
theorem dX8_readTotal_58 : decode cX8_readTotal 58 = .ok (.ireturn, 1) := by decide +kernel
theorem dX8_readTotal_59 : decode cX8_readTotal 59 = .ok (.aload_n 0, 1) := by decide +kernel
theorem dX8_readTotal_60 : decode cX8_readTotal 60 = .ok (.iload_n 1, 1) := by decide +kernel
theorem dX8_readTotal_61 : decode cX8_readTotal 61 = .ok (.invokevirtual 110, 3) := by decide +kernel
theorem dX8_readTotal_64 : decode cX8_readTotal 64 = .ok (.aload_n 0, 1) := by decide +kernel
theorem dX8_readTotal_65 : decode cX8_readTotal 65 = .ok (.aload_n 0, 1) := by decide +kernel
theorem dX8_readTotal_66 : decode cX8_readTotal 66 = .ok (.getfield 98, 3) := by decide +kernel
theorem dX8_readTotal_69 : decode cX8_readTotal 69 = .ok (.invokevirtual 110, 3) := by decide +kernel
theorem dX8_readTotal_72 : decode cX8_readTotal 72 = .ok (.iload_n 1, 1) := by decide +kernel
theorem dX8_readTotal_73 : decode cX8_readTotal 73 = .ok (.istore_n 2, 1) := by decide +kernel
theorem dX8_readTotal_74 : decode cX8_readTotal 74 = .ok (.iload_n 2, 1) := by decide +kernel
theorem dX8_readTotal_75 : decode cX8_readTotal 75 = .ok (.aload_n 0, 1) := by decide +kernel
theorem dX8_readTotal_76 : decode cX8_readTotal 76 = .ok (.getfield 98, 3) := by decide +kernel
theorem dX8_readTotal_79 : decode cX8_readTotal 79 = .ok (.if_icmp .gt 21, 3) := by decide +kernel
theorem dX8_readTotal_82 : decode cX8_readTotal 82 = .ok (.aload_n 0, 1) := by decide +kernel
theorem dX8_readTotal_83 : decode cX8_readTotal 83 = .ok (.dup, 1) := by decide +kernel
theorem dX8_readTotal_84 : decode cX8_readTotal 84 = .ok (.getfield 67, 3) := by decide +kernel
theorem dX8_readTotal_87 : decode cX8_readTotal 87 = .ok (.lconst 1, 1) := by decide +kernel
theorem dX8_readTotal_88 : decode cX8_readTotal 88 = .ok (.iload_n 2, 1) := by decide +kernel
theorem dX8_readTotal_89 : decode cX8_readTotal 89 = .ok (.lshl, 1) := by decide +kernel
theorem dX8_readTotal_90 : decode cX8_readTotal 90 = .ok (.lor, 1) := by decide +kernel
theorem dX8_readTotal_91 : decode cX8_readTotal 91 = .ok (.putfield 67, 3) := by decide +kernel
theorem dX8_readTotal_94 : decode cX8_readTotal 94 = .ok (.iinc 2 1, 3) := by decide +kernel
theorem dX8_readTotal_97 : decode cX8_readTotal 97 = .ok (.goto (-23), 3) := by decide +kernel
theorem dX8_readTotal_100 : decode cX8_readTotal 100 = .ok (.iconst 1, 1) := by decide +kernel
theorem dX8_readTotal_101 : decode cX8_readTotal 101 = .ok (.ireturn, 1) := by decide +kernel
theorem dX8_readRound_0 : decode cX8_readRound 0 = .ok (.aload_n 0, 1) := by decide +kernel
theorem dX8_readRound_1 : decode cX8_readRound 1 = .ok (.sipush 261, 3) := by decide +kernel
theorem dX8_readRound_4 : decode cX8_readRound 4 = .ok (.invokevirtual 116, 3) := by decide +kernel
theorem dX8_readRound_7 : decode cX8_readRound 7 = .ok (.ifCond .ne 5, 3) := by decide +kernel
theorem dX8_readRound_10 : decode cX8_readRound 10 = .ok (.iconst 0, 1) := by decide +kernel
theorem dX8_readRound_11 : decode cX8_readRound 11 = .ok (.ireturn, 1) := by decide +kernel
theorem dX8_readRound_12 : decode cX8_readRound 12 = .ok (.aload_n 0, 1) := by decide +kernel
theorem dX8_readRound_13 : decode cX8_readRound 13 = .ok (.dup, 1) := by decide +kernel
theorem dX8_readRound_14 : decode cX8_readRound 14 = .ok (.getfield 67, 3) := by decide +kernel
theorem dX8_readRound_17 : decode cX8_readRound 17 = .ok (.lconst 1, 1) := by decide +kernel
theorem dX8_readRound_18 : decode cX8_readRound 18 = .ok (.aload_n 0, 1) := by decide +kernel
theorem dX8_readRound_19 : decode cX8_readRound 19 = .ok (.getfield 98, 3) := by decide +kernel
theorem dX8_readRound_22 : decode cX8_readRound 22 = .ok (.lshl, 1) := by decide +kernel
theorem dX8_readRound_23 : decode cX8_readRound 23 = .ok (.lor, 1) := by decide +kernel
theorem dX8_readRound_24 : decode cX8_readRound 24 = .ok (.putfield 67, 3) := by decide +kernel
theorem dX8_readRound_27 : decode cX8_readRound 27 = .ok (.aload_n 0, 1) := by decide +kernel
theorem dX8_readRound_28 : decode cX8_readRound 28 = .ok (.sipush 262, 3) := by decide +kernel
theorem dX8_readRound_31 : decode cX8_readRound 31 = .ok (.invokevirtual 76, 3) := by decide +kernel
theorem dX8_readRound_34 : decode cX8_readRound 34 = .ok (.ifCond .eq 14, 3) := by decide +kernel
theorem dX8_readRound_37 : decode cX8_readRound 37 = .ok (.aload_n 0, 1) := by decide +kernel
theorem dX8_readRound_38 : decode cX8_readRound 38 = .ok (.iconst 1, 1) := by decide +kernel
theorem dX8_readRound_39 : decode cX8_readRound 39 = .ok (.sipush 9999, 3) := by decide +kernel
theorem dX8_readRound_42 : decode cX8_readRound 42 = .ok (.invokevirtual 94, 3) := by decide +kernel
theorem dX8_readRound_45 : decode cX8_readRound 45 = .ok (.ifCond .ne 5, 3) := by decide +kernel
theorem dX8_readRound_48 : decode cX8_readRound 48 = .ok (.iconst 0, 1) := by decide +kernel
theorem dX8_readRound_49 : decode cX8_readRound 49 = .ok (.ireturn, 1) := by decide +kernel
theorem dX8_readRound_50 : decode cX8_readRound 50 = .ok (.aload_n 0, 1) := by decide +kernel
theorem dX8_readRound_51 : decode cX8_readRound 51 = .ok (.aload_n 0, 1) := by decide +kernel
theorem dX8_readRound_52 : decode cX8_readRound 52 = .ok (.getfield 98, 3) := by decide +kernel
theorem dX8_readRound_55 : decode cX8_readRound 55 = .ok (.invokevirtual 110, 3) := by decide +kernel
theorem dX8_readRound_58 : decode cX8_readRound 58 = .ok (.iconst 1, 1) := by decide +kernel
theorem dX8_readRound_59 : decode cX8_readRound 59 = .ok (.ireturn, 1) := by decide +kernel
theorem dX8_readCondition_0 : decode cX8_readCondition 0 = .ok (.aload_n 0, 1) := by decide +kernel
theorem dX8_readCondition_1 : decode cX8_readCondition 1 = .ok (.iconst 0, 1) := by decide +kernel
theorem dX8_readCondition_2 : decode cX8_readCondition 2 = .ok (.putfield 122, 3) := by decide +kernel
theorem dX8_readCondition_5 : decode cX8_readCondition 5 = .ok (.aload_n 0, 1) := by decide +kernel
theorem dX8_readCondition_6 : decode cX8_readCondition 6 = .ok (.iconst 0, 1) := by decide +kernel
theorem dX8_readCondition_7 : decode cX8_readCondition 7 = .ok (.putfield 125, 3) := by decide +kernel
theorem dX8_readCondition_10 : decode cX8_readCondition 10 = .ok (.iconst 0, 1) := by decide +kernel
theorem dX8_readCondition_11 : decode cX8_readCondition 11 = .ok (.istore_n 1, 1) := by decide +kernel
theorem dX8_readCondition_12 : decode cX8_readCondition 12 = .ok (.iload_n 1, 1) := by decide +kernel
theorem dX8_readCondition_13 : decode cX8_readCondition 13 = .ok (.sipush 400, 3) := by decide +kernel
theorem dX8_readCondition_16 : decode cX8_readCondition 16 = .ok (.if_icmp .ge 161, 3) := by decide +kernel
theorem dX8_readCondition_19 : decode cX8_readCondition 19 = .ok (.aload_n 0, 1) := by decide +kernel
theorem dX8_readCondition_20 : decode cX8_readCondition 20 = .ok (.invokevirtual 63, 3) := by decide +kernel
theorem dX8_readCondition_23 : decode cX8_readCondition 23 = .ok (.istore_n 2, 1) := by decide +kernel
theorem dX8_readCondition_24 : decode cX8_readCondition 24 = .ok (.iload_n 2, 1) := by decide +kernel
theorem dX8_readCondition_25 : decode cX8_readCondition 25 = .ok (.sipush 268, 3) := by decide +kernel
theorem dX8_readCondition_28 : decode cX8_readCondition 28 = .ok (.if_icmp .eq 9, 3) := by decide +kernel
theorem dX8_readCondition_31 : decode cX8_readCondition 31 = .ok (.iload_n 2, 1) := by decide +kernel
theorem dX8_readCondition_32 : decode cX8_readCondition 32 = .ok (.bipush 40, 2) := by decide +kernel
theorem dX8_readCondition_34 : decode cX8_readCondition 34 = .ok (.if_icmp .ne 42, 3) := by decide +kernel
theorem dX8_readCondition_37 : decode cX8_readCondition 37 = .ok (.aload_n 0, 1) := by decide +kernel
theorem dX8_readCondition_38 : decode cX8_readCondition 38 = .ok (.getfield 125, 3) := by decide +kernel
theorem dX8_readCondition_41 : decode cX8_readCondition 41 = .ok (.bipush 6, 2) := by decide +kernel
theorem dX8_readCondition_43 : decode cX8_readCondition 43 = .ok (.if_icmp .lt 5, 3) := by decide +kernel
theorem dX8_readCondition_46 : decode cX8_readCondition 46 = .ok (.iconst 0, 1) := by decide +kernel
theorem dX8_readCondition_47 : decode cX8_readCondition 47 = .ok (.ireturn, 1) := by decide +kernel
theorem dX8_readCondition_48 : decode cX8_readCondition 48 = .ok (.aload_n 0, 1) := by decide +kernel
theorem dX8_readCondition_49 : decode cX8_readCondition 49 = .ok (.dup, 1) := by decide +kernel
theorem dX8_readCondition_50 : decode cX8_readCondition 50 = .ok (.getfield 50, 3) := by decide +kernel
theorem dX8_readCondition_53 : decode cX8_readCondition 53 = .ok (.iconst 1, 1) := by decide +kernel
theorem dX8_readCondition_54 : decode cX8_readCondition 54 = .ok (.iadd, 1) := by decide +kernel
theorem dX8_readCondition_55 : decode cX8_readCondition 55 = .ok (.putfield 50, 3) := by decide +kernel
theorem dX8_readCondition_58 : decode cX8_readCondition 58 = .ok (.aload_n 0, 1) := by decide +kernel
theorem dX8_readCondition_59 : decode cX8_readCondition 59 = .ok (.dup, 1) := by decide +kernel
theorem dX8_readCondition_60 : decode cX8_readCondition 60 = .ok (.getfield 125, 3) := by decide +kernel
theorem dX8_readCondition_63 : decode cX8_readCondition 63 = .ok (.iconst 1, 1) := by decide +kernel
theorem dX8_readCondition_64 : decode cX8_readCondition 64 = .ok (.iadd, 1) := by decide +kernel
theorem dX8_readCondition_65 : decode cX8_readCondition 65 = .ok (.putfield 125, 3) := by decide +kernel
theorem dX8_readCondition_68 : decode cX8_readCondition 68 = .ok (.aload_n 0, 1) := by decide +kernel
theorem dX8_readCondition_69 : decode cX8_readCondition 69 = .ok (.iload_n 2, 1) := by decide +kernel
theorem dX8_readCondition_70 : decode cX8_readCondition 70 = .ok (.invokevirtual 128, 3) := by decide +kernel
theorem dX8_readCondition_73 : decode cX8_readCondition 73 = .ok (.goto 98, 3) := by decide +kernel
theorem dX8_readCondition_76 : decode cX8_readCondition 76 = .ok (.aload_n 0, 1) := by decide +kernel
theorem dX8_readCondition_77 : decode cX8_readCondition 77 = .ok (.invokevirtual 131, 3) := by decide +kernel
theorem dX8_readCondition_80 : decode cX8_readCondition 80 = .ok (.ifCond .ne 5, 3) := by decide +kernel
theorem dX8_readCondition_83 : decode cX8_readCondition 83 = .ok (.iconst 0, 1) := by decide +kernel
theorem dX8_readCondition_84 : decode cX8_readCondition 84 = .ok (.ireturn, 1) := by decide +kernel
theorem dX8_readCondition_85 : decode cX8_readCondition 85 = .ok (.aload_n 0, 1) := by decide +kernel
theorem dX8_readCondition_86 : decode cX8_readCondition 86 = .ok (.invokevirtual 134, 3) := by decide +kernel
theorem dX8_readCondition_89 : decode cX8_readCondition 89 = .ok (.aload_n 0, 1) := by decide +kernel
theorem dX8_readCondition_90 : decode cX8_readCondition 90 = .ok (.sipush 267, 3) := by decide +kernel
theorem dX8_readCondition_93 : decode cX8_readCondition 93 = .ok (.invokevirtual 76, 3) := by decide +kernel
theorem dX8_readCondition_96 : decode cX8_readCondition 96 = .ok (.ifCond .eq 9, 3) := by decide +kernel
theorem dX8_readCondition_99 : decode cX8_readCondition 99 = .ok (.sipush 267, 3) := by decide +kernel
theorem dX8_readCondition_102 : decode cX8_readCondition 102 = .ok (.goto 20, 3) := by decide +kernel
theorem dX8_readCondition_105 : decode cX8_readCondition 105 = .ok (.aload_n 0, 1) := by decide +kernel
theorem dX8_readCondition_106 : decode cX8_readCondition 106 = .ok (.sipush 266, 3) := by decide +kernel
theorem dX8_readCondition_109 : decode cX8_readCondition 109 = .ok (.invokevirtual 76, 3) := by decide +kernel
theorem dX8_readCondition_112 : decode cX8_readCondition 112 = .ok (.ifCond .eq 9, 3) := by decide +kernel
theorem dX8_readCondition_115 : decode cX8_readCondition 115 = .ok (.sipush 266, 3) := by decide +kernel
theorem dX8_readCondition_118 : decode cX8_readCondition 118 = .ok (.goto 4, 3) := by decide +kernel
theorem dX8_readCondition_121 : decode cX8_readCondition 121 = .ok (.iconst (-1), 1) := by decide +kernel
theorem dX8_readCondition_122 : decode cX8_readCondition 122 = .ok (.istore_n 3, 1) := by decide +kernel
theorem dX8_readCondition_123 : decode cX8_readCondition 123 = .ok (.aload_n 0, 1) := by decide +kernel
theorem dX8_readCondition_124 : decode cX8_readCondition 124 = .ok (.iload_n 3, 1) := by decide +kernel
theorem dX8_readCondition_125 : decode cX8_readCondition 125 = .ok (.sipush 267, 3) := by decide +kernel
theorem dX8_readCondition_128 : decode cX8_readCondition 128 = .ok (.if_icmp .ne 9, 3) := by decide +kernel
theorem dX8_readCondition_131 : decode cX8_readCondition 131 = .ok (.sipush 267, 3) := by decide +kernel
theorem dX8_readCondition_134 : decode cX8_readCondition 134 = .ok (.goto 6, 3) := by decide +kernel
theorem dX8_readCondition_137 : decode cX8_readCondition 137 = .ok (.sipush 266, 3) := by decide +kernel
theorem dX8_readCondition_140 : decode cX8_readCondition 140 = .ok (.invokevirtual 137, 3) := by decide +kernel
theorem dX8_readCondition_143 : decode cX8_readCondition 143 = .ok (.iload_n 3, 1) := by decide +kernel
theorem dX8_readCondition_144 : decode cX8_readCondition 144 = .ok (.iconst (-1), 1) := by decide +kernel
theorem dX8_readCondition_145 : decode cX8_readCondition 145 = .ok (.if_icmp .ne 21, 3) := by decide +kernel
theorem dX8_readCondition_148 : decode cX8_readCondition 148 = .ok (.aload_n 0, 1) := by decide +kernel
theorem dX8_readCondition_149 : decode cX8_readCondition 149 = .ok (.iconst (-1), 1) := by decide +kernel
theorem dX8_readCondition_150 : decode cX8_readCondition 150 = .ok (.invokevirtual 110, 3) := by decide +kernel
theorem dX8_readCondition_153 : decode cX8_readCondition 153 = .ok (.aload_n 0, 1) := by decide +kernel
theorem dX8_readCondition_154 : decode cX8_readCondition 154 = .ok (.getfield 122, 3) := by decide +kernel
theorem dX8_readCondition_157 : decode cX8_readCondition 157 = .ok (.ifCond .ne 7, 3) := by decide +kernel
theorem dX8_readCondition_160 : decode cX8_readCondition 160 = .ok (.iconst 1, 1) := by decide +kernel
theorem dX8_readCondition_161 : decode cX8_readCondition 161 = .ok (.goto 4, 3) := by decide +kernel
theorem dX8_readCondition_164 : decode cX8_readCondition 164 = .ok (.iconst 0, 1) := by decide +kernel
theorem dX8_readCondition_165 : decode cX8_readCondition 165 = .ok (.ireturn, 1) := by decide +kernel
theorem dX8_readCondition_166 : decode cX8_readCondition 166 = .ok (.aload_n 0, 1) := by decide +kernel
theorem dX8_readCondition_167 : decode cX8_readCondition 167 = .ok (.iload_n 3, 1) := by decide +kernel
theorem dX8_readCondition_168 : decode cX8_readCondition 168 = .ok (.invokevirtual 128, 3) := by decide +kernel
theorem dX8_readCondition_171 : decode cX8_readCondition 171 = .ok (.iinc 1 1, 3) := by decide +kernel
theorem dX8_readCondition_174 : decode cX8_readCondition 174 = .ok (.goto (-162), 3) := by decide +kernel
theorem dX8_readCondition_177 : decode cX8_readCondition 177 = .ok (.iconst 0, 1) := by decide +kernel
theorem dX8_readCondition_178 : decode cX8_readCondition 178 = .ok (.ireturn, 1) := by decide +kernel
theorem dX8_closeWhatEnds_0 : decode cX8_closeWhatEnds 0 = .ok (.aload_n 0, 1) := by decide +kernel
theorem dX8_closeWhatEnds_1 : decode cX8_closeWhatEnds 1 = .ok (.invokevirtual 140, 3) := by decide +kernel
theorem dX8_closeWhatEnds_4 : decode cX8_closeWhatEnds 4 = .ok (.iconst 0, 1) := by decide +kernel
theorem dX8_closeWhatEnds_5 : decode cX8_closeWhatEnds 5 = .ok (.istore_n 1, 1) := by decide +kernel
theorem dX8_closeWhatEnds_6 : decode cX8_closeWhatEnds 6 = .ok (.iload_n 1, 1) := by decide +kernel
theorem dX8_closeWhatEnds_7 : decode cX8_closeWhatEnds 7 = .ok (.bipush 6, 2) := by decide +kernel
theorem dX8_closeWhatEnds_9 : decode cX8_closeWhatEnds 9 = .ok (.if_icmp .ge 60, 3) := by decide +kernel
theorem dX8_closeWhatEnds_12 : decode cX8_closeWhatEnds 12 = .ok (.aload_n 0, 1) := by decide +kernel
theorem dX8_closeWhatEnds_13 : decode cX8_closeWhatEnds 13 = .ok (.getfield 125, 3) := by decide +kernel
theorem dX8_closeWhatEnds_16 : decode cX8_closeWhatEnds 16 = .ok (.ifCond .le 53, 3) := by decide +kernel
theorem dX8_closeWhatEnds_19 : decode cX8_closeWhatEnds 19 = .ok (.aload_n 0, 1) := by decide +kernel
theorem dX8_closeWhatEnds_20 : decode cX8_closeWhatEnds 20 = .ok (.bipush 41, 2) := by decide +kernel
theorem dX8_closeWhatEnds_22 : decode cX8_closeWhatEnds 22 = .ok (.invokevirtual 76, 3) := by decide +kernel
theorem dX8_closeWhatEnds_25 : decode cX8_closeWhatEnds 25 = .ok (.ifCond .eq 44, 3) := by decide +kernel
theorem dX8_closeWhatEnds_28 : decode cX8_closeWhatEnds 28 = .ok (.aload_n 0, 1) := by decide +kernel
theorem dX8_closeWhatEnds_29 : decode cX8_closeWhatEnds 29 = .ok (.sipush 266, 3) := by decide +kernel
theorem dX8_closeWhatEnds_32 : decode cX8_closeWhatEnds 32 = .ok (.invokevirtual 137, 3) := by decide +kernel
theorem dX8_closeWhatEnds_35 : decode cX8_closeWhatEnds 35 = .ok (.aload_n 0, 1) := by decide +kernel
theorem dX8_closeWhatEnds_36 : decode cX8_closeWhatEnds 36 = .ok (.iconst 0, 1) := by decide +kernel
theorem dX8_closeWhatEnds_37 : decode cX8_closeWhatEnds 37 = .ok (.aload_n 0, 1) := by decide +kernel
theorem dX8_closeWhatEnds_38 : decode cX8_closeWhatEnds 38 = .ok (.getfield 122, 3) := by decide +kernel
theorem dX8_closeWhatEnds_41 : decode cX8_closeWhatEnds 41 = .ok (.iconst 1, 1) := by decide +kernel
theorem dX8_closeWhatEnds_42 : decode cX8_closeWhatEnds 42 = .ok (.isub, 1) := by decide +kernel
theorem dX8_closeWhatEnds_43 : decode cX8_closeWhatEnds 43 = .ok (.invokestatic 43, 3) := by decide +kernel
theorem dX8_closeWhatEnds_46 : decode cX8_closeWhatEnds 46 = .ok (.putfield 122, 3) := by decide +kernel
theorem dX8_closeWhatEnds_49 : decode cX8_closeWhatEnds 49 = .ok (.aload_n 0, 1) := by decide +kernel
theorem dX8_closeWhatEnds_50 : decode cX8_closeWhatEnds 50 = .ok (.dup, 1) := by decide +kernel
theorem dX8_closeWhatEnds_51 : decode cX8_closeWhatEnds 51 = .ok (.getfield 125, 3) := by decide +kernel
theorem dX8_closeWhatEnds_54 : decode cX8_closeWhatEnds 54 = .ok (.iconst 1, 1) := by decide +kernel
theorem dX8_closeWhatEnds_55 : decode cX8_closeWhatEnds 55 = .ok (.isub, 1) := by decide +kernel
theorem dX8_closeWhatEnds_56 : decode cX8_closeWhatEnds 56 = .ok (.putfield 125, 3) := by decide +kernel
theorem dX8_closeWhatEnds_59 : decode cX8_closeWhatEnds 59 = .ok (.aload_n 0, 1) := by decide +kernel
theorem dX8_closeWhatEnds_60 : decode cX8_closeWhatEnds 60 = .ok (.invokevirtual 140, 3) := by decide +kernel
theorem dX8_closeWhatEnds_63 : decode cX8_closeWhatEnds 63 = .ok (.iinc 1 1, 3) := by decide +kernel
theorem dX8_closeWhatEnds_66 : decode cX8_closeWhatEnds 66 = .ok (.goto (-60), 3) := by decide +kernel
theorem dX8_closeWhatEnds_69 : decode cX8_closeWhatEnds 69 = .ok (.return_, 1) := by decide +kernel
theorem dX8_dropNots_0 : decode cX8_dropNots 0 = .ok (.aload_n 0, 1) := by decide +kernel
theorem dX8_dropNots_1 : decode cX8_dropNots 1 = .ok (.getfield 122, 3) := by decide +kernel
theorem dX8_dropNots_4 : decode cX8_dropNots 4 = .ok (.ifCond .le 59, 3) := by decide +kernel
theorem dX8_dropNots_7 : decode cX8_dropNots 7 = .ok (.aload_n 0, 1) := by decide +kernel
theorem dX8_dropNots_8 : decode cX8_dropNots 8 = .ok (.getfield 122, 3) := by decide +kernel
theorem dX8_dropNots_11 : decode cX8_dropNots 11 = .ok (.bipush 20, 2) := by decide +kernel
theorem dX8_dropNots_13 : decode cX8_dropNots 13 = .ok (.if_icmp .gt 50, 3) := by decide +kernel
theorem dX8_dropNots_16 : decode cX8_dropNots 16 = .ok (.aload_n 0, 1) := by decide +kernel
theorem dX8_dropNots_17 : decode cX8_dropNots 17 = .ok (.getfield 27, 3) := by decide +kernel
theorem dX8_dropNots_20 : decode cX8_dropNots 20 = .ok (.aload_n 0, 1) := by decide +kernel
theorem dX8_dropNots_21 : decode cX8_dropNots 21 = .ok (.getfield 122, 3) := by decide +kernel
theorem dX8_dropNots_24 : decode cX8_dropNots 24 = .ok (.iconst 1, 1) := by decide +kernel
theorem dX8_dropNots_25 : decode cX8_dropNots 25 = .ok (.isub, 1) := by decide +kernel
theorem dX8_dropNots_26 : decode cX8_dropNots 26 = .ok (.iaload, 1) := by decide +kernel
theorem dX8_dropNots_27 : decode cX8_dropNots 27 = .ok (.sipush 268, 3) := by decide +kernel
theorem dX8_dropNots_30 : decode cX8_dropNots 30 = .ok (.if_icmp .ne 33, 3) := by decide +kernel
theorem dX8_dropNots_33 : decode cX8_dropNots 33 = .ok (.aload_n 0, 1) := by decide +kernel
theorem dX8_dropNots_34 : decode cX8_dropNots 34 = .ok (.sipush 268, 3) := by decide +kernel
theorem dX8_dropNots_37 : decode cX8_dropNots 37 = .ok (.invokevirtual 110, 3) := by decide +kernel
theorem dX8_dropNots_40 : decode cX8_dropNots 40 = .ok (.aload_n 0, 1) := by decide +kernel
theorem dX8_dropNots_41 : decode cX8_dropNots 41 = .ok (.dup, 1) := by decide +kernel
theorem dX8_dropNots_42 : decode cX8_dropNots 42 = .ok (.getfield 122, 3) := by decide +kernel
theorem dX8_dropNots_45 : decode cX8_dropNots 45 = .ok (.iconst 1, 1) := by decide +kernel
theorem dX8_dropNots_46 : decode cX8_dropNots 46 = .ok (.isub, 1) := by decide +kernel
theorem dX8_dropNots_47 : decode cX8_dropNots 47 = .ok (.putfield 122, 3) := by decide +kernel
theorem dX8_dropNots_50 : decode cX8_dropNots 50 = .ok (.aload_n 0, 1) := by decide +kernel
theorem dX8_dropNots_51 : decode cX8_dropNots 51 = .ok (.dup, 1) := by decide +kernel
theorem dX8_dropNots_52 : decode cX8_dropNots 52 = .ok (.getfield 125, 3) := by decide +kernel
theorem dX8_dropNots_55 : decode cX8_dropNots 55 = .ok (.iconst 1, 1) := by decide +kernel
theorem dX8_dropNots_56 : decode cX8_dropNots 56 = .ok (.isub, 1) := by decide +kernel
theorem dX8_dropNots_57 : decode cX8_dropNots 57 = .ok (.putfield 125, 3) := by decide +kernel
theorem dX8_dropNots_60 : decode cX8_dropNots 60 = .ok (.goto (-60), 3) := by decide +kernel
theorem dX8_dropNots_63 : decode cX8_dropNots 63 = .ok (.return_, 1) := by decide +kernel
theorem dX8_settle_0 : decode cX8_settle 0 = .ok (.aload_n 0, 1) := by decide +kernel
theorem dX8_settle_1 : decode cX8_settle 1 = .ok (.getfield 122, 3) := by decide +kernel
theorem dX8_settle_4 : decode cX8_settle 4 = .ok (.ifCond .le 46, 3) := by decide +kernel
theorem dX8_settle_7 : decode cX8_settle 7 = .ok (.aload_n 0, 1) := by decide +kernel
theorem dX8_settle_8 : decode cX8_settle 8 = .ok (.getfield 122, 3) := by decide +kernel
theorem dX8_settle_11 : decode cX8_settle 11 = .ok (.bipush 20, 2) := by decide +kernel
theorem dX8_settle_13 : decode cX8_settle 13 = .ok (.if_icmp .gt 37, 3) := by decide +kernel
theorem dX8_settle_16 : decode cX8_settle 16 = .ok (.aload_n 0, 1) := by decide +kernel
theorem dX8_settle_17 : decode cX8_settle 17 = .ok (.getfield 27, 3) := by decide +kernel
theorem dX8_settle_20 : decode cX8_settle 20 = .ok (.aload_n 0, 1) := by decide +kernel
theorem dX8_settle_21 : decode cX8_settle 21 = .ok (.getfield 122, 3) := by decide +kernel
theorem dX8_settle_24 : decode cX8_settle 24 = .ok (.iconst 1, 1) := by decide +kernel
theorem dX8_settle_25 : decode cX8_settle 25 = .ok (.isub, 1) := by decide +kernel
theorem dX8_settle_26 : decode cX8_settle 26 = .ok (.iaload, 1) := by decide +kernel
theorem dX8_settle_27 : decode cX8_settle 27 = .ok (.sipush 267, 3) := by decide +kernel
theorem dX8_settle_30 : decode cX8_settle 30 = .ok (.if_icmp .ne 20, 3) := by decide +kernel
theorem dX8_settle_33 : decode cX8_settle 33 = .ok (.aload_n 0, 1) := by decide +kernel
theorem dX8_settle_34 : decode cX8_settle 34 = .ok (.sipush 267, 3) := by decide +kernel
theorem dX8_settle_37 : decode cX8_settle 37 = .ok (.invokevirtual 110, 3) := by decide +kernel
theorem dX8_settle_40 : decode cX8_settle 40 = .ok (.aload_n 0, 1) := by decide +kernel
theorem dX8_settle_41 : decode cX8_settle 41 = .ok (.dup, 1) := by decide +kernel
theorem dX8_settle_42 : decode cX8_settle 42 = .ok (.getfield 122, 3) := by decide +kernel
theorem dX8_settle_45 : decode cX8_settle 45 = .ok (.iconst 1, 1) := by decide +kernel
theorem dX8_settle_46 : decode cX8_settle 46 = .ok (.isub, 1) := by decide +kernel
theorem dX8_settle_47 : decode cX8_settle 47 = .ok (.putfield 122, 3) := by decide +kernel
theorem dX8_settle_50 : decode cX8_settle 50 = .ok (.iload_n 1, 1) := by decide +kernel
theorem dX8_settle_51 : decode cX8_settle 51 = .ok (.sipush 266, 3) := by decide +kernel
theorem dX8_settle_54 : decode cX8_settle 54 = .ok (.if_icmp .ne 53, 3) := by decide +kernel
theorem dX8_settle_57 : decode cX8_settle 57 = .ok (.aload_n 0, 1) := by decide +kernel
theorem dX8_settle_58 : decode cX8_settle 58 = .ok (.getfield 122, 3) := by decide +kernel
theorem dX8_settle_61 : decode cX8_settle 61 = .ok (.ifCond .le 46, 3) := by decide +kernel
theorem dX8_settle_64 : decode cX8_settle 64 = .ok (.aload_n 0, 1) := by decide +kernel
theorem dX8_settle_65 : decode cX8_settle 65 = .ok (.getfield 122, 3) := by decide +kernel
theorem dX8_settle_68 : decode cX8_settle 68 = .ok (.bipush 20, 2) := by decide +kernel
theorem dX8_settle_70 : decode cX8_settle 70 = .ok (.if_icmp .gt 37, 3) := by decide +kernel
theorem dX8_settle_73 : decode cX8_settle 73 = .ok (.aload_n 0, 1) := by decide +kernel
theorem dX8_settle_74 : decode cX8_settle 74 = .ok (.getfield 27, 3) := by decide +kernel
theorem dX8_settle_77 : decode cX8_settle 77 = .ok (.aload_n 0, 1) := by decide +kernel
theorem dX8_settle_78 : decode cX8_settle 78 = .ok (.getfield 122, 3) := by decide +kernel
theorem dX8_settle_81 : decode cX8_settle 81 = .ok (.iconst 1, 1) := by decide +kernel
theorem dX8_settle_82 : decode cX8_settle 82 = .ok (.isub, 1) := by decide +kernel
theorem dX8_settle_83 : decode cX8_settle 83 = .ok (.iaload, 1) := by decide +kernel
theorem dX8_settle_84 : decode cX8_settle 84 = .ok (.sipush 266, 3) := by decide +kernel
theorem dX8_settle_87 : decode cX8_settle 87 = .ok (.if_icmp .ne 20, 3) := by decide +kernel
theorem dX8_settle_90 : decode cX8_settle 90 = .ok (.aload_n 0, 1) := by decide +kernel
theorem dX8_settle_91 : decode cX8_settle 91 = .ok (.sipush 266, 3) := by decide +kernel
theorem dX8_settle_94 : decode cX8_settle 94 = .ok (.invokevirtual 110, 3) := by decide +kernel
theorem dX8_settle_97 : decode cX8_settle 97 = .ok (.aload_n 0, 1) := by decide +kernel
theorem dX8_settle_98 : decode cX8_settle 98 = .ok (.dup, 1) := by decide +kernel
theorem dX8_settle_99 : decode cX8_settle 99 = .ok (.getfield 122, 3) := by decide +kernel
theorem dX8_settle_102 : decode cX8_settle 102 = .ok (.iconst 1, 1) := by decide +kernel
theorem dX8_settle_103 : decode cX8_settle 103 = .ok (.isub, 1) := by decide +kernel
theorem dX8_settle_104 : decode cX8_settle 104 = .ok (.putfield 122, 3) := by decide +kernel
theorem dX8_settle_107 : decode cX8_settle 107 = .ok (.return_, 1) := by decide +kernel
theorem dX8_push_0 : decode cX8_push 0 = .ok (.aload_n 0, 1) := by decide +kernel
theorem dX8_push_1 : decode cX8_push 1 = .ok (.getfield 122, 3) := by decide +kernel
theorem dX8_push_4 : decode cX8_push 4 = .ok (.ifCond .lt 32, 3) := by decide +kernel
theorem dX8_push_7 : decode cX8_push 7 = .ok (.aload_n 0, 1) := by decide +kernel
theorem dX8_push_8 : decode cX8_push 8 = .ok (.getfield 122, 3) := by decide +kernel
theorem dX8_push_11 : decode cX8_push 11 = .ok (.bipush 20, 2) := by decide +kernel
theorem dX8_push_13 : decode cX8_push 13 = .ok (.if_icmp .ge 23, 3) := by decide +kernel
theorem dX8_push_16 : decode cX8_push 16 = .ok (.aload_n 0, 1) := by decide +kernel
theorem dX8_push_17 : decode cX8_push 17 = .ok (.getfield 27, 3) := by decide +kernel
theorem dX8_push_20 : decode cX8_push 20 = .ok (.aload_n 0, 1) := by decide +kernel
theorem dX8_push_21 : decode cX8_push 21 = .ok (.getfield 122, 3) := by decide +kernel
theorem dX8_push_24 : decode cX8_push 24 = .ok (.iload_n 1, 1) := by decide +kernel
theorem dX8_push_25 : decode cX8_push 25 = .ok (.iastore, 1) := by decide +kernel
theorem dX8_push_26 : decode cX8_push 26 = .ok (.aload_n 0, 1) := by decide +kernel
theorem dX8_push_27 : decode cX8_push 27 = .ok (.dup, 1) := by decide +kernel
theorem dX8_push_28 : decode cX8_push 28 = .ok (.getfield 122, 3) := by decide +kernel
theorem dX8_push_31 : decode cX8_push 31 = .ok (.iconst 1, 1) := by decide +kernel
theorem dX8_push_32 : decode cX8_push 32 = .ok (.iadd, 1) := by decide +kernel
theorem dX8_push_33 : decode cX8_push 33 = .ok (.putfield 122, 3) := by decide +kernel
theorem dX8_push_36 : decode cX8_push 36 = .ok (.return_, 1) := by decide +kernel
theorem dX8_readCompared_0 : decode cX8_readCompared 0 = .ok (.aload_n 0, 1) := by decide +kernel
theorem dX8_readCompared_1 : decode cX8_readCompared 1 = .ok (.getfield 53, 3) := by decide +kernel
theorem dX8_readCompared_4 : decode cX8_readCompared 4 = .ok (.istore_n 1, 1) := by decide +kernel
theorem dX8_readCompared_5 : decode cX8_readCompared 5 = .ok (.aload_n 0, 1) := by decide +kernel
theorem dX8_readCompared_6 : decode cX8_readCompared 6 = .ok (.bipush 60, 2) := by decide +kernel
theorem dX8_readCompared_8 : decode cX8_readCompared 8 = .ok (.invokevirtual 110, 3) := by decide +kernel
theorem dX8_readCompared_11 : decode cX8_readCompared 11 = .ok (.aload_n 0, 1) := by decide +kernel
theorem dX8_readCompared_12 : decode cX8_readCompared 12 = .ok (.invokevirtual 119, 3) := by decide +kernel
theorem dX8_readCompared_15 : decode cX8_readCompared 15 = .ok (.ifCond .ne 5, 3) := by decide +kernel
theorem dX8_readCompared_18 : decode cX8_readCompared 18 = .ok (.iconst 0, 1) := by decide +kernel
theorem dX8_readCompared_19 : decode cX8_readCompared 19 = .ok (.ireturn, 1) := by decide +kernel
theorem dX8_readCompared_20 : decode cX8_readCompared 20 = .ok (.aload_n 0, 1) := by decide +kernel
theorem dX8_readCompared_21 : decode cX8_readCompared 21 = .ok (.bipush 62, 2) := by decide +kernel
theorem dX8_readCompared_23 : decode cX8_readCompared 23 = .ok (.invokevirtual 76, 3) := by decide +kernel
theorem dX8_readCompared_26 : decode cX8_readCompared 26 = .ok (.ifCond .eq 13, 3) := by decide +kernel
theorem dX8_readCompared_29 : decode cX8_readCompared 29 = .ok (.aload_n 0, 1) := by decide +kernel
theorem dX8_readCompared_30 : decode cX8_readCompared 30 = .ok (.iload_n 1, 1) := by decide +kernel
theorem dX8_readCompared_31 : decode cX8_readCompared 31 = .ok (.bipush 62, 2) := by decide +kernel
theorem dX8_readCompared_33 : decode cX8_readCompared 33 = .ok (.invokevirtual 143, 3) := by decide +kernel
theorem dX8_readCompared_36 : decode cX8_readCompared 36 = .ok (.goto 14, 3) := by decide +kernel
theorem dX8_readCompared_39 : decode cX8_readCompared 39 = .ok (.aload_n 0, 1) := by decide +kernel
theorem dX8_readCompared_40 : decode cX8_readCompared 40 = .ok (.bipush 60, 2) := by decide +kernel
theorem dX8_readCompared_42 : decode cX8_readCompared 42 = .ok (.invokevirtual 76, 3) := by decide +kernel
theorem dX8_readCompared_45 : decode cX8_readCompared 45 = .ok (.ifCond .ne 5, 3) := by decide +kernel
theorem dX8_readCompared_48 : decode cX8_readCompared 48 = .ok (.iconst 0, 1) := by decide +kernel
theorem dX8_readCompared_49 : decode cX8_readCompared 49 = .ok (.ireturn, 1) := by decide +kernel
theorem dX8_readCompared_50 : decode cX8_readCompared 50 = .ok (.aload_n 0, 1) := by decide +kernel
theorem dX8_readCompared_51 : decode cX8_readCompared 51 = .ok (.invokevirtual 119, 3) := by decide +kernel
theorem dX8_readCompared_54 : decode cX8_readCompared 54 = .ok (.ireturn, 1) := by decide +kernel
theorem dX8_readSum_0 : decode cX8_readSum 0 = .ok (.aload_n 0, 1) := by decide +kernel
theorem dX8_readSum_1 : decode cX8_readSum 1 = .ok (.getfield 53, 3) := by decide +kernel
theorem dX8_readSum_4 : decode cX8_readSum 4 = .ok (.istore_n 1, 1) := by decide +kernel
theorem dX8_readSum_5 : decode cX8_readSum 5 = .ok (.aload_n 0, 1) := by decide +kernel
theorem dX8_readSum_6 : decode cX8_readSum 6 = .ok (.iconst 0, 1) := by decide +kernel
theorem dX8_readSum_7 : decode cX8_readSum 7 = .ok (.invokevirtual 110, 3) := by decide +kernel
theorem dX8_readSum_10 : decode cX8_readSum 10 = .ok (.iconst 1, 1) := by decide +kernel
theorem dX8_readSum_11 : decode cX8_readSum 11 = .ok (.istore_n 2, 1) := by decide +kernel
theorem dX8_readSum_12 : decode cX8_readSum 12 = .ok (.iconst 1, 1) := by decide +kernel
theorem dX8_readSum_13 : decode cX8_readSum 13 = .ok (.istore_n 3, 1) := by decide +kernel
theorem dX8_readSum_14 : decode cX8_readSum 14 = .ok (.iload_n 3, 1) := by decide +kernel
theorem dX8_readSum_15 : decode cX8_readSum 15 = .ok (.sipush 400, 3) := by decide +kernel
theorem dX8_readSum_18 : decode cX8_readSum 18 = .ok (.if_icmp .gt 55, 3) := by decide +kernel
theorem dX8_readSum_21 : decode cX8_readSum 21 = .ok (.aload_n 0, 1) := by decide +kernel
theorem dX8_readSum_22 : decode cX8_readSum 22 = .ok (.iload_n 2, 1) := by decide +kernel
theorem dX8_readSum_23 : decode cX8_readSum 23 = .ok (.invokevirtual 147, 3) := by decide +kernel
theorem dX8_readSum_26 : decode cX8_readSum 26 = .ok (.ifCond .ne 5, 3) := by decide +kernel
theorem dX8_readSum_29 : decode cX8_readSum 29 = .ok (.iconst 0, 1) := by decide +kernel
theorem dX8_readSum_30 : decode cX8_readSum 30 = .ok (.ireturn, 1) := by decide +kernel
theorem dX8_readSum_31 : decode cX8_readSum 31 = .ok (.aload_n 0, 1) := by decide +kernel
theorem dX8_readSum_32 : decode cX8_readSum 32 = .ok (.iload_n 1, 1) := by decide +kernel
theorem dX8_readSum_33 : decode cX8_readSum 33 = .ok (.iload_n 3, 1) := by decide +kernel
theorem dX8_readSum_34 : decode cX8_readSum 34 = .ok (.invokevirtual 143, 3) := by decide +kernel
theorem dX8_readSum_37 : decode cX8_readSum 37 = .ok (.aload_n 0, 1) := by decide +kernel
theorem dX8_readSum_38 : decode cX8_readSum 38 = .ok (.bipush 43, 2) := by decide +kernel
theorem dX8_readSum_40 : decode cX8_readSum 40 = .ok (.invokevirtual 76, 3) := by decide +kernel
theorem dX8_readSum_43 : decode cX8_readSum 43 = .ok (.ifCond .eq 8, 3) := by decide +kernel
theorem dX8_readSum_46 : decode cX8_readSum 46 = .ok (.iconst 1, 1) := by decide +kernel
theorem dX8_readSum_47 : decode cX8_readSum 47 = .ok (.istore_n 2, 1) := by decide +kernel
theorem dX8_readSum_48 : decode cX8_readSum 48 = .ok (.goto 19, 3) := by decide +kernel
theorem dX8_readSum_51 : decode cX8_readSum 51 = .ok (.aload_n 0, 1) := by decide +kernel
theorem dX8_readSum_52 : decode cX8_readSum 52 = .ok (.bipush 45, 2) := by decide +kernel
theorem dX8_readSum_54 : decode cX8_readSum 54 = .ok (.invokevirtual 76, 3) := by decide +kernel
theorem dX8_readSum_57 : decode cX8_readSum 57 = .ok (.ifCond .eq 8, 3) := by decide +kernel
theorem dX8_readSum_60 : decode cX8_readSum 60 = .ok (.iconst (-1), 1) := by decide +kernel
theorem dX8_readSum_61 : decode cX8_readSum 61 = .ok (.istore_n 2, 1) := by decide +kernel
theorem dX8_readSum_62 : decode cX8_readSum 62 = .ok (.goto 5, 3) := by decide +kernel
theorem dX8_readSum_65 : decode cX8_readSum 65 = .ok (.iconst 1, 1) := by decide +kernel
theorem dX8_readSum_66 : decode cX8_readSum 66 = .ok (.ireturn, 1) := by decide +kernel
theorem dX8_readSum_67 : decode cX8_readSum 67 = .ok (.iinc 3 1, 3) := by decide +kernel
theorem dX8_readSum_70 : decode cX8_readSum 70 = .ok (.goto (-56), 3) := by decide +kernel
theorem dX8_readSum_73 : decode cX8_readSum 73 = .ok (.iconst 0, 1) := by decide +kernel
theorem dX8_readSum_74 : decode cX8_readSum 74 = .ok (.ireturn, 1) := by decide +kernel
theorem dX8_readPart_0 : decode cX8_readPart 0 = .ok (.iload_n 1, 1) := by decide +kernel
theorem dX8_readPart_1 : decode cX8_readPart 1 = .ok (.istore_n 2, 1) := by decide +kernel
theorem dX8_readPart_2 : decode cX8_readPart 2 = .ok (.aload_n 0, 1) := by decide +kernel
theorem dX8_readPart_3 : decode cX8_readPart 3 = .ok (.iconst 0, 1) := by decide +kernel
theorem dX8_readPart_4 : decode cX8_readPart 4 = .ok (.ldc 150, 2) := by decide +kernel
theorem dX8_readPart_6 : decode cX8_readPart 6 = .ok (.invokevirtual 94, 3) := by decide +kernel
theorem dX8_readPart_9 : decode cX8_readPart 9 = .ok (.ifCond .eq 52, 3) := by decide +kernel
theorem dX8_readPart_12 : decode cX8_readPart 12 = .ok (.aload_n 0, 1) := by decide +kernel
theorem dX8_readPart_13 : decode cX8_readPart 13 = .ok (.getfield 98, 3) := by decide +kernel
theorem dX8_readPart_16 : decode cX8_readPart 16 = .ok (.istore_n 3, 1) := by decide +kernel
theorem dX8_readPart_17 : decode cX8_readPart 17 = .ok (.aload_n 0, 1) := by decide +kernel
theorem dX8_readPart_18 : decode cX8_readPart 18 = .ok (.bipush 42, 2) := by decide +kernel
theorem dX8_readPart_20 : decode cX8_readPart 20 = .ok (.invokevirtual 76, 3) := by decide +kernel
theorem dX8_readPart_23 : decode cX8_readPart 23 = .ok (.ifCond .ne 12, 3) := by decide +kernel
theorem dX8_readPart_26 : decode cX8_readPart 26 = .ok (.aload_n 0, 1) := by decide +kernel
theorem dX8_readPart_27 : decode cX8_readPart 27 = .ok (.iload_n 1, 1) := by decide +kernel
theorem dX8_readPart_28 : decode cX8_readPart 28 = .ok (.bipush (-2), 2) := by decide +kernel
theorem dX8_readPart_30 : decode cX8_readPart 30 = .ok (.iload_n 3, 1) := by decide +kernel
theorem dX8_readPart_31 : decode cX8_readPart 31 = .ok (.invokevirtual 151, 3) := by decide +kernel
theorem dX8_readPart_34 : decode cX8_readPart 34 = .ok (.ireturn, 1) := by decide +kernel
theorem dX8_readPart_35 : decode cX8_readPart 35 = .ok (.iload_n 1, 1) := by decide +kernel
theorem dX8_readPart_36 : decode cX8_readPart 36 = .ok (.iload_n 3, 1) := by decide +kernel
theorem dX8_readPart_37 : decode cX8_readPart 37 = .ok (.imul, 1) := by decide +kernel
theorem dX8_readPart_38 : decode cX8_readPart 38 = .ok (.istore_n 2, 1) := by decide +kernel
theorem dX8_readPart_39 : decode cX8_readPart 39 = .ok (.aload_n 0, 1) := by decide +kernel
theorem dX8_readPart_40 : decode cX8_readPart 40 = .ok (.iconst 0, 1) := by decide +kernel
theorem dX8_readPart_41 : decode cX8_readPart 41 = .ok (.ldc 150, 2) := by decide +kernel
theorem dX8_readPart_43 : decode cX8_readPart 43 = .ok (.invokevirtual 94, 3) := by decide +kernel
theorem dX8_readPart_46 : decode cX8_readPart 46 = .ok (.ifCond .eq 15, 3) := by decide +kernel
theorem dX8_readPart_49 : decode cX8_readPart 49 = .ok (.aload_n 0, 1) := by decide +kernel
theorem dX8_readPart_50 : decode cX8_readPart 50 = .ok (.iload_n 2, 1) := by decide +kernel
theorem dX8_readPart_51 : decode cX8_readPart 51 = .ok (.bipush (-2), 2) := by decide +kernel
theorem dX8_readPart_53 : decode cX8_readPart 53 = .ok (.aload_n 0, 1) := by decide +kernel
theorem dX8_readPart_54 : decode cX8_readPart 54 = .ok (.getfield 98, 3) := by decide +kernel
theorem dX8_readPart_57 : decode cX8_readPart 57 = .ok (.invokevirtual 151, 3) := by decide +kernel
theorem dX8_readPart_60 : decode cX8_readPart 60 = .ok (.ireturn, 1) := by decide +kernel
theorem dX8_readPart_61 : decode cX8_readPart 61 = .ok (.aload_n 0, 1) := by decide +kernel
theorem dX8_readPart_62 : decode cX8_readPart 62 = .ok (.sipush 271, 3) := by decide +kernel
theorem dX8_readPart_65 : decode cX8_readPart 65 = .ok (.invokevirtual 76, 3) := by decide +kernel
theorem dX8_readPart_68 : decode cX8_readPart 68 = .ok (.ifCond .eq 13, 3) := by decide +kernel
theorem dX8_readPart_71 : decode cX8_readPart 71 = .ok (.aload_n 0, 1) := by decide +kernel
theorem dX8_readPart_72 : decode cX8_readPart 72 = .ok (.iload_n 2, 1) := by decide +kernel
theorem dX8_readPart_73 : decode cX8_readPart 73 = .ok (.sipush 271, 3) := by decide +kernel
theorem dX8_readPart_76 : decode cX8_readPart 76 = .ok (.iconst 0, 1) := by decide +kernel
theorem dX8_readPart_77 : decode cX8_readPart 77 = .ok (.invokevirtual 151, 3) := by decide +kernel
theorem dX8_readPart_80 : decode cX8_readPart 80 = .ok (.ireturn, 1) := by decide +kernel
theorem dX8_readPart_81 : decode cX8_readPart 81 = .ok (.aload_n 0, 1) := by decide +kernel
theorem dX8_readPart_82 : decode cX8_readPart 82 = .ok (.sipush 272, 3) := by decide +kernel
theorem dX8_readPart_85 : decode cX8_readPart 85 = .ok (.invokevirtual 76, 3) := by decide +kernel
theorem dX8_readPart_88 : decode cX8_readPart 88 = .ok (.ifCond .eq 13, 3) := by decide +kernel
theorem dX8_readPart_91 : decode cX8_readPart 91 = .ok (.aload_n 0, 1) := by decide +kernel
theorem dX8_readPart_92 : decode cX8_readPart 92 = .ok (.iload_n 2, 1) := by decide +kernel
theorem dX8_readPart_93 : decode cX8_readPart 93 = .ok (.sipush 272, 3) := by decide +kernel
theorem dX8_readPart_96 : decode cX8_readPart 96 = .ok (.iconst 0, 1) := by decide +kernel
theorem dX8_readPart_97 : decode cX8_readPart 97 = .ok (.invokevirtual 151, 3) := by decide +kernel
theorem dX8_readPart_100 : decode cX8_readPart 100 = .ok (.ireturn, 1) := by decide +kernel
theorem dX8_readPart_101 : decode cX8_readPart 101 = .ok (.aload_n 0, 1) := by decide +kernel
theorem dX8_readPart_102 : decode cX8_readPart 102 = .ok (.sipush 269, 3) := by decide +kernel
theorem dX8_readPart_105 : decode cX8_readPart 105 = .ok (.invokevirtual 76, 3) := by decide +kernel
theorem dX8_readPart_108 : decode cX8_readPart 108 = .ok (.ifCond .eq 9, 3) := by decide +kernel
theorem dX8_readPart_111 : decode cX8_readPart 111 = .ok (.sipush 269, 3) := by decide +kernel
theorem dX8_readPart_114 : decode cX8_readPart 114 = .ok (.goto 20, 3) := by decide +kernel
theorem dX8_readPart_117 : decode cX8_readPart 117 = .ok (.aload_n 0, 1) := by decide +kernel
theorem dX8_readPart_118 : decode cX8_readPart 118 = .ok (.sipush 270, 3) := by decide +kernel
theorem dX8_readPart_121 : decode cX8_readPart 121 = .ok (.invokevirtual 76, 3) := by decide +kernel
theorem dX8_readPart_124 : decode cX8_readPart 124 = .ok (.ifCond .eq 9, 3) := by decide +kernel
theorem dX8_readPart_127 : decode cX8_readPart 127 = .ok (.sipush 270, 3) := by decide +kernel
theorem dX8_readPart_130 : decode cX8_readPart 130 = .ok (.goto 4, 3) := by decide +kernel
theorem dX8_readPart_133 : decode cX8_readPart 133 = .ok (.iconst (-1), 1) := by decide +kernel
theorem dX8_readPart_134 : decode cX8_readPart 134 = .ok (.istore_n 3, 1) := by decide +kernel
theorem dX8_readPart_135 : decode cX8_readPart 135 = .ok (.iload_n 3, 1) := by decide +kernel
theorem dX8_readPart_136 : decode cX8_readPart 136 = .ok (.iconst (-1), 1) := by decide +kernel
theorem dX8_readPart_137 : decode cX8_readPart 137 = .ok (.if_icmp .eq 13, 3) := by decide +kernel
theorem dX8_readPart_140 : decode cX8_readPart 140 = .ok (.aload_n 0, 1) := by decide +kernel
theorem dX8_readPart_141 : decode cX8_readPart 141 = .ok (.iconst 0, 1) := by decide +kernel
theorem dX8_readPart_142 : decode cX8_readPart 142 = .ok (.bipush 63, 2) := by decide +kernel
theorem dX8_readPart_144 : decode cX8_readPart 144 = .ok (.invokevirtual 94, 3) := by decide +kernel
theorem dX8_readPart_147 : decode cX8_readPart 147 = .ok (.ifCond .ne 5, 3) := by decide +kernel
theorem dX8_readPart_150 : decode cX8_readPart 150 = .ok (.iconst 0, 1) := by decide +kernel
theorem dX8_readPart_151 : decode cX8_readPart 151 = .ok (.ireturn, 1) := by decide +kernel
theorem dX8_readPart_152 : decode cX8_readPart 152 = .ok (.iload_n 3, 1) := by decide +kernel
theorem dX8_readPart_153 : decode cX8_readPart 153 = .ok (.sipush 269, 3) := by decide +kernel
theorem dX8_readPart_156 : decode cX8_readPart 156 = .ok (.if_icmp .ne 18, 3) := by decide +kernel
theorem dX8_readPart_159 : decode cX8_readPart 159 = .ok (.aload_n 0, 1) := by decide +kernel
theorem dX8_readPart_160 : decode cX8_readPart 160 = .ok (.dup, 1) := by decide +kernel
theorem dX8_readPart_161 : decode cX8_readPart 161 = .ok (.getfield 67, 3) := by decide +kernel
theorem dX8_readPart_164 : decode cX8_readPart 164 = .ok (.lconst 1, 1) := by decide +kernel
theorem dX8_readPart_165 : decode cX8_readPart 165 = .ok (.aload_n 0, 1) := by decide +kernel
theorem dX8_readPart_166 : decode cX8_readPart 166 = .ok (.getfield 98, 3) := by decide +kernel
theorem dX8_readPart_169 : decode cX8_readPart 169 = .ok (.lshl, 1) := by decide +kernel
theorem dX8_readPart_170 : decode cX8_readPart 170 = .ok (.lor, 1) := by decide +kernel
theorem dX8_readPart_171 : decode cX8_readPart 171 = .ok (.putfield 67, 3) := by decide +kernel
theorem dX8_readPart_174 : decode cX8_readPart 174 = .ok (.aload_n 0, 1) := by decide +kernel
theorem dX8_readPart_175 : decode cX8_readPart 175 = .ok (.iload_n 2, 1) := by decide +kernel
theorem dX8_readPart_176 : decode cX8_readPart 176 = .ok (.iload_n 3, 1) := by decide +kernel
theorem dX8_readPart_177 : decode cX8_readPart 177 = .ok (.aload_n 0, 1) := by decide +kernel
theorem dX8_readPart_178 : decode cX8_readPart 178 = .ok (.getfield 98, 3) := by decide +kernel
theorem dX8_readPart_181 : decode cX8_readPart 181 = .ok (.invokevirtual 151, 3) := by decide +kernel
theorem dX8_readPart_184 : decode cX8_readPart 184 = .ok (.ireturn, 1) := by decide +kernel
theorem dX8_takeTarget_0 : decode cX8_takeTarget 0 = .ok (.aload_n 0, 1) := by decide +kernel
theorem dX8_takeTarget_1 : decode cX8_takeTarget 1 = .ok (.bipush 16, 2) := by decide +kernel
theorem dX8_takeTarget_3 : decode cX8_takeTarget 3 = .ok (.bipush 63, 2) := by decide +kernel
theorem dX8_takeTarget_5 : decode cX8_takeTarget 5 = .ok (.invokevirtual 94, 3) := by decide +kernel
theorem dX8_takeTarget_8 : decode cX8_takeTarget 8 = .ok (.ifCond .ne 5, 3) := by decide +kernel
theorem dX8_takeTarget_11 : decode cX8_takeTarget 11 = .ok (.iconst 0, 1) := by decide +kernel
theorem dX8_takeTarget_12 : decode cX8_takeTarget 12 = .ok (.ireturn, 1) := by decide +kernel
theorem dX8_takeTarget_13 : decode cX8_takeTarget 13 = .ok (.aload_n 0, 1) := by decide +kernel
theorem dX8_takeTarget_14 : decode cX8_takeTarget 14 = .ok (.iload_n 1, 1) := by decide +kernel
theorem dX8_takeTarget_15 : decode cX8_takeTarget 15 = .ok (.invokevirtual 110, 3) := by decide +kernel
theorem dX8_takeTarget_18 : decode cX8_takeTarget 18 = .ok (.aload_n 0, 1) := by decide +kernel
theorem dX8_takeTarget_19 : decode cX8_takeTarget 19 = .ok (.aload_n 0, 1) := by decide +kernel
theorem dX8_takeTarget_20 : decode cX8_takeTarget 20 = .ok (.getfield 98, 3) := by decide +kernel
theorem dX8_takeTarget_23 : decode cX8_takeTarget 23 = .ok (.invokevirtual 110, 3) := by decide +kernel
theorem dX8_takeTarget_26 : decode cX8_takeTarget 26 = .ok (.aload_n 0, 1) := by decide +kernel
theorem dX8_takeTarget_27 : decode cX8_takeTarget 27 = .ok (.dup, 1) := by decide +kernel
theorem dX8_takeTarget_28 : decode cX8_takeTarget 28 = .ok (.getfield 60, 3) := by decide +kernel
theorem dX8_takeTarget_31 : decode cX8_takeTarget 31 = .ok (.lconst 1, 1) := by decide +kernel
theorem dX8_takeTarget_32 : decode cX8_takeTarget 32 = .ok (.aload_n 0, 1) := by decide +kernel
theorem dX8_takeTarget_33 : decode cX8_takeTarget 33 = .ok (.getfield 98, 3) := by decide +kernel
theorem dX8_takeTarget_36 : decode cX8_takeTarget 36 = .ok (.lshl, 1) := by decide +kernel
theorem dX8_takeTarget_37 : decode cX8_takeTarget 37 = .ok (.lor, 1) := by decide +kernel
theorem dX8_takeTarget_38 : decode cX8_takeTarget 38 = .ok (.putfield 60, 3) := by decide +kernel
theorem dX8_takeTarget_41 : decode cX8_takeTarget 41 = .ok (.iconst 1, 1) := by decide +kernel
theorem dX8_takeTarget_42 : decode cX8_takeTarget 42 = .ok (.ireturn, 1) := by decide +kernel
theorem dX8_kind_0 : decode cX8_kind 0 = .ok (.aload_n 0, 1) := by decide +kernel
theorem dX8_kind_1 : decode cX8_kind 1 = .ok (.getfield 50, 3) := by decide +kernel
theorem dX8_kind_4 : decode cX8_kind 4 = .ok (.ifCond .lt 36, 3) := by decide +kernel
theorem dX8_kind_7 : decode cX8_kind 7 = .ok (.aload_n 0, 1) := by decide +kernel
theorem dX8_kind_8 : decode cX8_kind 8 = .ok (.getfield 50, 3) := by decide +kernel
theorem dX8_kind_11 : decode cX8_kind 11 = .ok (.aload_n 0, 1) := by decide +kernel
theorem dX8_kind_12 : decode cX8_kind 12 = .ok (.getfield 155, 3) := by decide +kernel
theorem dX8_kind_15 : decode cX8_kind 15 = .ok (.if_icmp .ge 25, 3) := by decide +kernel
theorem dX8_kind_18 : decode cX8_kind 18 = .ok (.aload_n 0, 1) := by decide +kernel
theorem dX8_kind_19 : decode cX8_kind 19 = .ok (.getfield 50, 3) := by decide +kernel
theorem dX8_kind_22 : decode cX8_kind 22 = .ok (.sipush 400, 3) := by decide +kernel
theorem dX8_kind_25 : decode cX8_kind 25 = .ok (.if_icmp .gt 15, 3) := by decide +kernel
theorem dX8_kind_28 : decode cX8_kind 28 = .ok (.aload_n 0, 1) := by decide +kernel
theorem dX8_kind_29 : decode cX8_kind 29 = .ok (.getfield 15, 3) := by decide +kernel
theorem dX8_kind_32 : decode cX8_kind 32 = .ok (.aload_n 0, 1) := by decide +kernel
theorem dX8_kind_33 : decode cX8_kind 33 = .ok (.getfield 50, 3) := by decide +kernel
theorem dX8_kind_36 : decode cX8_kind 36 = .ok (.iaload, 1) := by decide +kernel
theorem dX8_kind_37 : decode cX8_kind 37 = .ok (.goto 4, 3) := by decide +kernel
theorem dX8_kind_40 : decode cX8_kind 40 = .ok (.iconst (-1), 1) := by decide +kernel
theorem dX8_kind_41 : decode cX8_kind 41 = .ok (.ireturn, 1) := by decide +kernel
theorem dX8_begin_0 : decode cX8_begin 0 = .ok (.aload_n 0, 1) := by decide +kernel
theorem dX8_begin_1 : decode cX8_begin 1 = .ok (.getfield 50, 3) := by decide +kernel
theorem dX8_begin_4 : decode cX8_begin 4 = .ok (.ifCond .lt 36, 3) := by decide +kernel
theorem dX8_begin_7 : decode cX8_begin 7 = .ok (.aload_n 0, 1) := by decide +kernel
theorem dX8_begin_8 : decode cX8_begin 8 = .ok (.getfield 50, 3) := by decide +kernel
theorem dX8_begin_11 : decode cX8_begin 11 = .ok (.aload_n 0, 1) := by decide +kernel
theorem dX8_begin_12 : decode cX8_begin 12 = .ok (.getfield 155, 3) := by decide +kernel
theorem dX8_begin_15 : decode cX8_begin 15 = .ok (.if_icmp .ge 25, 3) := by decide +kernel
theorem dX8_begin_18 : decode cX8_begin 18 = .ok (.aload_n 0, 1) := by decide +kernel
theorem dX8_begin_19 : decode cX8_begin 19 = .ok (.getfield 50, 3) := by decide +kernel
theorem dX8_begin_22 : decode cX8_begin 22 = .ok (.sipush 400, 3) := by decide +kernel
theorem dX8_begin_25 : decode cX8_begin 25 = .ok (.if_icmp .gt 15, 3) := by decide +kernel
theorem dX8_begin_28 : decode cX8_begin 28 = .ok (.aload_n 0, 1) := by decide +kernel
theorem dX8_begin_29 : decode cX8_begin 29 = .ok (.getfield 18, 3) := by decide +kernel
theorem dX8_begin_32 : decode cX8_begin 32 = .ok (.aload_n 0, 1) := by decide +kernel
theorem dX8_begin_33 : decode cX8_begin 33 = .ok (.getfield 50, 3) := by decide +kernel
theorem dX8_begin_36 : decode cX8_begin 36 = .ok (.iaload, 1) := by decide +kernel
theorem dX8_begin_37 : decode cX8_begin 37 = .ok (.goto 4, 3) := by decide +kernel
theorem dX8_begin_40 : decode cX8_begin 40 = .ok (.iconst (-1), 1) := by decide +kernel
theorem dX8_begin_41 : decode cX8_begin 41 = .ok (.ireturn, 1) := by decide +kernel
theorem dX8_takes_0 : decode cX8_takes 0 = .ok (.aload_n 0, 1) := by decide +kernel
theorem dX8_takes_1 : decode cX8_takes 1 = .ok (.getfield 50, 3) := by decide +kernel
theorem dX8_takes_4 : decode cX8_takes 4 = .ok (.ifCond .lt 37, 3) := by decide +kernel
theorem dX8_takes_7 : decode cX8_takes 7 = .ok (.aload_n 0, 1) := by decide +kernel
theorem dX8_takes_8 : decode cX8_takes 8 = .ok (.getfield 50, 3) := by decide +kernel
theorem dX8_takes_11 : decode cX8_takes 11 = .ok (.aload_n 0, 1) := by decide +kernel
theorem dX8_takes_12 : decode cX8_takes 12 = .ok (.getfield 155, 3) := by decide +kernel
theorem dX8_takes_15 : decode cX8_takes 15 = .ok (.if_icmp .ge 26, 3) := by decide +kernel
theorem dX8_takes_18 : decode cX8_takes 18 = .ok (.aload_n 0, 1) := by decide +kernel
theorem dX8_takes_19 : decode cX8_takes 19 = .ok (.getfield 50, 3) := by decide +kernel
theorem dX8_takes_22 : decode cX8_takes 22 = .ok (.sipush 400, 3) := by decide +kernel
theorem dX8_takes_25 : decode cX8_takes 25 = .ok (.if_icmp .gt 16, 3) := by decide +kernel
theorem dX8_takes_28 : decode cX8_takes 28 = .ok (.aload_n 0, 1) := by decide +kernel
theorem dX8_takes_29 : decode cX8_takes 29 = .ok (.getfield 15, 3) := by decide +kernel
theorem dX8_takes_32 : decode cX8_takes 32 = .ok (.aload_n 0, 1) := by decide +kernel
theorem dX8_takes_33 : decode cX8_takes 33 = .ok (.getfield 50, 3) := by decide +kernel
theorem dX8_takes_36 : decode cX8_takes 36 = .ok (.iaload, 1) := by decide +kernel
theorem dX8_takes_37 : decode cX8_takes 37 = .ok (.iload_n 1, 1) := by decide +kernel
theorem dX8_takes_38 : decode cX8_takes 38 = .ok (.if_icmp .eq 5, 3) := by decide +kernel
theorem dX8_takes_41 : decode cX8_takes 41 = .ok (.iconst 0, 1) := by decide +kernel
theorem dX8_takes_42 : decode cX8_takes 42 = .ok (.ireturn, 1) := by decide +kernel
theorem dX8_takes_43 : decode cX8_takes 43 = .ok (.aload_n 0, 1) := by decide +kernel
theorem dX8_takes_44 : decode cX8_takes 44 = .ok (.dup, 1) := by decide +kernel
theorem dX8_takes_45 : decode cX8_takes 45 = .ok (.getfield 50, 3) := by decide +kernel
theorem dX8_takes_48 : decode cX8_takes 48 = .ok (.iconst 1, 1) := by decide +kernel
theorem dX8_takes_49 : decode cX8_takes 49 = .ok (.iadd, 1) := by decide +kernel
theorem dX8_takes_50 : decode cX8_takes 50 = .ok (.putfield 50, 3) := by decide +kernel
theorem dX8_takes_53 : decode cX8_takes 53 = .ok (.iconst 1, 1) := by decide +kernel
theorem dX8_takes_54 : decode cX8_takes 54 = .ok (.ireturn, 1) := by decide +kernel
theorem dX8_takeNumber_0 : decode cX8_takeNumber 0 = .ok (.aload_n 0, 1) := by decide +kernel
theorem dX8_takeNumber_1 : decode cX8_takeNumber 1 = .ok (.getfield 50, 3) := by decide +kernel
theorem dX8_takeNumber_4 : decode cX8_takeNumber 4 = .ok (.ifCond .lt 64, 3) := by decide +kernel
theorem dX8_takeNumber_7 : decode cX8_takeNumber 7 = .ok (.aload_n 0, 1) := by decide +kernel
theorem dX8_takeNumber_8 : decode cX8_takeNumber 8 = .ok (.getfield 50, 3) := by decide +kernel
theorem dX8_takeNumber_11 : decode cX8_takeNumber 11 = .ok (.aload_n 0, 1) := by decide +kernel
theorem dX8_takeNumber_12 : decode cX8_takeNumber 12 = .ok (.getfield 155, 3) := by decide +kernel
theorem dX8_takeNumber_15 : decode cX8_takeNumber 15 = .ok (.if_icmp .ge 53, 3) := by decide +kernel
theorem dX8_takeNumber_18 : decode cX8_takeNumber 18 = .ok (.aload_n 0, 1) := by decide +kernel
theorem dX8_takeNumber_19 : decode cX8_takeNumber 19 = .ok (.getfield 50, 3) := by decide +kernel
theorem dX8_takeNumber_22 : decode cX8_takeNumber 22 = .ok (.sipush 400, 3) := by decide +kernel
theorem dX8_takeNumber_25 : decode cX8_takeNumber 25 = .ok (.if_icmp .gt 43, 3) := by decide +kernel
theorem dX8_takeNumber_28 : decode cX8_takeNumber 28 = .ok (.aload_n 0, 1) := by decide +kernel
theorem dX8_takeNumber_29 : decode cX8_takeNumber 29 = .ok (.getfield 15, 3) := by decide +kernel
theorem dX8_takeNumber_32 : decode cX8_takeNumber 32 = .ok (.aload_n 0, 1) := by decide +kernel
theorem dX8_takeNumber_33 : decode cX8_takeNumber 33 = .ok (.getfield 50, 3) := by decide +kernel
theorem dX8_takeNumber_36 : decode cX8_takeNumber 36 = .ok (.iaload, 1) := by decide +kernel
theorem dX8_takeNumber_37 : decode cX8_takeNumber 37 = .ok (.bipush (-2), 2) := by decide +kernel
theorem dX8_takeNumber_39 : decode cX8_takeNumber 39 = .ok (.if_icmp .ne 29, 3) := by decide +kernel
theorem dX8_takeNumber_42 : decode cX8_takeNumber 42 = .ok (.aload_n 0, 1) := by decide +kernel
theorem dX8_takeNumber_43 : decode cX8_takeNumber 43 = .ok (.getfield 21, 3) := by decide +kernel
theorem dX8_takeNumber_46 : decode cX8_takeNumber 46 = .ok (.aload_n 0, 1) := by decide +kernel
theorem dX8_takeNumber_47 : decode cX8_takeNumber 47 = .ok (.getfield 50, 3) := by decide +kernel
theorem dX8_takeNumber_50 : decode cX8_takeNumber 50 = .ok (.iaload, 1) := by decide +kernel
theorem dX8_takeNumber_51 : decode cX8_takeNumber 51 = .ok (.iload_n 1, 1) := by decide +kernel
theorem dX8_takeNumber_52 : decode cX8_takeNumber 52 = .ok (.if_icmp .lt 16, 3) := by decide +kernel
theorem dX8_takeNumber_55 : decode cX8_takeNumber 55 = .ok (.aload_n 0, 1) := by decide +kernel
theorem dX8_takeNumber_56 : decode cX8_takeNumber 56 = .ok (.getfield 21, 3) := by decide +kernel
theorem dX8_takeNumber_59 : decode cX8_takeNumber 59 = .ok (.aload_n 0, 1) := by decide +kernel
theorem dX8_takeNumber_60 : decode cX8_takeNumber 60 = .ok (.getfield 50, 3) := by decide +kernel
theorem dX8_takeNumber_63 : decode cX8_takeNumber 63 = .ok (.iaload, 1) := by decide +kernel
theorem dX8_takeNumber_64 : decode cX8_takeNumber 64 = .ok (.iload_n 2, 1) := by decide +kernel
theorem dX8_takeNumber_65 : decode cX8_takeNumber 65 = .ok (.if_icmp .le 5, 3) := by decide +kernel
theorem dX8_takeNumber_68 : decode cX8_takeNumber 68 = .ok (.iconst 0, 1) := by decide +kernel
theorem dX8_takeNumber_69 : decode cX8_takeNumber 69 = .ok (.ireturn, 1) := by decide +kernel
theorem dX8_takeNumber_70 : decode cX8_takeNumber 70 = .ok (.aload_n 0, 1) := by decide +kernel
theorem dX8_takeNumber_71 : decode cX8_takeNumber 71 = .ok (.aload_n 0, 1) := by decide +kernel
theorem dX8_takeNumber_72 : decode cX8_takeNumber 72 = .ok (.getfield 21, 3) := by decide +kernel
theorem dX8_takeNumber_75 : decode cX8_takeNumber 75 = .ok (.aload_n 0, 1) := by decide +kernel
theorem dX8_takeNumber_76 : decode cX8_takeNumber 76 = .ok (.getfield 50, 3) := by decide +kernel
theorem dX8_takeNumber_79 : decode cX8_takeNumber 79 = .ok (.iaload, 1) := by decide +kernel
theorem dX8_takeNumber_80 : decode cX8_takeNumber 80 = .ok (.putfield 98, 3) := by decide +kernel
theorem dX8_takeNumber_83 : decode cX8_takeNumber 83 = .ok (.aload_n 0, 1) := by decide +kernel
theorem dX8_takeNumber_84 : decode cX8_takeNumber 84 = .ok (.dup, 1) := by decide +kernel
theorem dX8_takeNumber_85 : decode cX8_takeNumber 85 = .ok (.getfield 50, 3) := by decide +kernel
theorem dX8_takeNumber_88 : decode cX8_takeNumber 88 = .ok (.iconst 1, 1) := by decide +kernel
theorem dX8_takeNumber_89 : decode cX8_takeNumber 89 = .ok (.iadd, 1) := by decide +kernel
theorem dX8_takeNumber_90 : decode cX8_takeNumber 90 = .ok (.putfield 50, 3) := by decide +kernel
theorem dX8_takeNumber_93 : decode cX8_takeNumber 93 = .ok (.iconst 1, 1) := by decide +kernel
theorem dX8_takeNumber_94 : decode cX8_takeNumber 94 = .ok (.ireturn, 1) := by decide +kernel
theorem dX8_scan_0 : decode cX8_scan 0 = .ok (.aload_n 0, 1) := by decide +kernel
theorem dX8_scan_1 : decode cX8_scan 1 = .ok (.iconst 0, 1) := by decide +kernel
theorem dX8_scan_2 : decode cX8_scan 2 = .ok (.putfield 155, 3) := by decide +kernel
theorem dX8_scan_5 : decode cX8_scan 5 = .ok (.iconst 0, 1) := by decide +kernel
theorem dX8_scan_6 : decode cX8_scan 6 = .ok (.istore_n 2, 1) := by decide +kernel
theorem dX8_scan_7 : decode cX8_scan 7 = .ok (.iload_n 2, 1) := by decide +kernel
theorem dX8_scan_8 : decode cX8_scan 8 = .ok (.iload_n 1, 1) := by decide +kernel
theorem dX8_scan_9 : decode cX8_scan 9 = .ok (.if_icmp .ge 43, 3) := by decide +kernel
theorem dX8_scan_12 : decode cX8_scan 12 = .ok (.aload_n 0, 1) := by decide +kernel
theorem dX8_scan_13 : decode cX8_scan 13 = .ok (.iload_n 2, 1) := by decide +kernel
theorem dX8_scan_14 : decode cX8_scan 14 = .ok (.iload_n 1, 1) := by decide +kernel
theorem dX8_scan_15 : decode cX8_scan 15 = .ok (.invokevirtual 158, 3) := by decide +kernel
theorem dX8_scan_18 : decode cX8_scan 18 = .ok (.istore_n 3, 1) := by decide +kernel
theorem dX8_scan_19 : decode cX8_scan 19 = .ok (.aload_n 0, 1) := by decide +kernel
theorem dX8_scan_20 : decode cX8_scan 20 = .ok (.iload_n 2, 1) := by decide +kernel
theorem dX8_scan_21 : decode cX8_scan 21 = .ok (.invokevirtual 161, 3) := by decide +kernel
theorem dX8_scan_24 : decode cX8_scan 24 = .ok (.bipush 32, 2) := by decide +kernel
theorem dX8_scan_26 : decode cX8_scan 26 = .ok (.if_icmp .eq 15, 3) := by decide +kernel
theorem dX8_scan_29 : decode cX8_scan 29 = .ok (.aload_n 0, 1) := by decide +kernel
theorem dX8_scan_30 : decode cX8_scan 30 = .ok (.aload_n 0, 1) := by decide +kernel
theorem dX8_scan_31 : decode cX8_scan 31 = .ok (.iload_n 2, 1) := by decide +kernel
theorem dX8_scan_32 : decode cX8_scan 32 = .ok (.iload_n 3, 1) := by decide +kernel
theorem dX8_scan_33 : decode cX8_scan 33 = .ok (.invokevirtual 165, 3) := by decide +kernel
theorem dX8_scan_36 : decode cX8_scan 36 = .ok (.iload_n 2, 1) := by decide +kernel
theorem dX8_scan_37 : decode cX8_scan 37 = .ok (.iload_n 3, 1) := by decide +kernel
theorem dX8_scan_38 : decode cX8_scan 38 = .ok (.invokevirtual 168, 3) := by decide +kernel
theorem dX8_scan_41 : decode cX8_scan 41 = .ok (.iload_n 2, 1) := by decide +kernel
theorem dX8_scan_42 : decode cX8_scan 42 = .ok (.iconst 1, 1) := by decide +kernel
theorem dX8_scan_43 : decode cX8_scan 43 = .ok (.iadd, 1) := by decide +kernel
theorem dX8_scan_44 : decode cX8_scan 44 = .ok (.iload_n 3, 1) := by decide +kernel
theorem dX8_scan_45 : decode cX8_scan 45 = .ok (.invokestatic 43, 3) := by decide +kernel
theorem dX8_scan_48 : decode cX8_scan 48 = .ok (.istore_n 2, 1) := by decide +kernel
theorem dX8_scan_49 : decode cX8_scan 49 = .ok (.goto (-42), 3) := by decide +kernel
theorem dX8_scan_52 : decode cX8_scan 52 = .ok (.aload_n 0, 1) := by decide +kernel
theorem dX8_scan_53 : decode cX8_scan 53 = .ok (.iconst (-1), 1) := by decide +kernel
theorem dX8_scan_54 : decode cX8_scan 54 = .ok (.iload_n 1, 1) := by decide +kernel
theorem dX8_scan_55 : decode cX8_scan 55 = .ok (.iload_n 1, 1) := by decide +kernel
theorem dX8_scan_56 : decode cX8_scan 56 = .ok (.invokevirtual 168, 3) := by decide +kernel
theorem dX8_scan_59 : decode cX8_scan 59 = .ok (.return_, 1) := by decide +kernel
theorem dX8_endOfThing_0 : decode cX8_endOfThing 0 = .ok (.iload_n 1, 1) := by decide +kernel
theorem dX8_endOfThing_1 : decode cX8_endOfThing 1 = .ok (.iconst 1, 1) := by decide +kernel
theorem dX8_endOfThing_2 : decode cX8_endOfThing 2 = .ok (.iadd, 1) := by decide +kernel
theorem dX8_endOfThing_3 : decode cX8_endOfThing 3 = .ok (.istore_n 3, 1) := by decide +kernel
theorem dX8_endOfThing_4 : decode cX8_endOfThing 4 = .ok (.aload_n 0, 1) := by decide +kernel
theorem dX8_endOfThing_5 : decode cX8_endOfThing 5 = .ok (.iload_n 1, 1) := by decide +kernel
theorem dX8_endOfThing_6 : decode cX8_endOfThing 6 = .ok (.invokevirtual 161, 3) := by decide +kernel
theorem dX8_endOfThing_9 : decode cX8_endOfThing 9 = .ok (.invokestatic 172, 3) := by decide +kernel
theorem dX8_endOfThing_12 : decode cX8_endOfThing 12 = .ok (.ifCond .eq 25, 3) := by decide +kernel
theorem dX8_endOfThing_15 : decode cX8_endOfThing 15 = .ok (.iload_n 3, 1) := by decide +kernel
theorem dX8_endOfThing_16 : decode cX8_endOfThing 16 = .ok (.iload_n 2, 1) := by decide +kernel
theorem dX8_endOfThing_17 : decode cX8_endOfThing 17 = .ok (.if_icmp .ge 53, 3) := by decide +kernel
theorem dX8_endOfThing_20 : decode cX8_endOfThing 20 = .ok (.aload_n 0, 1) := by decide +kernel
theorem dX8_endOfThing_21 : decode cX8_endOfThing 21 = .ok (.iload_n 3, 1) := by decide +kernel
theorem dX8_endOfThing_22 : decode cX8_endOfThing 22 = .ok (.invokevirtual 161, 3) := by decide +kernel
theorem dX8_endOfThing_25 : decode cX8_endOfThing 25 = .ok (.invokestatic 172, 3) := by decide +kernel
theorem dX8_endOfThing_28 : decode cX8_endOfThing 28 = .ok (.ifCond .eq 42, 3) := by decide +kernel
theorem dX8_endOfThing_31 : decode cX8_endOfThing 31 = .ok (.iinc 3 1, 3) := by decide +kernel
theorem dX8_endOfThing_34 : decode cX8_endOfThing 34 = .ok (.goto (-19), 3) := by decide +kernel
theorem dX8_endOfThing_37 : decode cX8_endOfThing 37 = .ok (.aload_n 0, 1) := by decide +kernel
theorem dX8_endOfThing_38 : decode cX8_endOfThing 38 = .ok (.iload_n 1, 1) := by decide +kernel
theorem dX8_endOfThing_39 : decode cX8_endOfThing 39 = .ok (.invokevirtual 161, 3) := by decide +kernel
theorem dX8_endOfThing_42 : decode cX8_endOfThing 42 = .ok (.invokestatic 175, 3) := by decide +kernel
theorem dX8_endOfThing_45 : decode cX8_endOfThing 45 = .ok (.ifCond .eq 25, 3) := by decide +kernel
theorem dX8_endOfThing_48 : decode cX8_endOfThing 48 = .ok (.iload_n 3, 1) := by decide +kernel
theorem dX8_endOfThing_49 : decode cX8_endOfThing 49 = .ok (.iload_n 2, 1) := by decide +kernel
theorem dX8_endOfThing_50 : decode cX8_endOfThing 50 = .ok (.if_icmp .ge 20, 3) := by decide +kernel
theorem dX8_endOfThing_53 : decode cX8_endOfThing 53 = .ok (.aload_n 0, 1) := by decide +kernel
theorem dX8_endOfThing_54 : decode cX8_endOfThing 54 = .ok (.iload_n 3, 1) := by decide +kernel
theorem dX8_endOfThing_55 : decode cX8_endOfThing 55 = .ok (.invokevirtual 161, 3) := by decide +kernel
theorem dX8_endOfThing_58 : decode cX8_endOfThing 58 = .ok (.invokestatic 175, 3) := by decide +kernel
theorem dX8_endOfThing_61 : decode cX8_endOfThing 61 = .ok (.ifCond .eq 9, 3) := by decide +kernel
theorem dX8_endOfThing_64 : decode cX8_endOfThing 64 = .ok (.iinc 3 1, 3) := by decide +kernel
theorem dX8_endOfThing_67 : decode cX8_endOfThing 67 = .ok (.goto (-19), 3) := by decide +kernel
theorem dX8_endOfThing_70 : decode cX8_endOfThing 70 = .ok (.iload_n 3, 1) := by decide +kernel
theorem dX8_endOfThing_71 : decode cX8_endOfThing 71 = .ok (.ireturn, 1) := by decide +kernel
theorem dX8_kindOf_0 : decode cX8_kindOf 0 = .ok (.aload_n 0, 1) := by decide +kernel
theorem dX8_kindOf_1 : decode cX8_kindOf 1 = .ok (.iload_n 1, 1) := by decide +kernel
theorem dX8_kindOf_2 : decode cX8_kindOf 2 = .ok (.invokevirtual 161, 3) := by decide +kernel
theorem dX8_kindOf_5 : decode cX8_kindOf 5 = .ok (.istore_n 3, 1) := by decide +kernel
theorem dX8_kindOf_6 : decode cX8_kindOf 6 = .ok (.iload_n 3, 1) := by decide +kernel
theorem dX8_kindOf_7 : decode cX8_kindOf 7 = .ok (.invokestatic 172, 3) := by decide +kernel
theorem dX8_kindOf_10 : decode cX8_kindOf 10 = .ok (.ifCond .eq 19, 3) := by decide +kernel
theorem dX8_kindOf_13 : decode cX8_kindOf 13 = .ok (.iload_n 2, 1) := by decide +kernel
theorem dX8_kindOf_14 : decode cX8_kindOf 14 = .ok (.iload_n 1, 1) := by decide +kernel
theorem dX8_kindOf_15 : decode cX8_kindOf 15 = .ok (.isub, 1) := by decide +kernel
theorem dX8_kindOf_16 : decode cX8_kindOf 16 = .ok (.bipush 6, 2) := by decide +kernel
theorem dX8_kindOf_18 : decode cX8_kindOf 18 = .ok (.if_icmp .le 8, 3) := by decide +kernel
theorem dX8_kindOf_21 : decode cX8_kindOf 21 = .ok (.bipush (-3), 2) := by decide +kernel
theorem dX8_kindOf_23 : decode cX8_kindOf 23 = .ok (.goto 5, 3) := by decide +kernel
theorem dX8_kindOf_26 : decode cX8_kindOf 26 = .ok (.bipush (-2), 2) := by decide +kernel
theorem dX8_kindOf_28 : decode cX8_kindOf 28 = .ok (.ireturn, 1) := by decide +kernel
theorem dX8_kindOf_29 : decode cX8_kindOf 29 = .ok (.iload_n 3, 1) := by decide +kernel
theorem dX8_kindOf_30 : decode cX8_kindOf 30 = .ok (.invokestatic 175, 3) := by decide +kernel
theorem dX8_kindOf_33 : decode cX8_kindOf 33 = .ok (.ifCond .eq 12, 3) := by decide +kernel
theorem dX8_kindOf_36 : decode cX8_kindOf 36 = .ok (.aload_n 0, 1) := by decide +kernel
theorem dX8_kindOf_37 : decode cX8_kindOf 37 = .ok (.iload_n 1, 1) := by decide +kernel
theorem dX8_kindOf_38 : decode cX8_kindOf 38 = .ok (.iload_n 2, 1) := by decide +kernel
theorem dX8_kindOf_39 : decode cX8_kindOf 39 = .ok (.invokevirtual 178, 3) := by decide +kernel
theorem dX8_kindOf_42 : decode cX8_kindOf 42 = .ok (.goto 4, 3) := by decide +kernel
theorem dX8_kindOf_45 : decode cX8_kindOf 45 = .ok (.iload_n 3, 1) := by decide +kernel
theorem dX8_kindOf_46 : decode cX8_kindOf 46 = .ok (.ireturn, 1) := by decide +kernel
theorem dX8_kindOfWord_0 : decode cX8_kindOfWord 0 = .ok (.sipush 256, 3) := by decide +kernel
theorem dX8_kindOfWord_3 : decode cX8_kindOfWord 3 = .ok (.istore_n 3, 1) := by decide +kernel
theorem dX8_kindOfWord_4 : decode cX8_kindOfWord 4 = .ok (.iload_n 1, 1) := by decide +kernel
theorem dX8_kindOfWord_5 : decode cX8_kindOfWord 5 = .ok (.istore 4, 2) := by decide +kernel
theorem dX8_kindOfWord_7 : decode cX8_kindOfWord 7 = .ok (.iconst 0, 1) := by decide +kernel
theorem dX8_kindOfWord_8 : decode cX8_kindOfWord 8 = .ok (.istore 5, 2) := by decide +kernel
theorem dX8_kindOfWord_10 : decode cX8_kindOfWord 10 = .ok (.iload 5, 2) := by decide +kernel
theorem dX8_kindOfWord_12 : decode cX8_kindOfWord 12 = .ok (.ldc 181, 2) := by decide +kernel
theorem dX8_kindOfWord_14 : decode cX8_kindOfWord 14 = .ok (.invokevirtual 183, 3) := by decide +kernel
theorem dX8_kindOfWord_17 : decode cX8_kindOfWord 17 = .ok (.if_icmp .ge 75, 3) := by decide +kernel
theorem dX8_kindOfWord_20 : decode cX8_kindOfWord 20 = .ok (.ldc 181, 2) := by decide +kernel
theorem dX8_kindOfWord_22 : decode cX8_kindOfWord 22 = .ok (.iload 5, 2) := by decide +kernel
theorem dX8_kindOfWord_24 : decode cX8_kindOfWord 24 = .ok (.invokevirtual 187, 3) := by decide +kernel
theorem dX8_kindOfWord_27 : decode cX8_kindOfWord 27 = .ok (.istore 6, 2) := by decide +kernel
theorem dX8_kindOfWord_29 : decode cX8_kindOfWord 29 = .ok (.iload 6, 2) := by decide +kernel
theorem dX8_kindOfWord_31 : decode cX8_kindOfWord 31 = .ok (.bipush 32, 2) := by decide +kernel
theorem dX8_kindOfWord_33 : decode cX8_kindOfWord 33 = .ok (.if_icmp .ne 20, 3) := by decide +kernel
theorem dX8_kindOfWord_36 : decode cX8_kindOfWord 36 = .ok (.iload 4, 2) := by decide +kernel
theorem dX8_kindOfWord_38 : decode cX8_kindOfWord 38 = .ok (.iload_n 2, 1) := by decide +kernel
theorem dX8_kindOfWord_39 : decode cX8_kindOfWord 39 = .ok (.if_icmp .ne 5, 3) := by decide +kernel
theorem dX8_kindOfWord_42 : decode cX8_kindOfWord 42 = .ok (.iload_n 3, 1) := by decide +kernel
theorem dX8_kindOfWord_43 : decode cX8_kindOfWord 43 = .ok (.ireturn, 1) := by decide +kernel
theorem dX8_kindOfWord_44 : decode cX8_kindOfWord 44 = .ok (.iinc 3 1, 3) := by decide +kernel
theorem dX8_kindOfWord_47 : decode cX8_kindOfWord 47 = .ok (.iload_n 1, 1) := by decide +kernel
theorem dX8_kindOfWord_48 : decode cX8_kindOfWord 48 = .ok (.istore 4, 2) := by decide +kernel
theorem dX8_kindOfWord_50 : decode cX8_kindOfWord 50 = .ok (.goto 36, 3) := by decide +kernel
theorem dX8_kindOfWord_53 : decode cX8_kindOfWord 53 = .ok (.iload 4, 2) := by decide +kernel
theorem dX8_kindOfWord_55 : decode cX8_kindOfWord 55 = .ok (.iconst (-1), 1) := by decide +kernel
theorem dX8_kindOfWord_56 : decode cX8_kindOfWord 56 = .ok (.if_icmp .eq 27, 3) := by decide +kernel
theorem dX8_kindOfWord_59 : decode cX8_kindOfWord 59 = .ok (.iload 4, 2) := by decide +kernel
theorem dX8_kindOfWord_61 : decode cX8_kindOfWord 61 = .ok (.iload_n 2, 1) := by decide +kernel
theorem dX8_kindOfWord_62 : decode cX8_kindOfWord 62 = .ok (.if_icmp .ge 21, 3) := by decide +kernel
theorem dX8_kindOfWord_65 : decode cX8_kindOfWord 65 = .ok (.aload_n 0, 1) := by decide +kernel
theorem dX8_kindOfWord_66 : decode cX8_kindOfWord 66 = .ok (.iload 4, 2) := by decide +kernel
theorem dX8_kindOfWord_68 : decode cX8_kindOfWord 68 = .ok (.invokevirtual 161, 3) := by decide +kernel
theorem dX8_kindOfWord_71 : decode cX8_kindOfWord 71 = .ok (.iload 6, 2) := by decide +kernel
theorem dX8_kindOfWord_73 : decode cX8_kindOfWord 73 = .ok (.if_icmp .ne 10, 3) := by decide +kernel
theorem dX8_kindOfWord_76 : decode cX8_kindOfWord 76 = .ok (.iload 4, 2) := by decide +kernel
theorem dX8_kindOfWord_78 : decode cX8_kindOfWord 78 = .ok (.iconst 1, 1) := by decide +kernel
theorem dX8_kindOfWord_79 : decode cX8_kindOfWord 79 = .ok (.iadd, 1) := by decide +kernel
theorem dX8_kindOfWord_80 : decode cX8_kindOfWord 80 = .ok (.goto 4, 3) := by decide +kernel
theorem dX8_kindOfWord_83 : decode cX8_kindOfWord 83 = .ok (.iconst (-1), 1) := by decide +kernel
theorem dX8_kindOfWord_84 : decode cX8_kindOfWord 84 = .ok (.istore 4, 2) := by decide +kernel
theorem dX8_kindOfWord_86 : decode cX8_kindOfWord 86 = .ok (.iinc 5 1, 3) := by decide +kernel
theorem dX8_kindOfWord_89 : decode cX8_kindOfWord 89 = .ok (.goto (-79), 3) := by decide +kernel
theorem dX8_kindOfWord_92 : decode cX8_kindOfWord 92 = .ok (.bipush (-3), 2) := by decide +kernel
theorem dX8_kindOfWord_94 : decode cX8_kindOfWord 94 = .ok (.ireturn, 1) := by decide +kernel
theorem dX8_addThing_0 : decode cX8_addThing 0 = .ok (.aload_n 0, 1) := by decide +kernel
theorem dX8_addThing_1 : decode cX8_addThing 1 = .ok (.getfield 155, 3) := by decide +kernel
theorem dX8_addThing_4 : decode cX8_addThing 4 = .ok (.ifCond .lt 13, 3) := by decide +kernel
theorem dX8_addThing_7 : decode cX8_addThing 7 = .ok (.aload_n 0, 1) := by decide +kernel
theorem dX8_addThing_8 : decode cX8_addThing 8 = .ok (.getfield 155, 3) := by decide +kernel
theorem dX8_addThing_11 : decode cX8_addThing 11 = .ok (.sipush 400, 3) := by decide +kernel
theorem dX8_addThing_14 : decode cX8_addThing 14 = .ok (.if_icmp .le 4, 3) := by decide +kernel
theorem dX8_addThing_17 : decode cX8_addThing 17 = .ok (.return_, 1) := by decide +kernel
theorem dX8_addThing_18 : decode cX8_addThing 18 = .ok (.iconst 0, 1) := by decide +kernel
theorem dX8_addThing_19 : decode cX8_addThing 19 = .ok (.istore 4, 2) := by decide +kernel
theorem dX8_addThing_21 : decode cX8_addThing 21 = .ok (.iload_n 2, 1) := by decide +kernel
theorem dX8_addThing_22 : decode cX8_addThing 22 = .ok (.istore 5, 2) := by decide +kernel
theorem dX8_addThing_24 : decode cX8_addThing 24 = .ok (.iload_n 1, 1) := by decide +kernel
theorem dX8_addThing_25 : decode cX8_addThing 25 = .ok (.bipush (-2), 2) := by decide +kernel
theorem dX8_addThing_27 : decode cX8_addThing 27 = .ok (.if_icmp .ne 32, 3) := by decide +kernel
theorem dX8_addThing_30 : decode cX8_addThing 30 = .ok (.iload 5, 2) := by decide +kernel
theorem dX8_addThing_32 : decode cX8_addThing 32 = .ok (.iload_n 3, 1) := by decide +kernel
theorem dX8_addThing_33 : decode cX8_addThing 33 = .ok (.if_icmp .ge 26, 3) := by decide +kernel
theorem dX8_addThing_36 : decode cX8_addThing 36 = .ok (.bipush 10, 2) := by decide +kernel
theorem dX8_addThing_38 : decode cX8_addThing 38 = .ok (.iload 4, 2) := by decide +kernel
theorem dX8_addThing_40 : decode cX8_addThing 40 = .ok (.imul, 1) := by decide +kernel
theorem dX8_addThing_41 : decode cX8_addThing 41 = .ok (.aload_n 0, 1) := by decide +kernel
theorem dX8_addThing_42 : decode cX8_addThing 42 = .ok (.iload 5, 2) := by decide +kernel
theorem dX8_addThing_44 : decode cX8_addThing 44 = .ok (.invokevirtual 161, 3) := by decide +kernel
theorem dX8_addThing_47 : decode cX8_addThing 47 = .ok (.iadd, 1) := by decide +kernel
theorem dX8_addThing_48 : decode cX8_addThing 48 = .ok (.bipush 48, 2) := by decide +kernel
theorem dX8_addThing_50 : decode cX8_addThing 50 = .ok (.isub, 1) := by decide +kernel
theorem dX8_addThing_51 : decode cX8_addThing 51 = .ok (.istore 4, 2) := by decide +kernel
theorem dX8_addThing_53 : decode cX8_addThing 53 = .ok (.iinc 5 1, 3) := by decide +kernel
theorem dX8_addThing_56 : decode cX8_addThing 56 = .ok (.goto (-32), 3) := by decide +kernel
theorem dX8_addThing_59 : decode cX8_addThing 59 = .ok (.aload_n 0, 1) := by decide +kernel
theorem dX8_addThing_60 : decode cX8_addThing 60 = .ok (.getfield 15, 3) := by decide +kernel
theorem dX8_addThing_63 : decode cX8_addThing 63 = .ok (.aload_n 0, 1) := by decide +kernel
theorem dX8_addThing_64 : decode cX8_addThing 64 = .ok (.getfield 155, 3) := by decide +kernel
theorem dX8_addThing_67 : decode cX8_addThing 67 = .ok (.iload_n 1, 1) := by decide +kernel
theorem dX8_addThing_68 : decode cX8_addThing 68 = .ok (.iastore, 1) := by decide +kernel
theorem dX8_addThing_69 : decode cX8_addThing 69 = .ok (.aload_n 0, 1) := by decide +kernel
theorem dX8_addThing_70 : decode cX8_addThing 70 = .ok (.getfield 18, 3) := by decide +kernel
theorem dX8_addThing_73 : decode cX8_addThing 73 = .ok (.aload_n 0, 1) := by decide +kernel
theorem dX8_addThing_74 : decode cX8_addThing 74 = .ok (.getfield 155, 3) := by decide +kernel
theorem dX8_addThing_77 : decode cX8_addThing 77 = .ok (.iload_n 2, 1) := by decide +kernel
theorem dX8_addThing_78 : decode cX8_addThing 78 = .ok (.iastore, 1) := by decide +kernel
theorem dX8_addThing_79 : decode cX8_addThing 79 = .ok (.aload_n 0, 1) := by decide +kernel
theorem dX8_addThing_80 : decode cX8_addThing 80 = .ok (.getfield 21, 3) := by decide +kernel
theorem dX8_addThing_83 : decode cX8_addThing 83 = .ok (.aload_n 0, 1) := by decide +kernel
theorem dX8_addThing_84 : decode cX8_addThing 84 = .ok (.getfield 155, 3) := by decide +kernel
theorem dX8_addThing_87 : decode cX8_addThing 87 = .ok (.iload 4, 2) := by decide +kernel
theorem dX8_addThing_89 : decode cX8_addThing 89 = .ok (.iastore, 1) := by decide +kernel
theorem dX8_addThing_90 : decode cX8_addThing 90 = .ok (.aload_n 0, 1) := by decide +kernel
theorem dX8_addThing_91 : decode cX8_addThing 91 = .ok (.dup, 1) := by decide +kernel
theorem dX8_addThing_92 : decode cX8_addThing 92 = .ok (.getfield 155, 3) := by decide +kernel
theorem dX8_addThing_95 : decode cX8_addThing 95 = .ok (.iconst 1, 1) := by decide +kernel
theorem dX8_addThing_96 : decode cX8_addThing 96 = .ok (.iadd, 1) := by decide +kernel
theorem dX8_addThing_97 : decode cX8_addThing 97 = .ok (.putfield 155, 3) := by decide +kernel
theorem dX8_addThing_100 : decode cX8_addThing 100 = .ok (.return_, 1) := by decide +kernel
theorem dX8_byteAt_0 : decode cX8_byteAt 0 = .ok (.iload_n 1, 1) := by decide +kernel
theorem dX8_byteAt_1 : decode cX8_byteAt 1 = .ok (.ifCond .lt 19, 3) := by decide +kernel
theorem dX8_byteAt_4 : decode cX8_byteAt 4 = .ok (.iload_n 1, 1) := by decide +kernel
theorem dX8_byteAt_5 : decode cX8_byteAt 5 = .ok (.sipush 400, 3) := by decide +kernel
theorem dX8_byteAt_8 : decode cX8_byteAt 8 = .ok (.if_icmp .ge 12, 3) := by decide +kernel
theorem dX8_byteAt_11 : decode cX8_byteAt 11 = .ok (.aload_n 0, 1) := by decide +kernel
theorem dX8_byteAt_12 : decode cX8_byteAt 12 = .ok (.getfield 9, 3) := by decide +kernel
theorem dX8_byteAt_15 : decode cX8_byteAt 15 = .ok (.iload_n 1, 1) := by decide +kernel
theorem dX8_byteAt_16 : decode cX8_byteAt 16 = .ok (.iaload, 1) := by decide +kernel
theorem dX8_byteAt_17 : decode cX8_byteAt 17 = .ok (.goto 4, 3) := by decide +kernel
theorem dX8_byteAt_20 : decode cX8_byteAt 20 = .ok (.iconst (-1), 1) := by decide +kernel
theorem dX8_byteAt_21 : decode cX8_byteAt 21 = .ok (.ireturn, 1) := by decide +kernel
theorem dX8_isDigit_0 : decode cX8_isDigit 0 = .ok (.iload_n 0, 1) := by decide +kernel
theorem dX8_isDigit_1 : decode cX8_isDigit 1 = .ok (.bipush 48, 2) := by decide +kernel
theorem dX8_isDigit_3 : decode cX8_isDigit 3 = .ok (.if_icmp .lt 13, 3) := by decide +kernel
theorem dX8_isDigit_6 : decode cX8_isDigit 6 = .ok (.iload_n 0, 1) := by decide +kernel
theorem dX8_isDigit_7 : decode cX8_isDigit 7 = .ok (.bipush 57, 2) := by decide +kernel
theorem dX8_isDigit_9 : decode cX8_isDigit 9 = .ok (.if_icmp .gt 7, 3) := by decide +kernel
theorem dX8_isDigit_12 : decode cX8_isDigit 12 = .ok (.iconst 1, 1) := by decide +kernel
theorem dX8_isDigit_13 : decode cX8_isDigit 13 = .ok (.goto 4, 3) := by decide +kernel
theorem dX8_isDigit_16 : decode cX8_isDigit 16 = .ok (.iconst 0, 1) := by decide +kernel
theorem dX8_isDigit_17 : decode cX8_isDigit 17 = .ok (.ireturn, 1) := by decide +kernel
theorem dX8_isLetter_0 : decode cX8_isLetter 0 = .ok (.iload_n 0, 1) := by decide +kernel
theorem dX8_isLetter_1 : decode cX8_isLetter 1 = .ok (.bipush 97, 2) := by decide +kernel
theorem dX8_isLetter_3 : decode cX8_isLetter 3 = .ok (.if_icmp .lt 13, 3) := by decide +kernel
theorem dX8_isLetter_6 : decode cX8_isLetter 6 = .ok (.iload_n 0, 1) := by decide +kernel
theorem dX8_isLetter_7 : decode cX8_isLetter 7 = .ok (.bipush 122, 2) := by decide +kernel
theorem dX8_isLetter_9 : decode cX8_isLetter 9 = .ok (.if_icmp .gt 7, 3) := by decide +kernel
theorem dX8_isLetter_12 : decode cX8_isLetter 12 = .ok (.iconst 1, 1) := by decide +kernel
theorem dX8_isLetter_13 : decode cX8_isLetter 13 = .ok (.goto 4, 3) := by decide +kernel
theorem dX8_isLetter_16 : decode cX8_isLetter 16 = .ok (.iconst 0, 1) := by decide +kernel
theorem dX8_isLetter_17 : decode cX8_isLetter 17 = .ok (.ireturn, 1) := by decide +kernel
theorem dX8_emitPart_0 : decode cX8_emitPart 0 = .ok (.aload_n 0, 1) := by decide +kernel
theorem dX8_emitPart_1 : decode cX8_emitPart 1 = .ok (.getfield 53, 3) := by decide +kernel
theorem dX8_emitPart_4 : decode cX8_emitPart 4 = .ok (.ifCond .lt 17, 3) := by decide +kernel
theorem dX8_emitPart_7 : decode cX8_emitPart 7 = .ok (.aload_n 0, 1) := by decide +kernel
theorem dX8_emitPart_8 : decode cX8_emitPart 8 = .ok (.getfield 53, 3) := by decide +kernel
theorem dX8_emitPart_11 : decode cX8_emitPart 11 = .ok (.iconst 3, 1) := by decide +kernel
theorem dX8_emitPart_12 : decode cX8_emitPart 12 = .ok (.iadd, 1) := by decide +kernel
theorem dX8_emitPart_13 : decode cX8_emitPart 13 = .ok (.aload_n 0, 1) := by decide +kernel
theorem dX8_emitPart_14 : decode cX8_emitPart 14 = .ok (.getfield 24, 3) := by decide +kernel
theorem dX8_emitPart_17 : decode cX8_emitPart 17 = .ok (.arraylength, 1) := by decide +kernel
theorem dX8_emitPart_18 : decode cX8_emitPart 18 = .ok (.if_icmp .le 5, 3) := by decide +kernel
theorem dX8_emitPart_21 : decode cX8_emitPart 21 = .ok (.iconst 0, 1) := by decide +kernel
theorem dX8_emitPart_22 : decode cX8_emitPart 22 = .ok (.ireturn, 1) := by decide +kernel
theorem dX8_emitPart_23 : decode cX8_emitPart 23 = .ok (.aload_n 0, 1) := by decide +kernel
theorem dX8_emitPart_24 : decode cX8_emitPart 24 = .ok (.getfield 24, 3) := by decide +kernel
theorem dX8_emitPart_27 : decode cX8_emitPart 27 = .ok (.aload_n 0, 1) := by decide +kernel
theorem dX8_emitPart_28 : decode cX8_emitPart 28 = .ok (.getfield 53, 3) := by decide +kernel
theorem dX8_emitPart_31 : decode cX8_emitPart 31 = .ok (.iload_n 1, 1) := by decide +kernel
theorem dX8_emitPart_32 : decode cX8_emitPart 32 = .ok (.iastore, 1) := by decide +kernel
theorem dX8_emitPart_33 : decode cX8_emitPart 33 = .ok (.aload_n 0, 1) := by decide +kernel
theorem dX8_emitPart_34 : decode cX8_emitPart 34 = .ok (.getfield 24, 3) := by decide +kernel
theorem dX8_emitPart_37 : decode cX8_emitPart 37 = .ok (.aload_n 0, 1) := by decide +kernel
theorem dX8_emitPart_38 : decode cX8_emitPart 38 = .ok (.getfield 53, 3) := by decide +kernel
theorem dX8_emitPart_41 : decode cX8_emitPart 41 = .ok (.iconst 1, 1) := by decide +kernel
theorem dX8_emitPart_42 : decode cX8_emitPart 42 = .ok (.iadd, 1) := by decide +kernel
theorem dX8_emitPart_43 : decode cX8_emitPart 43 = .ok (.iload_n 2, 1) := by decide +kernel
theorem dX8_emitPart_44 : decode cX8_emitPart 44 = .ok (.iastore, 1) := by decide +kernel
theorem dX8_emitPart_45 : decode cX8_emitPart 45 = .ok (.aload_n 0, 1) := by decide +kernel
theorem dX8_emitPart_46 : decode cX8_emitPart 46 = .ok (.getfield 24, 3) := by decide +kernel
theorem dX8_emitPart_49 : decode cX8_emitPart 49 = .ok (.aload_n 0, 1) := by decide +kernel
theorem dX8_emitPart_50 : decode cX8_emitPart 50 = .ok (.getfield 53, 3) := by decide +kernel
theorem dX8_emitPart_53 : decode cX8_emitPart 53 = .ok (.iconst 2, 1) := by decide +kernel
theorem dX8_emitPart_54 : decode cX8_emitPart 54 = .ok (.iadd, 1) := by decide +kernel
theorem dX8_emitPart_55 : decode cX8_emitPart 55 = .ok (.iload_n 3, 1) := by decide +kernel
theorem dX8_emitPart_56 : decode cX8_emitPart 56 = .ok (.iastore, 1) := by decide +kernel
theorem dX8_emitPart_57 : decode cX8_emitPart 57 = .ok (.aload_n 0, 1) := by decide +kernel
theorem dX8_emitPart_58 : decode cX8_emitPart 58 = .ok (.dup, 1) := by decide +kernel
theorem dX8_emitPart_59 : decode cX8_emitPart 59 = .ok (.getfield 53, 3) := by decide +kernel
theorem dX8_emitPart_62 : decode cX8_emitPart 62 = .ok (.iconst 3, 1) := by decide +kernel
theorem dX8_emitPart_63 : decode cX8_emitPart 63 = .ok (.iadd, 1) := by decide +kernel
theorem dX8_emitPart_64 : decode cX8_emitPart 64 = .ok (.putfield 53, 3) := by decide +kernel
theorem dX8_emitPart_67 : decode cX8_emitPart 67 = .ok (.iconst 1, 1) := by decide +kernel
theorem dX8_emitPart_68 : decode cX8_emitPart 68 = .ok (.ireturn, 1) := by decide +kernel
theorem dX8_emit_0 : decode cX8_emit 0 = .ok (.aload_n 0, 1) := by decide +kernel
theorem dX8_emit_1 : decode cX8_emit 1 = .ok (.getfield 53, 3) := by decide +kernel
theorem dX8_emit_4 : decode cX8_emit 4 = .ok (.ifCond .lt 35, 3) := by decide +kernel
theorem dX8_emit_7 : decode cX8_emit 7 = .ok (.aload_n 0, 1) := by decide +kernel
theorem dX8_emit_8 : decode cX8_emit 8 = .ok (.getfield 53, 3) := by decide +kernel
theorem dX8_emit_11 : decode cX8_emit 11 = .ok (.aload_n 0, 1) := by decide +kernel
theorem dX8_emit_12 : decode cX8_emit 12 = .ok (.getfield 24, 3) := by decide +kernel
theorem dX8_emit_15 : decode cX8_emit 15 = .ok (.arraylength, 1) := by decide +kernel
theorem dX8_emit_16 : decode cX8_emit 16 = .ok (.if_icmp .ge 23, 3) := by decide +kernel
theorem dX8_emit_19 : decode cX8_emit 19 = .ok (.aload_n 0, 1) := by decide +kernel
theorem dX8_emit_20 : decode cX8_emit 20 = .ok (.getfield 24, 3) := by decide +kernel
theorem dX8_emit_23 : decode cX8_emit 23 = .ok (.aload_n 0, 1) := by decide +kernel
theorem dX8_emit_24 : decode cX8_emit 24 = .ok (.getfield 53, 3) := by decide +kernel
theorem dX8_emit_27 : decode cX8_emit 27 = .ok (.iload_n 1, 1) := by decide +kernel
theorem dX8_emit_28 : decode cX8_emit 28 = .ok (.iastore, 1) := by decide +kernel
theorem dX8_emit_29 : decode cX8_emit 29 = .ok (.aload_n 0, 1) := by decide +kernel
theorem dX8_emit_30 : decode cX8_emit 30 = .ok (.dup, 1) := by decide +kernel
theorem dX8_emit_31 : decode cX8_emit 31 = .ok (.getfield 53, 3) := by decide +kernel
theorem dX8_emit_34 : decode cX8_emit 34 = .ok (.iconst 1, 1) := by decide +kernel
theorem dX8_emit_35 : decode cX8_emit 35 = .ok (.iadd, 1) := by decide +kernel
theorem dX8_emit_36 : decode cX8_emit 36 = .ok (.putfield 53, 3) := by decide +kernel
theorem dX8_emit_39 : decode cX8_emit 39 = .ok (.return_, 1) := by decide +kernel
theorem dX8_amend_0 : decode cX8_amend 0 = .ok (.iload_n 1, 1) := by decide +kernel
theorem dX8_amend_1 : decode cX8_amend 1 = .ok (.ifCond .lt 19, 3) := by decide +kernel
theorem dX8_amend_4 : decode cX8_amend 4 = .ok (.iload_n 1, 1) := by decide +kernel
theorem dX8_amend_5 : decode cX8_amend 5 = .ok (.aload_n 0, 1) := by decide +kernel
theorem dX8_amend_6 : decode cX8_amend 6 = .ok (.getfield 24, 3) := by decide +kernel
theorem dX8_amend_9 : decode cX8_amend 9 = .ok (.arraylength, 1) := by decide +kernel
theorem dX8_amend_10 : decode cX8_amend 10 = .ok (.if_icmp .ge 10, 3) := by decide +kernel
theorem dX8_amend_13 : decode cX8_amend 13 = .ok (.aload_n 0, 1) := by decide +kernel
theorem dX8_amend_14 : decode cX8_amend 14 = .ok (.getfield 24, 3) := by decide +kernel
theorem dX8_amend_17 : decode cX8_amend 17 = .ok (.iload_n 1, 1) := by decide +kernel
theorem dX8_amend_18 : decode cX8_amend 18 = .ok (.iload_n 2, 1) := by decide +kernel
theorem dX8_amend_19 : decode cX8_amend 19 = .ok (.iastore, 1) := by decide +kernel
theorem dX8_amend_20 : decode cX8_amend 20 = .ok (.return_, 1) := by decide +kernel
theorem dX9_init_0 : decode cX9_init 0 = .ok (.aload_n 0, 1) := by decide +kernel
theorem dX9_init_1 : decode cX9_init 1 = .ok (.invokespecial 1, 3) := by decide +kernel
theorem dX9_init_4 : decode cX9_init 4 = .ok (.aload_n 0, 1) := by decide +kernel
theorem dX9_init_5 : decode cX9_init 5 = .ok (.aload_n 1, 1) := by decide +kernel
theorem dX9_init_6 : decode cX9_init 6 = .ok (.putfield 7, 3) := by decide +kernel
theorem dX9_init_9 : decode cX9_init 9 = .ok (.aload_n 0, 1) := by decide +kernel
theorem dX9_init_10 : decode cX9_init 10 = .ok (.iload_n 2, 1) := by decide +kernel
theorem dX9_init_11 : decode cX9_init 11 = .ok (.putfield 13, 3) := by decide +kernel
theorem dX9_init_14 : decode cX9_init 14 = .ok (.aload_n 0, 1) := by decide +kernel
theorem dX9_init_15 : decode cX9_init 15 = .ok (.lload_n 3, 1) := by decide +kernel
theorem dX9_init_16 : decode cX9_init 16 = .ok (.putfield 17, 3) := by decide +kernel
theorem dX9_init_19 : decode cX9_init 19 = .ok (.aload_n 0, 1) := by decide +kernel
theorem dX9_init_20 : decode cX9_init 20 = .ok (.lload 5, 2) := by decide +kernel
theorem dX9_init_22 : decode cX9_init 22 = .ok (.putfield 21, 3) := by decide +kernel
theorem dX9_init_25 : decode cX9_init 25 = .ok (.return_, 1) := by decide +kernel
theorem dX9_codeAt_0 : decode cX9_codeAt 0 = .ok (.iload_n 1, 1) := by decide +kernel
theorem dX9_codeAt_1 : decode cX9_codeAt 1 = .ok (.ifCond .lt 21, 3) := by decide +kernel
theorem dX9_codeAt_4 : decode cX9_codeAt 4 = .ok (.iload_n 1, 1) := by decide +kernel
theorem dX9_codeAt_5 : decode cX9_codeAt 5 = .ok (.aload_n 0, 1) := by decide +kernel
theorem dX9_codeAt_6 : decode cX9_codeAt 6 = .ok (.getfield 7, 3) := by decide +kernel
theorem dX9_codeAt_9 : decode cX9_codeAt 9 = .ok (.arraylength, 1) := by decide +kernel
theorem dX9_codeAt_10 : decode cX9_codeAt 10 = .ok (.if_icmp .ge 12, 3) := by decide +kernel
theorem dX9_codeAt_13 : decode cX9_codeAt 13 = .ok (.aload_n 0, 1) := by decide +kernel
theorem dX9_codeAt_14 : decode cX9_codeAt 14 = .ok (.getfield 7, 3) := by decide +kernel
theorem dX9_codeAt_17 : decode cX9_codeAt 17 = .ok (.iload_n 1, 1) := by decide +kernel
theorem dX9_codeAt_18 : decode cX9_codeAt 18 = .ok (.iaload, 1) := by decide +kernel
theorem dX9_codeAt_19 : decode cX9_codeAt 19 = .ok (.goto 4, 3) := by decide +kernel
theorem dX9_codeAt_22 : decode cX9_codeAt 22 = .ok (.iconst 0, 1) := by decide +kernel
theorem dX9_codeAt_23 : decode cX9_codeAt 23 = .ok (.ireturn, 1) := by decide +kernel
theorem dX10_init_0 : decode cX10_init 0 = .ok (.aload_n 0, 1) := by decide +kernel
theorem dX10_init_1 : decode cX10_init 1 = .ok (.invokespecial 3, 3) := by decide +kernel
theorem dX10_init_4 : decode cX10_init 4 = .ok (.aload_n 0, 1) := by decide +kernel
theorem dX10_init_5 : decode cX10_init 5 = .ok (.bipush 100, 2) := by decide +kernel
theorem dX10_init_7 : decode cX10_init 7 = .ok (.newarray .int, 2) := by decide +kernel
theorem dX10_init_9 : decode cX10_init 9 = .ok (.putfield 9, 3) := by decide +kernel
theorem dX10_init_12 : decode cX10_init 12 = .ok (.aload_n 0, 1) := by decide +kernel
theorem dX10_init_13 : decode cX10_init 13 = .ok (.bipush 100, 2) := by decide +kernel
