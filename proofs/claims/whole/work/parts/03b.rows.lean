theorem dX2_doSeason_30 : decode cX2_doSeason 30 = .ok (.goto 4, 3) := by decide +kernel
theorem dX2_doSeason_33 : decode cX2_doSeason 33 = .ok (.iconst 0, 1) := by decide +kernel
theorem dX2_doSeason_34 : decode cX2_doSeason 34 = .ok (.iadd, 1) := by decide +kernel
theorem dX2_doSeason_35 : decode cX2_doSeason 35 = .ok (.istore 5, 2) := by decide +kernel
theorem dX2_doSeason_37 : decode cX2_doSeason 37 = .ok (.iinc 6 1, 3) := by decide +kernel
theorem dX2_doSeason_40 : decode cX2_doSeason 40 = .ok (.goto (-29), 3) := by decide +kernel
theorem dX2_doSeason_43 : decode cX2_doSeason 43 = .ok (.iload 5, 2) := by decide +kernel
theorem dX2_doSeason_45 : decode cX2_doSeason 45 = .ok (.ireturn, 1) := by decide +kernel
theorem dX2_doDrawn_0 : decode cX2_doDrawn 0 = .ok (.aload_n 0, 1) := by decide +kernel
theorem dX2_doDrawn_1 : decode cX2_doDrawn 1 = .ok (.invokevirtual 111, 3) := by decide +kernel
theorem dX2_doDrawn_4 : decode cX2_doDrawn 4 = .ok (.bipush 6, 2) := by decide +kernel
theorem dX2_doDrawn_6 : decode cX2_doDrawn 6 = .ok (.irem, 1) := by decide +kernel
theorem dX2_doDrawn_7 : decode cX2_doDrawn 7 = .ok (.istore_n 3, 1) := by decide +kernel
theorem dX2_doDrawn_8 : decode cX2_doDrawn 8 = .ok (.aload_n 0, 1) := by decide +kernel
theorem dX2_doDrawn_9 : decode cX2_doDrawn 9 = .ok (.invokevirtual 111, 3) := by decide +kernel
theorem dX2_doDrawn_12 : decode cX2_doDrawn 12 = .ok (.bipush 6, 2) := by decide +kernel
theorem dX2_doDrawn_14 : decode cX2_doDrawn 14 = .ok (.irem, 1) := by decide +kernel
theorem dX2_doDrawn_15 : decode cX2_doDrawn 15 = .ok (.istore 4, 2) := by decide +kernel
theorem dX2_doDrawn_17 : decode cX2_doDrawn 17 = .ok (.iload_n 3, 1) := by decide +kernel
theorem dX2_doDrawn_18 : decode cX2_doDrawn 18 = .ok (.iconst 3, 1) := by decide +kernel
theorem dX2_doDrawn_19 : decode cX2_doDrawn 19 = .ok (.if_icmp .gt 19, 3) := by decide +kernel
theorem dX2_doDrawn_22 : decode cX2_doDrawn 22 = .ok (.aload_n 0, 1) := by decide +kernel
theorem dX2_doDrawn_23 : decode cX2_doDrawn 23 = .ok (.aload_n 1, 1) := by decide +kernel
theorem dX2_doDrawn_24 : decode cX2_doDrawn 24 = .ok (.aload_n 2, 1) := by decide +kernel
theorem dX2_doDrawn_25 : decode cX2_doDrawn 25 = .ok (.iload 4, 2) := by decide +kernel
theorem dX2_doDrawn_27 : decode cX2_doDrawn 27 = .ok (.aload_n 0, 1) := by decide +kernel
theorem dX2_doDrawn_28 : decode cX2_doDrawn 28 = .ok (.invokevirtual 111, 3) := by decide +kernel
theorem dX2_doDrawn_31 : decode cX2_doDrawn 31 = .ok (.iconst 4, 1) := by decide +kernel
theorem dX2_doDrawn_32 : decode cX2_doDrawn 32 = .ok (.irem, 1) := by decide +kernel
theorem dX2_doDrawn_33 : decode cX2_doDrawn 33 = .ok (.i2l, 1) := by decide +kernel
theorem dX2_doDrawn_34 : decode cX2_doDrawn 34 = .ok (.invokevirtual 66, 3) := by decide +kernel
theorem dX2_doDrawn_37 : decode cX2_doDrawn 37 = .ok (.ireturn, 1) := by decide +kernel
theorem dX2_doDrawn_38 : decode cX2_doDrawn 38 = .ok (.iload_n 3, 1) := by decide +kernel
theorem dX2_doDrawn_39 : decode cX2_doDrawn 39 = .ok (.iconst 4, 1) := by decide +kernel
theorem dX2_doDrawn_40 : decode cX2_doDrawn 40 = .ok (.if_icmp .ne 12, 3) := by decide +kernel
theorem dX2_doDrawn_43 : decode cX2_doDrawn 43 = .ok (.aload_n 0, 1) := by decide +kernel
theorem dX2_doDrawn_44 : decode cX2_doDrawn 44 = .ok (.aload_n 1, 1) := by decide +kernel
theorem dX2_doDrawn_45 : decode cX2_doDrawn 45 = .ok (.aload_n 2, 1) := by decide +kernel
theorem dX2_doDrawn_46 : decode cX2_doDrawn 46 = .ok (.iload 4, 2) := by decide +kernel
theorem dX2_doDrawn_48 : decode cX2_doDrawn 48 = .ok (.invokevirtual 74, 3) := by decide +kernel
theorem dX2_doDrawn_51 : decode cX2_doDrawn 51 = .ok (.ireturn, 1) := by decide +kernel
theorem dX2_doDrawn_52 : decode cX2_doDrawn 52 = .ok (.aload_n 0, 1) := by decide +kernel
theorem dX2_doDrawn_53 : decode cX2_doDrawn 53 = .ok (.aload_n 2, 1) := by decide +kernel
theorem dX2_doDrawn_54 : decode cX2_doDrawn 54 = .ok (.iload 4, 2) := by decide +kernel
theorem dX2_doDrawn_56 : decode cX2_doDrawn 56 = .ok (.iconst 1, 1) := by decide +kernel
theorem dX2_doDrawn_57 : decode cX2_doDrawn 57 = .ok (.aload_n 0, 1) := by decide +kernel
theorem dX2_doDrawn_58 : decode cX2_doDrawn 58 = .ok (.invokevirtual 111, 3) := by decide +kernel
theorem dX2_doDrawn_61 : decode cX2_doDrawn 61 = .ok (.bipush 9, 2) := by decide +kernel
theorem dX2_doDrawn_63 : decode cX2_doDrawn 63 = .ok (.irem, 1) := by decide +kernel
theorem dX2_doDrawn_64 : decode cX2_doDrawn 64 = .ok (.iadd, 1) := by decide +kernel
theorem dX2_doDrawn_65 : decode cX2_doDrawn 65 = .ok (.invokevirtual 90, 3) := by decide +kernel
theorem dX2_doDrawn_68 : decode cX2_doDrawn 68 = .ok (.ireturn, 1) := by decide +kernel
theorem dX2_nextDrawn_0 : decode cX2_nextDrawn 0 = .ok (.aload_n 0, 1) := by decide +kernel
theorem dX2_nextDrawn_1 : decode cX2_nextDrawn 1 = .ok (.ldc 115, 2) := by decide +kernel
theorem dX2_nextDrawn_3 : decode cX2_nextDrawn 3 = .ok (.aload_n 0, 1) := by decide +kernel
theorem dX2_nextDrawn_4 : decode cX2_nextDrawn 4 = .ok (.getfield 15, 3) := by decide +kernel
theorem dX2_nextDrawn_7 : decode cX2_nextDrawn 7 = .ok (.imul, 1) := by decide +kernel
theorem dX2_nextDrawn_8 : decode cX2_nextDrawn 8 = .ok (.sipush 12345, 3) := by decide +kernel
theorem dX2_nextDrawn_11 : decode cX2_nextDrawn 11 = .ok (.iadd, 1) := by decide +kernel
theorem dX2_nextDrawn_12 : decode cX2_nextDrawn 12 = .ok (.putfield 15, 3) := by decide +kernel
theorem dX2_nextDrawn_15 : decode cX2_nextDrawn 15 = .ok (.aload_n 0, 1) := by decide +kernel
theorem dX2_nextDrawn_16 : decode cX2_nextDrawn 16 = .ok (.getfield 15, 3) := by decide +kernel
theorem dX2_nextDrawn_19 : decode cX2_nextDrawn 19 = .ok (.bipush 16, 2) := by decide +kernel
theorem dX2_nextDrawn_21 : decode cX2_nextDrawn 21 = .ok (.iushr, 1) := by decide +kernel
theorem dX2_nextDrawn_22 : decode cX2_nextDrawn 22 = .ok (.ireturn, 1) := by decide +kernel
theorem dX3_init_0 : decode cX3_init 0 = .ok (.aload_n 0, 1) := by decide +kernel
theorem dX3_init_1 : decode cX3_init 1 = .ok (.invokespecial 5, 3) := by decide +kernel
theorem dX3_init_4 : decode cX3_init 4 = .ok (.aload_n 0, 1) := by decide +kernel
theorem dX3_init_5 : decode cX3_init 5 = .ok (.iconst 0, 1) := by decide +kernel
theorem dX3_init_6 : decode cX3_init 6 = .ok (.iload_n 1, 1) := by decide +kernel
theorem dX3_init_7 : decode cX3_init 7 = .ok (.invokestatic 11, 3) := by decide +kernel
theorem dX3_init_10 : decode cX3_init 10 = .ok (.newarray .long, 2) := by decide +kernel
theorem dX3_init_12 : decode cX3_init 12 = .ok (.putfield 17, 3) := by decide +kernel
theorem dX3_init_15 : decode cX3_init 15 = .ok (.return_, 1) := by decide +kernel
theorem dX3_find_0 : decode cX3_find 0 = .ok (.iload_n 1, 1) := by decide +kernel
theorem dX3_find_1 : decode cX3_find 1 = .ok (.ifCond .lt 12, 3) := by decide +kernel
theorem dX3_find_4 : decode cX3_find 4 = .ok (.iload_n 1, 1) := by decide +kernel
theorem dX3_find_5 : decode cX3_find 5 = .ok (.aload_n 0, 1) := by decide +kernel
theorem dX3_find_6 : decode cX3_find 6 = .ok (.getfield 17, 3) := by decide +kernel
theorem dX3_find_9 : decode cX3_find 9 = .ok (.arraylength, 1) := by decide +kernel
theorem dX3_find_10 : decode cX3_find 10 = .ok (.if_icmp .lt 7, 3) := by decide +kernel
theorem dX3_find_13 : decode cX3_find 13 = .ok (.ldc2_w 21, 3) := by decide +kernel
theorem dX3_find_16 : decode cX3_find 16 = .ok (.lreturn, 1) := by decide +kernel
theorem dX3_find_17 : decode cX3_find 17 = .ok (.aload_n 0, 1) := by decide +kernel
theorem dX3_find_18 : decode cX3_find 18 = .ok (.getfield 17, 3) := by decide +kernel
theorem dX3_find_21 : decode cX3_find 21 = .ok (.iload_n 1, 1) := by decide +kernel
theorem dX3_find_22 : decode cX3_find 22 = .ok (.laload, 1) := by decide +kernel
theorem dX3_find_23 : decode cX3_find 23 = .ok (.lstore_n 3, 1) := by decide +kernel
theorem dX3_find_24 : decode cX3_find 24 = .ok (.lload_n 3, 1) := by decide +kernel
theorem dX3_find_25 : decode cX3_find 25 = .ok (.bipush 48, 2) := by decide +kernel
theorem dX3_find_27 : decode cX3_find 27 = .ok (.lushr, 1) := by decide +kernel
theorem dX3_find_28 : decode cX3_find 28 = .ok (.iload_n 2, 1) := by decide +kernel
theorem dX3_find_29 : decode cX3_find 29 = .ok (.ldc 23, 2) := by decide +kernel
theorem dX3_find_31 : decode cX3_find 31 = .ok (.irem, 1) := by decide +kernel
theorem dX3_find_32 : decode cX3_find 32 = .ok (.i2l, 1) := by decide +kernel
theorem dX3_find_33 : decode cX3_find 33 = .ok (.lcmp, 1) := by decide +kernel
theorem dX3_find_34 : decode cX3_find 34 = .ok (.ifCond .ne 11, 3) := by decide +kernel
theorem dX3_find_37 : decode cX3_find 37 = .ok (.lload_n 3, 1) := by decide +kernel
theorem dX3_find_38 : decode cX3_find 38 = .ok (.ldc2_w 24, 3) := by decide +kernel
theorem dX3_find_41 : decode cX3_find 41 = .ok (.land, 1) := by decide +kernel
theorem dX3_find_42 : decode cX3_find 42 = .ok (.goto 6, 3) := by decide +kernel
theorem dX3_find_45 : decode cX3_find 45 = .ok (.ldc2_w 21, 3) := by decide +kernel
theorem dX3_find_48 : decode cX3_find 48 = .ok (.lreturn, 1) := by decide +kernel
theorem dX3_keep_0 : decode cX3_keep 0 = .ok (.iload_n 1, 1) := by decide +kernel
theorem dX3_keep_1 : decode cX3_keep 1 = .ok (.ifCond .lt 32, 3) := by decide +kernel
theorem dX3_keep_4 : decode cX3_keep 4 = .ok (.iload_n 1, 1) := by decide +kernel
theorem dX3_keep_5 : decode cX3_keep 5 = .ok (.aload_n 0, 1) := by decide +kernel
theorem dX3_keep_6 : decode cX3_keep 6 = .ok (.getfield 17, 3) := by decide +kernel
theorem dX3_keep_9 : decode cX3_keep 9 = .ok (.arraylength, 1) := by decide +kernel
theorem dX3_keep_10 : decode cX3_keep 10 = .ok (.if_icmp .ge 23, 3) := by decide +kernel
theorem dX3_keep_13 : decode cX3_keep 13 = .ok (.aload_n 0, 1) := by decide +kernel
theorem dX3_keep_14 : decode cX3_keep 14 = .ok (.getfield 17, 3) := by decide +kernel
theorem dX3_keep_17 : decode cX3_keep 17 = .ok (.iload_n 1, 1) := by decide +kernel
theorem dX3_keep_18 : decode cX3_keep 18 = .ok (.iload_n 2, 1) := by decide +kernel
theorem dX3_keep_19 : decode cX3_keep 19 = .ok (.ldc 23, 2) := by decide +kernel
theorem dX3_keep_21 : decode cX3_keep 21 = .ok (.irem, 1) := by decide +kernel
theorem dX3_keep_22 : decode cX3_keep 22 = .ok (.i2l, 1) := by decide +kernel
theorem dX3_keep_23 : decode cX3_keep 23 = .ok (.bipush 48, 2) := by decide +kernel
theorem dX3_keep_25 : decode cX3_keep 25 = .ok (.lshl, 1) := by decide +kernel
theorem dX3_keep_26 : decode cX3_keep 26 = .ok (.lload_n 3, 1) := by decide +kernel
theorem dX3_keep_27 : decode cX3_keep 27 = .ok (.ldc2_w 24, 3) := by decide +kernel
theorem dX3_keep_30 : decode cX3_keep 30 = .ok (.land, 1) := by decide +kernel
theorem dX3_keep_31 : decode cX3_keep 31 = .ok (.lor, 1) := by decide +kernel
theorem dX3_keep_32 : decode cX3_keep 32 = .ok (.lastore, 1) := by decide +kernel
theorem dX3_keep_33 : decode cX3_keep 33 = .ok (.return_, 1) := by decide +kernel
theorem dX4_init_0 : decode cX4_init 0 = .ok (.aload_n 0, 1) := by decide +kernel
theorem dX4_init_1 : decode cX4_init 1 = .ok (.invokespecial 1, 3) := by decide +kernel
theorem dX4_init_4 : decode cX4_init 4 = .ok (.aload_n 0, 1) := by decide +kernel
theorem dX4_init_5 : decode cX4_init 5 = .ok (.bipush 10, 2) := by decide +kernel
theorem dX4_init_7 : decode cX4_init 7 = .ok (.anewarray 9, 3) := by decide +kernel
theorem dX4_init_10 : decode cX4_init 10 = .ok (.putfield 11, 3) := by decide +kernel
theorem dX4_init_13 : decode cX4_init 13 = .ok (.aload_n 0, 1) := by decide +kernel
theorem dX4_init_14 : decode cX4_init 14 = .ok (.iconst 0, 1) := by decide +kernel
theorem dX4_init_15 : decode cX4_init 15 = .ok (.putfield 15, 3) := by decide +kernel
theorem dX4_init_18 : decode cX4_init 18 = .ok (.aload_n 0, 1) := by decide +kernel
theorem dX4_init_19 : decode cX4_init 19 = .ok (.iconst 0, 1) := by decide +kernel
theorem dX4_init_20 : decode cX4_init 20 = .ok (.putfield 19, 3) := by decide +kernel
theorem dX4_init_23 : decode cX4_init 23 = .ok (.iconst 0, 1) := by decide +kernel
theorem dX4_init_24 : decode cX4_init 24 = .ok (.istore_n 1, 1) := by decide +kernel
theorem dX4_init_25 : decode cX4_init 25 = .ok (.iload_n 1, 1) := by decide +kernel
theorem dX4_init_26 : decode cX4_init 26 = .ok (.aload_n 0, 1) := by decide +kernel
theorem dX4_init_27 : decode cX4_init 27 = .ok (.getfield 11, 3) := by decide +kernel
theorem dX4_init_30 : decode cX4_init 30 = .ok (.arraylength, 1) := by decide +kernel
theorem dX4_init_31 : decode cX4_init 31 = .ok (.if_icmp .ge 22, 3) := by decide +kernel
theorem dX4_init_34 : decode cX4_init 34 = .ok (.aload_n 0, 1) := by decide +kernel
theorem dX4_init_35 : decode cX4_init 35 = .ok (.getfield 11, 3) := by decide +kernel
theorem dX4_init_38 : decode cX4_init 38 = .ok (.iload_n 1, 1) := by decide +kernel
theorem dX4_init_39 : decode cX4_init 39 = .ok (.new 9, 3) := by decide +kernel
theorem dX4_init_42 : decode cX4_init 42 = .ok (.dup, 1) := by decide +kernel
theorem dX4_init_43 : decode cX4_init 43 = .ok (.invokespecial 22, 3) := by decide +kernel
theorem dX4_init_46 : decode cX4_init 46 = .ok (.aastore, 1) := by decide +kernel
theorem dX4_init_47 : decode cX4_init 47 = .ok (.iinc 1 1, 3) := by decide +kernel
theorem dX4_init_50 : decode cX4_init 50 = .ok (.goto (-25), 3) := by decide +kernel
theorem dX4_init_53 : decode cX4_init 53 = .ok (.return_, 1) := by decide +kernel
theorem dX4_keep_0 : decode cX4_keep 0 = .ok (.aload_n 0, 1) := by decide +kernel
theorem dX4_keep_1 : decode cX4_keep 1 = .ok (.getfield 15, 3) := by decide +kernel
theorem dX4_keep_4 : decode cX4_keep 4 = .ok (.ifCond .lt 15, 3) := by decide +kernel
theorem dX4_keep_7 : decode cX4_keep 7 = .ok (.aload_n 0, 1) := by decide +kernel
theorem dX4_keep_8 : decode cX4_keep 8 = .ok (.getfield 15, 3) := by decide +kernel
theorem dX4_keep_11 : decode cX4_keep 11 = .ok (.aload_n 0, 1) := by decide +kernel
theorem dX4_keep_12 : decode cX4_keep 12 = .ok (.getfield 11, 3) := by decide +kernel
theorem dX4_keep_15 : decode cX4_keep 15 = .ok (.arraylength, 1) := by decide +kernel
theorem dX4_keep_16 : decode cX4_keep 16 = .ok (.if_icmp .lt 4, 3) := by decide +kernel
theorem dX4_keep_19 : decode cX4_keep 19 = .ok (.return_, 1) := by decide +kernel
theorem dX4_keep_20 : decode cX4_keep 20 = .ok (.aload_n 0, 1) := by decide +kernel
theorem dX4_keep_21 : decode cX4_keep 21 = .ok (.getfield 11, 3) := by decide +kernel
theorem dX4_keep_24 : decode cX4_keep 24 = .ok (.aload_n 0, 1) := by decide +kernel
theorem dX4_keep_25 : decode cX4_keep 25 = .ok (.getfield 15, 3) := by decide +kernel
theorem dX4_keep_28 : decode cX4_keep 28 = .ok (.aaload, 1) := by decide +kernel
theorem dX4_keep_29 : decode cX4_keep 29 = .ok (.astore_n 2, 1) := by decide +kernel
theorem dX4_keep_30 : decode cX4_keep 30 = .ok (.aload_n 2, 1) := by decide +kernel
theorem dX4_keep_31 : decode cX4_keep 31 = .ok (.ifnull 36, 3) := by decide +kernel
theorem dX4_keep_34 : decode cX4_keep 34 = .ok (.aload_n 2, 1) := by decide +kernel
theorem dX4_keep_35 : decode cX4_keep 35 = .ok (.aload_n 1, 1) := by decide +kernel
theorem dX4_keep_36 : decode cX4_keep 36 = .ok (.invokevirtual 23, 3) := by decide +kernel
theorem dX4_keep_39 : decode cX4_keep 39 = .ok (.aload_n 0, 1) := by decide +kernel
theorem dX4_keep_40 : decode cX4_keep 40 = .ok (.aload_n 0, 1) := by decide +kernel
theorem dX4_keep_41 : decode cX4_keep 41 = .ok (.getfield 15, 3) := by decide +kernel
theorem dX4_keep_44 : decode cX4_keep 44 = .ok (.iconst 1, 1) := by decide +kernel
theorem dX4_keep_45 : decode cX4_keep 45 = .ok (.iadd, 1) := by decide +kernel
theorem dX4_keep_46 : decode cX4_keep 46 = .ok (.bipush 10, 2) := by decide +kernel
theorem dX4_keep_48 : decode cX4_keep 48 = .ok (.irem, 1) := by decide +kernel
theorem dX4_keep_49 : decode cX4_keep 49 = .ok (.putfield 15, 3) := by decide +kernel
theorem dX4_keep_52 : decode cX4_keep 52 = .ok (.aload_n 0, 1) := by decide +kernel
theorem dX4_keep_53 : decode cX4_keep 53 = .ok (.aload_n 0, 1) := by decide +kernel
theorem dX4_keep_54 : decode cX4_keep 54 = .ok (.getfield 19, 3) := by decide +kernel
theorem dX4_keep_57 : decode cX4_keep 57 = .ok (.iconst 1, 1) := by decide +kernel
theorem dX4_keep_58 : decode cX4_keep 58 = .ok (.iadd, 1) := by decide +kernel
theorem dX4_keep_59 : decode cX4_keep 59 = .ok (.bipush 10, 2) := by decide +kernel
theorem dX4_keep_61 : decode cX4_keep 61 = .ok (.invokestatic 27, 3) := by decide +kernel
theorem dX4_keep_64 : decode cX4_keep 64 = .ok (.putfield 19, 3) := by decide +kernel
theorem dX4_keep_67 : decode cX4_keep 67 = .ok (.return_, 1) := by decide +kernel
theorem dX4_bringBack_0 : decode cX4_bringBack 0 = .ok (.iload_n 1, 1) := by decide +kernel
theorem dX4_bringBack_1 : decode cX4_bringBack 1 = .ok (.iconst 1, 1) := by decide +kernel
theorem dX4_bringBack_2 : decode cX4_bringBack 2 = .ok (.if_icmp .lt 11, 3) := by decide +kernel
theorem dX4_bringBack_5 : decode cX4_bringBack 5 = .ok (.iload_n 1, 1) := by decide +kernel
theorem dX4_bringBack_6 : decode cX4_bringBack 6 = .ok (.aload_n 0, 1) := by decide +kernel
theorem dX4_bringBack_7 : decode cX4_bringBack 7 = .ok (.getfield 19, 3) := by decide +kernel
theorem dX4_bringBack_10 : decode cX4_bringBack 10 = .ok (.if_icmp .le 5, 3) := by decide +kernel
theorem dX4_bringBack_13 : decode cX4_bringBack 13 = .ok (.iconst 0, 1) := by decide +kernel
theorem dX4_bringBack_14 : decode cX4_bringBack 14 = .ok (.ireturn, 1) := by decide +kernel
theorem dX4_bringBack_15 : decode cX4_bringBack 15 = .ok (.aload_n 0, 1) := by decide +kernel
theorem dX4_bringBack_16 : decode cX4_bringBack 16 = .ok (.getfield 15, 3) := by decide +kernel
theorem dX4_bringBack_19 : decode cX4_bringBack 19 = .ok (.iload_n 1, 1) := by decide +kernel
theorem dX4_bringBack_20 : decode cX4_bringBack 20 = .ok (.isub, 1) := by decide +kernel
theorem dX4_bringBack_21 : decode cX4_bringBack 21 = .ok (.bipush 10, 2) := by decide +kernel
theorem dX4_bringBack_23 : decode cX4_bringBack 23 = .ok (.invokestatic 33, 3) := by decide +kernel
theorem dX4_bringBack_26 : decode cX4_bringBack 26 = .ok (.istore_n 3, 1) := by decide +kernel
theorem dX4_bringBack_27 : decode cX4_bringBack 27 = .ok (.iload_n 3, 1) := by decide +kernel
theorem dX4_bringBack_28 : decode cX4_bringBack 28 = .ok (.aload_n 0, 1) := by decide +kernel
theorem dX4_bringBack_29 : decode cX4_bringBack 29 = .ok (.getfield 11, 3) := by decide +kernel
theorem dX4_bringBack_32 : decode cX4_bringBack 32 = .ok (.arraylength, 1) := by decide +kernel
theorem dX4_bringBack_33 : decode cX4_bringBack 33 = .ok (.if_icmp .ge 12, 3) := by decide +kernel
theorem dX4_bringBack_36 : decode cX4_bringBack 36 = .ok (.aload_n 0, 1) := by decide +kernel
theorem dX4_bringBack_37 : decode cX4_bringBack 37 = .ok (.getfield 11, 3) := by decide +kernel
theorem dX4_bringBack_40 : decode cX4_bringBack 40 = .ok (.iload_n 3, 1) := by decide +kernel
theorem dX4_bringBack_41 : decode cX4_bringBack 41 = .ok (.aaload, 1) := by decide +kernel
theorem dX4_bringBack_42 : decode cX4_bringBack 42 = .ok (.goto 4, 3) := by decide +kernel
theorem dX4_bringBack_45 : decode cX4_bringBack 45 = .ok (.aconst_null, 1) := by decide +kernel
theorem dX4_bringBack_46 : decode cX4_bringBack 46 = .ok (.astore 4, 2) := by decide +kernel
theorem dX4_bringBack_48 : decode cX4_bringBack 48 = .ok (.aload 4, 2) := by decide +kernel
theorem dX4_bringBack_50 : decode cX4_bringBack 50 = .ok (.ifnonnull 5, 3) := by decide +kernel
theorem dX4_bringBack_53 : decode cX4_bringBack 53 = .ok (.iconst 0, 1) := by decide +kernel
theorem dX4_bringBack_54 : decode cX4_bringBack 54 = .ok (.ireturn, 1) := by decide +kernel
theorem dX4_bringBack_55 : decode cX4_bringBack 55 = .ok (.aload_n 2, 1) := by decide +kernel
theorem dX4_bringBack_56 : decode cX4_bringBack 56 = .ok (.aload 4, 2) := by decide +kernel
theorem dX4_bringBack_58 : decode cX4_bringBack 58 = .ok (.invokevirtual 23, 3) := by decide +kernel
theorem dX4_bringBack_61 : decode cX4_bringBack 61 = .ok (.aload_n 0, 1) := by decide +kernel
theorem dX4_bringBack_62 : decode cX4_bringBack 62 = .ok (.iload_n 3, 1) := by decide +kernel
theorem dX4_bringBack_63 : decode cX4_bringBack 63 = .ok (.putfield 15, 3) := by decide +kernel
theorem dX4_bringBack_66 : decode cX4_bringBack 66 = .ok (.aload_n 0, 1) := by decide +kernel
theorem dX4_bringBack_67 : decode cX4_bringBack 67 = .ok (.dup, 1) := by decide +kernel
theorem dX4_bringBack_68 : decode cX4_bringBack 68 = .ok (.getfield 19, 3) := by decide +kernel
theorem dX4_bringBack_71 : decode cX4_bringBack 71 = .ok (.iload_n 1, 1) := by decide +kernel
theorem dX4_bringBack_72 : decode cX4_bringBack 72 = .ok (.isub, 1) := by decide +kernel
theorem dX4_bringBack_73 : decode cX4_bringBack 73 = .ok (.putfield 19, 3) := by decide +kernel
theorem dX4_bringBack_76 : decode cX4_bringBack 76 = .ok (.iconst 1, 1) := by decide +kernel
theorem dX4_bringBack_77 : decode cX4_bringBack 77 = .ok (.ireturn, 1) := by decide +kernel
theorem dX4_forget_0 : decode cX4_forget 0 = .ok (.aload_n 0, 1) := by decide +kernel
theorem dX4_forget_1 : decode cX4_forget 1 = .ok (.iconst 0, 1) := by decide +kernel
theorem dX4_forget_2 : decode cX4_forget 2 = .ok (.putfield 19, 3) := by decide +kernel
theorem dX4_forget_5 : decode cX4_forget 5 = .ok (.return_, 1) := by decide +kernel
theorem dX5_init_0 : decode cX5_init 0 = .ok (.aload_n 0, 1) := by decide +kernel
theorem dX5_init_1 : decode cX5_init 1 = .ok (.invokespecial 3, 3) := by decide +kernel
theorem dX5_init_4 : decode cX5_init 4 = .ok (.aload_n 0, 1) := by decide +kernel
theorem dX5_init_5 : decode cX5_init 5 = .ok (.bipush 54, 2) := by decide +kernel
theorem dX5_init_7 : decode cX5_init 7 = .ok (.newarray .int, 2) := by decide +kernel
theorem dX5_init_9 : decode cX5_init 9 = .ok (.putfield 11, 3) := by decide +kernel
theorem dX5_init_12 : decode cX5_init 12 = .ok (.aload_n 0, 1) := by decide +kernel
theorem dX5_init_13 : decode cX5_init 13 = .ok (.iconst 0, 1) := by decide +kernel
theorem dX5_init_14 : decode cX5_init 14 = .ok (.putfield 15, 3) := by decide +kernel
theorem dX5_init_17 : decode cX5_init 17 = .ok (.aload_n 0, 1) := by decide +kernel
theorem dX5_init_18 : decode cX5_init 18 = .ok (.iconst 0, 1) := by decide +kernel
theorem dX5_init_19 : decode cX5_init 19 = .ok (.putfield 19, 3) := by decide +kernel
theorem dX5_init_22 : decode cX5_init 22 = .ok (.return_, 1) := by decide +kernel
theorem dX5_settle_0 : decode cX5_settle 0 = .ok (.aload_n 0, 1) := by decide +kernel
theorem dX5_settle_1 : decode cX5_settle 1 = .ok (.getfield 11, 3) := by decide +kernel
theorem dX5_settle_4 : decode cX5_settle 4 = .ok (.iconst 0, 1) := by decide +kernel
theorem dX5_settle_5 : decode cX5_settle 5 = .ok (.invokestatic 22, 3) := by decide +kernel
theorem dX5_settle_8 : decode cX5_settle 8 = .ok (.aload_n 0, 1) := by decide +kernel
theorem dX5_settle_9 : decode cX5_settle 9 = .ok (.aload_n 1, 1) := by decide +kernel
theorem dX5_settle_10 : decode cX5_settle 10 = .ok (.getfield 28, 3) := by decide +kernel
theorem dX5_settle_13 : decode cX5_settle 13 = .ok (.putfield 15, 3) := by decide +kernel
theorem dX5_settle_16 : decode cX5_settle 16 = .ok (.aload_n 0, 1) := by decide +kernel
theorem dX5_settle_17 : decode cX5_settle 17 = .ok (.aload_n 1, 1) := by decide +kernel
theorem dX5_settle_18 : decode cX5_settle 18 = .ok (.getfield 31, 3) := by decide +kernel
theorem dX5_settle_21 : decode cX5_settle 21 = .ok (.putfield 19, 3) := by decide +kernel
theorem dX5_settle_24 : decode cX5_settle 24 = .ok (.iconst 0, 1) := by decide +kernel
theorem dX5_settle_25 : decode cX5_settle 25 = .ok (.istore_n 2, 1) := by decide +kernel
theorem dX5_settle_26 : decode cX5_settle 26 = .ok (.iload_n 2, 1) := by decide +kernel
theorem dX5_settle_27 : decode cX5_settle 27 = .ok (.aload_n 0, 1) := by decide +kernel
theorem dX5_settle_28 : decode cX5_settle 28 = .ok (.getfield 15, 3) := by decide +kernel
theorem dX5_settle_31 : decode cX5_settle 31 = .ok (.if_icmp .ge 48, 3) := by decide +kernel
theorem dX5_settle_34 : decode cX5_settle 34 = .ok (.aload_n 0, 1) := by decide +kernel
theorem dX5_settle_35 : decode cX5_settle 35 = .ok (.iload_n 2, 1) := by decide +kernel
theorem dX5_settle_36 : decode cX5_settle 36 = .ok (.iconst 1, 1) := by decide +kernel
theorem dX5_settle_37 : decode cX5_settle 37 = .ok (.iconst 1, 1) := by decide +kernel
theorem dX5_settle_38 : decode cX5_settle 38 = .ok (.invokevirtual 32, 3) := by decide +kernel
theorem dX5_settle_41 : decode cX5_settle 41 = .ok (.aload_n 0, 1) := by decide +kernel
theorem dX5_settle_42 : decode cX5_settle 42 = .ok (.iload_n 2, 1) := by decide +kernel
theorem dX5_settle_43 : decode cX5_settle 43 = .ok (.iconst 3, 1) := by decide +kernel
theorem dX5_settle_44 : decode cX5_settle 44 = .ok (.bipush 9, 2) := by decide +kernel
theorem dX5_settle_46 : decode cX5_settle 46 = .ok (.invokevirtual 32, 3) := by decide +kernel
theorem dX5_settle_49 : decode cX5_settle 49 = .ok (.aload_n 0, 1) := by decide +kernel
theorem dX5_settle_50 : decode cX5_settle 50 = .ok (.iload_n 2, 1) := by decide +kernel
theorem dX5_settle_51 : decode cX5_settle 51 = .ok (.bipush 6, 2) := by decide +kernel
theorem dX5_settle_53 : decode cX5_settle 53 = .ok (.aload_n 1, 1) := by decide +kernel
theorem dX5_settle_54 : decode cX5_settle 54 = .ok (.iload_n 2, 1) := by decide +kernel
theorem dX5_settle_55 : decode cX5_settle 55 = .ok (.invokevirtual 36, 3) := by decide +kernel
theorem dX5_settle_58 : decode cX5_settle 58 = .ok (.invokevirtual 32, 3) := by decide +kernel
theorem dX5_settle_61 : decode cX5_settle 61 = .ok (.aload_n 0, 1) := by decide +kernel
theorem dX5_settle_62 : decode cX5_settle 62 = .ok (.iload_n 2, 1) := by decide +kernel
theorem dX5_settle_63 : decode cX5_settle 63 = .ok (.bipush 7, 2) := by decide +kernel
theorem dX5_settle_65 : decode cX5_settle 65 = .ok (.aload_n 1, 1) := by decide +kernel
theorem dX5_settle_66 : decode cX5_settle 66 = .ok (.iload_n 2, 1) := by decide +kernel
theorem dX5_settle_67 : decode cX5_settle 67 = .ok (.invokevirtual 40, 3) := by decide +kernel
theorem dX5_settle_70 : decode cX5_settle 70 = .ok (.invokevirtual 32, 3) := by decide +kernel
theorem dX5_settle_73 : decode cX5_settle 73 = .ok (.iinc 2 1, 3) := by decide +kernel
theorem dX5_settle_76 : decode cX5_settle 76 = .ok (.goto (-50), 3) := by decide +kernel
theorem dX5_settle_79 : decode cX5_settle 79 = .ok (.return_, 1) := by decide +kernel
theorem dX5_copy_0 : decode cX5_copy 0 = .ok (.aload_n 1, 1) := by decide +kernel
theorem dX5_copy_1 : decode cX5_copy 1 = .ok (.getfield 11, 3) := by decide +kernel
theorem dX5_copy_4 : decode cX5_copy 4 = .ok (.iconst 0, 1) := by decide +kernel
theorem dX5_copy_5 : decode cX5_copy 5 = .ok (.aload_n 0, 1) := by decide +kernel
theorem dX5_copy_6 : decode cX5_copy 6 = .ok (.getfield 11, 3) := by decide +kernel
theorem dX5_copy_9 : decode cX5_copy 9 = .ok (.iconst 0, 1) := by decide +kernel
theorem dX5_copy_10 : decode cX5_copy 10 = .ok (.aload_n 0, 1) := by decide +kernel
theorem dX5_copy_11 : decode cX5_copy 11 = .ok (.getfield 11, 3) := by decide +kernel
theorem dX5_copy_14 : decode cX5_copy 14 = .ok (.arraylength, 1) := by decide +kernel
theorem dX5_copy_15 : decode cX5_copy 15 = .ok (.invokestatic 43, 3) := by decide +kernel
theorem dX5_copy_18 : decode cX5_copy 18 = .ok (.aload_n 0, 1) := by decide +kernel
theorem dX5_copy_19 : decode cX5_copy 19 = .ok (.aload_n 1, 1) := by decide +kernel
theorem dX5_copy_20 : decode cX5_copy 20 = .ok (.getfield 15, 3) := by decide +kernel
theorem dX5_copy_23 : decode cX5_copy 23 = .ok (.putfield 15, 3) := by decide +kernel
theorem dX5_copy_26 : decode cX5_copy 26 = .ok (.aload_n 0, 1) := by decide +kernel
theorem dX5_copy_27 : decode cX5_copy 27 = .ok (.aload_n 1, 1) := by decide +kernel
theorem dX5_copy_28 : decode cX5_copy 28 = .ok (.getfield 19, 3) := by decide +kernel
theorem dX5_copy_31 : decode cX5_copy 31 = .ok (.putfield 19, 3) := by decide +kernel
theorem dX5_copy_34 : decode cX5_copy 34 = .ok (.return_, 1) := by decide +kernel
theorem dX5_has_0 : decode cX5_has 0 = .ok (.iload_n 1, 1) := by decide +kernel
theorem dX5_has_1 : decode cX5_has 1 = .ok (.ifCond .lt 15, 3) := by decide +kernel
theorem dX5_has_4 : decode cX5_has 4 = .ok (.iload_n 1, 1) := by decide +kernel
theorem dX5_has_5 : decode cX5_has 5 = .ok (.aload_n 0, 1) := by decide +kernel
theorem dX5_has_6 : decode cX5_has 6 = .ok (.getfield 15, 3) := by decide +kernel
theorem dX5_has_9 : decode cX5_has 9 = .ok (.if_icmp .ge 7, 3) := by decide +kernel
theorem dX5_has_12 : decode cX5_has 12 = .ok (.iconst 1, 1) := by decide +kernel
theorem dX5_has_13 : decode cX5_has 13 = .ok (.goto 4, 3) := by decide +kernel
theorem dX5_has_16 : decode cX5_has 16 = .ok (.iconst 0, 1) := by decide +kernel
theorem dX5_has_17 : decode cX5_has 17 = .ok (.ireturn, 1) := by decide +kernel
theorem dX5_part_0 : decode cX5_part 0 = .ok (.iload_n 1, 1) := by decide +kernel
theorem dX5_part_1 : decode cX5_part 1 = .ok (.bipush 9, 2) := by decide +kernel
theorem dX5_part_3 : decode cX5_part 3 = .ok (.imul, 1) := by decide +kernel
theorem dX5_part_4 : decode cX5_part 4 = .ok (.iload_n 2, 1) := by decide +kernel
theorem dX5_part_5 : decode cX5_part 5 = .ok (.iadd, 1) := by decide +kernel
theorem dX5_part_6 : decode cX5_part 6 = .ok (.istore_n 3, 1) := by decide +kernel
theorem dX5_part_7 : decode cX5_part 7 = .ok (.iload_n 3, 1) := by decide +kernel
theorem dX5_part_8 : decode cX5_part 8 = .ok (.ifCond .lt 21, 3) := by decide +kernel
theorem dX5_part_11 : decode cX5_part 11 = .ok (.iload_n 3, 1) := by decide +kernel
theorem dX5_part_12 : decode cX5_part 12 = .ok (.aload_n 0, 1) := by decide +kernel
theorem dX5_part_13 : decode cX5_part 13 = .ok (.getfield 11, 3) := by decide +kernel
theorem dX5_part_16 : decode cX5_part 16 = .ok (.arraylength, 1) := by decide +kernel
theorem dX5_part_17 : decode cX5_part 17 = .ok (.if_icmp .ge 12, 3) := by decide +kernel
theorem dX5_part_20 : decode cX5_part 20 = .ok (.aload_n 0, 1) := by decide +kernel
theorem dX5_part_21 : decode cX5_part 21 = .ok (.getfield 11, 3) := by decide +kernel
theorem dX5_part_24 : decode cX5_part 24 = .ok (.iload_n 3, 1) := by decide +kernel
theorem dX5_part_25 : decode cX5_part 25 = .ok (.iaload, 1) := by decide +kernel
theorem dX5_part_26 : decode cX5_part 26 = .ok (.goto 4, 3) := by decide +kernel
theorem dX5_part_29 : decode cX5_part 29 = .ok (.iconst 0, 1) := by decide +kernel
theorem dX5_part_30 : decode cX5_part 30 = .ok (.ireturn, 1) := by decide +kernel
theorem dX5_put_0 : decode cX5_put 0 = .ok (.iload_n 1, 1) := by decide +kernel
theorem dX5_put_1 : decode cX5_put 1 = .ok (.bipush 9, 2) := by decide +kernel
theorem dX5_put_3 : decode cX5_put 3 = .ok (.imul, 1) := by decide +kernel
theorem dX5_put_4 : decode cX5_put 4 = .ok (.iload_n 2, 1) := by decide +kernel
theorem dX5_put_5 : decode cX5_put 5 = .ok (.iadd, 1) := by decide +kernel
theorem dX5_put_6 : decode cX5_put 6 = .ok (.istore 4, 2) := by decide +kernel
theorem dX5_put_8 : decode cX5_put 8 = .ok (.iload 4, 2) := by decide +kernel
theorem dX5_put_10 : decode cX5_put 10 = .ok (.ifCond .lt 21, 3) := by decide +kernel
theorem dX5_put_13 : decode cX5_put 13 = .ok (.iload 4, 2) := by decide +kernel
theorem dX5_put_15 : decode cX5_put 15 = .ok (.aload_n 0, 1) := by decide +kernel
theorem dX5_put_16 : decode cX5_put 16 = .ok (.getfield 11, 3) := by decide +kernel
theorem dX5_put_19 : decode cX5_put 19 = .ok (.arraylength, 1) := by decide +kernel
theorem dX5_put_20 : decode cX5_put 20 = .ok (.if_icmp .ge 11, 3) := by decide +kernel
theorem dX5_put_23 : decode cX5_put 23 = .ok (.aload_n 0, 1) := by decide +kernel
theorem dX5_put_24 : decode cX5_put 24 = .ok (.getfield 11, 3) := by decide +kernel
theorem dX5_put_27 : decode cX5_put 27 = .ok (.iload 4, 2) := by decide +kernel
theorem dX5_put_29 : decode cX5_put 29 = .ok (.iload_n 3, 1) := by decide +kernel
theorem dX5_put_30 : decode cX5_put 30 = .ok (.iastore, 1) := by decide +kernel
theorem dX5_put_31 : decode cX5_put 31 = .ok (.return_, 1) := by decide +kernel
theorem dX5_wealth_0 : decode cX5_wealth 0 = .ok (.iconst 0, 1) := by decide +kernel
theorem dX5_wealth_1 : decode cX5_wealth 1 = .ok (.istore_n 1, 1) := by decide +kernel
theorem dX5_wealth_2 : decode cX5_wealth 2 = .ok (.iconst 0, 1) := by decide +kernel
theorem dX5_wealth_3 : decode cX5_wealth 3 = .ok (.istore_n 2, 1) := by decide +kernel
theorem dX5_wealth_4 : decode cX5_wealth 4 = .ok (.iload_n 2, 1) := by decide +kernel
theorem dX5_wealth_5 : decode cX5_wealth 5 = .ok (.aload_n 0, 1) := by decide +kernel
theorem dX5_wealth_6 : decode cX5_wealth 6 = .ok (.getfield 15, 3) := by decide +kernel
theorem dX5_wealth_9 : decode cX5_wealth 9 = .ok (.if_icmp .ge 18, 3) := by decide +kernel
theorem dX5_wealth_12 : decode cX5_wealth 12 = .ok (.iload_n 1, 1) := by decide +kernel
theorem dX5_wealth_13 : decode cX5_wealth 13 = .ok (.aload_n 0, 1) := by decide +kernel
theorem dX5_wealth_14 : decode cX5_wealth 14 = .ok (.iload_n 2, 1) := by decide +kernel
theorem dX5_wealth_15 : decode cX5_wealth 15 = .ok (.iconst 2, 1) := by decide +kernel
theorem dX5_wealth_16 : decode cX5_wealth 16 = .ok (.invokevirtual 49, 3) := by decide +kernel
theorem dX5_wealth_19 : decode cX5_wealth 19 = .ok (.iadd, 1) := by decide +kernel
theorem dX5_wealth_20 : decode cX5_wealth 20 = .ok (.istore_n 1, 1) := by decide +kernel
theorem dX5_wealth_21 : decode cX5_wealth 21 = .ok (.iinc 2 1, 3) := by decide +kernel
theorem dX5_wealth_24 : decode cX5_wealth 24 = .ok (.goto (-20), 3) := by decide +kernel
theorem dX5_wealth_27 : decode cX5_wealth 27 = .ok (.iload_n 1, 1) := by decide +kernel
theorem dX5_wealth_28 : decode cX5_wealth 28 = .ok (.ireturn, 1) := by decide +kernel
theorem dX5_drawn_0 : decode cX5_drawn 0 = .ok (.iconst 0, 1) := by decide +kernel
theorem dX5_drawn_1 : decode cX5_drawn 1 = .ok (.istore_n 1, 1) := by decide +kernel
theorem dX5_drawn_2 : decode cX5_drawn 2 = .ok (.iconst 0, 1) := by decide +kernel
theorem dX5_drawn_3 : decode cX5_drawn 3 = .ok (.istore_n 2, 1) := by decide +kernel
theorem dX5_drawn_4 : decode cX5_drawn 4 = .ok (.iload_n 2, 1) := by decide +kernel
theorem dX5_drawn_5 : decode cX5_drawn 5 = .ok (.aload_n 0, 1) := by decide +kernel
theorem dX5_drawn_6 : decode cX5_drawn 6 = .ok (.getfield 15, 3) := by decide +kernel
theorem dX5_drawn_9 : decode cX5_drawn 9 = .ok (.if_icmp .ge 29, 3) := by decide +kernel
theorem dX5_drawn_12 : decode cX5_drawn 12 = .ok (.iload_n 1, 1) := by decide +kernel
theorem dX5_drawn_13 : decode cX5_drawn 13 = .ok (.aload_n 0, 1) := by decide +kernel
theorem dX5_drawn_14 : decode cX5_drawn 14 = .ok (.iload_n 2, 1) := by decide +kernel
theorem dX5_drawn_15 : decode cX5_drawn 15 = .ok (.iconst 1, 1) := by decide +kernel
theorem dX5_drawn_16 : decode cX5_drawn 16 = .ok (.invokevirtual 49, 3) := by decide +kernel
theorem dX5_drawn_19 : decode cX5_drawn 19 = .ok (.iconst 2, 1) := by decide +kernel
theorem dX5_drawn_20 : decode cX5_drawn 20 = .ok (.if_icmp .ne 9, 3) := by decide +kernel
theorem dX5_drawn_23 : decode cX5_drawn 23 = .ok (.iconst 1, 1) := by decide +kernel
theorem dX5_drawn_24 : decode cX5_drawn 24 = .ok (.iload_n 2, 1) := by decide +kernel
theorem dX5_drawn_25 : decode cX5_drawn 25 = .ok (.ishl, 1) := by decide +kernel
theorem dX5_drawn_26 : decode cX5_drawn 26 = .ok (.goto 4, 3) := by decide +kernel
theorem dX5_drawn_29 : decode cX5_drawn 29 = .ok (.iconst 0, 1) := by decide +kernel
theorem dX5_drawn_30 : decode cX5_drawn 30 = .ok (.ior, 1) := by decide +kernel
theorem dX5_drawn_31 : decode cX5_drawn 31 = .ok (.istore_n 1, 1) := by decide +kernel
theorem dX5_drawn_32 : decode cX5_drawn 32 = .ok (.iinc 2 1, 3) := by decide +kernel
theorem dX5_drawn_35 : decode cX5_drawn 35 = .ok (.goto (-31), 3) := by decide +kernel
theorem dX5_drawn_38 : decode cX5_drawn 38 = .ok (.iload_n 1, 1) := by decide +kernel
theorem dX5_drawn_39 : decode cX5_drawn 39 = .ok (.ireturn, 1) := by decide +kernel
theorem dX5_pledged_0 : decode cX5_pledged 0 = .ok (.iconst 0, 1) := by decide +kernel
theorem dX5_pledged_1 : decode cX5_pledged 1 = .ok (.istore_n 1, 1) := by decide +kernel
theorem dX5_pledged_2 : decode cX5_pledged 2 = .ok (.iconst 0, 1) := by decide +kernel
theorem dX5_pledged_3 : decode cX5_pledged 3 = .ok (.istore_n 2, 1) := by decide +kernel
theorem dX5_pledged_4 : decode cX5_pledged 4 = .ok (.iload_n 2, 1) := by decide +kernel
theorem dX5_pledged_5 : decode cX5_pledged 5 = .ok (.aload_n 0, 1) := by decide +kernel
theorem dX5_pledged_6 : decode cX5_pledged 6 = .ok (.getfield 15, 3) := by decide +kernel
theorem dX5_pledged_9 : decode cX5_pledged 9 = .ok (.if_icmp .ge 29, 3) := by decide +kernel
theorem dX5_pledged_12 : decode cX5_pledged 12 = .ok (.iload_n 1, 1) := by decide +kernel
theorem dX5_pledged_13 : decode cX5_pledged 13 = .ok (.aload_n 0, 1) := by decide +kernel
theorem dX5_pledged_14 : decode cX5_pledged 14 = .ok (.iload_n 2, 1) := by decide +kernel
theorem dX5_pledged_15 : decode cX5_pledged 15 = .ok (.bipush 8, 2) := by decide +kernel
theorem dX5_pledged_17 : decode cX5_pledged 17 = .ok (.invokevirtual 49, 3) := by decide +kernel
theorem dX5_pledged_20 : decode cX5_pledged 20 = .ok (.ifCond .le 9, 3) := by decide +kernel
theorem dX5_pledged_23 : decode cX5_pledged 23 = .ok (.iconst 1, 1) := by decide +kernel
theorem dX5_pledged_24 : decode cX5_pledged 24 = .ok (.iload_n 2, 1) := by decide +kernel
theorem dX5_pledged_25 : decode cX5_pledged 25 = .ok (.ishl, 1) := by decide +kernel
theorem dX5_pledged_26 : decode cX5_pledged 26 = .ok (.goto 4, 3) := by decide +kernel
theorem dX5_pledged_29 : decode cX5_pledged 29 = .ok (.iconst 0, 1) := by decide +kernel
theorem dX5_pledged_30 : decode cX5_pledged 30 = .ok (.ior, 1) := by decide +kernel
theorem dX5_pledged_31 : decode cX5_pledged 31 = .ok (.istore_n 1, 1) := by decide +kernel
theorem dX5_pledged_32 : decode cX5_pledged 32 = .ok (.iinc 2 1, 3) := by decide +kernel
theorem dX5_pledged_35 : decode cX5_pledged 35 = .ok (.goto (-31), 3) := by decide +kernel
theorem dX5_pledged_38 : decode cX5_pledged 38 = .ok (.iload_n 1, 1) := by decide +kernel
theorem dX5_pledged_39 : decode cX5_pledged 39 = .ok (.ireturn, 1) := by decide +kernel
theorem dX5_everybody_0 : decode cX5_everybody 0 = .ok (.iconst 1, 1) := by decide +kernel
theorem dX5_everybody_1 : decode cX5_everybody 1 = .ok (.aload_n 0, 1) := by decide +kernel
theorem dX5_everybody_2 : decode cX5_everybody 2 = .ok (.getfield 15, 3) := by decide +kernel
theorem dX5_everybody_5 : decode cX5_everybody 5 = .ok (.ishl, 1) := by decide +kernel
theorem dX5_everybody_6 : decode cX5_everybody 6 = .ok (.iconst 1, 1) := by decide +kernel
theorem dX5_everybody_7 : decode cX5_everybody 7 = .ok (.isub, 1) := by decide +kernel
theorem dX5_everybody_8 : decode cX5_everybody 8 = .ok (.ireturn, 1) := by decide +kernel
theorem dX5_isSet_0 : decode cX5_isSet 0 = .ok (.iload_n 1, 1) := by decide +kernel
theorem dX5_isSet_1 : decode cX5_isSet 1 = .ok (.aload_n 0, 1) := by decide +kernel
theorem dX5_isSet_2 : decode cX5_isSet 2 = .ok (.invokevirtual 53, 3) := by decide +kernel
theorem dX5_isSet_5 : decode cX5_isSet 5 = .ok (.iconst (-1), 1) := by decide +kernel
theorem dX5_isSet_6 : decode cX5_isSet 6 = .ok (.ixor, 1) := by decide +kernel
theorem dX5_isSet_7 : decode cX5_isSet 7 = .ok (.iand, 1) := by decide +kernel
theorem dX5_isSet_8 : decode cX5_isSet 8 = .ok (.ifCond .ne 7, 3) := by decide +kernel
theorem dX5_isSet_11 : decode cX5_isSet 11 = .ok (.iconst 1, 1) := by decide +kernel
theorem dX5_isSet_12 : decode cX5_isSet 12 = .ok (.goto 4, 3) := by decide +kernel
theorem dX5_isSet_15 : decode cX5_isSet 15 = .ok (.iconst 0, 1) := by decide +kernel
theorem dX5_isSet_16 : decode cX5_isSet 16 = .ok (.ireturn, 1) := by decide +kernel
theorem dX5_joining_0 : decode cX5_joining 0 = .ok (.iload_n 1, 1) := by decide +kernel
theorem dX5_joining_1 : decode cX5_joining 1 = .ok (.invokestatic 57, 3) := by decide +kernel
theorem dX5_joining_4 : decode cX5_joining 4 = .ok (.istore_n 3, 1) := by decide +kernel
theorem dX5_joining_5 : decode cX5_joining 5 = .ok (.iconst 0, 1) := by decide +kernel
theorem dX5_joining_6 : decode cX5_joining 6 = .ok (.istore 4, 2) := by decide +kernel
theorem dX5_joining_8 : decode cX5_joining 8 = .ok (.iconst 0, 1) := by decide +kernel
theorem dX5_joining_9 : decode cX5_joining 9 = .ok (.istore 5, 2) := by decide +kernel
theorem dX5_joining_11 : decode cX5_joining 11 = .ok (.iload 5, 2) := by decide +kernel
theorem dX5_joining_13 : decode cX5_joining 13 = .ok (.aload_n 0, 1) := by decide +kernel
theorem dX5_joining_14 : decode cX5_joining 14 = .ok (.getfield 15, 3) := by decide +kernel
theorem dX5_joining_17 : decode cX5_joining 17 = .ok (.if_icmp .ge 34, 3) := by decide +kernel
theorem dX5_joining_20 : decode cX5_joining 20 = .ok (.iload 4, 2) := by decide +kernel
theorem dX5_joining_22 : decode cX5_joining 22 = .ok (.aload_n 0, 1) := by decide +kernel
theorem dX5_joining_23 : decode cX5_joining 23 = .ok (.iload 5, 2) := by decide +kernel
theorem dX5_joining_25 : decode cX5_joining 25 = .ok (.bipush 7, 2) := by decide +kernel
theorem dX5_joining_27 : decode cX5_joining 27 = .ok (.invokevirtual 49, 3) := by decide +kernel
theorem dX5_joining_30 : decode cX5_joining 30 = .ok (.iload_n 3, 1) := by decide +kernel
theorem dX5_joining_31 : decode cX5_joining 31 = .ok (.if_icmp .gt 10, 3) := by decide +kernel
theorem dX5_joining_34 : decode cX5_joining 34 = .ok (.iconst 1, 1) := by decide +kernel
theorem dX5_joining_35 : decode cX5_joining 35 = .ok (.iload 5, 2) := by decide +kernel
theorem dX5_joining_37 : decode cX5_joining 37 = .ok (.ishl, 1) := by decide +kernel
theorem dX5_joining_38 : decode cX5_joining 38 = .ok (.goto 4, 3) := by decide +kernel
theorem dX5_joining_41 : decode cX5_joining 41 = .ok (.iconst 0, 1) := by decide +kernel
theorem dX5_joining_42 : decode cX5_joining 42 = .ok (.ior, 1) := by decide +kernel
theorem dX5_joining_43 : decode cX5_joining 43 = .ok (.istore 4, 2) := by decide +kernel
theorem dX5_joining_45 : decode cX5_joining 45 = .ok (.iinc 5 1, 3) := by decide +kernel
theorem dX5_joining_48 : decode cX5_joining 48 = .ok (.goto (-37), 3) := by decide +kernel
theorem dX5_joining_51 : decode cX5_joining 51 = .ok (.iload 4, 2) := by decide +kernel
theorem dX5_joining_53 : decode cX5_joining 53 = .ok (.iload_n 1, 1) := by decide +kernel
theorem dX5_joining_54 : decode cX5_joining 54 = .ok (.iconst (-1), 1) := by decide +kernel
theorem dX5_joining_55 : decode cX5_joining 55 = .ok (.ixor, 1) := by decide +kernel
theorem dX5_joining_56 : decode cX5_joining 56 = .ok (.iand, 1) := by decide +kernel
theorem dX5_joining_57 : decode cX5_joining 57 = .ok (.iload_n 2, 1) := by decide +kernel
theorem dX5_joining_58 : decode cX5_joining 58 = .ok (.iconst (-1), 1) := by decide +kernel
theorem dX5_joining_59 : decode cX5_joining 59 = .ok (.ixor, 1) := by decide +kernel
theorem dX5_joining_60 : decode cX5_joining 60 = .ok (.iand, 1) := by decide +kernel
theorem dX5_joining_61 : decode cX5_joining 61 = .ok (.ireturn, 1) := by decide +kernel
theorem dX5_runOf_0 : decode cX5_runOf 0 = .ok (.iload_n 1, 1) := by decide +kernel
theorem dX5_runOf_1 : decode cX5_runOf 1 = .ok (.istore_n 3, 1) := by decide +kernel
theorem dX5_runOf_2 : decode cX5_runOf 2 = .ok (.aload_n 0, 1) := by decide +kernel
theorem dX5_runOf_3 : decode cX5_runOf 3 = .ok (.iload_n 3, 1) := by decide +kernel
theorem dX5_runOf_4 : decode cX5_runOf 4 = .ok (.iload_n 2, 1) := by decide +kernel
theorem dX5_runOf_5 : decode cX5_runOf 5 = .ok (.invokevirtual 62, 3) := by decide +kernel
theorem dX5_runOf_8 : decode cX5_runOf 8 = .ok (.istore 4, 2) := by decide +kernel
theorem dX5_runOf_10 : decode cX5_runOf 10 = .ok (.iconst 0, 1) := by decide +kernel
theorem dX5_runOf_11 : decode cX5_runOf 11 = .ok (.istore 5, 2) := by decide +kernel
theorem dX5_runOf_13 : decode cX5_runOf 13 = .ok (.iload 5, 2) := by decide +kernel
theorem dX5_runOf_15 : decode cX5_runOf 15 = .ok (.aload_n 0, 1) := by decide +kernel
theorem dX5_runOf_16 : decode cX5_runOf 16 = .ok (.getfield 15, 3) := by decide +kernel
theorem dX5_runOf_19 : decode cX5_runOf 19 = .ok (.if_icmp .ge 27, 3) := by decide +kernel
theorem dX5_runOf_22 : decode cX5_runOf 22 = .ok (.iload 4, 2) := by decide +kernel
theorem dX5_runOf_24 : decode cX5_runOf 24 = .ok (.ifCond .eq 22, 3) := by decide +kernel
theorem dX5_runOf_27 : decode cX5_runOf 27 = .ok (.iload_n 3, 1) := by decide +kernel
theorem dX5_runOf_28 : decode cX5_runOf 28 = .ok (.iload 4, 2) := by decide +kernel
theorem dX5_runOf_30 : decode cX5_runOf 30 = .ok (.ior, 1) := by decide +kernel
theorem dX5_runOf_31 : decode cX5_runOf 31 = .ok (.istore_n 3, 1) := by decide +kernel
theorem dX5_runOf_32 : decode cX5_runOf 32 = .ok (.aload_n 0, 1) := by decide +kernel
theorem dX5_runOf_33 : decode cX5_runOf 33 = .ok (.iload_n 3, 1) := by decide +kernel
theorem dX5_runOf_34 : decode cX5_runOf 34 = .ok (.iload_n 2, 1) := by decide +kernel
theorem dX5_runOf_35 : decode cX5_runOf 35 = .ok (.invokevirtual 62, 3) := by decide +kernel
theorem dX5_runOf_38 : decode cX5_runOf 38 = .ok (.istore 4, 2) := by decide +kernel
theorem dX5_runOf_40 : decode cX5_runOf 40 = .ok (.iinc 5 1, 3) := by decide +kernel
theorem dX5_runOf_43 : decode cX5_runOf 43 = .ok (.goto (-30), 3) := by decide +kernel
theorem dX5_runOf_46 : decode cX5_runOf 46 = .ok (.iload_n 3, 1) := by decide +kernel
theorem dX5_runOf_47 : decode cX5_runOf 47 = .ok (.ireturn, 1) := by decide +kernel
theorem dX5_roundsOf_0 : decode cX5_roundsOf 0 = .ok (.iload_n 1, 1) := by decide +kernel
theorem dX5_roundsOf_1 : decode cX5_roundsOf 1 = .ok (.istore_n 2, 1) := by decide +kernel
theorem dX5_roundsOf_2 : decode cX5_roundsOf 2 = .ok (.aload_n 0, 1) := by decide +kernel
theorem dX5_roundsOf_3 : decode cX5_roundsOf 3 = .ok (.iload_n 2, 1) := by decide +kernel
theorem dX5_roundsOf_4 : decode cX5_roundsOf 4 = .ok (.iconst 0, 1) := by decide +kernel
theorem dX5_roundsOf_5 : decode cX5_roundsOf 5 = .ok (.invokevirtual 62, 3) := by decide +kernel
theorem dX5_roundsOf_8 : decode cX5_roundsOf 8 = .ok (.istore_n 3, 1) := by decide +kernel
theorem dX5_roundsOf_9 : decode cX5_roundsOf 9 = .ok (.iconst 0, 1) := by decide +kernel
theorem dX5_roundsOf_10 : decode cX5_roundsOf 10 = .ok (.istore 4, 2) := by decide +kernel
theorem dX5_roundsOf_12 : decode cX5_roundsOf 12 = .ok (.iload 4, 2) := by decide +kernel
theorem dX5_roundsOf_14 : decode cX5_roundsOf 14 = .ok (.aload_n 0, 1) := by decide +kernel
theorem dX5_roundsOf_15 : decode cX5_roundsOf 15 = .ok (.getfield 15, 3) := by decide +kernel
theorem dX5_roundsOf_18 : decode cX5_roundsOf 18 = .ok (.if_icmp .ge 24, 3) := by decide +kernel
theorem dX5_roundsOf_21 : decode cX5_roundsOf 21 = .ok (.iload_n 3, 1) := by decide +kernel
theorem dX5_roundsOf_22 : decode cX5_roundsOf 22 = .ok (.ifCond .eq 20, 3) := by decide +kernel
theorem dX5_roundsOf_25 : decode cX5_roundsOf 25 = .ok (.iload_n 2, 1) := by decide +kernel
theorem dX5_roundsOf_26 : decode cX5_roundsOf 26 = .ok (.iload_n 3, 1) := by decide +kernel
theorem dX5_roundsOf_27 : decode cX5_roundsOf 27 = .ok (.ior, 1) := by decide +kernel
theorem dX5_roundsOf_28 : decode cX5_roundsOf 28 = .ok (.istore_n 2, 1) := by decide +kernel
theorem dX5_roundsOf_29 : decode cX5_roundsOf 29 = .ok (.aload_n 0, 1) := by decide +kernel
theorem dX5_roundsOf_30 : decode cX5_roundsOf 30 = .ok (.iload_n 2, 1) := by decide +kernel
theorem dX5_roundsOf_31 : decode cX5_roundsOf 31 = .ok (.iconst 0, 1) := by decide +kernel
theorem dX5_roundsOf_32 : decode cX5_roundsOf 32 = .ok (.invokevirtual 62, 3) := by decide +kernel
theorem dX5_roundsOf_35 : decode cX5_roundsOf 35 = .ok (.istore_n 3, 1) := by decide +kernel
theorem dX5_roundsOf_36 : decode cX5_roundsOf 36 = .ok (.iinc 4 1, 3) := by decide +kernel
theorem dX5_roundsOf_39 : decode cX5_roundsOf 39 = .ok (.goto (-27), 3) := by decide +kernel
theorem dX5_roundsOf_42 : decode cX5_roundsOf 42 = .ok (.iload 4, 2) := by decide +kernel
theorem dX5_roundsOf_44 : decode cX5_roundsOf 44 = .ok (.ireturn, 1) := by decide +kernel
theorem dX5_atRest_0 : decode cX5_atRest 0 = .ok (.iload_n 1, 1) := by decide +kernel
theorem dX5_atRest_1 : decode cX5_atRest 1 = .ok (.invokestatic 57, 3) := by decide +kernel
theorem dX5_atRest_4 : decode cX5_atRest 4 = .ok (.istore_n 2, 1) := by decide +kernel
theorem dX5_atRest_5 : decode cX5_atRest 5 = .ok (.iconst 0, 1) := by decide +kernel
theorem dX5_atRest_6 : decode cX5_atRest 6 = .ok (.istore_n 3, 1) := by decide +kernel
theorem dX5_atRest_7 : decode cX5_atRest 7 = .ok (.iload_n 3, 1) := by decide +kernel
theorem dX5_atRest_8 : decode cX5_atRest 8 = .ok (.aload_n 0, 1) := by decide +kernel
theorem dX5_atRest_9 : decode cX5_atRest 9 = .ok (.getfield 15, 3) := by decide +kernel
theorem dX5_atRest_12 : decode cX5_atRest 12 = .ok (.if_icmp .ge 63, 3) := by decide +kernel
theorem dX5_atRest_15 : decode cX5_atRest 15 = .ok (.iload_n 1, 1) := by decide +kernel
theorem dX5_atRest_16 : decode cX5_atRest 16 = .ok (.iload_n 3, 1) := by decide +kernel
theorem dX5_atRest_17 : decode cX5_atRest 17 = .ok (.ishr, 1) := by decide +kernel
theorem dX5_atRest_18 : decode cX5_atRest 18 = .ok (.iconst 1, 1) := by decide +kernel
theorem dX5_atRest_19 : decode cX5_atRest 19 = .ok (.iand, 1) := by decide +kernel
theorem dX5_atRest_20 : decode cX5_atRest 20 = .ok (.iconst 1, 1) := by decide +kernel
theorem dX5_atRest_21 : decode cX5_atRest 21 = .ok (.if_icmp .ne 7, 3) := by decide +kernel
theorem dX5_atRest_24 : decode cX5_atRest 24 = .ok (.iconst 1, 1) := by decide +kernel
theorem dX5_atRest_25 : decode cX5_atRest 25 = .ok (.goto 4, 3) := by decide +kernel
theorem dX5_atRest_28 : decode cX5_atRest 28 = .ok (.iconst 0, 1) := by decide +kernel
theorem dX5_atRest_29 : decode cX5_atRest 29 = .ok (.istore 4, 2) := by decide +kernel
theorem dX5_atRest_31 : decode cX5_atRest 31 = .ok (.aload_n 0, 1) := by decide +kernel
theorem dX5_atRest_32 : decode cX5_atRest 32 = .ok (.iload_n 3, 1) := by decide +kernel
theorem dX5_atRest_33 : decode cX5_atRest 33 = .ok (.bipush 7, 2) := by decide +kernel
theorem dX5_atRest_35 : decode cX5_atRest 35 = .ok (.invokevirtual 49, 3) := by decide +kernel
theorem dX5_atRest_38 : decode cX5_atRest 38 = .ok (.iload 4, 2) := by decide +kernel
theorem dX5_atRest_40 : decode cX5_atRest 40 = .ok (.ifCond .eq 9, 3) := by decide +kernel
theorem dX5_atRest_43 : decode cX5_atRest 43 = .ok (.iload_n 2, 1) := by decide +kernel
theorem dX5_atRest_44 : decode cX5_atRest 44 = .ok (.iconst 1, 1) := by decide +kernel
theorem dX5_atRest_45 : decode cX5_atRest 45 = .ok (.isub, 1) := by decide +kernel
theorem dX5_atRest_46 : decode cX5_atRest 46 = .ok (.goto 4, 3) := by decide +kernel
theorem dX5_atRest_49 : decode cX5_atRest 49 = .ok (.iload_n 2, 1) := by decide +kernel
theorem dX5_atRest_50 : decode cX5_atRest 50 = .ok (.if_icmp .gt 7, 3) := by decide +kernel
theorem dX5_atRest_53 : decode cX5_atRest 53 = .ok (.iconst 1, 1) := by decide +kernel
theorem dX5_atRest_54 : decode cX5_atRest 54 = .ok (.goto 4, 3) := by decide +kernel
theorem dX5_atRest_57 : decode cX5_atRest 57 = .ok (.iconst 0, 1) := by decide +kernel
theorem dX5_atRest_58 : decode cX5_atRest 58 = .ok (.istore 5, 2) := by decide +kernel
theorem dX5_atRest_60 : decode cX5_atRest 60 = .ok (.iload 4, 2) := by decide +kernel
theorem dX5_atRest_62 : decode cX5_atRest 62 = .ok (.iload 5, 2) := by decide +kernel
theorem dX5_atRest_64 : decode cX5_atRest 64 = .ok (.if_icmp .eq 5, 3) := by decide +kernel
theorem dX5_atRest_67 : decode cX5_atRest 67 = .ok (.iconst 0, 1) := by decide +kernel
theorem dX5_atRest_68 : decode cX5_atRest 68 = .ok (.ireturn, 1) := by decide +kernel
theorem dX5_atRest_69 : decode cX5_atRest 69 = .ok (.iinc 3 1, 3) := by decide +kernel
theorem dX5_atRest_72 : decode cX5_atRest 72 = .ok (.goto (-65), 3) := by decide +kernel
theorem dX5_atRest_75 : decode cX5_atRest 75 = .ok (.iconst 1, 1) := by decide +kernel
theorem dX5_atRest_76 : decode cX5_atRest 76 = .ok (.ireturn, 1) := by decide +kernel
theorem dX6_init_0 : decode cX6_init 0 = .ok (.aload_n 0, 1) := by decide +kernel
theorem dX6_init_1 : decode cX6_init 1 = .ok (.invokespecial 3, 3) := by decide +kernel
theorem dX6_init_4 : decode cX6_init 4 = .ok (.aload_n 0, 1) := by decide +kernel
theorem dX6_init_5 : decode cX6_init 5 = .ok (.iconst 0, 1) := by decide +kernel
theorem dX6_init_6 : decode cX6_init 6 = .ok (.putfield 9, 3) := by decide +kernel
theorem dX6_init_9 : decode cX6_init 9 = .ok (.aload_n 0, 1) := by decide +kernel
theorem dX6_init_10 : decode cX6_init 10 = .ok (.iconst (-1), 1) := by decide +kernel
theorem dX6_init_11 : decode cX6_init 11 = .ok (.putfield 15, 3) := by decide +kernel
theorem dX6_init_14 : decode cX6_init 14 = .ok (.aload_n 0, 1) := by decide +kernel
theorem dX6_init_15 : decode cX6_init 15 = .ok (.iconst 0, 1) := by decide +kernel
theorem dX6_init_16 : decode cX6_init 16 = .ok (.newarray .byte, 2) := by decide +kernel
theorem dX6_init_18 : decode cX6_init 18 = .ok (.putfield 18, 3) := by decide +kernel
theorem dX6_init_21 : decode cX6_init 21 = .ok (.aload_n 0, 1) := by decide +kernel
theorem dX6_init_22 : decode cX6_init 22 = .ok (.iconst 0, 1) := by decide +kernel
theorem dX6_init_23 : decode cX6_init 23 = .ok (.putfield 22, 3) := by decide +kernel
theorem dX6_init_26 : decode cX6_init 26 = .ok (.aload_n 0, 1) := by decide +kernel
theorem dX6_init_27 : decode cX6_init 27 = .ok (.iconst 0, 1) := by decide +kernel
theorem dX6_init_28 : decode cX6_init 28 = .ok (.putfield 25, 3) := by decide +kernel
theorem dX6_init_31 : decode cX6_init 31 = .ok (.aload_n 0, 1) := by decide +kernel
theorem dX6_init_32 : decode cX6_init 32 = .ok (.iconst 0, 1) := by decide +kernel
theorem dX6_init_33 : decode cX6_init 33 = .ok (.putfield 28, 3) := by decide +kernel
theorem dX6_init_36 : decode cX6_init 36 = .ok (.aload_n 0, 1) := by decide +kernel
theorem dX6_init_37 : decode cX6_init 37 = .ok (.iconst 3, 1) := by decide +kernel
theorem dX6_init_38 : decode cX6_init 38 = .ok (.putfield 31, 3) := by decide +kernel
theorem dX6_init_41 : decode cX6_init 41 = .ok (.aload_n 0, 1) := by decide +kernel
theorem dX6_init_42 : decode cX6_init 42 = .ok (.iconst 0, 1) := by decide +kernel
theorem dX6_init_43 : decode cX6_init 43 = .ok (.putfield 34, 3) := by decide +kernel
theorem dX6_init_46 : decode cX6_init 46 = .ok (.aload_n 0, 1) := by decide +kernel
theorem dX6_init_47 : decode cX6_init 47 = .ok (.new 37, 3) := by decide +kernel
theorem dX6_init_50 : decode cX6_init 50 = .ok (.dup, 1) := by decide +kernel
theorem dX6_init_51 : decode cX6_init 51 = .ok (.invokespecial 39, 3) := by decide +kernel
theorem dX6_init_54 : decode cX6_init 54 = .ok (.putfield 40, 3) := by decide +kernel
theorem dX6_init_57 : decode cX6_init 57 = .ok (.aload_n 0, 1) := by decide +kernel
theorem dX6_init_58 : decode cX6_init 58 = .ok (.iconst 0, 1) := by decide +kernel
theorem dX6_init_59 : decode cX6_init 59 = .ok (.putfield 44, 3) := by decide +kernel
theorem dX6_init_62 : decode cX6_init 62 = .ok (.aload_n 0, 1) := by decide +kernel
theorem dX6_init_63 : decode cX6_init 63 = .ok (.sipush 900, 3) := by decide +kernel
theorem dX6_init_66 : decode cX6_init 66 = .ok (.newarray .int, 2) := by decide +kernel
theorem dX6_init_68 : decode cX6_init 68 = .ok (.putfield 48, 3) := by decide +kernel
theorem dX6_init_71 : decode cX6_init 71 = .ok (.aload_n 0, 1) := by decide +kernel
theorem dX6_init_72 : decode cX6_init 72 = .ok (.iconst 0, 1) := by decide +kernel
theorem dX6_init_73 : decode cX6_init 73 = .ok (.putfield 52, 3) := by decide +kernel
theorem dX6_init_76 : decode cX6_init 76 = .ok (.return_, 1) := by decide +kernel
theorem dX6_read_0 : decode cX6_read 0 = .ok (.aload_n 0, 1) := by decide +kernel
theorem dX6_read_1 : decode cX6_read 1 = .ok (.aload_n 1, 1) := by decide +kernel
theorem dX6_read_2 : decode cX6_read 2 = .ok (.putfield 18, 3) := by decide +kernel
theorem dX6_read_5 : decode cX6_read 5 = .ok (.aload_n 0, 1) := by decide +kernel
theorem dX6_read_6 : decode cX6_read 6 = .ok (.iload_n 2, 1) := by decide +kernel
theorem dX6_read_7 : decode cX6_read 7 = .ok (.putfield 22, 3) := by decide +kernel
theorem dX6_read_10 : decode cX6_read 10 = .ok (.aload_n 0, 1) := by decide +kernel
theorem dX6_read_11 : decode cX6_read 11 = .ok (.iconst 0, 1) := by decide +kernel
theorem dX6_read_12 : decode cX6_read 12 = .ok (.putfield 28, 3) := by decide +kernel
theorem dX6_read_15 : decode cX6_read 15 = .ok (.aload_n 0, 1) := by decide +kernel
theorem dX6_read_16 : decode cX6_read 16 = .ok (.iconst 0, 1) := by decide +kernel
theorem dX6_read_17 : decode cX6_read 17 = .ok (.putfield 9, 3) := by decide +kernel
theorem dX6_read_20 : decode cX6_read 20 = .ok (.aload_n 0, 1) := by decide +kernel
theorem dX6_read_21 : decode cX6_read 21 = .ok (.iconst (-1), 1) := by decide +kernel
theorem dX6_read_22 : decode cX6_read 22 = .ok (.putfield 15, 3) := by decide +kernel
theorem dX6_read_25 : decode cX6_read 25 = .ok (.aload_n 0, 1) := by decide +kernel
theorem dX6_read_26 : decode cX6_read 26 = .ok (.new 37, 3) := by decide +kernel
theorem dX6_read_29 : decode cX6_read 29 = .ok (.dup, 1) := by decide +kernel
theorem dX6_read_30 : decode cX6_read 30 = .ok (.invokespecial 39, 3) := by decide +kernel
theorem dX6_read_33 : decode cX6_read 33 = .ok (.putfield 40, 3) := by decide +kernel
theorem dX6_read_36 : decode cX6_read 36 = .ok (.aload_n 0, 1) := by decide +kernel
theorem dX6_read_37 : decode cX6_read 37 = .ok (.invokevirtual 55, 3) := by decide +kernel
theorem dX6_read_40 : decode cX6_read 40 = .ok (.aload_n 0, 1) := by decide +kernel
theorem dX6_read_41 : decode cX6_read 41 = .ok (.invokevirtual 58, 3) := by decide +kernel
theorem dX6_read_44 : decode cX6_read 44 = .ok (.istore_n 3, 1) := by decide +kernel
theorem dX6_read_45 : decode cX6_read 45 = .ok (.iconst 0, 1) := by decide +kernel
theorem dX6_read_46 : decode cX6_read 46 = .ok (.istore 4, 2) := by decide +kernel
theorem dX6_read_48 : decode cX6_read 48 = .ok (.iload 4, 2) := by decide +kernel
theorem dX6_read_50 : decode cX6_read 50 = .ok (.iload_n 2, 1) := by decide +kernel
theorem dX6_read_51 : decode cX6_read 51 = .ok (.if_icmp .ge 26, 3) := by decide +kernel
theorem dX6_read_54 : decode cX6_read 54 = .ok (.iload_n 3, 1) := by decide +kernel
theorem dX6_read_55 : decode cX6_read 55 = .ok (.ifCond .eq 22, 3) := by decide +kernel
theorem dX6_read_58 : decode cX6_read 58 = .ok (.aload_n 0, 1) := by decide +kernel
theorem dX6_read_59 : decode cX6_read 59 = .ok (.getfield 31, 3) := by decide +kernel
theorem dX6_read_62 : decode cX6_read 62 = .ok (.iconst 3, 1) := by decide +kernel
theorem dX6_read_63 : decode cX6_read 63 = .ok (.if_icmp .eq 14, 3) := by decide +kernel
theorem dX6_read_66 : decode cX6_read 66 = .ok (.aload_n 0, 1) := by decide +kernel
theorem dX6_read_67 : decode cX6_read 67 = .ok (.invokevirtual 62, 3) := by decide +kernel
theorem dX6_read_70 : decode cX6_read 70 = .ok (.istore_n 3, 1) := by decide +kernel
theorem dX6_read_71 : decode cX6_read 71 = .ok (.iinc 4 1, 3) := by decide +kernel
theorem dX6_read_74 : decode cX6_read 74 = .ok (.goto (-26), 3) := by decide +kernel
theorem dX6_read_77 : decode cX6_read 77 = .ok (.iload_n 3, 1) := by decide +kernel
theorem dX6_read_78 : decode cX6_read 78 = .ok (.ifCond .eq 10, 3) := by decide +kernel
theorem dX6_read_81 : decode cX6_read 81 = .ok (.aload_n 0, 1) := by decide +kernel
theorem dX6_read_82 : decode cX6_read 82 = .ok (.getfield 40, 3) := by decide +kernel
theorem dX6_read_85 : decode cX6_read 85 = .ok (.goto 4, 3) := by decide +kernel
theorem dX6_read_88 : decode cX6_read 88 = .ok (.aconst_null, 1) := by decide +kernel
theorem dX6_read_89 : decode cX6_read 89 = .ok (.areturn, 1) := by decide +kernel
theorem dX6_readHead_0 : decode cX6_readHead 0 = .ok (.aload_n 0, 1) := by decide +kernel
theorem dX6_readHead_1 : decode cX6_readHead 1 = .ok (.ldc 65, 2) := by decide +kernel
theorem dX6_readHead_3 : decode cX6_readHead 3 = .ok (.invokevirtual 67, 3) := by decide +kernel
theorem dX6_readHead_6 : decode cX6_readHead 6 = .ok (.ifCond .eq 12, 3) := by decide +kernel
theorem dX6_readHead_9 : decode cX6_readHead 9 = .ok (.aload_n 0, 1) := by decide +kernel
theorem dX6_readHead_10 : decode cX6_readHead 10 = .ok (.ldc 71, 2) := by decide +kernel
theorem dX6_readHead_12 : decode cX6_readHead 12 = .ok (.invokevirtual 67, 3) := by decide +kernel
theorem dX6_readHead_15 : decode cX6_readHead 15 = .ok (.ifCond .ne 5, 3) := by decide +kernel
theorem dX6_readHead_18 : decode cX6_readHead 18 = .ok (.iconst 0, 1) := by decide +kernel
theorem dX6_readHead_19 : decode cX6_readHead 19 = .ok (.ireturn, 1) := by decide +kernel
theorem dX6_readHead_20 : decode cX6_readHead 20 = .ok (.aload_n 0, 1) := by decide +kernel
theorem dX6_readHead_21 : decode cX6_readHead 21 = .ok (.getfield 40, 3) := by decide +kernel
theorem dX6_readHead_24 : decode cX6_readHead 24 = .ok (.aload_n 0, 1) := by decide +kernel
theorem dX6_readHead_25 : decode cX6_readHead 25 = .ok (.iconst 1, 1) := by decide +kernel
theorem dX6_readHead_26 : decode cX6_readHead 26 = .ok (.bipush 6, 2) := by decide +kernel
theorem dX6_readHead_28 : decode cX6_readHead 28 = .ok (.invokevirtual 73, 3) := by decide +kernel
theorem dX6_readHead_31 : decode cX6_readHead 31 = .ok (.putfield 77, 3) := by decide +kernel
theorem dX6_readHead_34 : decode cX6_readHead 34 = .ok (.aload_n 0, 1) := by decide +kernel
theorem dX6_readHead_35 : decode cX6_readHead 35 = .ok (.getfield 9, 3) := by decide +kernel
theorem dX6_readHead_38 : decode cX6_readHead 38 = .ok (.ifCond .ne 12, 3) := by decide +kernel
theorem dX6_readHead_41 : decode cX6_readHead 41 = .ok (.aload_n 0, 1) := by decide +kernel
theorem dX6_readHead_42 : decode cX6_readHead 42 = .ok (.ldc 79, 2) := by decide +kernel
theorem dX6_readHead_44 : decode cX6_readHead 44 = .ok (.invokevirtual 67, 3) := by decide +kernel
theorem dX6_readHead_47 : decode cX6_readHead 47 = .ok (.ifCond .ne 5, 3) := by decide +kernel
theorem dX6_readHead_50 : decode cX6_readHead 50 = .ok (.iconst 0, 1) := by decide +kernel
theorem dX6_readHead_51 : decode cX6_readHead 51 = .ok (.ireturn, 1) := by decide +kernel
theorem dX6_readHead_52 : decode cX6_readHead 52 = .ok (.aload_n 0, 1) := by decide +kernel
theorem dX6_readHead_53 : decode cX6_readHead 53 = .ok (.getfield 40, 3) := by decide +kernel
theorem dX6_readHead_56 : decode cX6_readHead 56 = .ok (.aload_n 0, 1) := by decide +kernel
theorem dX6_readHead_57 : decode cX6_readHead 57 = .ok (.iconst 1, 1) := by decide +kernel
theorem dX6_readHead_58 : decode cX6_readHead 58 = .ok (.iconst 4, 1) := by decide +kernel
theorem dX6_readHead_59 : decode cX6_readHead 59 = .ok (.invokevirtual 73, 3) := by decide +kernel
theorem dX6_readHead_62 : decode cX6_readHead 62 = .ok (.putfield 81, 3) := by decide +kernel
theorem dX6_readHead_65 : decode cX6_readHead 65 = .ok (.aload_n 0, 1) := by decide +kernel
theorem dX6_readHead_66 : decode cX6_readHead 66 = .ok (.getfield 9, 3) := by decide +kernel
theorem dX6_readHead_69 : decode cX6_readHead 69 = .ok (.ifCond .ne 14, 3) := by decide +kernel
theorem dX6_readHead_72 : decode cX6_readHead 72 = .ok (.aload_n 0, 1) := by decide +kernel
theorem dX6_readHead_73 : decode cX6_readHead 73 = .ok (.invokevirtual 83, 3) := by decide +kernel
theorem dX6_readHead_76 : decode cX6_readHead 76 = .ok (.ifCond .eq 7, 3) := by decide +kernel
theorem dX6_readHead_79 : decode cX6_readHead 79 = .ok (.iconst 1, 1) := by decide +kernel
theorem dX6_readHead_80 : decode cX6_readHead 80 = .ok (.goto 4, 3) := by decide +kernel
theorem dX6_readHead_83 : decode cX6_readHead 83 = .ok (.iconst 0, 1) := by decide +kernel
theorem dX6_readHead_84 : decode cX6_readHead 84 = .ok (.ireturn, 1) := by decide +kernel
theorem dX6_readLine_0 : decode cX6_readLine 0 = .ok (.aload_n 0, 1) := by decide +kernel
theorem dX6_readLine_1 : decode cX6_readLine 1 = .ok (.ldc 86, 2) := by decide +kernel
theorem dX6_readLine_3 : decode cX6_readLine 3 = .ok (.invokevirtual 88, 3) := by decide +kernel
theorem dX6_readLine_6 : decode cX6_readLine 6 = .ok (.ifCond .eq 23, 3) := by decide +kernel
theorem dX6_readLine_9 : decode cX6_readLine 9 = .ok (.aload_n 0, 1) := by decide +kernel
theorem dX6_readLine_10 : decode cX6_readLine 10 = .ok (.invokevirtual 91, 3) := by decide +kernel
theorem dX6_readLine_13 : decode cX6_readLine 13 = .ok (.ifCond .eq 14, 3) := by decide +kernel
theorem dX6_readLine_16 : decode cX6_readLine 16 = .ok (.aload_n 0, 1) := by decide +kernel
theorem dX6_readLine_17 : decode cX6_readLine 17 = .ok (.invokevirtual 83, 3) := by decide +kernel
theorem dX6_readLine_20 : decode cX6_readLine 20 = .ok (.ifCond .eq 7, 3) := by decide +kernel
theorem dX6_readLine_23 : decode cX6_readLine 23 = .ok (.iconst 1, 1) := by decide +kernel
theorem dX6_readLine_24 : decode cX6_readLine 24 = .ok (.goto 4, 3) := by decide +kernel
theorem dX6_readLine_27 : decode cX6_readLine 27 = .ok (.iconst 0, 1) := by decide +kernel
theorem dX6_readLine_28 : decode cX6_readLine 28 = .ok (.ireturn, 1) := by decide +kernel
theorem dX6_readLine_29 : decode cX6_readLine 29 = .ok (.aload_n 0, 1) := by decide +kernel
theorem dX6_readLine_30 : decode cX6_readLine 30 = .ok (.ldc 94, 2) := by decide +kernel
theorem dX6_readLine_32 : decode cX6_readLine 32 = .ok (.invokevirtual 88, 3) := by decide +kernel
theorem dX6_readLine_35 : decode cX6_readLine 35 = .ok (.ifCond .eq 42, 3) := by decide +kernel
theorem dX6_readLine_38 : decode cX6_readLine 38 = .ok (.aload_n 0, 1) := by decide +kernel
theorem dX6_readLine_39 : decode cX6_readLine 39 = .ok (.invokevirtual 55, 3) := by decide +kernel
theorem dX6_readLine_42 : decode cX6_readLine 42 = .ok (.aload_n 0, 1) := by decide +kernel
theorem dX6_readLine_43 : decode cX6_readLine 43 = .ok (.getfield 40, 3) := by decide +kernel
theorem dX6_readLine_46 : decode cX6_readLine 46 = .ok (.aload_n 0, 1) := by decide +kernel
theorem dX6_readLine_47 : decode cX6_readLine 47 = .ok (.iconst 0, 1) := by decide +kernel
theorem dX6_readLine_48 : decode cX6_readLine 48 = .ok (.sipush 999, 3) := by decide +kernel
theorem dX6_readLine_51 : decode cX6_readLine 51 = .ok (.invokevirtual 73, 3) := by decide +kernel
theorem dX6_readLine_54 : decode cX6_readLine 54 = .ok (.putfield 96, 3) := by decide +kernel
theorem dX6_readLine_57 : decode cX6_readLine 57 = .ok (.aload_n 0, 1) := by decide +kernel
theorem dX6_readLine_58 : decode cX6_readLine 58 = .ok (.getfield 9, 3) := by decide +kernel
theorem dX6_readLine_61 : decode cX6_readLine 61 = .ok (.ifCond .ne 14, 3) := by decide +kernel
theorem dX6_readLine_64 : decode cX6_readLine 64 = .ok (.aload_n 0, 1) := by decide +kernel
theorem dX6_readLine_65 : decode cX6_readLine 65 = .ok (.invokevirtual 83, 3) := by decide +kernel
theorem dX6_readLine_68 : decode cX6_readLine 68 = .ok (.ifCond .eq 7, 3) := by decide +kernel
theorem dX6_readLine_71 : decode cX6_readLine 71 = .ok (.iconst 1, 1) := by decide +kernel
theorem dX6_readLine_72 : decode cX6_readLine 72 = .ok (.goto 4, 3) := by decide +kernel
theorem dX6_readLine_75 : decode cX6_readLine 75 = .ok (.iconst 0, 1) := by decide +kernel
theorem dX6_readLine_76 : decode cX6_readLine 76 = .ok (.ireturn, 1) := by decide +kernel
theorem dX6_readLine_77 : decode cX6_readLine 77 = .ok (.aload_n 0, 1) := by decide +kernel
theorem dX6_readLine_78 : decode cX6_readLine 78 = .ok (.ldc 98, 2) := by decide +kernel
theorem dX6_readLine_80 : decode cX6_readLine 80 = .ok (.invokevirtual 88, 3) := by decide +kernel
theorem dX6_readLine_83 : decode cX6_readLine 83 = .ok (.ifCond .eq 41, 3) := by decide +kernel
theorem dX6_readLine_86 : decode cX6_readLine 86 = .ok (.aload_n 0, 1) := by decide +kernel
theorem dX6_readLine_87 : decode cX6_readLine 87 = .ok (.invokevirtual 55, 3) := by decide +kernel
theorem dX6_readLine_90 : decode cX6_readLine 90 = .ok (.aload_n 0, 1) := by decide +kernel
theorem dX6_readLine_91 : decode cX6_readLine 91 = .ok (.getfield 40, 3) := by decide +kernel
theorem dX6_readLine_94 : decode cX6_readLine 94 = .ok (.aload_n 0, 1) := by decide +kernel
theorem dX6_readLine_95 : decode cX6_readLine 95 = .ok (.iconst 0, 1) := by decide +kernel
theorem dX6_readLine_96 : decode cX6_readLine 96 = .ok (.bipush 10, 2) := by decide +kernel
theorem dX6_readLine_98 : decode cX6_readLine 98 = .ok (.invokevirtual 73, 3) := by decide +kernel
theorem dX6_readLine_101 : decode cX6_readLine 101 = .ok (.putfield 100, 3) := by decide +kernel
theorem dX6_readLine_104 : decode cX6_readLine 104 = .ok (.aload_n 0, 1) := by decide +kernel
theorem dX6_readLine_105 : decode cX6_readLine 105 = .ok (.getfield 9, 3) := by decide +kernel
theorem dX6_readLine_108 : decode cX6_readLine 108 = .ok (.ifCond .ne 14, 3) := by decide +kernel
theorem dX6_readLine_111 : decode cX6_readLine 111 = .ok (.aload_n 0, 1) := by decide +kernel
theorem dX6_readLine_112 : decode cX6_readLine 112 = .ok (.invokevirtual 83, 3) := by decide +kernel
theorem dX6_readLine_115 : decode cX6_readLine 115 = .ok (.ifCond .eq 7, 3) := by decide +kernel
theorem dX6_readLine_118 : decode cX6_readLine 118 = .ok (.iconst 1, 1) := by decide +kernel
theorem dX6_readLine_119 : decode cX6_readLine 119 = .ok (.goto 4, 3) := by decide +kernel
theorem dX6_readLine_122 : decode cX6_readLine 122 = .ok (.iconst 0, 1) := by decide +kernel
theorem dX6_readLine_123 : decode cX6_readLine 123 = .ok (.ireturn, 1) := by decide +kernel
theorem dX6_readLine_124 : decode cX6_readLine 124 = .ok (.aload_n 0, 1) := by decide +kernel
theorem dX6_readLine_125 : decode cX6_readLine 125 = .ok (.ldc 102, 2) := by decide +kernel
theorem dX6_readLine_127 : decode cX6_readLine 127 = .ok (.invokevirtual 88, 3) := by decide +kernel
theorem dX6_readLine_130 : decode cX6_readLine 130 = .ok (.ifCond .ne 12, 3) := by decide +kernel
theorem dX6_readLine_133 : decode cX6_readLine 133 = .ok (.aload_n 0, 1) := by decide +kernel
theorem dX6_readLine_134 : decode cX6_readLine 134 = .ok (.ldc 104, 2) := by decide +kernel
theorem dX6_readLine_136 : decode cX6_readLine 136 = .ok (.invokevirtual 88, 3) := by decide +kernel
theorem dX6_readLine_139 : decode cX6_readLine 139 = .ok (.ifCond .eq 29, 3) := by decide +kernel
theorem dX6_readLine_142 : decode cX6_readLine 142 = .ok (.aload_n 0, 1) := by decide +kernel
theorem dX6_readLine_143 : decode cX6_readLine 143 = .ok (.aload_n 0, 1) := by decide +kernel
theorem dX6_readLine_144 : decode cX6_readLine 144 = .ok (.ldc 102, 2) := by decide +kernel
theorem dX6_readLine_146 : decode cX6_readLine 146 = .ok (.invokevirtual 88, 3) := by decide +kernel
theorem dX6_readLine_149 : decode cX6_readLine 149 = .ok (.invokevirtual 106, 3) := by decide +kernel
theorem dX6_readLine_152 : decode cX6_readLine 152 = .ok (.ifCond .eq 14, 3) := by decide +kernel
theorem dX6_readLine_155 : decode cX6_readLine 155 = .ok (.aload_n 0, 1) := by decide +kernel
theorem dX6_readLine_156 : decode cX6_readLine 156 = .ok (.invokevirtual 83, 3) := by decide +kernel
theorem dX6_readLine_159 : decode cX6_readLine 159 = .ok (.ifCond .eq 7, 3) := by decide +kernel
theorem dX6_readLine_162 : decode cX6_readLine 162 = .ok (.iconst 1, 1) := by decide +kernel
theorem dX6_readLine_163 : decode cX6_readLine 163 = .ok (.goto 4, 3) := by decide +kernel
theorem dX6_readLine_166 : decode cX6_readLine 166 = .ok (.iconst 0, 1) := by decide +kernel
theorem dX6_readLine_167 : decode cX6_readLine 167 = .ok (.ireturn, 1) := by decide +kernel
theorem dX6_readLine_168 : decode cX6_readLine 168 = .ok (.aload_n 0, 1) := by decide +kernel
theorem dX6_readLine_169 : decode cX6_readLine 169 = .ok (.iconst 2, 1) := by decide +kernel
theorem dX6_readLine_170 : decode cX6_readLine 170 = .ok (.invokevirtual 110, 3) := by decide +kernel
theorem dX6_readLine_173 : decode cX6_readLine 173 = .ok (.ireturn, 1) := by decide +kernel
theorem dX6_endLine_0 : decode cX6_endLine 0 = .ok (.aload_n 0, 1) := by decide +kernel
theorem dX6_endLine_1 : decode cX6_endLine 1 = .ok (.getfield 40, 3) := by decide +kernel
theorem dX6_endLine_4 : decode cX6_endLine 4 = .ok (.dup, 1) := by decide +kernel
theorem dX6_endLine_5 : decode cX6_endLine 5 = .ok (.getfield 114, 3) := by decide +kernel
theorem dX6_endLine_8 : decode cX6_endLine 8 = .ok (.iconst 1, 1) := by decide +kernel
theorem dX6_endLine_9 : decode cX6_endLine 9 = .ok (.iadd, 1) := by decide +kernel
theorem dX6_endLine_10 : decode cX6_endLine 10 = .ok (.putfield 114, 3) := by decide +kernel
theorem dX6_endLine_13 : decode cX6_endLine 13 = .ok (.aload_n 0, 1) := by decide +kernel
theorem dX6_endLine_14 : decode cX6_endLine 14 = .ok (.ldc 117, 2) := by decide +kernel
theorem dX6_endLine_16 : decode cX6_endLine 16 = .ok (.invokevirtual 67, 3) := by decide +kernel
theorem dX6_endLine_19 : decode cX6_endLine 19 = .ok (.ireturn, 1) := by decide +kernel
theorem dX6_readPerson_0 : decode cX6_readPerson 0 = .ok (.aload_n 0, 1) := by decide +kernel
theorem dX6_readPerson_1 : decode cX6_readPerson 1 = .ok (.getfield 40, 3) := by decide +kernel
theorem dX6_readPerson_4 : decode cX6_readPerson 4 = .ok (.getfield 119, 3) := by decide +kernel
theorem dX6_readPerson_7 : decode cX6_readPerson 7 = .ok (.bipush 6, 2) := by decide +kernel
theorem dX6_readPerson_9 : decode cX6_readPerson 9 = .ok (.if_icmp .lt 9, 3) := by decide +kernel
theorem dX6_readPerson_12 : decode cX6_readPerson 12 = .ok (.aload_n 0, 1) := by decide +kernel
theorem dX6_readPerson_13 : decode cX6_readPerson 13 = .ok (.iconst 4, 1) := by decide +kernel
theorem dX6_readPerson_14 : decode cX6_readPerson 14 = .ok (.invokevirtual 110, 3) := by decide +kernel
theorem dX6_readPerson_17 : decode cX6_readPerson 17 = .ok (.ireturn, 1) := by decide +kernel
theorem dX6_readPerson_18 : decode cX6_readPerson 18 = .ok (.aload_n 0, 1) := by decide +kernel
theorem dX6_readPerson_19 : decode cX6_readPerson 19 = .ok (.invokevirtual 55, 3) := by decide +kernel
theorem dX6_readPerson_22 : decode cX6_readPerson 22 = .ok (.iconst 0, 1) := by decide +kernel
theorem dX6_readPerson_23 : decode cX6_readPerson 23 = .ok (.istore_n 1, 1) := by decide +kernel
theorem dX6_readPerson_24 : decode cX6_readPerson 24 = .ok (.bipush 9, 2) := by decide +kernel
theorem dX6_readPerson_26 : decode cX6_readPerson 26 = .ok (.istore_n 2, 1) := by decide +kernel
theorem dX6_readPerson_27 : decode cX6_readPerson 27 = .ok (.iconst 0, 1) := by decide +kernel
theorem dX6_readPerson_28 : decode cX6_readPerson 28 = .ok (.istore_n 3, 1) := by decide +kernel
theorem dX6_readPerson_29 : decode cX6_readPerson 29 = .ok (.iload_n 3, 1) := by decide +kernel
theorem dX6_readPerson_30 : decode cX6_readPerson 30 = .ok (.aload_n 0, 1) := by decide +kernel
theorem dX6_readPerson_31 : decode cX6_readPerson 31 = .ok (.getfield 22, 3) := by decide +kernel
theorem dX6_readPerson_34 : decode cX6_readPerson 34 = .ok (.if_icmp .ge 81, 3) := by decide +kernel
theorem dX6_readPerson_37 : decode cX6_readPerson 37 = .ok (.aload_n 0, 1) := by decide +kernel
theorem dX6_readPerson_38 : decode cX6_readPerson 38 = .ok (.ldc 122, 2) := by decide +kernel
theorem dX6_readPerson_40 : decode cX6_readPerson 40 = .ok (.invokevirtual 88, 3) := by decide +kernel
theorem dX6_readPerson_43 : decode cX6_readPerson 43 = .ok (.ifCond .ne 12, 3) := by decide +kernel
theorem dX6_readPerson_46 : decode cX6_readPerson 46 = .ok (.aload_n 0, 1) := by decide +kernel
theorem dX6_readPerson_47 : decode cX6_readPerson 47 = .ok (.ldc 124, 2) := by decide +kernel
theorem dX6_readPerson_49 : decode cX6_readPerson 49 = .ok (.invokevirtual 88, 3) := by decide +kernel
theorem dX6_readPerson_52 : decode cX6_readPerson 52 = .ok (.ifCond .eq 63, 3) := by decide +kernel
theorem dX6_readPerson_55 : decode cX6_readPerson 55 = .ok (.aload_n 0, 1) := by decide +kernel
theorem dX6_readPerson_56 : decode cX6_readPerson 56 = .ok (.ldc 122, 2) := by decide +kernel
theorem dX6_readPerson_58 : decode cX6_readPerson 58 = .ok (.invokevirtual 88, 3) := by decide +kernel
theorem dX6_readPerson_61 : decode cX6_readPerson 61 = .ok (.istore 4, 2) := by decide +kernel
theorem dX6_readPerson_63 : decode cX6_readPerson 63 = .ok (.aload_n 0, 1) := by decide +kernel
theorem dX6_readPerson_64 : decode cX6_readPerson 64 = .ok (.invokevirtual 55, 3) := by decide +kernel
theorem dX6_readPerson_67 : decode cX6_readPerson 67 = .ok (.aload_n 0, 1) := by decide +kernel
theorem dX6_readPerson_68 : decode cX6_readPerson 68 = .ok (.iconst 0, 1) := by decide +kernel
theorem dX6_readPerson_69 : decode cX6_readPerson 69 = .ok (.bipush 9, 2) := by decide +kernel
theorem dX6_readPerson_71 : decode cX6_readPerson 71 = .ok (.invokevirtual 73, 3) := by decide +kernel
theorem dX6_readPerson_74 : decode cX6_readPerson 74 = .ok (.istore 5, 2) := by decide +kernel
theorem dX6_readPerson_76 : decode cX6_readPerson 76 = .ok (.aload_n 0, 1) := by decide +kernel
theorem dX6_readPerson_77 : decode cX6_readPerson 77 = .ok (.getfield 9, 3) := by decide +kernel
theorem dX6_readPerson_80 : decode cX6_readPerson 80 = .ok (.ifCond .eq 5, 3) := by decide +kernel
theorem dX6_readPerson_83 : decode cX6_readPerson 83 = .ok (.iconst 0, 1) := by decide +kernel
theorem dX6_readPerson_84 : decode cX6_readPerson 84 = .ok (.ireturn, 1) := by decide +kernel
theorem dX6_readPerson_85 : decode cX6_readPerson 85 = .ok (.iload 4, 2) := by decide +kernel
theorem dX6_readPerson_87 : decode cX6_readPerson 87 = .ok (.ifCond .eq 8, 3) := by decide +kernel
theorem dX6_readPerson_90 : decode cX6_readPerson 90 = .ok (.iload 5, 2) := by decide +kernel
theorem dX6_readPerson_92 : decode cX6_readPerson 92 = .ok (.goto 4, 3) := by decide +kernel
theorem dX6_readPerson_95 : decode cX6_readPerson 95 = .ok (.iload_n 1, 1) := by decide +kernel
theorem dX6_readPerson_96 : decode cX6_readPerson 96 = .ok (.istore_n 1, 1) := by decide +kernel
theorem dX6_readPerson_97 : decode cX6_readPerson 97 = .ok (.iload 4, 2) := by decide +kernel
theorem dX6_readPerson_99 : decode cX6_readPerson 99 = .ok (.ifCond .eq 7, 3) := by decide +kernel
theorem dX6_readPerson_102 : decode cX6_readPerson 102 = .ok (.iload_n 2, 1) := by decide +kernel
theorem dX6_readPerson_103 : decode cX6_readPerson 103 = .ok (.goto 5, 3) := by decide +kernel
theorem dX6_readPerson_106 : decode cX6_readPerson 106 = .ok (.iload 5, 2) := by decide +kernel
theorem dX6_readPerson_108 : decode cX6_readPerson 108 = .ok (.istore_n 2, 1) := by decide +kernel
theorem dX6_readPerson_109 : decode cX6_readPerson 109 = .ok (.iinc 3 1, 3) := by decide +kernel
theorem dX6_readPerson_112 : decode cX6_readPerson 112 = .ok (.goto (-83), 3) := by decide +kernel
theorem dX6_readPerson_115 : decode cX6_readPerson 115 = .ok (.aload_n 0, 1) := by decide +kernel
theorem dX6_readPerson_116 : decode cX6_readPerson 116 = .ok (.getfield 40, 3) := by decide +kernel
theorem dX6_readPerson_119 : decode cX6_readPerson 119 = .ok (.iload_n 1, 1) := by decide +kernel
theorem dX6_readPerson_120 : decode cX6_readPerson 120 = .ok (.iload_n 2, 1) := by decide +kernel
theorem dX6_readPerson_121 : decode cX6_readPerson 121 = .ok (.invokevirtual 126, 3) := by decide +kernel
theorem dX6_readPerson_124 : decode cX6_readPerson 124 = .ok (.iconst 1, 1) := by decide +kernel
theorem dX6_readPerson_125 : decode cX6_readPerson 125 = .ok (.ireturn, 1) := by decide +kernel
theorem dX6_readLaw_0 : decode cX6_readLaw 0 = .ok (.aload_n 0, 1) := by decide +kernel
theorem dX6_readLaw_1 : decode cX6_readLaw 1 = .ok (.invokevirtual 55, 3) := by decide +kernel
theorem dX6_readLaw_4 : decode cX6_readLaw 4 = .ok (.aload_n 0, 1) := by decide +kernel
theorem dX6_readLaw_5 : decode cX6_readLaw 5 = .ok (.iload_n 1, 1) := by decide +kernel
theorem dX6_readLaw_6 : decode cX6_readLaw 6 = .ok (.putfield 44, 3) := by decide +kernel
theorem dX6_readLaw_9 : decode cX6_readLaw 9 = .ok (.aload_n 0, 1) := by decide +kernel
theorem dX6_readLaw_10 : decode cX6_readLaw 10 = .ok (.iconst 0, 1) := by decide +kernel
theorem dX6_readLaw_11 : decode cX6_readLaw 11 = .ok (.putfield 52, 3) := by decide +kernel
theorem dX6_readLaw_14 : decode cX6_readLaw 14 = .ok (.aload_n 0, 1) := by decide +kernel
theorem dX6_readLaw_15 : decode cX6_readLaw 15 = .ok (.ldc 130, 2) := by decide +kernel
theorem dX6_readLaw_17 : decode cX6_readLaw 17 = .ok (.invokevirtual 67, 3) := by decide +kernel
theorem dX6_readLaw_20 : decode cX6_readLaw 20 = .ok (.ifCond .eq 11, 3) := by decide +kernel
theorem dX6_readLaw_23 : decode cX6_readLaw 23 = .ok (.aload_n 0, 1) := by decide +kernel
theorem dX6_readLaw_24 : decode cX6_readLaw 24 = .ok (.iconst 0, 1) := by decide +kernel
theorem dX6_readLaw_25 : decode cX6_readLaw 25 = .ok (.invokevirtual 132, 3) := by decide +kernel
theorem dX6_readLaw_28 : decode cX6_readLaw 28 = .ok (.ifCond .ne 5, 3) := by decide +kernel
theorem dX6_readLaw_31 : decode cX6_readLaw 31 = .ok (.iconst 0, 1) := by decide +kernel
theorem dX6_readLaw_32 : decode cX6_readLaw 32 = .ok (.ireturn, 1) := by decide +kernel
theorem dX6_readLaw_33 : decode cX6_readLaw 33 = .ok (.aload_n 0, 1) := by decide +kernel
theorem dX6_readLaw_34 : decode cX6_readLaw 34 = .ok (.getfield 48, 3) := by decide +kernel
theorem dX6_readLaw_37 : decode cX6_readLaw 37 = .ok (.aload_n 0, 1) := by decide +kernel
theorem dX6_readLaw_38 : decode cX6_readLaw 38 = .ok (.getfield 52, 3) := by decide +kernel
theorem dX6_readLaw_41 : decode cX6_readLaw 41 = .ok (.invokestatic 135, 3) := by decide +kernel
theorem dX6_readLaw_44 : decode cX6_readLaw 44 = .ok (.astore_n 2, 1) := by decide +kernel
theorem dX6_readLaw_45 : decode cX6_readLaw 45 = .ok (.iload_n 1, 1) := by decide +kernel
theorem dX6_readLaw_46 : decode cX6_readLaw 46 = .ok (.ifCond .eq 14, 3) := by decide +kernel
theorem dX6_readLaw_49 : decode cX6_readLaw 49 = .ok (.aload_n 0, 1) := by decide +kernel
theorem dX6_readLaw_50 : decode cX6_readLaw 50 = .ok (.getfield 40, 3) := by decide +kernel
theorem dX6_readLaw_53 : decode cX6_readLaw 53 = .ok (.aload_n 2, 1) := by decide +kernel
theorem dX6_readLaw_54 : decode cX6_readLaw 54 = .ok (.putfield 141, 3) := by decide +kernel
theorem dX6_readLaw_57 : decode cX6_readLaw 57 = .ok (.goto 11, 3) := by decide +kernel
theorem dX6_readLaw_60 : decode cX6_readLaw 60 = .ok (.aload_n 0, 1) := by decide +kernel
theorem dX6_readLaw_61 : decode cX6_readLaw 61 = .ok (.getfield 40, 3) := by decide +kernel
theorem dX6_readLaw_64 : decode cX6_readLaw 64 = .ok (.aload_n 2, 1) := by decide +kernel
theorem dX6_readLaw_65 : decode cX6_readLaw 65 = .ok (.putfield 144, 3) := by decide +kernel
theorem dX6_readLaw_68 : decode cX6_readLaw 68 = .ok (.iconst 1, 1) := by decide +kernel
theorem dX6_readLaw_69 : decode cX6_readLaw 69 = .ok (.ireturn, 1) := by decide +kernel
theorem dX6_readSum_0 : decode cX6_readSum 0 = .ok (.aload_n 0, 1) := by decide +kernel
theorem dX6_readSum_1 : decode cX6_readSum 1 = .ok (.iload_n 1, 1) := by decide +kernel
theorem dX6_readSum_2 : decode cX6_readSum 2 = .ok (.invokevirtual 147, 3) := by decide +kernel
theorem dX6_readSum_5 : decode cX6_readSum 5 = .ok (.istore_n 2, 1) := by decide +kernel
theorem dX6_readSum_6 : decode cX6_readSum 6 = .ok (.iconst 0, 1) := by decide +kernel
theorem dX6_readSum_7 : decode cX6_readSum 7 = .ok (.istore_n 3, 1) := by decide +kernel
theorem dX6_readSum_8 : decode cX6_readSum 8 = .ok (.iload_n 3, 1) := by decide +kernel
theorem dX6_readSum_9 : decode cX6_readSum 9 = .ok (.aload_n 0, 1) := by decide +kernel
theorem dX6_readSum_10 : decode cX6_readSum 10 = .ok (.getfield 22, 3) := by decide +kernel
theorem dX6_readSum_13 : decode cX6_readSum 13 = .ok (.if_icmp .ge 64, 3) := by decide +kernel
theorem dX6_readSum_16 : decode cX6_readSum 16 = .ok (.iload_n 2, 1) := by decide +kernel
theorem dX6_readSum_17 : decode cX6_readSum 17 = .ok (.ifCond .eq 60, 3) := by decide +kernel
theorem dX6_readSum_20 : decode cX6_readSum 20 = .ok (.aload_n 0, 1) := by decide +kernel
theorem dX6_readSum_21 : decode cX6_readSum 21 = .ok (.ldc 150, 2) := by decide +kernel
theorem dX6_readSum_23 : decode cX6_readSum 23 = .ok (.invokevirtual 88, 3) := by decide +kernel
theorem dX6_readSum_26 : decode cX6_readSum 26 = .ok (.ifCond .ne 12, 3) := by decide +kernel
theorem dX6_readSum_29 : decode cX6_readSum 29 = .ok (.aload_n 0, 1) := by decide +kernel
theorem dX6_readSum_30 : decode cX6_readSum 30 = .ok (.ldc 152, 2) := by decide +kernel
theorem dX6_readSum_32 : decode cX6_readSum 32 = .ok (.invokevirtual 88, 3) := by decide +kernel
theorem dX6_readSum_35 : decode cX6_readSum 35 = .ok (.ifCond .eq 42, 3) := by decide +kernel
theorem dX6_readSum_38 : decode cX6_readSum 38 = .ok (.aload_n 0, 1) := by decide +kernel
theorem dX6_readSum_39 : decode cX6_readSum 39 = .ok (.ldc 150, 2) := by decide +kernel
theorem dX6_readSum_41 : decode cX6_readSum 41 = .ok (.invokevirtual 88, 3) := by decide +kernel
theorem dX6_readSum_44 : decode cX6_readSum 44 = .ok (.ifCond .eq 7, 3) := by decide +kernel
theorem dX6_readSum_47 : decode cX6_readSum 47 = .ok (.iconst (-1), 1) := by decide +kernel
theorem dX6_readSum_48 : decode cX6_readSum 48 = .ok (.goto 5, 3) := by decide +kernel
theorem dX6_readSum_51 : decode cX6_readSum 51 = .ok (.bipush (-2), 2) := by decide +kernel
theorem dX6_readSum_53 : decode cX6_readSum 53 = .ok (.istore 4, 2) := by decide +kernel
theorem dX6_readSum_55 : decode cX6_readSum 55 = .ok (.aload_n 0, 1) := by decide +kernel
theorem dX6_readSum_56 : decode cX6_readSum 56 = .ok (.invokevirtual 55, 3) := by decide +kernel
theorem dX6_readSum_59 : decode cX6_readSum 59 = .ok (.aload_n 0, 1) := by decide +kernel
theorem dX6_readSum_60 : decode cX6_readSum 60 = .ok (.iload_n 1, 1) := by decide +kernel
theorem dX6_readSum_61 : decode cX6_readSum 61 = .ok (.invokevirtual 147, 3) := by decide +kernel
theorem dX6_readSum_64 : decode cX6_readSum 64 = .ok (.istore_n 2, 1) := by decide +kernel
theorem dX6_readSum_65 : decode cX6_readSum 65 = .ok (.aload_n 0, 1) := by decide +kernel
theorem dX6_readSum_66 : decode cX6_readSum 66 = .ok (.iload 4, 2) := by decide +kernel
theorem dX6_readSum_68 : decode cX6_readSum 68 = .ok (.invokevirtual 156, 3) := by decide +kernel
theorem dX6_readSum_71 : decode cX6_readSum 71 = .ok (.iinc 3 1, 3) := by decide +kernel
theorem dX6_readSum_74 : decode cX6_readSum 74 = .ok (.goto (-66), 3) := by decide +kernel
theorem dX6_readSum_77 : decode cX6_readSum 77 = .ok (.iload_n 2, 1) := by decide +kernel
theorem dX6_readSum_78 : decode cX6_readSum 78 = .ok (.ireturn, 1) := by decide +kernel
theorem dX6_readTerm_0 : decode cX6_readTerm 0 = .ok (.aload_n 0, 1) := by decide +kernel
theorem dX6_readTerm_1 : decode cX6_readTerm 1 = .ok (.iload_n 1, 1) := by decide +kernel
theorem dX6_readTerm_2 : decode cX6_readTerm 2 = .ok (.invokevirtual 160, 3) := by decide +kernel
theorem dX6_readTerm_5 : decode cX6_readTerm 5 = .ok (.istore_n 2, 1) := by decide +kernel
theorem dX6_readTerm_6 : decode cX6_readTerm 6 = .ok (.iconst 0, 1) := by decide +kernel
theorem dX6_readTerm_7 : decode cX6_readTerm 7 = .ok (.istore_n 3, 1) := by decide +kernel
theorem dX6_readTerm_8 : decode cX6_readTerm 8 = .ok (.iload_n 3, 1) := by decide +kernel
theorem dX6_readTerm_9 : decode cX6_readTerm 9 = .ok (.aload_n 0, 1) := by decide +kernel
theorem dX6_readTerm_10 : decode cX6_readTerm 10 = .ok (.getfield 22, 3) := by decide +kernel
theorem dX6_readTerm_13 : decode cX6_readTerm 13 = .ok (.if_icmp .ge 38, 3) := by decide +kernel
theorem dX6_readTerm_16 : decode cX6_readTerm 16 = .ok (.iload_n 2, 1) := by decide +kernel
theorem dX6_readTerm_17 : decode cX6_readTerm 17 = .ok (.ifCond .eq 34, 3) := by decide +kernel
theorem dX6_readTerm_20 : decode cX6_readTerm 20 = .ok (.aload_n 0, 1) := by decide +kernel
theorem dX6_readTerm_21 : decode cX6_readTerm 21 = .ok (.ldc 163, 2) := by decide +kernel
theorem dX6_readTerm_23 : decode cX6_readTerm 23 = .ok (.invokevirtual 88, 3) := by decide +kernel
theorem dX6_readTerm_26 : decode cX6_readTerm 26 = .ok (.ifCond .eq 25, 3) := by decide +kernel
theorem dX6_readTerm_29 : decode cX6_readTerm 29 = .ok (.aload_n 0, 1) := by decide +kernel
theorem dX6_readTerm_30 : decode cX6_readTerm 30 = .ok (.invokevirtual 55, 3) := by decide +kernel
theorem dX6_readTerm_33 : decode cX6_readTerm 33 = .ok (.aload_n 0, 1) := by decide +kernel
theorem dX6_readTerm_34 : decode cX6_readTerm 34 = .ok (.iload_n 1, 1) := by decide +kernel
theorem dX6_readTerm_35 : decode cX6_readTerm 35 = .ok (.invokevirtual 160, 3) := by decide +kernel
theorem dX6_readTerm_38 : decode cX6_readTerm 38 = .ok (.istore_n 2, 1) := by decide +kernel
theorem dX6_readTerm_39 : decode cX6_readTerm 39 = .ok (.aload_n 0, 1) := by decide +kernel
theorem dX6_readTerm_40 : decode cX6_readTerm 40 = .ok (.bipush (-3), 2) := by decide +kernel
theorem dX6_readTerm_42 : decode cX6_readTerm 42 = .ok (.invokevirtual 156, 3) := by decide +kernel
theorem dX6_readTerm_45 : decode cX6_readTerm 45 = .ok (.iinc 3 1, 3) := by decide +kernel
theorem dX6_readTerm_48 : decode cX6_readTerm 48 = .ok (.goto (-40), 3) := by decide +kernel
theorem dX6_readTerm_51 : decode cX6_readTerm 51 = .ok (.iload_n 2, 1) := by decide +kernel
theorem dX6_readTerm_52 : decode cX6_readTerm 52 = .ok (.ireturn, 1) := by decide +kernel
theorem dX6_readAtom_0 : decode cX6_readAtom 0 = .ok (.aload_n 0, 1) := by decide +kernel
theorem dX6_readAtom_1 : decode cX6_readAtom 1 = .ok (.getfield 31, 3) := by decide +kernel
theorem dX6_readAtom_4 : decode cX6_readAtom 4 = .ok (.iconst 1, 1) := by decide +kernel
theorem dX6_readAtom_5 : decode cX6_readAtom 5 = .ok (.if_icmp .ne 17, 3) := by decide +kernel
theorem dX6_readAtom_8 : decode cX6_readAtom 8 = .ok (.aload_n 0, 1) := by decide +kernel
theorem dX6_readAtom_9 : decode cX6_readAtom 9 = .ok (.aload_n 0, 1) := by decide +kernel
theorem dX6_readAtom_10 : decode cX6_readAtom 10 = .ok (.getfield 34, 3) := by decide +kernel
theorem dX6_readAtom_13 : decode cX6_readAtom 13 = .ok (.invokevirtual 156, 3) := by decide +kernel
theorem dX6_readAtom_16 : decode cX6_readAtom 16 = .ok (.aload_n 0, 1) := by decide +kernel
theorem dX6_readAtom_17 : decode cX6_readAtom 17 = .ok (.invokevirtual 55, 3) := by decide +kernel
theorem dX6_readAtom_20 : decode cX6_readAtom 20 = .ok (.iconst 1, 1) := by decide +kernel
theorem dX6_readAtom_21 : decode cX6_readAtom 21 = .ok (.ireturn, 1) := by decide +kernel
theorem dX6_readAtom_22 : decode cX6_readAtom 22 = .ok (.aload_n 0, 1) := by decide +kernel
theorem dX6_readAtom_23 : decode cX6_readAtom 23 = .ok (.ldc 165, 2) := by decide +kernel
theorem dX6_readAtom_25 : decode cX6_readAtom 25 = .ok (.invokevirtual 88, 3) := by decide +kernel
theorem dX6_readAtom_28 : decode cX6_readAtom 28 = .ok (.ifCond .eq 36, 3) := by decide +kernel
theorem dX6_readAtom_31 : decode cX6_readAtom 31 = .ok (.aload_n 0, 1) := by decide +kernel
theorem dX6_readAtom_32 : decode cX6_readAtom 32 = .ok (.iload_n 1, 1) := by decide +kernel
theorem dX6_readAtom_33 : decode cX6_readAtom 33 = .ok (.invokevirtual 167, 3) := by decide +kernel
theorem dX6_readAtom_36 : decode cX6_readAtom 36 = .ok (.ifCond .eq 26, 3) := by decide +kernel
theorem dX6_readAtom_39 : decode cX6_readAtom 39 = .ok (.aload_n 0, 1) := by decide +kernel
theorem dX6_readAtom_40 : decode cX6_readAtom 40 = .ok (.iload_n 1, 1) := by decide +kernel
theorem dX6_readAtom_41 : decode cX6_readAtom 41 = .ok (.iconst 1, 1) := by decide +kernel
theorem dX6_readAtom_42 : decode cX6_readAtom 42 = .ok (.iadd, 1) := by decide +kernel
theorem dX6_readAtom_43 : decode cX6_readAtom 43 = .ok (.invokevirtual 132, 3) := by decide +kernel
theorem dX6_readAtom_46 : decode cX6_readAtom 46 = .ok (.ifCond .eq 16, 3) := by decide +kernel
theorem dX6_readAtom_49 : decode cX6_readAtom 49 = .ok (.aload_n 0, 1) := by decide +kernel
theorem dX6_readAtom_50 : decode cX6_readAtom 50 = .ok (.ldc 170, 2) := by decide +kernel
theorem dX6_readAtom_52 : decode cX6_readAtom 52 = .ok (.invokevirtual 67, 3) := by decide +kernel
theorem dX6_readAtom_55 : decode cX6_readAtom 55 = .ok (.ifCond .eq 7, 3) := by decide +kernel
theorem dX6_readAtom_58 : decode cX6_readAtom 58 = .ok (.iconst 1, 1) := by decide +kernel
theorem dX6_readAtom_59 : decode cX6_readAtom 59 = .ok (.goto 4, 3) := by decide +kernel
theorem dX6_readAtom_62 : decode cX6_readAtom 62 = .ok (.iconst 0, 1) := by decide +kernel
theorem dX6_readAtom_63 : decode cX6_readAtom 63 = .ok (.ireturn, 1) := by decide +kernel
theorem dX6_readAtom_64 : decode cX6_readAtom 64 = .ok (.aload_n 0, 1) := by decide +kernel
theorem dX6_readAtom_65 : decode cX6_readAtom 65 = .ok (.ldc 172, 2) := by decide +kernel
theorem dX6_readAtom_67 : decode cX6_readAtom 67 = .ok (.invokevirtual 88, 3) := by decide +kernel
theorem dX6_readAtom_70 : decode cX6_readAtom 70 = .ok (.ifCond .eq 82, 3) := by decide +kernel
theorem dX6_readAtom_73 : decode cX6_readAtom 73 = .ok (.aload_n 0, 1) := by decide +kernel
theorem dX6_readAtom_74 : decode cX6_readAtom 74 = .ok (.iload_n 1, 1) := by decide +kernel
theorem dX6_readAtom_75 : decode cX6_readAtom 75 = .ok (.invokevirtual 167, 3) := by decide +kernel
theorem dX6_readAtom_78 : decode cX6_readAtom 78 = .ok (.ifCond .eq 64, 3) := by decide +kernel
theorem dX6_readAtom_81 : decode cX6_readAtom 81 = .ok (.aload_n 0, 1) := by decide +kernel
theorem dX6_readAtom_82 : decode cX6_readAtom 82 = .ok (.iload_n 1, 1) := by decide +kernel
theorem dX6_readAtom_83 : decode cX6_readAtom 83 = .ok (.iconst 1, 1) := by decide +kernel
theorem dX6_readAtom_84 : decode cX6_readAtom 84 = .ok (.iadd, 1) := by decide +kernel
theorem dX6_readAtom_85 : decode cX6_readAtom 85 = .ok (.invokevirtual 174, 3) := by decide +kernel
theorem dX6_readAtom_88 : decode cX6_readAtom 88 = .ok (.ifCond .eq 54, 3) := by decide +kernel
theorem dX6_readAtom_91 : decode cX6_readAtom 91 = .ok (.aload_n 0, 1) := by decide +kernel
theorem dX6_readAtom_92 : decode cX6_readAtom 92 = .ok (.ldc 177, 2) := by decide +kernel
theorem dX6_readAtom_94 : decode cX6_readAtom 94 = .ok (.invokevirtual 67, 3) := by decide +kernel
theorem dX6_readAtom_97 : decode cX6_readAtom 97 = .ok (.ifCond .eq 45, 3) := by decide +kernel
theorem dX6_readAtom_100 : decode cX6_readAtom 100 = .ok (.aload_n 0, 1) := by decide +kernel
theorem dX6_readAtom_101 : decode cX6_readAtom 101 = .ok (.iload_n 1, 1) := by decide +kernel
theorem dX6_readAtom_102 : decode cX6_readAtom 102 = .ok (.iconst 1, 1) := by decide +kernel
theorem dX6_readAtom_103 : decode cX6_readAtom 103 = .ok (.iadd, 1) := by decide +kernel
theorem dX6_readAtom_104 : decode cX6_readAtom 104 = .ok (.invokevirtual 132, 3) := by decide +kernel
theorem dX6_readAtom_107 : decode cX6_readAtom 107 = .ok (.ifCond .eq 35, 3) := by decide +kernel
theorem dX6_readAtom_110 : decode cX6_readAtom 110 = .ok (.aload_n 0, 1) := by decide +kernel
theorem dX6_readAtom_111 : decode cX6_readAtom 111 = .ok (.ldc 179, 2) := by decide +kernel
theorem dX6_readAtom_113 : decode cX6_readAtom 113 = .ok (.invokevirtual 67, 3) := by decide +kernel
theorem dX6_readAtom_116 : decode cX6_readAtom 116 = .ok (.ifCond .eq 26, 3) := by decide +kernel
theorem dX6_readAtom_119 : decode cX6_readAtom 119 = .ok (.aload_n 0, 1) := by decide +kernel
theorem dX6_readAtom_120 : decode cX6_readAtom 120 = .ok (.iload_n 1, 1) := by decide +kernel
theorem dX6_readAtom_121 : decode cX6_readAtom 121 = .ok (.iconst 1, 1) := by decide +kernel
theorem dX6_readAtom_122 : decode cX6_readAtom 122 = .ok (.iadd, 1) := by decide +kernel
theorem dX6_readAtom_123 : decode cX6_readAtom 123 = .ok (.invokevirtual 132, 3) := by decide +kernel
theorem dX6_readAtom_126 : decode cX6_readAtom 126 = .ok (.ifCond .eq 16, 3) := by decide +kernel
theorem dX6_readAtom_129 : decode cX6_readAtom 129 = .ok (.aload_n 0, 1) := by decide +kernel
theorem dX6_readAtom_130 : decode cX6_readAtom 130 = .ok (.ldc 181, 2) := by decide +kernel
theorem dX6_readAtom_132 : decode cX6_readAtom 132 = .ok (.invokevirtual 67, 3) := by decide +kernel
theorem dX6_readAtom_135 : decode cX6_readAtom 135 = .ok (.ifCond .eq 7, 3) := by decide +kernel
theorem dX6_readAtom_138 : decode cX6_readAtom 138 = .ok (.iconst 1, 1) := by decide +kernel
theorem dX6_readAtom_139 : decode cX6_readAtom 139 = .ok (.goto 4, 3) := by decide +kernel
theorem dX6_readAtom_142 : decode cX6_readAtom 142 = .ok (.iconst 0, 1) := by decide +kernel
theorem dX6_readAtom_143 : decode cX6_readAtom 143 = .ok (.istore_n 2, 1) := by decide +kernel
theorem dX6_readAtom_144 : decode cX6_readAtom 144 = .ok (.aload_n 0, 1) := by decide +kernel
theorem dX6_readAtom_145 : decode cX6_readAtom 145 = .ok (.bipush (-10), 2) := by decide +kernel
theorem dX6_readAtom_147 : decode cX6_readAtom 147 = .ok (.invokevirtual 156, 3) := by decide +kernel
theorem dX6_readAtom_150 : decode cX6_readAtom 150 = .ok (.iload_n 2, 1) := by decide +kernel
theorem dX6_readAtom_151 : decode cX6_readAtom 151 = .ok (.ireturn, 1) := by decide +kernel
theorem dX6_readAtom_152 : decode cX6_readAtom 152 = .ok (.aload_n 0, 1) := by decide +kernel
theorem dX6_readAtom_153 : decode cX6_readAtom 153 = .ok (.invokevirtual 183, 3) := by decide +kernel
theorem dX6_readAtom_156 : decode cX6_readAtom 156 = .ok (.istore_n 2, 1) := by decide +kernel
theorem dX6_readAtom_157 : decode cX6_readAtom 157 = .ok (.iload_n 2, 1) := by decide +kernel
theorem dX6_readAtom_158 : decode cX6_readAtom 158 = .ok (.iconst (-1), 1) := by decide +kernel
theorem dX6_readAtom_159 : decode cX6_readAtom 159 = .ok (.if_icmp .ne 9, 3) := by decide +kernel
theorem dX6_readAtom_162 : decode cX6_readAtom 162 = .ok (.aload_n 0, 1) := by decide +kernel
theorem dX6_readAtom_163 : decode cX6_readAtom 163 = .ok (.iconst 2, 1) := by decide +kernel
theorem dX6_readAtom_164 : decode cX6_readAtom 164 = .ok (.invokevirtual 110, 3) := by decide +kernel
theorem dX6_readAtom_167 : decode cX6_readAtom 167 = .ok (.ireturn, 1) := by decide +kernel
theorem dX6_readAtom_168 : decode cX6_readAtom 168 = .ok (.aload_n 0, 1) := by decide +kernel
theorem dX6_readAtom_169 : decode cX6_readAtom 169 = .ok (.bipush (-11), 2) := by decide +kernel
theorem dX6_readAtom_171 : decode cX6_readAtom 171 = .ok (.iload_n 2, 1) := by decide +kernel
theorem dX6_readAtom_172 : decode cX6_readAtom 172 = .ok (.isub, 1) := by decide +kernel
theorem dX6_readAtom_173 : decode cX6_readAtom 173 = .ok (.invokevirtual 156, 3) := by decide +kernel
theorem dX6_readAtom_176 : decode cX6_readAtom 176 = .ok (.aload_n 0, 1) := by decide +kernel
theorem dX6_readAtom_177 : decode cX6_readAtom 177 = .ok (.invokevirtual 55, 3) := by decide +kernel
theorem dX6_readAtom_180 : decode cX6_readAtom 180 = .ok (.iconst 1, 1) := by decide +kernel
theorem dX6_readAtom_181 : decode cX6_readAtom 181 = .ok (.ireturn, 1) := by decide +kernel
theorem dX6_factTold_0 : decode cX6_factTold 0 = .ok (.aload_n 0, 1) := by decide +kernel
theorem dX6_factTold_1 : decode cX6_factTold 1 = .ok (.ldc 122, 2) := by decide +kernel
theorem dX6_factTold_3 : decode cX6_factTold 3 = .ok (.invokevirtual 88, 3) := by decide +kernel
theorem dX6_factTold_6 : decode cX6_factTold 6 = .ok (.ifCond .eq 5, 3) := by decide +kernel
theorem dX6_factTold_9 : decode cX6_factTold 9 = .ok (.iconst 0, 1) := by decide +kernel
theorem dX6_factTold_10 : decode cX6_factTold 10 = .ok (.ireturn, 1) := by decide +kernel
theorem dX6_factTold_11 : decode cX6_factTold 11 = .ok (.aload_n 0, 1) := by decide +kernel
theorem dX6_factTold_12 : decode cX6_factTold 12 = .ok (.ldc 187, 2) := by decide +kernel
theorem dX6_factTold_14 : decode cX6_factTold 14 = .ok (.invokevirtual 88, 3) := by decide +kernel
theorem dX6_factTold_17 : decode cX6_factTold 17 = .ok (.ifCond .eq 5, 3) := by decide +kernel
theorem dX6_factTold_20 : decode cX6_factTold 20 = .ok (.iconst 1, 1) := by decide +kernel
theorem dX6_factTold_21 : decode cX6_factTold 21 = .ok (.ireturn, 1) := by decide +kernel
theorem dX6_factTold_22 : decode cX6_factTold 22 = .ok (.aload_n 0, 1) := by decide +kernel
theorem dX6_factTold_23 : decode cX6_factTold 23 = .ok (.getfield 44, 3) := by decide +kernel
theorem dX6_factTold_26 : decode cX6_factTold 26 = .ok (.ifCond .ne 5, 3) := by decide +kernel
theorem dX6_factTold_29 : decode cX6_factTold 29 = .ok (.iconst (-1), 1) := by decide +kernel
theorem dX6_factTold_30 : decode cX6_factTold 30 = .ok (.ireturn, 1) := by decide +kernel
theorem dX6_factTold_31 : decode cX6_factTold 31 = .ok (.aload_n 0, 1) := by decide +kernel
theorem dX6_factTold_32 : decode cX6_factTold 32 = .ok (.ldc 189, 2) := by decide +kernel
theorem dX6_factTold_34 : decode cX6_factTold 34 = .ok (.invokevirtual 88, 3) := by decide +kernel
theorem dX6_factTold_37 : decode cX6_factTold 37 = .ok (.ifCond .eq 5, 3) := by decide +kernel
theorem dX6_factTold_40 : decode cX6_factTold 40 = .ok (.iconst 2, 1) := by decide +kernel
theorem dX6_factTold_41 : decode cX6_factTold 41 = .ok (.ireturn, 1) := by decide +kernel
theorem dX6_factTold_42 : decode cX6_factTold 42 = .ok (.aload_n 0, 1) := by decide +kernel
theorem dX6_factTold_43 : decode cX6_factTold 43 = .ok (.ldc 191, 2) := by decide +kernel
theorem dX6_factTold_45 : decode cX6_factTold 45 = .ok (.invokevirtual 88, 3) := by decide +kernel
theorem dX6_factTold_48 : decode cX6_factTold 48 = .ok (.ifCond .eq 5, 3) := by decide +kernel
theorem dX6_factTold_51 : decode cX6_factTold 51 = .ok (.iconst 3, 1) := by decide +kernel
theorem dX6_factTold_52 : decode cX6_factTold 52 = .ok (.ireturn, 1) := by decide +kernel
theorem dX6_factTold_53 : decode cX6_factTold 53 = .ok (.aload_n 0, 1) := by decide +kernel
theorem dX6_factTold_54 : decode cX6_factTold 54 = .ok (.ldc 193, 2) := by decide +kernel
theorem dX6_factTold_56 : decode cX6_factTold 56 = .ok (.invokevirtual 88, 3) := by decide +kernel
theorem dX6_factTold_59 : decode cX6_factTold 59 = .ok (.ifCond .eq 5, 3) := by decide +kernel
theorem dX6_factTold_62 : decode cX6_factTold 62 = .ok (.iconst 4, 1) := by decide +kernel
theorem dX6_factTold_63 : decode cX6_factTold 63 = .ok (.ireturn, 1) := by decide +kernel
theorem dX6_factTold_64 : decode cX6_factTold 64 = .ok (.aload_n 0, 1) := by decide +kernel
theorem dX6_factTold_65 : decode cX6_factTold 65 = .ok (.ldc 195, 2) := by decide +kernel
theorem dX6_factTold_67 : decode cX6_factTold 67 = .ok (.invokevirtual 88, 3) := by decide +kernel
theorem dX6_factTold_70 : decode cX6_factTold 70 = .ok (.ifCond .eq 5, 3) := by decide +kernel
theorem dX6_factTold_73 : decode cX6_factTold 73 = .ok (.iconst 5, 1) := by decide +kernel
theorem dX6_factTold_74 : decode cX6_factTold 74 = .ok (.ireturn, 1) := by decide +kernel
theorem dX6_factTold_75 : decode cX6_factTold 75 = .ok (.aload_n 0, 1) := by decide +kernel
theorem dX6_factTold_76 : decode cX6_factTold 76 = .ok (.ldc 197, 2) := by decide +kernel
theorem dX6_factTold_78 : decode cX6_factTold 78 = .ok (.invokevirtual 88, 3) := by decide +kernel
theorem dX6_factTold_81 : decode cX6_factTold 81 = .ok (.ifCond .eq 8, 3) := by decide +kernel
theorem dX6_factTold_84 : decode cX6_factTold 84 = .ok (.bipush 6, 2) := by decide +kernel
theorem dX6_factTold_86 : decode cX6_factTold 86 = .ok (.goto 4, 3) := by decide +kernel
theorem dX6_factTold_89 : decode cX6_factTold 89 = .ok (.iconst (-1), 1) := by decide +kernel
theorem dX6_factTold_90 : decode cX6_factTold 90 = .ok (.ireturn, 1) := by decide +kernel
theorem dX6_readTruth_0 : decode cX6_readTruth 0 = .ok (.aload_n 0, 1) := by decide +kernel
theorem dX6_readTruth_1 : decode cX6_readTruth 1 = .ok (.iload_n 1, 1) := by decide +kernel
theorem dX6_readTruth_2 : decode cX6_readTruth 2 = .ok (.invokevirtual 199, 3) := by decide +kernel
theorem dX6_readTruth_5 : decode cX6_readTruth 5 = .ok (.istore_n 2, 1) := by decide +kernel
theorem dX6_readTruth_6 : decode cX6_readTruth 6 = .ok (.iconst 0, 1) := by decide +kernel
theorem dX6_readTruth_7 : decode cX6_readTruth 7 = .ok (.istore_n 3, 1) := by decide +kernel
theorem dX6_readTruth_8 : decode cX6_readTruth 8 = .ok (.iload_n 3, 1) := by decide +kernel
theorem dX6_readTruth_9 : decode cX6_readTruth 9 = .ok (.aload_n 0, 1) := by decide +kernel
theorem dX6_readTruth_10 : decode cX6_readTruth 10 = .ok (.getfield 22, 3) := by decide +kernel
theorem dX6_readTruth_13 : decode cX6_readTruth 13 = .ok (.if_icmp .ge 38, 3) := by decide +kernel
theorem dX6_readTruth_16 : decode cX6_readTruth 16 = .ok (.iload_n 2, 1) := by decide +kernel
theorem dX6_readTruth_17 : decode cX6_readTruth 17 = .ok (.ifCond .eq 34, 3) := by decide +kernel
theorem dX6_readTruth_20 : decode cX6_readTruth 20 = .ok (.aload_n 0, 1) := by decide +kernel
theorem dX6_readTruth_21 : decode cX6_readTruth 21 = .ok (.ldc 202, 2) := by decide +kernel
theorem dX6_readTruth_23 : decode cX6_readTruth 23 = .ok (.invokevirtual 88, 3) := by decide +kernel
theorem dX6_readTruth_26 : decode cX6_readTruth 26 = .ok (.ifCond .eq 25, 3) := by decide +kernel
theorem dX6_readTruth_29 : decode cX6_readTruth 29 = .ok (.aload_n 0, 1) := by decide +kernel
theorem dX6_readTruth_30 : decode cX6_readTruth 30 = .ok (.invokevirtual 55, 3) := by decide +kernel
theorem dX6_readTruth_33 : decode cX6_readTruth 33 = .ok (.aload_n 0, 1) := by decide +kernel
theorem dX6_readTruth_34 : decode cX6_readTruth 34 = .ok (.iload_n 1, 1) := by decide +kernel
theorem dX6_readTruth_35 : decode cX6_readTruth 35 = .ok (.invokevirtual 199, 3) := by decide +kernel
theorem dX6_readTruth_38 : decode cX6_readTruth 38 = .ok (.istore_n 2, 1) := by decide +kernel
theorem dX6_readTruth_39 : decode cX6_readTruth 39 = .ok (.aload_n 0, 1) := by decide +kernel
theorem dX6_readTruth_40 : decode cX6_readTruth 40 = .ok (.bipush (-8), 2) := by decide +kernel
theorem dX6_readTruth_42 : decode cX6_readTruth 42 = .ok (.invokevirtual 156, 3) := by decide +kernel
theorem dX6_readTruth_45 : decode cX6_readTruth 45 = .ok (.iinc 3 1, 3) := by decide +kernel
theorem dX6_readTruth_48 : decode cX6_readTruth 48 = .ok (.goto (-40), 3) := by decide +kernel
theorem dX6_readTruth_51 : decode cX6_readTruth 51 = .ok (.iload_n 2, 1) := by decide +kernel
theorem dX6_readTruth_52 : decode cX6_readTruth 52 = .ok (.ireturn, 1) := by decide +kernel
theorem dX6_readBoth_0 : decode cX6_readBoth 0 = .ok (.aload_n 0, 1) := by decide +kernel
theorem dX6_readBoth_1 : decode cX6_readBoth 1 = .ok (.iload_n 1, 1) := by decide +kernel
theorem dX6_readBoth_2 : decode cX6_readBoth 2 = .ok (.invokevirtual 204, 3) := by decide +kernel
theorem dX6_readBoth_5 : decode cX6_readBoth 5 = .ok (.istore_n 2, 1) := by decide +kernel
theorem dX6_readBoth_6 : decode cX6_readBoth 6 = .ok (.iconst 0, 1) := by decide +kernel
theorem dX6_readBoth_7 : decode cX6_readBoth 7 = .ok (.istore_n 3, 1) := by decide +kernel
theorem dX6_readBoth_8 : decode cX6_readBoth 8 = .ok (.iload_n 3, 1) := by decide +kernel
theorem dX6_readBoth_9 : decode cX6_readBoth 9 = .ok (.aload_n 0, 1) := by decide +kernel
theorem dX6_readBoth_10 : decode cX6_readBoth 10 = .ok (.getfield 22, 3) := by decide +kernel
theorem dX6_readBoth_13 : decode cX6_readBoth 13 = .ok (.if_icmp .ge 38, 3) := by decide +kernel
theorem dX6_readBoth_16 : decode cX6_readBoth 16 = .ok (.iload_n 2, 1) := by decide +kernel
theorem dX6_readBoth_17 : decode cX6_readBoth 17 = .ok (.ifCond .eq 34, 3) := by decide +kernel
theorem dX6_readBoth_20 : decode cX6_readBoth 20 = .ok (.aload_n 0, 1) := by decide +kernel
theorem dX6_readBoth_21 : decode cX6_readBoth 21 = .ok (.ldc 207, 2) := by decide +kernel
theorem dX6_readBoth_23 : decode cX6_readBoth 23 = .ok (.invokevirtual 88, 3) := by decide +kernel
theorem dX6_readBoth_26 : decode cX6_readBoth 26 = .ok (.ifCond .eq 25, 3) := by decide +kernel
theorem dX6_readBoth_29 : decode cX6_readBoth 29 = .ok (.aload_n 0, 1) := by decide +kernel
theorem dX6_readBoth_30 : decode cX6_readBoth 30 = .ok (.invokevirtual 55, 3) := by decide +kernel
theorem dX6_readBoth_33 : decode cX6_readBoth 33 = .ok (.aload_n 0, 1) := by decide +kernel
theorem dX6_readBoth_34 : decode cX6_readBoth 34 = .ok (.iload_n 1, 1) := by decide +kernel
theorem dX6_readBoth_35 : decode cX6_readBoth 35 = .ok (.invokevirtual 204, 3) := by decide +kernel
theorem dX6_readBoth_38 : decode cX6_readBoth 38 = .ok (.istore_n 2, 1) := by decide +kernel
theorem dX6_readBoth_39 : decode cX6_readBoth 39 = .ok (.aload_n 0, 1) := by decide +kernel
theorem dX6_readBoth_40 : decode cX6_readBoth 40 = .ok (.bipush (-7), 2) := by decide +kernel
theorem dX6_readBoth_42 : decode cX6_readBoth 42 = .ok (.invokevirtual 156, 3) := by decide +kernel
theorem dX6_readBoth_45 : decode cX6_readBoth 45 = .ok (.iinc 3 1, 3) := by decide +kernel
theorem dX6_readBoth_48 : decode cX6_readBoth 48 = .ok (.goto (-40), 3) := by decide +kernel
theorem dX6_readBoth_51 : decode cX6_readBoth 51 = .ok (.iload_n 2, 1) := by decide +kernel
theorem dX6_readBoth_52 : decode cX6_readBoth 52 = .ok (.ireturn, 1) := by decide +kernel
theorem dX6_readUnit_0 : decode cX6_readUnit 0 = .ok (.aload_n 0, 1) := by decide +kernel
theorem dX6_readUnit_1 : decode cX6_readUnit 1 = .ok (.ldc 209, 2) := by decide +kernel
theorem dX6_readUnit_3 : decode cX6_readUnit 3 = .ok (.invokevirtual 88, 3) := by decide +kernel
theorem dX6_readUnit_6 : decode cX6_readUnit 6 = .ok (.ifCond .eq 35, 3) := by decide +kernel
theorem dX6_readUnit_9 : decode cX6_readUnit 9 = .ok (.aload_n 0, 1) := by decide +kernel
theorem dX6_readUnit_10 : decode cX6_readUnit 10 = .ok (.iload_n 1, 1) := by decide +kernel
theorem dX6_readUnit_11 : decode cX6_readUnit 11 = .ok (.invokevirtual 167, 3) := by decide +kernel
theorem dX6_readUnit_14 : decode cX6_readUnit 14 = .ok (.ifCond .eq 17, 3) := by decide +kernel
theorem dX6_readUnit_17 : decode cX6_readUnit 17 = .ok (.aload_n 0, 1) := by decide +kernel
theorem dX6_readUnit_18 : decode cX6_readUnit 18 = .ok (.iload_n 1, 1) := by decide +kernel
theorem dX6_readUnit_19 : decode cX6_readUnit 19 = .ok (.iconst 1, 1) := by decide +kernel
theorem dX6_readUnit_20 : decode cX6_readUnit 20 = .ok (.iadd, 1) := by decide +kernel
theorem dX6_readUnit_21 : decode cX6_readUnit 21 = .ok (.invokevirtual 204, 3) := by decide +kernel
theorem dX6_readUnit_24 : decode cX6_readUnit 24 = .ok (.ifCond .eq 7, 3) := by decide +kernel
theorem dX6_readUnit_27 : decode cX6_readUnit 27 = .ok (.iconst 1, 1) := by decide +kernel
theorem dX6_readUnit_28 : decode cX6_readUnit 28 = .ok (.goto 4, 3) := by decide +kernel
theorem dX6_readUnit_31 : decode cX6_readUnit 31 = .ok (.iconst 0, 1) := by decide +kernel
theorem dX6_readUnit_32 : decode cX6_readUnit 32 = .ok (.istore_n 2, 1) := by decide +kernel
theorem dX6_readUnit_33 : decode cX6_readUnit 33 = .ok (.aload_n 0, 1) := by decide +kernel
theorem dX6_readUnit_34 : decode cX6_readUnit 34 = .ok (.bipush (-9), 2) := by decide +kernel
theorem dX6_readUnit_36 : decode cX6_readUnit 36 = .ok (.invokevirtual 156, 3) := by decide +kernel
theorem dX6_readUnit_39 : decode cX6_readUnit 39 = .ok (.iload_n 2, 1) := by decide +kernel
theorem dX6_readUnit_40 : decode cX6_readUnit 40 = .ok (.ireturn, 1) := by decide +kernel
theorem dX6_readUnit_41 : decode cX6_readUnit 41 = .ok (.aload_n 0, 1) := by decide +kernel
theorem dX6_readUnit_42 : decode cX6_readUnit 42 = .ok (.ldc 211, 2) := by decide +kernel
theorem dX6_readUnit_44 : decode cX6_readUnit 44 = .ok (.invokevirtual 88, 3) := by decide +kernel
theorem dX6_readUnit_47 : decode cX6_readUnit 47 = .ok (.ifCond .eq 36, 3) := by decide +kernel
theorem dX6_readUnit_50 : decode cX6_readUnit 50 = .ok (.aload_n 0, 1) := by decide +kernel
theorem dX6_readUnit_51 : decode cX6_readUnit 51 = .ok (.iload_n 1, 1) := by decide +kernel
theorem dX6_readUnit_52 : decode cX6_readUnit 52 = .ok (.invokevirtual 167, 3) := by decide +kernel
theorem dX6_readUnit_55 : decode cX6_readUnit 55 = .ok (.ifCond .eq 26, 3) := by decide +kernel
theorem dX6_readUnit_58 : decode cX6_readUnit 58 = .ok (.aload_n 0, 1) := by decide +kernel
theorem dX6_readUnit_59 : decode cX6_readUnit 59 = .ok (.iload_n 1, 1) := by decide +kernel
theorem dX6_readUnit_60 : decode cX6_readUnit 60 = .ok (.iconst 1, 1) := by decide +kernel
theorem dX6_readUnit_61 : decode cX6_readUnit 61 = .ok (.iadd, 1) := by decide +kernel
theorem dX6_readUnit_62 : decode cX6_readUnit 62 = .ok (.invokevirtual 174, 3) := by decide +kernel
theorem dX6_readUnit_65 : decode cX6_readUnit 65 = .ok (.ifCond .eq 16, 3) := by decide +kernel
theorem dX6_readUnit_68 : decode cX6_readUnit 68 = .ok (.aload_n 0, 1) := by decide +kernel
theorem dX6_readUnit_69 : decode cX6_readUnit 69 = .ok (.ldc 213, 2) := by decide +kernel
theorem dX6_readUnit_71 : decode cX6_readUnit 71 = .ok (.invokevirtual 67, 3) := by decide +kernel
theorem dX6_readUnit_74 : decode cX6_readUnit 74 = .ok (.ifCond .eq 7, 3) := by decide +kernel
theorem dX6_readUnit_77 : decode cX6_readUnit 77 = .ok (.iconst 1, 1) := by decide +kernel
theorem dX6_readUnit_78 : decode cX6_readUnit 78 = .ok (.goto 4, 3) := by decide +kernel
theorem dX6_readUnit_81 : decode cX6_readUnit 81 = .ok (.iconst 0, 1) := by decide +kernel
theorem dX6_readUnit_82 : decode cX6_readUnit 82 = .ok (.ireturn, 1) := by decide +kernel
theorem dX6_readUnit_83 : decode cX6_readUnit 83 = .ok (.aload_n 0, 1) := by decide +kernel
theorem dX6_readUnit_84 : decode cX6_readUnit 84 = .ok (.iload_n 1, 1) := by decide +kernel
theorem dX6_readUnit_85 : decode cX6_readUnit 85 = .ok (.invokevirtual 132, 3) := by decide +kernel
theorem dX6_readUnit_88 : decode cX6_readUnit 88 = .ok (.ifCond .ne 5, 3) := by decide +kernel
theorem dX6_readUnit_91 : decode cX6_readUnit 91 = .ok (.iconst 0, 1) := by decide +kernel
theorem dX6_readUnit_92 : decode cX6_readUnit 92 = .ok (.ireturn, 1) := by decide +kernel
theorem dX6_readUnit_93 : decode cX6_readUnit 93 = .ok (.aload_n 0, 1) := by decide +kernel
theorem dX6_readUnit_94 : decode cX6_readUnit 94 = .ok (.ldc 215, 2) := by decide +kernel
theorem dX6_readUnit_96 : decode cX6_readUnit 96 = .ok (.invokevirtual 88, 3) := by decide +kernel
theorem dX6_readUnit_99 : decode cX6_readUnit 99 = .ok (.ifCond .eq 8, 3) := by decide +kernel
theorem dX6_readUnit_102 : decode cX6_readUnit 102 = .ok (.bipush (-4), 2) := by decide +kernel
theorem dX6_readUnit_104 : decode cX6_readUnit 104 = .ok (.goto 19, 3) := by decide +kernel
theorem dX6_readUnit_107 : decode cX6_readUnit 107 = .ok (.aload_n 0, 1) := by decide +kernel
theorem dX6_readUnit_108 : decode cX6_readUnit 108 = .ok (.ldc 217, 2) := by decide +kernel
theorem dX6_readUnit_110 : decode cX6_readUnit 110 = .ok (.invokevirtual 88, 3) := by decide +kernel
theorem dX6_readUnit_113 : decode cX6_readUnit 113 = .ok (.ifCond .eq 8, 3) := by decide +kernel
theorem dX6_readUnit_116 : decode cX6_readUnit 116 = .ok (.bipush (-5), 2) := by decide +kernel
theorem dX6_readUnit_118 : decode cX6_readUnit 118 = .ok (.goto 5, 3) := by decide +kernel
theorem dX6_readUnit_121 : decode cX6_readUnit 121 = .ok (.bipush (-6), 2) := by decide +kernel
theorem dX6_readUnit_123 : decode cX6_readUnit 123 = .ok (.istore_n 2, 1) := by decide +kernel
theorem dX6_readUnit_124 : decode cX6_readUnit 124 = .ok (.iload_n 2, 1) := by decide +kernel
theorem dX6_readUnit_125 : decode cX6_readUnit 125 = .ok (.bipush (-6), 2) := by decide +kernel
theorem dX6_readUnit_127 : decode cX6_readUnit 127 = .ok (.if_icmp .ne 18, 3) := by decide +kernel
theorem dX6_readUnit_130 : decode cX6_readUnit 130 = .ok (.aload_n 0, 1) := by decide +kernel
theorem dX6_readUnit_131 : decode cX6_readUnit 131 = .ok (.ldc 219, 2) := by decide +kernel
theorem dX6_readUnit_133 : decode cX6_readUnit 133 = .ok (.invokevirtual 88, 3) := by decide +kernel
theorem dX6_readUnit_136 : decode cX6_readUnit 136 = .ok (.ifCond .ne 9, 3) := by decide +kernel
theorem dX6_readUnit_139 : decode cX6_readUnit 139 = .ok (.aload_n 0, 1) := by decide +kernel
theorem dX6_readUnit_140 : decode cX6_readUnit 140 = .ok (.iconst 2, 1) := by decide +kernel
theorem dX6_readUnit_141 : decode cX6_readUnit 141 = .ok (.invokevirtual 110, 3) := by decide +kernel
theorem dX6_readUnit_144 : decode cX6_readUnit 144 = .ok (.ireturn, 1) := by decide +kernel
theorem dX6_readUnit_145 : decode cX6_readUnit 145 = .ok (.aload_n 0, 1) := by decide +kernel
theorem dX6_readUnit_146 : decode cX6_readUnit 146 = .ok (.invokevirtual 55, 3) := by decide +kernel
theorem dX6_readUnit_149 : decode cX6_readUnit 149 = .ok (.aload_n 0, 1) := by decide +kernel
theorem dX6_readUnit_150 : decode cX6_readUnit 150 = .ok (.iload_n 1, 1) := by decide +kernel
theorem dX6_readUnit_151 : decode cX6_readUnit 151 = .ok (.invokevirtual 132, 3) := by decide +kernel
theorem dX6_readUnit_154 : decode cX6_readUnit 154 = .ok (.istore_n 3, 1) := by decide +kernel
theorem dX6_readUnit_155 : decode cX6_readUnit 155 = .ok (.aload_n 0, 1) := by decide +kernel
theorem dX6_readUnit_156 : decode cX6_readUnit 156 = .ok (.iload_n 2, 1) := by decide +kernel
theorem dX6_readUnit_157 : decode cX6_readUnit 157 = .ok (.invokevirtual 156, 3) := by decide +kernel
theorem dX6_readUnit_160 : decode cX6_readUnit 160 = .ok (.iload_n 3, 1) := by decide +kernel
theorem dX6_readUnit_161 : decode cX6_readUnit 161 = .ok (.ireturn, 1) := by decide +kernel
theorem dX6_deeper_0 : decode cX6_deeper 0 = .ok (.iload_n 1, 1) := by decide +kernel
theorem dX6_deeper_1 : decode cX6_deeper 1 = .ok (.bipush 6, 2) := by decide +kernel
theorem dX6_deeper_3 : decode cX6_deeper 3 = .ok (.if_icmp .lt 9, 3) := by decide +kernel
theorem dX6_deeper_6 : decode cX6_deeper 6 = .ok (.aload_n 0, 1) := by decide +kernel
theorem dX6_deeper_7 : decode cX6_deeper 7 = .ok (.iconst 4, 1) := by decide +kernel
theorem dX6_deeper_8 : decode cX6_deeper 8 = .ok (.invokevirtual 110, 3) := by decide +kernel
theorem dX6_deeper_11 : decode cX6_deeper 11 = .ok (.ireturn, 1) := by decide +kernel
theorem dX6_deeper_12 : decode cX6_deeper 12 = .ok (.aload_n 0, 1) := by decide +kernel
theorem dX6_deeper_13 : decode cX6_deeper 13 = .ok (.invokevirtual 55, 3) := by decide +kernel
theorem dX6_deeper_16 : decode cX6_deeper 16 = .ok (.iconst 1, 1) := by decide +kernel
theorem dX6_deeper_17 : decode cX6_deeper 17 = .ok (.ireturn, 1) := by decide +kernel
theorem dX6_emit_0 : decode cX6_emit 0 = .ok (.aload_n 0, 1) := by decide +kernel
theorem dX6_emit_1 : decode cX6_emit 1 = .ok (.getfield 52, 3) := by decide +kernel
theorem dX6_emit_4 : decode cX6_emit 4 = .ok (.aload_n 0, 1) := by decide +kernel
theorem dX6_emit_5 : decode cX6_emit 5 = .ok (.getfield 48, 3) := by decide +kernel
theorem dX6_emit_8 : decode cX6_emit 8 = .ok (.arraylength, 1) := by decide +kernel
theorem dX6_emit_9 : decode cX6_emit 9 = .ok (.if_icmp .ge 23, 3) := by decide +kernel
theorem dX6_emit_12 : decode cX6_emit 12 = .ok (.aload_n 0, 1) := by decide +kernel
theorem dX6_emit_13 : decode cX6_emit 13 = .ok (.getfield 48, 3) := by decide +kernel
theorem dX6_emit_16 : decode cX6_emit 16 = .ok (.aload_n 0, 1) := by decide +kernel
theorem dX6_emit_17 : decode cX6_emit 17 = .ok (.getfield 52, 3) := by decide +kernel
theorem dX6_emit_20 : decode cX6_emit 20 = .ok (.iload_n 1, 1) := by decide +kernel
theorem dX6_emit_21 : decode cX6_emit 21 = .ok (.iastore, 1) := by decide +kernel
theorem dX6_emit_22 : decode cX6_emit 22 = .ok (.aload_n 0, 1) := by decide +kernel
theorem dX6_emit_23 : decode cX6_emit 23 = .ok (.dup, 1) := by decide +kernel
theorem dX6_emit_24 : decode cX6_emit 24 = .ok (.getfield 52, 3) := by decide +kernel
theorem dX6_emit_27 : decode cX6_emit 27 = .ok (.iconst 1, 1) := by decide +kernel
theorem dX6_emit_28 : decode cX6_emit 28 = .ok (.iadd, 1) := by decide +kernel
theorem dX6_emit_29 : decode cX6_emit 29 = .ok (.putfield 52, 3) := by decide +kernel
theorem dX6_emit_32 : decode cX6_emit 32 = .ok (.return_, 1) := by decide +kernel
theorem dX6_take_0 : decode cX6_take 0 = .ok (.aload_n 0, 1) := by decide +kernel
theorem dX6_take_1 : decode cX6_take 1 = .ok (.aload_n 1, 1) := by decide +kernel
theorem dX6_take_2 : decode cX6_take 2 = .ok (.invokevirtual 88, 3) := by decide +kernel
theorem dX6_take_5 : decode cX6_take 5 = .ok (.ifCond .ne 9, 3) := by decide +kernel
theorem dX6_take_8 : decode cX6_take 8 = .ok (.aload_n 0, 1) := by decide +kernel
theorem dX6_take_9 : decode cX6_take 9 = .ok (.iconst 2, 1) := by decide +kernel
theorem dX6_take_10 : decode cX6_take 10 = .ok (.invokevirtual 110, 3) := by decide +kernel
theorem dX6_take_13 : decode cX6_take 13 = .ok (.ireturn, 1) := by decide +kernel
theorem dX6_take_14 : decode cX6_take 14 = .ok (.aload_n 0, 1) := by decide +kernel
theorem dX6_take_15 : decode cX6_take 15 = .ok (.invokevirtual 55, 3) := by decide +kernel
theorem dX6_take_18 : decode cX6_take 18 = .ok (.iconst 1, 1) := by decide +kernel
theorem dX6_take_19 : decode cX6_take 19 = .ok (.ireturn, 1) := by decide +kernel
theorem dX6_takeNumber_0 : decode cX6_takeNumber 0 = .ok (.aload_n 0, 1) := by decide +kernel
theorem dX6_takeNumber_1 : decode cX6_takeNumber 1 = .ok (.getfield 31, 3) := by decide +kernel
theorem dX6_takeNumber_4 : decode cX6_takeNumber 4 = .ok (.iconst 1, 1) := by decide +kernel
theorem dX6_takeNumber_5 : decode cX6_takeNumber 5 = .ok (.if_icmp .eq 11, 3) := by decide +kernel
theorem dX6_takeNumber_8 : decode cX6_takeNumber 8 = .ok (.aload_n 0, 1) := by decide +kernel
theorem dX6_takeNumber_9 : decode cX6_takeNumber 9 = .ok (.iconst 2, 1) := by decide +kernel
theorem dX6_takeNumber_10 : decode cX6_takeNumber 10 = .ok (.invokevirtual 110, 3) := by decide +kernel
theorem dX6_takeNumber_13 : decode cX6_takeNumber 13 = .ok (.pop, 1) := by decide +kernel
theorem dX6_takeNumber_14 : decode cX6_takeNumber 14 = .ok (.iconst 0, 1) := by decide +kernel
theorem dX6_takeNumber_15 : decode cX6_takeNumber 15 = .ok (.ireturn, 1) := by decide +kernel
theorem dX6_takeNumber_16 : decode cX6_takeNumber 16 = .ok (.aload_n 0, 1) := by decide +kernel
theorem dX6_takeNumber_17 : decode cX6_takeNumber 17 = .ok (.getfield 34, 3) := by decide +kernel
theorem dX6_takeNumber_20 : decode cX6_takeNumber 20 = .ok (.istore_n 3, 1) := by decide +kernel
theorem dX6_takeNumber_21 : decode cX6_takeNumber 21 = .ok (.iload_n 3, 1) := by decide +kernel
theorem dX6_takeNumber_22 : decode cX6_takeNumber 22 = .ok (.iload_n 1, 1) := by decide +kernel
theorem dX6_takeNumber_23 : decode cX6_takeNumber 23 = .ok (.if_icmp .lt 8, 3) := by decide +kernel
theorem dX6_takeNumber_26 : decode cX6_takeNumber 26 = .ok (.iload_n 3, 1) := by decide +kernel
theorem dX6_takeNumber_27 : decode cX6_takeNumber 27 = .ok (.iload_n 2, 1) := by decide +kernel
theorem dX6_takeNumber_28 : decode cX6_takeNumber 28 = .ok (.if_icmp .le 11, 3) := by decide +kernel
theorem dX6_takeNumber_31 : decode cX6_takeNumber 31 = .ok (.aload_n 0, 1) := by decide +kernel
theorem dX6_takeNumber_32 : decode cX6_takeNumber 32 = .ok (.iconst 3, 1) := by decide +kernel
theorem dX6_takeNumber_33 : decode cX6_takeNumber 33 = .ok (.invokevirtual 110, 3) := by decide +kernel
theorem dX6_takeNumber_36 : decode cX6_takeNumber 36 = .ok (.pop, 1) := by decide +kernel
theorem dX6_takeNumber_37 : decode cX6_takeNumber 37 = .ok (.iconst 0, 1) := by decide +kernel
theorem dX6_takeNumber_38 : decode cX6_takeNumber 38 = .ok (.ireturn, 1) := by decide +kernel
theorem dX6_takeNumber_39 : decode cX6_takeNumber 39 = .ok (.aload_n 0, 1) := by decide +kernel
theorem dX6_takeNumber_40 : decode cX6_takeNumber 40 = .ok (.invokevirtual 55, 3) := by decide +kernel
theorem dX6_takeNumber_43 : decode cX6_takeNumber 43 = .ok (.iload_n 3, 1) := by decide +kernel
theorem dX6_takeNumber_44 : decode cX6_takeNumber 44 = .ok (.ireturn, 1) := by decide +kernel
theorem dX6_wrong_0 : decode cX6_wrong 0 = .ok (.aload_n 0, 1) := by decide +kernel
theorem dX6_wrong_1 : decode cX6_wrong 1 = .ok (.getfield 9, 3) := by decide +kernel
theorem dX6_wrong_4 : decode cX6_wrong 4 = .ok (.ifCond .ne 28, 3) := by decide +kernel
theorem dX6_wrong_7 : decode cX6_wrong 7 = .ok (.aload_n 0, 1) := by decide +kernel
theorem dX6_wrong_8 : decode cX6_wrong 8 = .ok (.aload_n 0, 1) := by decide +kernel
theorem dX6_wrong_9 : decode cX6_wrong 9 = .ok (.getfield 31, 3) := by decide +kernel
theorem dX6_wrong_12 : decode cX6_wrong 12 = .ok (.iconst 4, 1) := by decide +kernel
theorem dX6_wrong_13 : decode cX6_wrong 13 = .ok (.if_icmp .ne 7, 3) := by decide +kernel
theorem dX6_wrong_16 : decode cX6_wrong 16 = .ok (.iconst 1, 1) := by decide +kernel
theorem dX6_wrong_17 : decode cX6_wrong 17 = .ok (.goto 4, 3) := by decide +kernel
theorem dX6_wrong_20 : decode cX6_wrong 20 = .ok (.iload_n 1, 1) := by decide +kernel
theorem dX6_wrong_21 : decode cX6_wrong 21 = .ok (.putfield 9, 3) := by decide +kernel
theorem dX6_wrong_24 : decode cX6_wrong 24 = .ok (.aload_n 0, 1) := by decide +kernel
theorem dX6_wrong_25 : decode cX6_wrong 25 = .ok (.aload_n 0, 1) := by decide +kernel
theorem dX6_wrong_26 : decode cX6_wrong 26 = .ok (.getfield 25, 3) := by decide +kernel
theorem dX6_wrong_29 : decode cX6_wrong 29 = .ok (.putfield 15, 3) := by decide +kernel
theorem dX6_wrong_32 : decode cX6_wrong 32 = .ok (.iconst 0, 1) := by decide +kernel
theorem dX6_wrong_33 : decode cX6_wrong 33 = .ok (.ireturn, 1) := by decide +kernel
theorem dX6_is_0 : decode cX6_is 0 = .ok (.aload_n 0, 1) := by decide +kernel
theorem dX6_is_1 : decode cX6_is 1 = .ok (.getfield 31, 3) := by decide +kernel
theorem dX6_is_4 : decode cX6_is 4 = .ok (.ifCond .eq 11, 3) := by decide +kernel
theorem dX6_is_7 : decode cX6_is 7 = .ok (.aload_n 0, 1) := by decide +kernel
theorem dX6_is_8 : decode cX6_is 8 = .ok (.getfield 31, 3) := by decide +kernel
theorem dX6_is_11 : decode cX6_is 11 = .ok (.iconst 2, 1) := by decide +kernel
theorem dX6_is_12 : decode cX6_is 12 = .ok (.if_icmp .ne 19, 3) := by decide +kernel
theorem dX6_is_15 : decode cX6_is 15 = .ok (.aload_n 0, 1) := by decide +kernel
theorem dX6_is_16 : decode cX6_is 16 = .ok (.getfield 28, 3) := by decide +kernel
theorem dX6_is_19 : decode cX6_is 19 = .ok (.aload_n 0, 1) := by decide +kernel
theorem dX6_is_20 : decode cX6_is 20 = .ok (.getfield 25, 3) := by decide +kernel
theorem dX6_is_23 : decode cX6_is 23 = .ok (.isub, 1) := by decide +kernel
theorem dX6_is_24 : decode cX6_is 24 = .ok (.aload_n 1, 1) := by decide +kernel
theorem dX6_is_25 : decode cX6_is 25 = .ok (.invokevirtual 221, 3) := by decide +kernel
theorem dX6_is_28 : decode cX6_is 28 = .ok (.if_icmp .eq 5, 3) := by decide +kernel
theorem dX6_is_31 : decode cX6_is 31 = .ok (.iconst 0, 1) := by decide +kernel
theorem dX6_is_32 : decode cX6_is 32 = .ok (.ireturn, 1) := by decide +kernel
theorem dX6_is_33 : decode cX6_is 33 = .ok (.iconst 0, 1) := by decide +kernel
theorem dX6_is_34 : decode cX6_is 34 = .ok (.istore_n 2, 1) := by decide +kernel
theorem dX6_is_35 : decode cX6_is 35 = .ok (.iload_n 2, 1) := by decide +kernel
