theorem dX12_nextBest_23 : decode cX12_nextBest 23 = .ok (.aload_n 0, 1) := by decide +kernel
theorem dX12_nextBest_24 : decode cX12_nextBest 24 = .ok (.iload_n 1, 1) := by decide +kernel
theorem dX12_nextBest_25 : decode cX12_nextBest 25 = .ok (.invokevirtual 256, 3) := by decide +kernel
theorem dX12_nextBest_28 : decode cX12_nextBest 28 = .ok (.ifCond .ne 60, 3) := by decide +kernel
theorem dX12_nextBest_31 : decode cX12_nextBest 31 = .ok (.iload_n 1, 1) := by decide +kernel
theorem dX12_nextBest_32 : decode cX12_nextBest 32 = .ok (.iload_n 2, 1) := by decide +kernel
theorem dX12_nextBest_33 : decode cX12_nextBest 33 = .ok (.invokestatic 268, 3) := by decide +kernel
theorem dX12_nextBest_36 : decode cX12_nextBest 36 = .ok (.istore_n 3, 1) := by decide +kernel
theorem dX12_nextBest_37 : decode cX12_nextBest 37 = .ok (.aload_n 0, 1) := by decide +kernel
theorem dX12_nextBest_38 : decode cX12_nextBest 38 = .ok (.aload_n 0, 1) := by decide +kernel
theorem dX12_nextBest_39 : decode cX12_nextBest 39 = .ok (.getfield 360, 3) := by decide +kernel
theorem dX12_nextBest_42 : decode cX12_nextBest 42 = .ok (.iload_n 1, 1) := by decide +kernel
theorem dX12_nextBest_43 : decode cX12_nextBest 43 = .ok (.iload_n 2, 1) := by decide +kernel
theorem dX12_nextBest_44 : decode cX12_nextBest 44 = .ok (.invokevirtual 259, 3) := by decide +kernel
theorem dX12_nextBest_47 : decode cX12_nextBest 47 = .ok (.aload_n 0, 1) := by decide +kernel
theorem dX12_nextBest_48 : decode cX12_nextBest 48 = .ok (.getfield 39, 3) := by decide +kernel
theorem dX12_nextBest_51 : decode cX12_nextBest 51 = .ok (.iload_n 3, 1) := by decide +kernel
theorem dX12_nextBest_52 : decode cX12_nextBest 52 = .ok (.iaload, 1) := by decide +kernel
theorem dX12_nextBest_53 : decode cX12_nextBest 53 = .ok (.iadd, 1) := by decide +kernel
theorem dX12_nextBest_54 : decode cX12_nextBest 54 = .ok (.aload_n 0, 1) := by decide +kernel
theorem dX12_nextBest_55 : decode cX12_nextBest 55 = .ok (.getfield 39, 3) := by decide +kernel
theorem dX12_nextBest_58 : decode cX12_nextBest 58 = .ok (.iload_n 1, 1) := by decide +kernel
theorem dX12_nextBest_59 : decode cX12_nextBest 59 = .ok (.iaload, 1) := by decide +kernel
theorem dX12_nextBest_60 : decode cX12_nextBest 60 = .ok (.if_icmp .ne 22, 3) := by decide +kernel
theorem dX12_nextBest_63 : decode cX12_nextBest 63 = .ok (.aload_n 0, 1) := by decide +kernel
theorem dX12_nextBest_64 : decode cX12_nextBest 64 = .ok (.getfield 42, 3) := by decide +kernel
theorem dX12_nextBest_67 : decode cX12_nextBest 67 = .ok (.iload_n 3, 1) := by decide +kernel
theorem dX12_nextBest_68 : decode cX12_nextBest 68 = .ok (.iaload, 1) := by decide +kernel
theorem dX12_nextBest_69 : decode cX12_nextBest 69 = .ok (.iconst 1, 1) := by decide +kernel
theorem dX12_nextBest_70 : decode cX12_nextBest 70 = .ok (.iadd, 1) := by decide +kernel
theorem dX12_nextBest_71 : decode cX12_nextBest 71 = .ok (.aload_n 0, 1) := by decide +kernel
theorem dX12_nextBest_72 : decode cX12_nextBest 72 = .ok (.getfield 42, 3) := by decide +kernel
theorem dX12_nextBest_75 : decode cX12_nextBest 75 = .ok (.iload_n 1, 1) := by decide +kernel
theorem dX12_nextBest_76 : decode cX12_nextBest 76 = .ok (.iaload, 1) := by decide +kernel
theorem dX12_nextBest_77 : decode cX12_nextBest 77 = .ok (.if_icmp .ne 5, 3) := by decide +kernel
theorem dX12_nextBest_80 : decode cX12_nextBest 80 = .ok (.iload_n 2, 1) := by decide +kernel
theorem dX12_nextBest_81 : decode cX12_nextBest 81 = .ok (.ireturn, 1) := by decide +kernel
theorem dX12_nextBest_82 : decode cX12_nextBest 82 = .ok (.iinc 2 1, 3) := by decide +kernel
theorem dX12_nextBest_85 : decode cX12_nextBest 85 = .ok (.goto (-72), 3) := by decide +kernel
theorem dX12_nextBest_88 : decode cX12_nextBest 88 = .ok (.bipush 9, 2) := by decide +kernel
theorem dX12_nextBest_90 : decode cX12_nextBest 90 = .ok (.ireturn, 1) := by decide +kernel
theorem dX12_doneTo_0 : decode cX12_doneTo 0 = .ok (.iload_n 2, 1) := by decide +kernel
theorem dX12_doneTo_1 : decode cX12_doneTo 1 = .ok (.bipush 9, 2) := by decide +kernel
theorem dX12_doneTo_3 : decode cX12_doneTo 3 = .ok (.if_icmp .ne 15, 3) := by decide +kernel
theorem dX12_doneTo_6 : decode cX12_doneTo 6 = .ok (.aload_n 0, 1) := by decide +kernel
theorem dX12_doneTo_7 : decode cX12_doneTo 7 = .ok (.aload_n 0, 1) := by decide +kernel
theorem dX12_doneTo_8 : decode cX12_doneTo 8 = .ok (.getfield 360, 3) := by decide +kernel
theorem dX12_doneTo_11 : decode cX12_doneTo 11 = .ok (.iload_n 1, 1) := by decide +kernel
theorem dX12_doneTo_12 : decode cX12_doneTo 12 = .ok (.invokevirtual 275, 3) := by decide +kernel
theorem dX12_doneTo_15 : decode cX12_doneTo 15 = .ok (.goto 8, 3) := by decide +kernel
theorem dX12_doneTo_18 : decode cX12_doneTo 18 = .ok (.iload_n 1, 1) := by decide +kernel
theorem dX12_doneTo_19 : decode cX12_doneTo 19 = .ok (.iload_n 2, 1) := by decide +kernel
theorem dX12_doneTo_20 : decode cX12_doneTo 20 = .ok (.invokestatic 268, 3) := by decide +kernel
theorem dX12_doneTo_23 : decode cX12_doneTo 23 = .ok (.ireturn, 1) := by decide +kernel
theorem dX12_best_0 : decode cX12_best 0 = .ok (.aload_n 0, 1) := by decide +kernel
theorem dX12_best_1 : decode cX12_best 1 = .ok (.iconst 0, 1) := by decide +kernel
theorem dX12_best_2 : decode cX12_best 2 = .ok (.putfield 1, 3) := by decide +kernel
theorem dX12_best_5 : decode cX12_best 5 = .ok (.aload_n 0, 1) := by decide +kernel
theorem dX12_best_6 : decode cX12_best 6 = .ok (.iload_n 1, 1) := by decide +kernel
theorem dX12_best_7 : decode cX12_best 7 = .ok (.i2l, 1) := by decide +kernel
theorem dX12_best_8 : decode cX12_best 8 = .ok (.invokevirtual 245, 3) := by decide +kernel
theorem dX12_best_11 : decode cX12_best 11 = .ok (.ifCond .ne 6, 3) := by decide +kernel
theorem dX12_best_14 : decode cX12_best 14 = .ok (.ldc 249, 2) := by decide +kernel
theorem dX12_best_16 : decode cX12_best 16 = .ok (.ireturn, 1) := by decide +kernel
theorem dX12_best_17 : decode cX12_best 17 = .ok (.aload_n 0, 1) := by decide +kernel
theorem dX12_best_18 : decode cX12_best 18 = .ok (.iload_n 1, 1) := by decide +kernel
theorem dX12_best_19 : decode cX12_best 19 = .ok (.invokevirtual 373, 3) := by decide +kernel
theorem dX12_best_22 : decode cX12_best 22 = .ok (.aload_n 0, 1) := by decide +kernel
theorem dX12_best_23 : decode cX12_best 23 = .ok (.aload_n 0, 1) := by decide +kernel
theorem dX12_best_24 : decode cX12_best 24 = .ok (.iload_n 1, 1) := by decide +kernel
theorem dX12_best_25 : decode cX12_best 25 = .ok (.invokevirtual 253, 3) := by decide +kernel
theorem dX12_best_28 : decode cX12_best 28 = .ok (.invokevirtual 367, 3) := by decide +kernel
theorem dX12_best_31 : decode cX12_best 31 = .ok (.aload_n 0, 1) := by decide +kernel
theorem dX12_best_32 : decode cX12_best 32 = .ok (.getfield 39, 3) := by decide +kernel
theorem dX12_best_35 : decode cX12_best 35 = .ok (.aload_n 0, 1) := by decide +kernel
theorem dX12_best_36 : decode cX12_best 36 = .ok (.iload_n 1, 1) := by decide +kernel
theorem dX12_best_37 : decode cX12_best 37 = .ok (.invokevirtual 253, 3) := by decide +kernel
theorem dX12_best_40 : decode cX12_best 40 = .ok (.iaload, 1) := by decide +kernel
theorem dX12_best_41 : decode cX12_best 41 = .ok (.ireturn, 1) := by decide +kernel
theorem dX12_courseAt_0 : decode cX12_courseAt 0 = .ok (.aload_n 0, 1) := by decide +kernel
theorem dX12_courseAt_1 : decode cX12_courseAt 1 = .ok (.iload_n 1, 1) := by decide +kernel
theorem dX12_courseAt_2 : decode cX12_courseAt 2 = .ok (.invokevirtual 373, 3) := by decide +kernel
theorem dX12_courseAt_5 : decode cX12_courseAt 5 = .ok (.aload_n 0, 1) := by decide +kernel
theorem dX12_courseAt_6 : decode cX12_courseAt 6 = .ok (.iload_n 1, 1) := by decide +kernel
theorem dX12_courseAt_7 : decode cX12_courseAt 7 = .ok (.invokevirtual 253, 3) := by decide +kernel
theorem dX12_courseAt_10 : decode cX12_courseAt 10 = .ok (.istore_n 3, 1) := by decide +kernel
theorem dX12_courseAt_11 : decode cX12_courseAt 11 = .ok (.aload_n 0, 1) := by decide +kernel
theorem dX12_courseAt_12 : decode cX12_courseAt 12 = .ok (.iload_n 3, 1) := by decide +kernel
theorem dX12_courseAt_13 : decode cX12_courseAt 13 = .ok (.invokevirtual 367, 3) := by decide +kernel
theorem dX12_courseAt_16 : decode cX12_courseAt 16 = .ok (.iconst 0, 1) := by decide +kernel
theorem dX12_courseAt_17 : decode cX12_courseAt 17 = .ok (.istore 4, 2) := by decide +kernel
theorem dX12_courseAt_19 : decode cX12_courseAt 19 = .ok (.iload 4, 2) := by decide +kernel
theorem dX12_courseAt_21 : decode cX12_courseAt 21 = .ok (.iload_n 2, 1) := by decide +kernel
theorem dX12_courseAt_22 : decode cX12_courseAt 22 = .ok (.if_icmp .ge 29, 3) := by decide +kernel
theorem dX12_courseAt_25 : decode cX12_courseAt 25 = .ok (.aload_n 0, 1) := by decide +kernel
theorem dX12_courseAt_26 : decode cX12_courseAt 26 = .ok (.getfield 42, 3) := by decide +kernel
theorem dX12_courseAt_29 : decode cX12_courseAt 29 = .ok (.iload_n 3, 1) := by decide +kernel
theorem dX12_courseAt_30 : decode cX12_courseAt 30 = .ok (.iaload, 1) := by decide +kernel
theorem dX12_courseAt_31 : decode cX12_courseAt 31 = .ok (.ifCond .le 20, 3) := by decide +kernel
theorem dX12_courseAt_34 : decode cX12_courseAt 34 = .ok (.aload_n 0, 1) := by decide +kernel
theorem dX12_courseAt_35 : decode cX12_courseAt 35 = .ok (.iload_n 3, 1) := by decide +kernel
theorem dX12_courseAt_36 : decode cX12_courseAt 36 = .ok (.aload_n 0, 1) := by decide +kernel
theorem dX12_courseAt_37 : decode cX12_courseAt 37 = .ok (.iload_n 3, 1) := by decide +kernel
theorem dX12_courseAt_38 : decode cX12_courseAt 38 = .ok (.invokevirtual 376, 3) := by decide +kernel
theorem dX12_courseAt_41 : decode cX12_courseAt 41 = .ok (.invokevirtual 379, 3) := by decide +kernel
theorem dX12_courseAt_44 : decode cX12_courseAt 44 = .ok (.istore_n 3, 1) := by decide +kernel
theorem dX12_courseAt_45 : decode cX12_courseAt 45 = .ok (.iinc 4 1, 3) := by decide +kernel
theorem dX12_courseAt_48 : decode cX12_courseAt 48 = .ok (.goto (-29), 3) := by decide +kernel
theorem dX12_courseAt_51 : decode cX12_courseAt 51 = .ok (.aload_n 0, 1) := by decide +kernel
theorem dX12_courseAt_52 : decode cX12_courseAt 52 = .ok (.iload_n 3, 1) := by decide +kernel
theorem dX12_courseAt_53 : decode cX12_courseAt 53 = .ok (.invokevirtual 376, 3) := by decide +kernel
theorem dX12_courseAt_56 : decode cX12_courseAt 56 = .ok (.ireturn, 1) := by decide +kernel
theorem dX12_course_0 : decode cX12_course 0 = .ok (.aload_n 0, 1) := by decide +kernel
theorem dX12_course_1 : decode cX12_course 1 = .ok (.iconst 0, 1) := by decide +kernel
theorem dX12_course_2 : decode cX12_course 2 = .ok (.putfield 1, 3) := by decide +kernel
theorem dX12_course_5 : decode cX12_course 5 = .ok (.aload_n 0, 1) := by decide +kernel
theorem dX12_course_6 : decode cX12_course 6 = .ok (.iload_n 1, 1) := by decide +kernel
theorem dX12_course_7 : decode cX12_course 7 = .ok (.i2l, 1) := by decide +kernel
theorem dX12_course_8 : decode cX12_course 8 = .ok (.invokevirtual 245, 3) := by decide +kernel
theorem dX12_course_11 : decode cX12_course 11 = .ok (.ifCond .ne 6, 3) := by decide +kernel
theorem dX12_course_14 : decode cX12_course 14 = .ok (.ldc 249, 2) := by decide +kernel
theorem dX12_course_16 : decode cX12_course 16 = .ok (.ireturn, 1) := by decide +kernel
theorem dX12_course_17 : decode cX12_course 17 = .ok (.iload_n 2, 1) := by decide +kernel
theorem dX12_course_18 : decode cX12_course 18 = .ok (.ifCond .ge 6, 3) := by decide +kernel
theorem dX12_course_21 : decode cX12_course 21 = .ok (.ldc 201, 2) := by decide +kernel
theorem dX12_course_23 : decode cX12_course 23 = .ok (.ireturn, 1) := by decide +kernel
theorem dX12_course_24 : decode cX12_course 24 = .ok (.aload_n 0, 1) := by decide +kernel
theorem dX12_course_25 : decode cX12_course 25 = .ok (.iload_n 1, 1) := by decide +kernel
theorem dX12_course_26 : decode cX12_course 26 = .ok (.iload_n 2, 1) := by decide +kernel
theorem dX12_course_27 : decode cX12_course 27 = .ok (.invokevirtual 382, 3) := by decide +kernel
theorem dX12_course_30 : decode cX12_course 30 = .ok (.ireturn, 1) := by decide +kernel
theorem dX12_drawsAt_0 : decode cX12_drawsAt 0 = .ok (.aload_n 0, 1) := by decide +kernel
theorem dX12_drawsAt_1 : decode cX12_drawsAt 1 = .ok (.iconst 0, 1) := by decide +kernel
theorem dX12_drawsAt_2 : decode cX12_drawsAt 2 = .ok (.putfield 1, 3) := by decide +kernel
theorem dX12_drawsAt_5 : decode cX12_drawsAt 5 = .ok (.aload_n 0, 1) := by decide +kernel
theorem dX12_drawsAt_6 : decode cX12_drawsAt 6 = .ok (.iload_n 1, 1) := by decide +kernel
theorem dX12_drawsAt_7 : decode cX12_drawsAt 7 = .ok (.i2l, 1) := by decide +kernel
theorem dX12_drawsAt_8 : decode cX12_drawsAt 8 = .ok (.invokevirtual 245, 3) := by decide +kernel
theorem dX12_drawsAt_11 : decode cX12_drawsAt 11 = .ok (.ifCond .ne 6, 3) := by decide +kernel
theorem dX12_drawsAt_14 : decode cX12_drawsAt 14 = .ok (.ldc 249, 2) := by decide +kernel
theorem dX12_drawsAt_16 : decode cX12_drawsAt 16 = .ok (.ireturn, 1) := by decide +kernel
theorem dX12_drawsAt_17 : decode cX12_drawsAt 17 = .ok (.aload_n 0, 1) := by decide +kernel
theorem dX12_drawsAt_18 : decode cX12_drawsAt 18 = .ok (.iload_n 1, 1) := by decide +kernel
theorem dX12_drawsAt_19 : decode cX12_drawsAt 19 = .ok (.invokevirtual 373, 3) := by decide +kernel
theorem dX12_drawsAt_22 : decode cX12_drawsAt 22 = .ok (.aload_n 0, 1) := by decide +kernel
theorem dX12_drawsAt_23 : decode cX12_drawsAt 23 = .ok (.iload_n 1, 1) := by decide +kernel
theorem dX12_drawsAt_24 : decode cX12_drawsAt 24 = .ok (.invokevirtual 253, 3) := by decide +kernel
theorem dX12_drawsAt_27 : decode cX12_drawsAt 27 = .ok (.istore_n 2, 1) := by decide +kernel
theorem dX12_drawsAt_28 : decode cX12_drawsAt 28 = .ok (.aload_n 0, 1) := by decide +kernel
theorem dX12_drawsAt_29 : decode cX12_drawsAt 29 = .ok (.iload_n 2, 1) := by decide +kernel
theorem dX12_drawsAt_30 : decode cX12_drawsAt 30 = .ok (.invokevirtual 367, 3) := by decide +kernel
theorem dX12_drawsAt_33 : decode cX12_drawsAt 33 = .ok (.aload_n 0, 1) := by decide +kernel
theorem dX12_drawsAt_34 : decode cX12_drawsAt 34 = .ok (.getfield 42, 3) := by decide +kernel
theorem dX12_drawsAt_37 : decode cX12_drawsAt 37 = .ok (.iload_n 2, 1) := by decide +kernel
theorem dX12_drawsAt_38 : decode cX12_drawsAt 38 = .ok (.iaload, 1) := by decide +kernel
theorem dX12_drawsAt_39 : decode cX12_drawsAt 39 = .ok (.ifCond .le 27, 3) := by decide +kernel
theorem dX12_drawsAt_42 : decode cX12_drawsAt 42 = .ok (.aload_n 0, 1) := by decide +kernel
theorem dX12_drawsAt_43 : decode cX12_drawsAt 43 = .ok (.iload_n 2, 1) := by decide +kernel
theorem dX12_drawsAt_44 : decode cX12_drawsAt 44 = .ok (.invokevirtual 376, 3) := by decide +kernel
theorem dX12_drawsAt_47 : decode cX12_drawsAt 47 = .ok (.bipush 9, 2) := by decide +kernel
theorem dX12_drawsAt_49 : decode cX12_drawsAt 49 = .ok (.if_icmp .eq 17, 3) := by decide +kernel
theorem dX12_drawsAt_52 : decode cX12_drawsAt 52 = .ok (.aload_n 0, 1) := by decide +kernel
theorem dX12_drawsAt_53 : decode cX12_drawsAt 53 = .ok (.iload_n 2, 1) := by decide +kernel
theorem dX12_drawsAt_54 : decode cX12_drawsAt 54 = .ok (.aload_n 0, 1) := by decide +kernel
theorem dX12_drawsAt_55 : decode cX12_drawsAt 55 = .ok (.iload_n 2, 1) := by decide +kernel
theorem dX12_drawsAt_56 : decode cX12_drawsAt 56 = .ok (.invokevirtual 376, 3) := by decide +kernel
theorem dX12_drawsAt_59 : decode cX12_drawsAt 59 = .ok (.invokevirtual 379, 3) := by decide +kernel
theorem dX12_drawsAt_62 : decode cX12_drawsAt 62 = .ok (.istore_n 2, 1) := by decide +kernel
theorem dX12_drawsAt_63 : decode cX12_drawsAt 63 = .ok (.goto (-30), 3) := by decide +kernel
theorem dX12_drawsAt_66 : decode cX12_drawsAt 66 = .ok (.aload_n 0, 1) := by decide +kernel
theorem dX12_drawsAt_67 : decode cX12_drawsAt 67 = .ok (.getfield 42, 3) := by decide +kernel
theorem dX12_drawsAt_70 : decode cX12_drawsAt 70 = .ok (.iload_n 2, 1) := by decide +kernel
theorem dX12_drawsAt_71 : decode cX12_drawsAt 71 = .ok (.iaload, 1) := by decide +kernel
theorem dX12_drawsAt_72 : decode cX12_drawsAt 72 = .ok (.ifCond .le 10, 3) := by decide +kernel
theorem dX12_drawsAt_75 : decode cX12_drawsAt 75 = .ok (.iload_n 2, 1) := by decide +kernel
theorem dX12_drawsAt_76 : decode cX12_drawsAt 76 = .ok (.invokestatic 224, 3) := by decide +kernel
theorem dX12_drawsAt_79 : decode cX12_drawsAt 79 = .ok (.goto 4, 3) := by decide +kernel
theorem dX12_drawsAt_82 : decode cX12_drawsAt 82 = .ok (.iconst (-1), 1) := by decide +kernel
theorem dX12_drawsAt_83 : decode cX12_drawsAt 83 = .ok (.ireturn, 1) := by decide +kernel
theorem dX12_coursesFrom_0 : decode cX12_coursesFrom 0 = .ok (.aload_n 0, 1) := by decide +kernel
theorem dX12_coursesFrom_1 : decode cX12_coursesFrom 1 = .ok (.getfield 49, 3) := by decide +kernel
theorem dX12_coursesFrom_4 : decode cX12_coursesFrom 4 = .ok (.iload_n 1, 1) := by decide +kernel
theorem dX12_coursesFrom_5 : decode cX12_coursesFrom 5 = .ok (.baload, 1) := by decide +kernel
theorem dX12_coursesFrom_6 : decode cX12_coursesFrom 6 = .ok (.ifCond .eq 10, 3) := by decide +kernel
theorem dX12_coursesFrom_9 : decode cX12_coursesFrom 9 = .ok (.aload_n 0, 1) := by decide +kernel
theorem dX12_coursesFrom_10 : decode cX12_coursesFrom 10 = .ok (.getfield 45, 3) := by decide +kernel
theorem dX12_coursesFrom_13 : decode cX12_coursesFrom 13 = .ok (.iload_n 1, 1) := by decide +kernel
theorem dX12_coursesFrom_14 : decode cX12_coursesFrom 14 = .ok (.laload, 1) := by decide +kernel
theorem dX12_coursesFrom_15 : decode cX12_coursesFrom 15 = .ok (.lreturn, 1) := by decide +kernel
theorem dX12_coursesFrom_16 : decode cX12_coursesFrom 16 = .ok (.aload_n 0, 1) := by decide +kernel
theorem dX12_coursesFrom_17 : decode cX12_coursesFrom 17 = .ok (.getfield 49, 3) := by decide +kernel
theorem dX12_coursesFrom_20 : decode cX12_coursesFrom 20 = .ok (.iload_n 1, 1) := by decide +kernel
theorem dX12_coursesFrom_21 : decode cX12_coursesFrom 21 = .ok (.iconst 1, 1) := by decide +kernel
theorem dX12_coursesFrom_22 : decode cX12_coursesFrom 22 = .ok (.bastore, 1) := by decide +kernel
theorem dX12_coursesFrom_23 : decode cX12_coursesFrom 23 = .ok (.aload_n 0, 1) := by decide +kernel
theorem dX12_coursesFrom_24 : decode cX12_coursesFrom 24 = .ok (.getfield 45, 3) := by decide +kernel
theorem dX12_coursesFrom_27 : decode cX12_coursesFrom 27 = .ok (.iload_n 1, 1) := by decide +kernel
theorem dX12_coursesFrom_28 : decode cX12_coursesFrom 28 = .ok (.aload_n 0, 1) := by decide +kernel
theorem dX12_coursesFrom_29 : decode cX12_coursesFrom 29 = .ok (.iload_n 1, 1) := by decide +kernel
theorem dX12_coursesFrom_30 : decode cX12_coursesFrom 30 = .ok (.invokevirtual 256, 3) := by decide +kernel
theorem dX12_coursesFrom_33 : decode cX12_coursesFrom 33 = .ok (.ifCond .eq 15, 3) := by decide +kernel
theorem dX12_coursesFrom_36 : decode cX12_coursesFrom 36 = .ok (.aload_n 0, 1) := by decide +kernel
theorem dX12_coursesFrom_37 : decode cX12_coursesFrom 37 = .ok (.iload_n 1, 1) := by decide +kernel
theorem dX12_coursesFrom_38 : decode cX12_coursesFrom 38 = .ok (.invokevirtual 370, 3) := by decide +kernel
theorem dX12_coursesFrom_41 : decode cX12_coursesFrom 41 = .ok (.ifCond .ne 7, 3) := by decide +kernel
theorem dX12_coursesFrom_44 : decode cX12_coursesFrom 44 = .ok (.lconst 1, 1) := by decide +kernel
theorem dX12_coursesFrom_45 : decode cX12_coursesFrom 45 = .ok (.goto 4, 3) := by decide +kernel
theorem dX12_coursesFrom_48 : decode cX12_coursesFrom 48 = .ok (.lconst 0, 1) := by decide +kernel
theorem dX12_coursesFrom_49 : decode cX12_coursesFrom 49 = .ok (.lastore, 1) := by decide +kernel
theorem dX12_coursesFrom_50 : decode cX12_coursesFrom 50 = .ok (.aload_n 0, 1) := by decide +kernel
theorem dX12_coursesFrom_51 : decode cX12_coursesFrom 51 = .ok (.getfield 45, 3) := by decide +kernel
theorem dX12_coursesFrom_54 : decode cX12_coursesFrom 54 = .ok (.iload_n 1, 1) := by decide +kernel
theorem dX12_coursesFrom_55 : decode cX12_coursesFrom 55 = .ok (.laload, 1) := by decide +kernel
theorem dX12_coursesFrom_56 : decode cX12_coursesFrom 56 = .ok (.lstore_n 2, 1) := by decide +kernel
theorem dX12_coursesFrom_57 : decode cX12_coursesFrom 57 = .ok (.iconst 0, 1) := by decide +kernel
theorem dX12_coursesFrom_58 : decode cX12_coursesFrom 58 = .ok (.istore 4, 2) := by decide +kernel
theorem dX12_coursesFrom_60 : decode cX12_coursesFrom 60 = .ok (.iload 4, 2) := by decide +kernel
theorem dX12_coursesFrom_62 : decode cX12_coursesFrom 62 = .ok (.aload_n 0, 1) := by decide +kernel
theorem dX12_coursesFrom_63 : decode cX12_coursesFrom 63 = .ok (.getfield 13, 3) := by decide +kernel
theorem dX12_coursesFrom_66 : decode cX12_coursesFrom 66 = .ok (.iconst 2, 1) := by decide +kernel
theorem dX12_coursesFrom_67 : decode cX12_coursesFrom 67 = .ok (.iaload, 1) := by decide +kernel
theorem dX12_coursesFrom_68 : decode cX12_coursesFrom 68 = .ok (.if_icmp .ge 30, 3) := by decide +kernel
theorem dX12_coursesFrom_71 : decode cX12_coursesFrom 71 = .ok (.aload_n 0, 1) := by decide +kernel
theorem dX12_coursesFrom_72 : decode cX12_coursesFrom 72 = .ok (.iload_n 1, 1) := by decide +kernel
theorem dX12_coursesFrom_73 : decode cX12_coursesFrom 73 = .ok (.invokevirtual 256, 3) := by decide +kernel
theorem dX12_coursesFrom_76 : decode cX12_coursesFrom 76 = .ok (.ifCond .ne 22, 3) := by decide +kernel
theorem dX12_coursesFrom_79 : decode cX12_coursesFrom 79 = .ok (.lload_n 2, 1) := by decide +kernel
theorem dX12_coursesFrom_80 : decode cX12_coursesFrom 80 = .ok (.aload_n 0, 1) := by decide +kernel
theorem dX12_coursesFrom_81 : decode cX12_coursesFrom 81 = .ok (.iload_n 1, 1) := by decide +kernel
theorem dX12_coursesFrom_82 : decode cX12_coursesFrom 82 = .ok (.iload 4, 2) := by decide +kernel
theorem dX12_coursesFrom_84 : decode cX12_coursesFrom 84 = .ok (.invokestatic 268, 3) := by decide +kernel
theorem dX12_coursesFrom_87 : decode cX12_coursesFrom 87 = .ok (.invokevirtual 385, 3) := by decide +kernel
theorem dX12_coursesFrom_90 : decode cX12_coursesFrom 90 = .ok (.ladd, 1) := by decide +kernel
theorem dX12_coursesFrom_91 : decode cX12_coursesFrom 91 = .ok (.lstore_n 2, 1) := by decide +kernel
theorem dX12_coursesFrom_92 : decode cX12_coursesFrom 92 = .ok (.iinc 4 1, 3) := by decide +kernel
theorem dX12_coursesFrom_95 : decode cX12_coursesFrom 95 = .ok (.goto (-35), 3) := by decide +kernel
theorem dX12_coursesFrom_98 : decode cX12_coursesFrom 98 = .ok (.aload_n 0, 1) := by decide +kernel
theorem dX12_coursesFrom_99 : decode cX12_coursesFrom 99 = .ok (.iload_n 1, 1) := by decide +kernel
theorem dX12_coursesFrom_100 : decode cX12_coursesFrom 100 = .ok (.invokevirtual 370, 3) := by decide +kernel
theorem dX12_coursesFrom_103 : decode cX12_coursesFrom 103 = .ok (.ifCond .eq 19, 3) := by decide +kernel
theorem dX12_coursesFrom_106 : decode cX12_coursesFrom 106 = .ok (.lload_n 2, 1) := by decide +kernel
theorem dX12_coursesFrom_107 : decode cX12_coursesFrom 107 = .ok (.aload_n 0, 1) := by decide +kernel
theorem dX12_coursesFrom_108 : decode cX12_coursesFrom 108 = .ok (.aload_n 0, 1) := by decide +kernel
theorem dX12_coursesFrom_109 : decode cX12_coursesFrom 109 = .ok (.aload_n 0, 1) := by decide +kernel
theorem dX12_coursesFrom_110 : decode cX12_coursesFrom 110 = .ok (.getfield 360, 3) := by decide +kernel
theorem dX12_coursesFrom_113 : decode cX12_coursesFrom 113 = .ok (.iload_n 1, 1) := by decide +kernel
theorem dX12_coursesFrom_114 : decode cX12_coursesFrom 114 = .ok (.invokevirtual 275, 3) := by decide +kernel
theorem dX12_coursesFrom_117 : decode cX12_coursesFrom 117 = .ok (.invokevirtual 385, 3) := by decide +kernel
theorem dX12_coursesFrom_120 : decode cX12_coursesFrom 120 = .ok (.ladd, 1) := by decide +kernel
theorem dX12_coursesFrom_121 : decode cX12_coursesFrom 121 = .ok (.lstore_n 2, 1) := by decide +kernel
theorem dX12_coursesFrom_122 : decode cX12_coursesFrom 122 = .ok (.aload_n 0, 1) := by decide +kernel
theorem dX12_coursesFrom_123 : decode cX12_coursesFrom 123 = .ok (.getfield 45, 3) := by decide +kernel
theorem dX12_coursesFrom_126 : decode cX12_coursesFrom 126 = .ok (.iload_n 1, 1) := by decide +kernel
theorem dX12_coursesFrom_127 : decode cX12_coursesFrom 127 = .ok (.lload_n 2, 1) := by decide +kernel
theorem dX12_coursesFrom_128 : decode cX12_coursesFrom 128 = .ok (.lastore, 1) := by decide +kernel
theorem dX12_coursesFrom_129 : decode cX12_coursesFrom 129 = .ok (.lload_n 2, 1) := by decide +kernel
theorem dX12_coursesFrom_130 : decode cX12_coursesFrom 130 = .ok (.lreturn, 1) := by decide +kernel
theorem dX12_courses_0 : decode cX12_courses 0 = .ok (.aload_n 0, 1) := by decide +kernel
theorem dX12_courses_1 : decode cX12_courses 1 = .ok (.iconst 0, 1) := by decide +kernel
theorem dX12_courses_2 : decode cX12_courses 2 = .ok (.putfield 1, 3) := by decide +kernel
theorem dX12_courses_5 : decode cX12_courses 5 = .ok (.aload_n 0, 1) := by decide +kernel
theorem dX12_courses_6 : decode cX12_courses 6 = .ok (.iload_n 1, 1) := by decide +kernel
theorem dX12_courses_7 : decode cX12_courses 7 = .ok (.i2l, 1) := by decide +kernel
theorem dX12_courses_8 : decode cX12_courses 8 = .ok (.invokevirtual 245, 3) := by decide +kernel
theorem dX12_courses_11 : decode cX12_courses 11 = .ok (.ifCond .ne 7, 3) := by decide +kernel
theorem dX12_courses_14 : decode cX12_courses 14 = .ok (.ldc2_w 389, 3) := by decide +kernel
theorem dX12_courses_17 : decode cX12_courses 17 = .ok (.lreturn, 1) := by decide +kernel
theorem dX12_courses_18 : decode cX12_courses 18 = .ok (.aload_n 0, 1) := by decide +kernel
theorem dX12_courses_19 : decode cX12_courses 19 = .ok (.iload_n 1, 1) := by decide +kernel
theorem dX12_courses_20 : decode cX12_courses 20 = .ok (.invokevirtual 373, 3) := by decide +kernel
theorem dX12_courses_23 : decode cX12_courses 23 = .ok (.aload_n 0, 1) := by decide +kernel
theorem dX12_courses_24 : decode cX12_courses 24 = .ok (.aload_n 0, 1) := by decide +kernel
theorem dX12_courses_25 : decode cX12_courses 25 = .ok (.iload_n 1, 1) := by decide +kernel
theorem dX12_courses_26 : decode cX12_courses 26 = .ok (.invokevirtual 253, 3) := by decide +kernel
theorem dX12_courses_29 : decode cX12_courses 29 = .ok (.invokevirtual 385, 3) := by decide +kernel
theorem dX12_courses_32 : decode cX12_courses 32 = .ok (.lreturn, 1) := by decide +kernel
theorem dX12_better_0 : decode cX12_better 0 = .ok (.iload_n 2, 1) := by decide +kernel
theorem dX12_better_1 : decode cX12_better 1 = .ok (.aload_n 0, 1) := by decide +kernel
theorem dX12_better_2 : decode cX12_better 2 = .ok (.getfield 55, 3) := by decide +kernel
theorem dX12_better_5 : decode cX12_better 5 = .ok (.iload_n 1, 1) := by decide +kernel
theorem dX12_better_6 : decode cX12_better 6 = .ok (.iaload, 1) := by decide +kernel
theorem dX12_better_7 : decode cX12_better 7 = .ok (.if_icmp .le 10, 3) := by decide +kernel
theorem dX12_better_10 : decode cX12_better 10 = .ok (.aload_n 0, 1) := by decide +kernel
theorem dX12_better_11 : decode cX12_better 11 = .ok (.getfield 55, 3) := by decide +kernel
theorem dX12_better_14 : decode cX12_better 14 = .ok (.iload_n 1, 1) := by decide +kernel
theorem dX12_better_15 : decode cX12_better 15 = .ok (.iload_n 2, 1) := by decide +kernel
theorem dX12_better_16 : decode cX12_better 16 = .ok (.iastore, 1) := by decide +kernel
theorem dX12_better_17 : decode cX12_better 17 = .ok (.return_, 1) := by decide +kernel
theorem dX12_goesOn_0 : decode cX12_goesOn 0 = .ok (.iconst 0, 1) := by decide +kernel
theorem dX12_goesOn_1 : decode cX12_goesOn 1 = .ok (.istore_n 1, 1) := by decide +kernel
theorem dX12_goesOn_2 : decode cX12_goesOn 2 = .ok (.iload_n 1, 1) := by decide +kernel
theorem dX12_goesOn_3 : decode cX12_goesOn 3 = .ok (.sipush 3430, 3) := by decide +kernel
theorem dX12_goesOn_6 : decode cX12_goesOn 6 = .ok (.if_icmp .ge 18, 3) := by decide +kernel
theorem dX12_goesOn_9 : decode cX12_goesOn 9 = .ok (.aload_n 0, 1) := by decide +kernel
theorem dX12_goesOn_10 : decode cX12_goesOn 10 = .ok (.getfield 55, 3) := by decide +kernel
theorem dX12_goesOn_13 : decode cX12_goesOn 13 = .ok (.iload_n 1, 1) := by decide +kernel
theorem dX12_goesOn_14 : decode cX12_goesOn 14 = .ok (.ldc_w 391, 3) := by decide +kernel
theorem dX12_goesOn_17 : decode cX12_goesOn 17 = .ok (.iastore, 1) := by decide +kernel
theorem dX12_goesOn_18 : decode cX12_goesOn 18 = .ok (.iinc 1 1, 3) := by decide +kernel
theorem dX12_goesOn_21 : decode cX12_goesOn 21 = .ok (.goto (-19), 3) := by decide +kernel
theorem dX12_goesOn_24 : decode cX12_goesOn 24 = .ok (.iconst 0, 1) := by decide +kernel
theorem dX12_goesOn_25 : decode cX12_goesOn 25 = .ok (.istore_n 1, 1) := by decide +kernel
theorem dX12_goesOn_26 : decode cX12_goesOn 26 = .ok (.iload_n 1, 1) := by decide +kernel
theorem dX12_goesOn_27 : decode cX12_goesOn 27 = .ok (.sipush 3430, 3) := by decide +kernel
theorem dX12_goesOn_30 : decode cX12_goesOn 30 = .ok (.if_icmp .ge 103, 3) := by decide +kernel
theorem dX12_goesOn_33 : decode cX12_goesOn 33 = .ok (.aload_n 0, 1) := by decide +kernel
theorem dX12_goesOn_34 : decode cX12_goesOn 34 = .ok (.getfield 52, 3) := by decide +kernel
theorem dX12_goesOn_37 : decode cX12_goesOn 37 = .ok (.iload_n 1, 1) := by decide +kernel
theorem dX12_goesOn_38 : decode cX12_goesOn 38 = .ok (.iaload, 1) := by decide +kernel
theorem dX12_goesOn_39 : decode cX12_goesOn 39 = .ok (.ldc_w 391, 3) := by decide +kernel
theorem dX12_goesOn_42 : decode cX12_goesOn 42 = .ok (.if_icmp .ne 6, 3) := by decide +kernel
theorem dX12_goesOn_45 : decode cX12_goesOn 45 = .ok (.goto 82, 3) := by decide +kernel
theorem dX12_goesOn_48 : decode cX12_goesOn 48 = .ok (.iconst 0, 1) := by decide +kernel
theorem dX12_goesOn_49 : decode cX12_goesOn 49 = .ok (.istore_n 2, 1) := by decide +kernel
theorem dX12_goesOn_50 : decode cX12_goesOn 50 = .ok (.iload_n 2, 1) := by decide +kernel
theorem dX12_goesOn_51 : decode cX12_goesOn 51 = .ok (.aload_n 0, 1) := by decide +kernel
theorem dX12_goesOn_52 : decode cX12_goesOn 52 = .ok (.getfield 13, 3) := by decide +kernel
theorem dX12_goesOn_55 : decode cX12_goesOn 55 = .ok (.iconst 2, 1) := by decide +kernel
theorem dX12_goesOn_56 : decode cX12_goesOn 56 = .ok (.iaload, 1) := by decide +kernel
theorem dX12_goesOn_57 : decode cX12_goesOn 57 = .ok (.if_icmp .ge 43, 3) := by decide +kernel
theorem dX12_goesOn_60 : decode cX12_goesOn 60 = .ok (.aload_n 0, 1) := by decide +kernel
theorem dX12_goesOn_61 : decode cX12_goesOn 61 = .ok (.iload_n 1, 1) := by decide +kernel
theorem dX12_goesOn_62 : decode cX12_goesOn 62 = .ok (.invokevirtual 256, 3) := by decide +kernel
theorem dX12_goesOn_65 : decode cX12_goesOn 65 = .ok (.ifCond .ne 35, 3) := by decide +kernel
theorem dX12_goesOn_68 : decode cX12_goesOn 68 = .ok (.aload_n 0, 1) := by decide +kernel
theorem dX12_goesOn_69 : decode cX12_goesOn 69 = .ok (.iload_n 1, 1) := by decide +kernel
theorem dX12_goesOn_70 : decode cX12_goesOn 70 = .ok (.iload_n 2, 1) := by decide +kernel
theorem dX12_goesOn_71 : decode cX12_goesOn 71 = .ok (.invokestatic 268, 3) := by decide +kernel
theorem dX12_goesOn_74 : decode cX12_goesOn 74 = .ok (.aload_n 0, 1) := by decide +kernel
theorem dX12_goesOn_75 : decode cX12_goesOn 75 = .ok (.getfield 52, 3) := by decide +kernel
theorem dX12_goesOn_78 : decode cX12_goesOn 78 = .ok (.iload_n 1, 1) := by decide +kernel
theorem dX12_goesOn_79 : decode cX12_goesOn 79 = .ok (.iaload, 1) := by decide +kernel
theorem dX12_goesOn_80 : decode cX12_goesOn 80 = .ok (.aload_n 0, 1) := by decide +kernel
theorem dX12_goesOn_81 : decode cX12_goesOn 81 = .ok (.aload_n 0, 1) := by decide +kernel
theorem dX12_goesOn_82 : decode cX12_goesOn 82 = .ok (.getfield 360, 3) := by decide +kernel
theorem dX12_goesOn_85 : decode cX12_goesOn 85 = .ok (.iload_n 1, 1) := by decide +kernel
theorem dX12_goesOn_86 : decode cX12_goesOn 86 = .ok (.iload_n 2, 1) := by decide +kernel
theorem dX12_goesOn_87 : decode cX12_goesOn 87 = .ok (.invokevirtual 259, 3) := by decide +kernel
theorem dX12_goesOn_90 : decode cX12_goesOn 90 = .ok (.iadd, 1) := by decide +kernel
theorem dX12_goesOn_91 : decode cX12_goesOn 91 = .ok (.invokevirtual 392, 3) := by decide +kernel
theorem dX12_goesOn_94 : decode cX12_goesOn 94 = .ok (.iinc 2 1, 3) := by decide +kernel
theorem dX12_goesOn_97 : decode cX12_goesOn 97 = .ok (.goto (-47), 3) := by decide +kernel
theorem dX12_goesOn_100 : decode cX12_goesOn 100 = .ok (.aload_n 0, 1) := by decide +kernel
theorem dX12_goesOn_101 : decode cX12_goesOn 101 = .ok (.iload_n 1, 1) := by decide +kernel
theorem dX12_goesOn_102 : decode cX12_goesOn 102 = .ok (.invokevirtual 370, 3) := by decide +kernel
theorem dX12_goesOn_105 : decode cX12_goesOn 105 = .ok (.ifCond .eq 22, 3) := by decide +kernel
theorem dX12_goesOn_108 : decode cX12_goesOn 108 = .ok (.aload_n 0, 1) := by decide +kernel
theorem dX12_goesOn_109 : decode cX12_goesOn 109 = .ok (.aload_n 0, 1) := by decide +kernel
theorem dX12_goesOn_110 : decode cX12_goesOn 110 = .ok (.aload_n 0, 1) := by decide +kernel
theorem dX12_goesOn_111 : decode cX12_goesOn 111 = .ok (.getfield 360, 3) := by decide +kernel
theorem dX12_goesOn_114 : decode cX12_goesOn 114 = .ok (.iload_n 1, 1) := by decide +kernel
theorem dX12_goesOn_115 : decode cX12_goesOn 115 = .ok (.invokevirtual 275, 3) := by decide +kernel
theorem dX12_goesOn_118 : decode cX12_goesOn 118 = .ok (.aload_n 0, 1) := by decide +kernel
theorem dX12_goesOn_119 : decode cX12_goesOn 119 = .ok (.getfield 52, 3) := by decide +kernel
theorem dX12_goesOn_122 : decode cX12_goesOn 122 = .ok (.iload_n 1, 1) := by decide +kernel
theorem dX12_goesOn_123 : decode cX12_goesOn 123 = .ok (.iaload, 1) := by decide +kernel
theorem dX12_goesOn_124 : decode cX12_goesOn 124 = .ok (.invokevirtual 392, 3) := by decide +kernel
theorem dX12_goesOn_127 : decode cX12_goesOn 127 = .ok (.iinc 1 1, 3) := by decide +kernel
theorem dX12_goesOn_130 : decode cX12_goesOn 130 = .ok (.goto (-104), 3) := by decide +kernel
theorem dX12_goesOn_133 : decode cX12_goesOn 133 = .ok (.ldc_w 391, 3) := by decide +kernel
theorem dX12_goesOn_136 : decode cX12_goesOn 136 = .ok (.istore_n 1, 1) := by decide +kernel
theorem dX12_goesOn_137 : decode cX12_goesOn 137 = .ok (.iconst 0, 1) := by decide +kernel
theorem dX12_goesOn_138 : decode cX12_goesOn 138 = .ok (.istore_n 2, 1) := by decide +kernel
theorem dX12_goesOn_139 : decode cX12_goesOn 139 = .ok (.iload_n 2, 1) := by decide +kernel
theorem dX12_goesOn_140 : decode cX12_goesOn 140 = .ok (.sipush 3430, 3) := by decide +kernel
theorem dX12_goesOn_143 : decode cX12_goesOn 143 = .ok (.if_icmp .ge 42, 3) := by decide +kernel
theorem dX12_goesOn_146 : decode cX12_goesOn 146 = .ok (.aload_n 0, 1) := by decide +kernel
theorem dX12_goesOn_147 : decode cX12_goesOn 147 = .ok (.getfield 52, 3) := by decide +kernel
theorem dX12_goesOn_150 : decode cX12_goesOn 150 = .ok (.iload_n 2, 1) := by decide +kernel
theorem dX12_goesOn_151 : decode cX12_goesOn 151 = .ok (.aload_n 0, 1) := by decide +kernel
theorem dX12_goesOn_152 : decode cX12_goesOn 152 = .ok (.getfield 55, 3) := by decide +kernel
theorem dX12_goesOn_155 : decode cX12_goesOn 155 = .ok (.iload_n 2, 1) := by decide +kernel
theorem dX12_goesOn_156 : decode cX12_goesOn 156 = .ok (.iaload, 1) := by decide +kernel
theorem dX12_goesOn_157 : decode cX12_goesOn 157 = .ok (.iastore, 1) := by decide +kernel
theorem dX12_goesOn_158 : decode cX12_goesOn 158 = .ok (.aload_n 0, 1) := by decide +kernel
theorem dX12_goesOn_159 : decode cX12_goesOn 159 = .ok (.getfield 52, 3) := by decide +kernel
theorem dX12_goesOn_162 : decode cX12_goesOn 162 = .ok (.iload_n 2, 1) := by decide +kernel
theorem dX12_goesOn_163 : decode cX12_goesOn 163 = .ok (.iaload, 1) := by decide +kernel
theorem dX12_goesOn_164 : decode cX12_goesOn 164 = .ok (.iload_n 1, 1) := by decide +kernel
theorem dX12_goesOn_165 : decode cX12_goesOn 165 = .ok (.if_icmp .le 12, 3) := by decide +kernel
theorem dX12_goesOn_168 : decode cX12_goesOn 168 = .ok (.aload_n 0, 1) := by decide +kernel
theorem dX12_goesOn_169 : decode cX12_goesOn 169 = .ok (.getfield 52, 3) := by decide +kernel
theorem dX12_goesOn_172 : decode cX12_goesOn 172 = .ok (.iload_n 2, 1) := by decide +kernel
theorem dX12_goesOn_173 : decode cX12_goesOn 173 = .ok (.iaload, 1) := by decide +kernel
theorem dX12_goesOn_174 : decode cX12_goesOn 174 = .ok (.goto 4, 3) := by decide +kernel
theorem dX12_goesOn_177 : decode cX12_goesOn 177 = .ok (.iload_n 1, 1) := by decide +kernel
theorem dX12_goesOn_178 : decode cX12_goesOn 178 = .ok (.istore_n 1, 1) := by decide +kernel
theorem dX12_goesOn_179 : decode cX12_goesOn 179 = .ok (.iinc 2 1, 3) := by decide +kernel
theorem dX12_goesOn_182 : decode cX12_goesOn 182 = .ok (.goto (-43), 3) := by decide +kernel
theorem dX12_goesOn_185 : decode cX12_goesOn 185 = .ok (.iload_n 1, 1) := by decide +kernel
theorem dX12_goesOn_186 : decode cX12_goesOn 186 = .ok (.ireturn, 1) := by decide +kernel
theorem dX12_soonest_0 : decode cX12_soonest 0 = .ok (.aload_n 0, 1) := by decide +kernel
theorem dX12_soonest_1 : decode cX12_soonest 1 = .ok (.iconst 0, 1) := by decide +kernel
theorem dX12_soonest_2 : decode cX12_soonest 2 = .ok (.putfield 1, 3) := by decide +kernel
theorem dX12_soonest_5 : decode cX12_soonest 5 = .ok (.aload_n 0, 1) := by decide +kernel
theorem dX12_soonest_6 : decode cX12_soonest 6 = .ok (.iload_n 1, 1) := by decide +kernel
theorem dX12_soonest_7 : decode cX12_soonest 7 = .ok (.i2l, 1) := by decide +kernel
theorem dX12_soonest_8 : decode cX12_soonest 8 = .ok (.invokevirtual 245, 3) := by decide +kernel
theorem dX12_soonest_11 : decode cX12_soonest 11 = .ok (.ifCond .ne 6, 3) := by decide +kernel
theorem dX12_soonest_14 : decode cX12_soonest 14 = .ok (.ldc 249, 2) := by decide +kernel
theorem dX12_soonest_16 : decode cX12_soonest 16 = .ok (.ireturn, 1) := by decide +kernel
theorem dX12_soonest_17 : decode cX12_soonest 17 = .ok (.aload_n 0, 1) := by decide +kernel
theorem dX12_soonest_18 : decode cX12_soonest 18 = .ok (.iload_n 1, 1) := by decide +kernel
theorem dX12_soonest_19 : decode cX12_soonest 19 = .ok (.invokevirtual 373, 3) := by decide +kernel
theorem dX12_soonest_22 : decode cX12_soonest 22 = .ok (.iconst 0, 1) := by decide +kernel
theorem dX12_soonest_23 : decode cX12_soonest 23 = .ok (.istore_n 3, 1) := by decide +kernel
theorem dX12_soonest_24 : decode cX12_soonest 24 = .ok (.iload_n 3, 1) := by decide +kernel
theorem dX12_soonest_25 : decode cX12_soonest 25 = .ok (.sipush 3430, 3) := by decide +kernel
theorem dX12_soonest_28 : decode cX12_soonest 28 = .ok (.if_icmp .ge 39, 3) := by decide +kernel
theorem dX12_soonest_31 : decode cX12_soonest 31 = .ok (.aload_n 0, 1) := by decide +kernel
theorem dX12_soonest_32 : decode cX12_soonest 32 = .ok (.getfield 52, 3) := by decide +kernel
theorem dX12_soonest_35 : decode cX12_soonest 35 = .ok (.iload_n 3, 1) := by decide +kernel
theorem dX12_soonest_36 : decode cX12_soonest 36 = .ok (.iload_n 3, 1) := by decide +kernel
theorem dX12_soonest_37 : decode cX12_soonest 37 = .ok (.aload_n 0, 1) := by decide +kernel
theorem dX12_soonest_38 : decode cX12_soonest 38 = .ok (.iload_n 1, 1) := by decide +kernel
theorem dX12_soonest_39 : decode cX12_soonest 39 = .ok (.invokevirtual 253, 3) := by decide +kernel
theorem dX12_soonest_42 : decode cX12_soonest 42 = .ok (.if_icmp .ne 15, 3) := by decide +kernel
theorem dX12_soonest_45 : decode cX12_soonest 45 = .ok (.aload_n 0, 1) := by decide +kernel
theorem dX12_soonest_46 : decode cX12_soonest 46 = .ok (.getfield 13, 3) := by decide +kernel
theorem dX12_soonest_49 : decode cX12_soonest 49 = .ok (.bipush 30, 2) := by decide +kernel
theorem dX12_soonest_51 : decode cX12_soonest 51 = .ok (.iload_n 1, 1) := by decide +kernel
theorem dX12_soonest_52 : decode cX12_soonest 52 = .ok (.iadd, 1) := by decide +kernel
theorem dX12_soonest_53 : decode cX12_soonest 53 = .ok (.iaload, 1) := by decide +kernel
theorem dX12_soonest_54 : decode cX12_soonest 54 = .ok (.goto 6, 3) := by decide +kernel
theorem dX12_soonest_57 : decode cX12_soonest 57 = .ok (.ldc_w 391, 3) := by decide +kernel
theorem dX12_soonest_60 : decode cX12_soonest 60 = .ok (.iastore, 1) := by decide +kernel
theorem dX12_soonest_61 : decode cX12_soonest 61 = .ok (.iinc 3 1, 3) := by decide +kernel
theorem dX12_soonest_64 : decode cX12_soonest 64 = .ok (.goto (-40), 3) := by decide +kernel
theorem dX12_soonest_67 : decode cX12_soonest 67 = .ok (.aload_n 0, 1) := by decide +kernel
theorem dX12_soonest_68 : decode cX12_soonest 68 = .ok (.getfield 13, 3) := by decide +kernel
theorem dX12_soonest_71 : decode cX12_soonest 71 = .ok (.bipush 30, 2) := by decide +kernel
theorem dX12_soonest_73 : decode cX12_soonest 73 = .ok (.iload_n 1, 1) := by decide +kernel
theorem dX12_soonest_74 : decode cX12_soonest 74 = .ok (.iadd, 1) := by decide +kernel
theorem dX12_soonest_75 : decode cX12_soonest 75 = .ok (.iaload, 1) := by decide +kernel
theorem dX12_soonest_76 : decode cX12_soonest 76 = .ok (.istore_n 3, 1) := by decide +kernel
theorem dX12_soonest_77 : decode cX12_soonest 77 = .ok (.iconst 0, 1) := by decide +kernel
theorem dX12_soonest_78 : decode cX12_soonest 78 = .ok (.istore 4, 2) := by decide +kernel
theorem dX12_soonest_80 : decode cX12_soonest 80 = .ok (.iload_n 3, 1) := by decide +kernel
theorem dX12_soonest_81 : decode cX12_soonest 81 = .ok (.ldc_w 391, 3) := by decide +kernel
theorem dX12_soonest_84 : decode cX12_soonest 84 = .ok (.if_icmp .eq 22, 3) := by decide +kernel
theorem dX12_soonest_87 : decode cX12_soonest 87 = .ok (.iload_n 3, 1) := by decide +kernel
theorem dX12_soonest_88 : decode cX12_soonest 88 = .ok (.iload_n 2, 1) := by decide +kernel
theorem dX12_soonest_89 : decode cX12_soonest 89 = .ok (.if_icmp .lt 6, 3) := by decide +kernel
theorem dX12_soonest_92 : decode cX12_soonest 92 = .ok (.iload 4, 2) := by decide +kernel
theorem dX12_soonest_94 : decode cX12_soonest 94 = .ok (.ireturn, 1) := by decide +kernel
theorem dX12_soonest_95 : decode cX12_soonest 95 = .ok (.aload_n 0, 1) := by decide +kernel
theorem dX12_soonest_96 : decode cX12_soonest 96 = .ok (.invokevirtual 395, 3) := by decide +kernel
theorem dX12_soonest_99 : decode cX12_soonest 99 = .ok (.istore_n 3, 1) := by decide +kernel
theorem dX12_soonest_100 : decode cX12_soonest 100 = .ok (.iinc 4 1, 3) := by decide +kernel
theorem dX12_soonest_103 : decode cX12_soonest 103 = .ok (.goto (-23), 3) := by decide +kernel
theorem dX12_soonest_106 : decode cX12_soonest 106 = .ok (.iconst (-1), 1) := by decide +kernel
theorem dX12_soonest_107 : decode cX12_soonest 107 = .ok (.ireturn, 1) := by decide +kernel
theorem dX12_drawnMean_0 : decode cX12_drawnMean 0 = .ok (.aload_n 0, 1) := by decide +kernel
theorem dX12_drawnMean_1 : decode cX12_drawnMean 1 = .ok (.iload_n 1, 1) := by decide +kernel
theorem dX12_drawnMean_2 : decode cX12_drawnMean 2 = .ok (.invokevirtual 370, 3) := by decide +kernel
theorem dX12_drawnMean_5 : decode cX12_drawnMean 5 = .ok (.ifCond .eq 19, 3) := by decide +kernel
theorem dX12_drawnMean_8 : decode cX12_drawnMean 8 = .ok (.aload_n 0, 1) := by decide +kernel
theorem dX12_drawnMean_9 : decode cX12_drawnMean 9 = .ok (.aload_n 0, 1) := by decide +kernel
theorem dX12_drawnMean_10 : decode cX12_drawnMean 10 = .ok (.aload_n 0, 1) := by decide +kernel
theorem dX12_drawnMean_11 : decode cX12_drawnMean 11 = .ok (.getfield 360, 3) := by decide +kernel
theorem dX12_drawnMean_14 : decode cX12_drawnMean 14 = .ok (.iload_n 1, 1) := by decide +kernel
theorem dX12_drawnMean_15 : decode cX12_drawnMean 15 = .ok (.invokevirtual 275, 3) := by decide +kernel
theorem dX12_drawnMean_18 : decode cX12_drawnMean 18 = .ok (.invokevirtual 398, 3) := by decide +kernel
theorem dX12_drawnMean_21 : decode cX12_drawnMean 21 = .ok (.goto 4, 3) := by decide +kernel
theorem dX12_drawnMean_24 : decode cX12_drawnMean 24 = .ok (.lconst 0, 1) := by decide +kernel
theorem dX12_drawnMean_25 : decode cX12_drawnMean 25 = .ok (.lreturn, 1) := by decide +kernel
theorem dX12_livedMean_0 : decode cX12_livedMean 0 = .ok (.aload_n 0, 1) := by decide +kernel
theorem dX12_livedMean_1 : decode cX12_livedMean 1 = .ok (.aload_n 0, 1) := by decide +kernel
theorem dX12_livedMean_2 : decode cX12_livedMean 2 = .ok (.getfield 360, 3) := by decide +kernel
theorem dX12_livedMean_5 : decode cX12_livedMean 5 = .ok (.iload_n 1, 1) := by decide +kernel
theorem dX12_livedMean_6 : decode cX12_livedMean 6 = .ok (.iload_n 2, 1) := by decide +kernel
theorem dX12_livedMean_7 : decode cX12_livedMean 7 = .ok (.invokevirtual 259, 3) := by decide +kernel
theorem dX12_livedMean_10 : decode cX12_livedMean 10 = .ok (.i2l, 1) := by decide +kernel
theorem dX12_livedMean_11 : decode cX12_livedMean 11 = .ok (.ldc2_w 401, 3) := by decide +kernel
theorem dX12_livedMean_14 : decode cX12_livedMean 14 = .ok (.lmul, 1) := by decide +kernel
theorem dX12_livedMean_15 : decode cX12_livedMean 15 = .ok (.aload_n 0, 1) := by decide +kernel
theorem dX12_livedMean_16 : decode cX12_livedMean 16 = .ok (.iload_n 1, 1) := by decide +kernel
theorem dX12_livedMean_17 : decode cX12_livedMean 17 = .ok (.iload_n 2, 1) := by decide +kernel
theorem dX12_livedMean_18 : decode cX12_livedMean 18 = .ok (.invokestatic 268, 3) := by decide +kernel
theorem dX12_livedMean_21 : decode cX12_livedMean 21 = .ok (.invokevirtual 398, 3) := by decide +kernel
theorem dX12_livedMean_24 : decode cX12_livedMean 24 = .ok (.ladd, 1) := by decide +kernel
theorem dX12_livedMean_25 : decode cX12_livedMean 25 = .ok (.ldc2_w 307, 3) := by decide +kernel
theorem dX12_livedMean_28 : decode cX12_livedMean 28 = .ok (.ldiv, 1) := by decide +kernel
theorem dX12_livedMean_29 : decode cX12_livedMean 29 = .ok (.bipush 10, 2) := by decide +kernel
theorem dX12_livedMean_31 : decode cX12_livedMean 31 = .ok (.aload_n 0, 1) := by decide +kernel
theorem dX12_livedMean_32 : decode cX12_livedMean 32 = .ok (.getfield 13, 3) := by decide +kernel
theorem dX12_livedMean_35 : decode cX12_livedMean 35 = .ok (.iconst 4, 1) := by decide +kernel
theorem dX12_livedMean_36 : decode cX12_livedMean 36 = .ok (.iaload, 1) := by decide +kernel
theorem dX12_livedMean_37 : decode cX12_livedMean 37 = .ok (.isub, 1) := by decide +kernel
theorem dX12_livedMean_38 : decode cX12_livedMean 38 = .ok (.i2l, 1) := by decide +kernel
theorem dX12_livedMean_39 : decode cX12_livedMean 39 = .ok (.lmul, 1) := by decide +kernel
theorem dX12_livedMean_40 : decode cX12_livedMean 40 = .ok (.aload_n 0, 1) := by decide +kernel
theorem dX12_livedMean_41 : decode cX12_livedMean 41 = .ok (.iload_n 1, 1) := by decide +kernel
theorem dX12_livedMean_42 : decode cX12_livedMean 42 = .ok (.invokevirtual 403, 3) := by decide +kernel
theorem dX12_livedMean_45 : decode cX12_livedMean 45 = .ok (.ldc2_w 307, 3) := by decide +kernel
theorem dX12_livedMean_48 : decode cX12_livedMean 48 = .ok (.ldiv, 1) := by decide +kernel
theorem dX12_livedMean_49 : decode cX12_livedMean 49 = .ok (.aload_n 0, 1) := by decide +kernel
theorem dX12_livedMean_50 : decode cX12_livedMean 50 = .ok (.getfield 13, 3) := by decide +kernel
theorem dX12_livedMean_53 : decode cX12_livedMean 53 = .ok (.iconst 4, 1) := by decide +kernel
theorem dX12_livedMean_54 : decode cX12_livedMean 54 = .ok (.iaload, 1) := by decide +kernel
theorem dX12_livedMean_55 : decode cX12_livedMean 55 = .ok (.i2l, 1) := by decide +kernel
theorem dX12_livedMean_56 : decode cX12_livedMean 56 = .ok (.lmul, 1) := by decide +kernel
theorem dX12_livedMean_57 : decode cX12_livedMean 57 = .ok (.ladd, 1) := by decide +kernel
theorem dX12_livedMean_58 : decode cX12_livedMean 58 = .ok (.lreturn, 1) := by decide +kernel
theorem dX12_meanFrom_0 : decode cX12_meanFrom 0 = .ok (.aload_n 0, 1) := by decide +kernel
theorem dX12_meanFrom_1 : decode cX12_meanFrom 1 = .ok (.getfield 49, 3) := by decide +kernel
theorem dX12_meanFrom_4 : decode cX12_meanFrom 4 = .ok (.iload_n 1, 1) := by decide +kernel
theorem dX12_meanFrom_5 : decode cX12_meanFrom 5 = .ok (.baload, 1) := by decide +kernel
theorem dX12_meanFrom_6 : decode cX12_meanFrom 6 = .ok (.ifCond .eq 10, 3) := by decide +kernel
theorem dX12_meanFrom_9 : decode cX12_meanFrom 9 = .ok (.aload_n 0, 1) := by decide +kernel
theorem dX12_meanFrom_10 : decode cX12_meanFrom 10 = .ok (.getfield 58, 3) := by decide +kernel
theorem dX12_meanFrom_13 : decode cX12_meanFrom 13 = .ok (.iload_n 1, 1) := by decide +kernel
theorem dX12_meanFrom_14 : decode cX12_meanFrom 14 = .ok (.laload, 1) := by decide +kernel
theorem dX12_meanFrom_15 : decode cX12_meanFrom 15 = .ok (.lreturn, 1) := by decide +kernel
theorem dX12_meanFrom_16 : decode cX12_meanFrom 16 = .ok (.aload_n 0, 1) := by decide +kernel
theorem dX12_meanFrom_17 : decode cX12_meanFrom 17 = .ok (.iload_n 1, 1) := by decide +kernel
theorem dX12_meanFrom_18 : decode cX12_meanFrom 18 = .ok (.invokevirtual 403, 3) := by decide +kernel
theorem dX12_meanFrom_21 : decode cX12_meanFrom 21 = .ok (.lconst 0, 1) := by decide +kernel
theorem dX12_meanFrom_22 : decode cX12_meanFrom 22 = .ok (.lcmp, 1) := by decide +kernel
theorem dX12_meanFrom_23 : decode cX12_meanFrom 23 = .ok (.ifCond .le 11, 3) := by decide +kernel
theorem dX12_meanFrom_26 : decode cX12_meanFrom 26 = .ok (.aload_n 0, 1) := by decide +kernel
theorem dX12_meanFrom_27 : decode cX12_meanFrom 27 = .ok (.iload_n 1, 1) := by decide +kernel
theorem dX12_meanFrom_28 : decode cX12_meanFrom 28 = .ok (.invokevirtual 403, 3) := by decide +kernel
theorem dX12_meanFrom_31 : decode cX12_meanFrom 31 = .ok (.goto 4, 3) := by decide +kernel
theorem dX12_meanFrom_34 : decode cX12_meanFrom 34 = .ok (.lconst 0, 1) := by decide +kernel
theorem dX12_meanFrom_35 : decode cX12_meanFrom 35 = .ok (.lstore_n 2, 1) := by decide +kernel
theorem dX12_meanFrom_36 : decode cX12_meanFrom 36 = .ok (.iconst 0, 1) := by decide +kernel
theorem dX12_meanFrom_37 : decode cX12_meanFrom 37 = .ok (.istore 4, 2) := by decide +kernel
theorem dX12_meanFrom_39 : decode cX12_meanFrom 39 = .ok (.iload 4, 2) := by decide +kernel
theorem dX12_meanFrom_41 : decode cX12_meanFrom 41 = .ok (.aload_n 0, 1) := by decide +kernel
theorem dX12_meanFrom_42 : decode cX12_meanFrom 42 = .ok (.getfield 13, 3) := by decide +kernel
theorem dX12_meanFrom_45 : decode cX12_meanFrom 45 = .ok (.iconst 2, 1) := by decide +kernel
theorem dX12_meanFrom_46 : decode cX12_meanFrom 46 = .ok (.iaload, 1) := by decide +kernel
theorem dX12_meanFrom_47 : decode cX12_meanFrom 47 = .ok (.if_icmp .ge 40, 3) := by decide +kernel
theorem dX12_meanFrom_50 : decode cX12_meanFrom 50 = .ok (.aload_n 0, 1) := by decide +kernel
theorem dX12_meanFrom_51 : decode cX12_meanFrom 51 = .ok (.iload_n 1, 1) := by decide +kernel
theorem dX12_meanFrom_52 : decode cX12_meanFrom 52 = .ok (.invokevirtual 256, 3) := by decide +kernel
theorem dX12_meanFrom_55 : decode cX12_meanFrom 55 = .ok (.ifCond .ne 32, 3) := by decide +kernel
theorem dX12_meanFrom_58 : decode cX12_meanFrom 58 = .ok (.aload_n 0, 1) := by decide +kernel
theorem dX12_meanFrom_59 : decode cX12_meanFrom 59 = .ok (.iload_n 1, 1) := by decide +kernel
theorem dX12_meanFrom_60 : decode cX12_meanFrom 60 = .ok (.iload 4, 2) := by decide +kernel
theorem dX12_meanFrom_62 : decode cX12_meanFrom 62 = .ok (.invokevirtual 406, 3) := by decide +kernel
theorem dX12_meanFrom_65 : decode cX12_meanFrom 65 = .ok (.lstore 5, 2) := by decide +kernel
theorem dX12_meanFrom_67 : decode cX12_meanFrom 67 = .ok (.lload 5, 2) := by decide +kernel
theorem dX12_meanFrom_69 : decode cX12_meanFrom 69 = .ok (.lload_n 2, 1) := by decide +kernel
theorem dX12_meanFrom_70 : decode cX12_meanFrom 70 = .ok (.lcmp, 1) := by decide +kernel
theorem dX12_meanFrom_71 : decode cX12_meanFrom 71 = .ok (.ifCond .le 8, 3) := by decide +kernel
theorem dX12_meanFrom_74 : decode cX12_meanFrom 74 = .ok (.lload 5, 2) := by decide +kernel
theorem dX12_meanFrom_76 : decode cX12_meanFrom 76 = .ok (.goto 4, 3) := by decide +kernel
theorem dX12_meanFrom_79 : decode cX12_meanFrom 79 = .ok (.lload_n 2, 1) := by decide +kernel
theorem dX12_meanFrom_80 : decode cX12_meanFrom 80 = .ok (.lstore_n 2, 1) := by decide +kernel
theorem dX12_meanFrom_81 : decode cX12_meanFrom 81 = .ok (.iinc 4 1, 3) := by decide +kernel
theorem dX12_meanFrom_84 : decode cX12_meanFrom 84 = .ok (.goto (-45), 3) := by decide +kernel
theorem dX12_meanFrom_87 : decode cX12_meanFrom 87 = .ok (.aload_n 0, 1) := by decide +kernel
theorem dX12_meanFrom_88 : decode cX12_meanFrom 88 = .ok (.getfield 58, 3) := by decide +kernel
theorem dX12_meanFrom_91 : decode cX12_meanFrom 91 = .ok (.iload_n 1, 1) := by decide +kernel
theorem dX12_meanFrom_92 : decode cX12_meanFrom 92 = .ok (.lload_n 2, 1) := by decide +kernel
theorem dX12_meanFrom_93 : decode cX12_meanFrom 93 = .ok (.lastore, 1) := by decide +kernel
theorem dX12_meanFrom_94 : decode cX12_meanFrom 94 = .ok (.aload_n 0, 1) := by decide +kernel
theorem dX12_meanFrom_95 : decode cX12_meanFrom 95 = .ok (.getfield 49, 3) := by decide +kernel
theorem dX12_meanFrom_98 : decode cX12_meanFrom 98 = .ok (.iload_n 1, 1) := by decide +kernel
theorem dX12_meanFrom_99 : decode cX12_meanFrom 99 = .ok (.iconst 1, 1) := by decide +kernel
theorem dX12_meanFrom_100 : decode cX12_meanFrom 100 = .ok (.bastore, 1) := by decide +kernel
theorem dX12_meanFrom_101 : decode cX12_meanFrom 101 = .ok (.lload_n 2, 1) := by decide +kernel
theorem dX12_meanFrom_102 : decode cX12_meanFrom 102 = .ok (.lreturn, 1) := by decide +kernel
theorem dX12_common_0 : decode cX12_common 0 = .ok (.lload_n 2, 1) := by decide +kernel
theorem dX12_common_1 : decode cX12_common 1 = .ok (.lconst 0, 1) := by decide +kernel
theorem dX12_common_2 : decode cX12_common 2 = .ok (.lcmp, 1) := by decide +kernel
theorem dX12_common_3 : decode cX12_common 3 = .ok (.ifCond .ne 7, 3) := by decide +kernel
theorem dX12_common_6 : decode cX12_common 6 = .ok (.lload_n 0, 1) := by decide +kernel
theorem dX12_common_7 : decode cX12_common 7 = .ok (.goto 10, 3) := by decide +kernel
theorem dX12_common_10 : decode cX12_common 10 = .ok (.lload_n 2, 1) := by decide +kernel
theorem dX12_common_11 : decode cX12_common 11 = .ok (.lload_n 0, 1) := by decide +kernel
theorem dX12_common_12 : decode cX12_common 12 = .ok (.lload_n 2, 1) := by decide +kernel
theorem dX12_common_13 : decode cX12_common 13 = .ok (.lrem, 1) := by decide +kernel
theorem dX12_common_14 : decode cX12_common 14 = .ok (.invokestatic 410, 3) := by decide +kernel
theorem dX12_common_17 : decode cX12_common 17 = .ok (.lreturn, 1) := by decide +kernel
theorem dX12_part_0 : decode cX12_part 0 = .ok (.iload_n 2, 1) := by decide +kernel
theorem dX12_part_1 : decode cX12_part 1 = .ok (.ifCond .ne 7, 3) := by decide +kernel
theorem dX12_part_4 : decode cX12_part 4 = .ok (.lload_n 0, 1) := by decide +kernel
theorem dX12_part_5 : decode cX12_part 5 = .ok (.goto 6, 3) := by decide +kernel
theorem dX12_part_8 : decode cX12_part 8 = .ok (.ldc2_w 401, 3) := by decide +kernel
theorem dX12_part_11 : decode cX12_part 11 = .ok (.lload_n 0, 1) := by decide +kernel
theorem dX12_part_12 : decode cX12_part 12 = .ok (.ldc2_w 401, 3) := by decide +kernel
theorem dX12_part_15 : decode cX12_part 15 = .ok (.invokestatic 410, 3) := by decide +kernel
theorem dX12_part_18 : decode cX12_part 18 = .ok (.ldiv, 1) := by decide +kernel
theorem dX12_part_19 : decode cX12_part 19 = .ok (.lreturn, 1) := by decide +kernel
theorem dX12_mean_0 : decode cX12_mean 0 = .ok (.aload_n 0, 1) := by decide +kernel
theorem dX12_mean_1 : decode cX12_mean 1 = .ok (.iconst 0, 1) := by decide +kernel
theorem dX12_mean_2 : decode cX12_mean 2 = .ok (.putfield 1, 3) := by decide +kernel
theorem dX12_mean_5 : decode cX12_mean 5 = .ok (.aload_n 0, 1) := by decide +kernel
theorem dX12_mean_6 : decode cX12_mean 6 = .ok (.iload_n 1, 1) := by decide +kernel
theorem dX12_mean_7 : decode cX12_mean 7 = .ok (.i2l, 1) := by decide +kernel
theorem dX12_mean_8 : decode cX12_mean 8 = .ok (.invokevirtual 245, 3) := by decide +kernel
theorem dX12_mean_11 : decode cX12_mean 11 = .ok (.ifCond .eq 13, 3) := by decide +kernel
theorem dX12_mean_14 : decode cX12_mean 14 = .ok (.iload_n 2, 1) := by decide +kernel
theorem dX12_mean_15 : decode cX12_mean 15 = .ok (.i2l, 1) := by decide +kernel
theorem dX12_mean_16 : decode cX12_mean 16 = .ok (.lconst 0, 1) := by decide +kernel
theorem dX12_mean_17 : decode cX12_mean 17 = .ok (.lconst 1, 1) := by decide +kernel
theorem dX12_mean_18 : decode cX12_mean 18 = .ok (.invokestatic 144, 3) := by decide +kernel
theorem dX12_mean_21 : decode cX12_mean 21 = .ok (.ifCond .ne 7, 3) := by decide +kernel
theorem dX12_mean_24 : decode cX12_mean 24 = .ok (.ldc2_w 389, 3) := by decide +kernel
theorem dX12_mean_27 : decode cX12_mean 27 = .ok (.lreturn, 1) := by decide +kernel
theorem dX12_mean_28 : decode cX12_mean 28 = .ok (.aload_n 0, 1) := by decide +kernel
theorem dX12_mean_29 : decode cX12_mean 29 = .ok (.iload_n 1, 1) := by decide +kernel
theorem dX12_mean_30 : decode cX12_mean 30 = .ok (.invokevirtual 373, 3) := by decide +kernel
theorem dX12_mean_33 : decode cX12_mean 33 = .ok (.aload_n 0, 1) := by decide +kernel
theorem dX12_mean_34 : decode cX12_mean 34 = .ok (.aload_n 0, 1) := by decide +kernel
theorem dX12_mean_35 : decode cX12_mean 35 = .ok (.iload_n 1, 1) := by decide +kernel
theorem dX12_mean_36 : decode cX12_mean 36 = .ok (.invokevirtual 253, 3) := by decide +kernel
theorem dX12_mean_39 : decode cX12_mean 39 = .ok (.invokevirtual 398, 3) := by decide +kernel
theorem dX12_mean_42 : decode cX12_mean 42 = .ok (.iload_n 2, 1) := by decide +kernel
theorem dX12_mean_43 : decode cX12_mean 43 = .ok (.invokestatic 414, 3) := by decide +kernel
theorem dX12_mean_46 : decode cX12_mean 46 = .ok (.lreturn, 1) := by decide +kernel
theorem dX12_choice_0 : decode cX12_choice 0 = .ok (.aload_n 0, 1) := by decide +kernel
theorem dX12_choice_1 : decode cX12_choice 1 = .ok (.iconst 0, 1) := by decide +kernel
theorem dX12_choice_2 : decode cX12_choice 2 = .ok (.putfield 1, 3) := by decide +kernel
theorem dX12_choice_5 : decode cX12_choice 5 = .ok (.aload_n 0, 1) := by decide +kernel
theorem dX12_choice_6 : decode cX12_choice 6 = .ok (.iload_n 1, 1) := by decide +kernel
theorem dX12_choice_7 : decode cX12_choice 7 = .ok (.i2l, 1) := by decide +kernel
theorem dX12_choice_8 : decode cX12_choice 8 = .ok (.invokevirtual 245, 3) := by decide +kernel
theorem dX12_choice_11 : decode cX12_choice 11 = .ok (.ifCond .ne 6, 3) := by decide +kernel
theorem dX12_choice_14 : decode cX12_choice 14 = .ok (.ldc 249, 2) := by decide +kernel
theorem dX12_choice_16 : decode cX12_choice 16 = .ok (.ireturn, 1) := by decide +kernel
theorem dX12_choice_17 : decode cX12_choice 17 = .ok (.aload_n 0, 1) := by decide +kernel
theorem dX12_choice_18 : decode cX12_choice 18 = .ok (.iload_n 1, 1) := by decide +kernel
theorem dX12_choice_19 : decode cX12_choice 19 = .ok (.invokevirtual 373, 3) := by decide +kernel
theorem dX12_choice_22 : decode cX12_choice 22 = .ok (.aload_n 0, 1) := by decide +kernel
theorem dX12_choice_23 : decode cX12_choice 23 = .ok (.iload_n 1, 1) := by decide +kernel
theorem dX12_choice_24 : decode cX12_choice 24 = .ok (.invokevirtual 253, 3) := by decide +kernel
theorem dX12_choice_27 : decode cX12_choice 27 = .ok (.istore_n 2, 1) := by decide +kernel
theorem dX12_choice_28 : decode cX12_choice 28 = .ok (.aload_n 0, 1) := by decide +kernel
theorem dX12_choice_29 : decode cX12_choice 29 = .ok (.iload_n 2, 1) := by decide +kernel
theorem dX12_choice_30 : decode cX12_choice 30 = .ok (.invokevirtual 398, 3) := by decide +kernel
theorem dX12_choice_33 : decode cX12_choice 33 = .ok (.lstore_n 3, 1) := by decide +kernel
theorem dX12_choice_34 : decode cX12_choice 34 = .ok (.lload_n 3, 1) := by decide +kernel
theorem dX12_choice_35 : decode cX12_choice 35 = .ok (.lconst 0, 1) := by decide +kernel
theorem dX12_choice_36 : decode cX12_choice 36 = .ok (.lcmp, 1) := by decide +kernel
theorem dX12_choice_37 : decode cX12_choice 37 = .ok (.ifCond .ne 5, 3) := by decide +kernel
theorem dX12_choice_40 : decode cX12_choice 40 = .ok (.iconst (-1), 1) := by decide +kernel
theorem dX12_choice_41 : decode cX12_choice 41 = .ok (.ireturn, 1) := by decide +kernel
theorem dX12_choice_42 : decode cX12_choice 42 = .ok (.iconst 0, 1) := by decide +kernel
theorem dX12_choice_43 : decode cX12_choice 43 = .ok (.istore 5, 2) := by decide +kernel
theorem dX12_choice_45 : decode cX12_choice 45 = .ok (.iload 5, 2) := by decide +kernel
theorem dX12_choice_47 : decode cX12_choice 47 = .ok (.aload_n 0, 1) := by decide +kernel
theorem dX12_choice_48 : decode cX12_choice 48 = .ok (.getfield 13, 3) := by decide +kernel
theorem dX12_choice_51 : decode cX12_choice 51 = .ok (.iconst 2, 1) := by decide +kernel
theorem dX12_choice_52 : decode cX12_choice 52 = .ok (.iaload, 1) := by decide +kernel
theorem dX12_choice_53 : decode cX12_choice 53 = .ok (.if_icmp .ge 32, 3) := by decide +kernel
theorem dX12_choice_56 : decode cX12_choice 56 = .ok (.aload_n 0, 1) := by decide +kernel
theorem dX12_choice_57 : decode cX12_choice 57 = .ok (.iload_n 2, 1) := by decide +kernel
theorem dX12_choice_58 : decode cX12_choice 58 = .ok (.invokevirtual 256, 3) := by decide +kernel
theorem dX12_choice_61 : decode cX12_choice 61 = .ok (.ifCond .ne 24, 3) := by decide +kernel
theorem dX12_choice_64 : decode cX12_choice 64 = .ok (.aload_n 0, 1) := by decide +kernel
theorem dX12_choice_65 : decode cX12_choice 65 = .ok (.iload_n 2, 1) := by decide +kernel
theorem dX12_choice_66 : decode cX12_choice 66 = .ok (.iload 5, 2) := by decide +kernel
theorem dX12_choice_68 : decode cX12_choice 68 = .ok (.invokevirtual 406, 3) := by decide +kernel
theorem dX12_choice_71 : decode cX12_choice 71 = .ok (.lload_n 3, 1) := by decide +kernel
theorem dX12_choice_72 : decode cX12_choice 72 = .ok (.lcmp, 1) := by decide +kernel
theorem dX12_choice_73 : decode cX12_choice 73 = .ok (.ifCond .ne 6, 3) := by decide +kernel
theorem dX12_choice_76 : decode cX12_choice 76 = .ok (.iload 5, 2) := by decide +kernel
theorem dX12_choice_78 : decode cX12_choice 78 = .ok (.ireturn, 1) := by decide +kernel
theorem dX12_choice_79 : decode cX12_choice 79 = .ok (.iinc 5 1, 3) := by decide +kernel
theorem dX12_choice_82 : decode cX12_choice 82 = .ok (.goto (-37), 3) := by decide +kernel
theorem dX12_choice_85 : decode cX12_choice 85 = .ok (.bipush 9, 2) := by decide +kernel
theorem dX12_choice_87 : decode cX12_choice 87 = .ok (.ireturn, 1) := by decide +kernel
theorem dX12_drawing_0 : decode cX12_drawing 0 = .ok (.aload_n 0, 1) := by decide +kernel
theorem dX12_drawing_1 : decode cX12_drawing 1 = .ok (.iconst 0, 1) := by decide +kernel
theorem dX12_drawing_2 : decode cX12_drawing 2 = .ok (.putfield 1, 3) := by decide +kernel
theorem dX12_drawing_5 : decode cX12_drawing 5 = .ok (.aload_n 0, 1) := by decide +kernel
theorem dX12_drawing_6 : decode cX12_drawing 6 = .ok (.iload_n 1, 1) := by decide +kernel
theorem dX12_drawing_7 : decode cX12_drawing 7 = .ok (.i2l, 1) := by decide +kernel
theorem dX12_drawing_8 : decode cX12_drawing 8 = .ok (.invokevirtual 245, 3) := by decide +kernel
theorem dX12_drawing_11 : decode cX12_drawing 11 = .ok (.ifCond .ne 6, 3) := by decide +kernel
theorem dX12_drawing_14 : decode cX12_drawing 14 = .ok (.ldc 249, 2) := by decide +kernel
theorem dX12_drawing_16 : decode cX12_drawing 16 = .ok (.ireturn, 1) := by decide +kernel
theorem dX12_drawing_17 : decode cX12_drawing 17 = .ok (.aload_n 0, 1) := by decide +kernel
theorem dX12_drawing_18 : decode cX12_drawing 18 = .ok (.iload_n 1, 1) := by decide +kernel
theorem dX12_drawing_19 : decode cX12_drawing 19 = .ok (.invokevirtual 373, 3) := by decide +kernel
theorem dX12_drawing_22 : decode cX12_drawing 22 = .ok (.aload_n 0, 1) := by decide +kernel
theorem dX12_drawing_23 : decode cX12_drawing 23 = .ok (.iload_n 1, 1) := by decide +kernel
theorem dX12_drawing_24 : decode cX12_drawing 24 = .ok (.invokevirtual 253, 3) := by decide +kernel
theorem dX12_drawing_27 : decode cX12_drawing 27 = .ok (.istore_n 2, 1) := by decide +kernel
theorem dX12_drawing_28 : decode cX12_drawing 28 = .ok (.aload_n 0, 1) := by decide +kernel
theorem dX12_drawing_29 : decode cX12_drawing 29 = .ok (.iload_n 2, 1) := by decide +kernel
theorem dX12_drawing_30 : decode cX12_drawing 30 = .ok (.invokevirtual 370, 3) := by decide +kernel
theorem dX12_drawing_33 : decode cX12_drawing 33 = .ok (.ifCond .eq 21, 3) := by decide +kernel
theorem dX12_drawing_36 : decode cX12_drawing 36 = .ok (.aload_n 0, 1) := by decide +kernel
theorem dX12_drawing_37 : decode cX12_drawing 37 = .ok (.iload_n 2, 1) := by decide +kernel
theorem dX12_drawing_38 : decode cX12_drawing 38 = .ok (.invokevirtual 403, 3) := by decide +kernel
theorem dX12_drawing_41 : decode cX12_drawing 41 = .ok (.aload_n 0, 1) := by decide +kernel
theorem dX12_drawing_42 : decode cX12_drawing 42 = .ok (.iload_n 2, 1) := by decide +kernel
theorem dX12_drawing_43 : decode cX12_drawing 43 = .ok (.invokevirtual 398, 3) := by decide +kernel
theorem dX12_drawing_46 : decode cX12_drawing 46 = .ok (.lcmp, 1) := by decide +kernel
theorem dX12_drawing_47 : decode cX12_drawing 47 = .ok (.ifCond .ne 7, 3) := by decide +kernel
theorem dX12_drawing_50 : decode cX12_drawing 50 = .ok (.iconst 1, 1) := by decide +kernel
theorem dX12_drawing_51 : decode cX12_drawing 51 = .ok (.goto 4, 3) := by decide +kernel
theorem dX12_drawing_54 : decode cX12_drawing 54 = .ok (.iconst 0, 1) := by decide +kernel
theorem dX12_drawing_55 : decode cX12_drawing 55 = .ok (.ireturn, 1) := by decide +kernel
theorem dX12_yearsLeft_0 : decode cX12_yearsLeft 0 = .ok (.aload_n 0, 1) := by decide +kernel
theorem dX12_yearsLeft_1 : decode cX12_yearsLeft 1 = .ok (.getfield 13, 3) := by decide +kernel
theorem dX12_yearsLeft_4 : decode cX12_yearsLeft 4 = .ok (.iconst 1, 1) := by decide +kernel
theorem dX12_yearsLeft_5 : decode cX12_yearsLeft 5 = .ok (.iaload, 1) := by decide +kernel
theorem dX12_yearsLeft_6 : decode cX12_yearsLeft 6 = .ok (.iload_n 1, 1) := by decide +kernel
theorem dX12_yearsLeft_7 : decode cX12_yearsLeft 7 = .ok (.invokestatic 224, 3) := by decide +kernel
theorem dX12_yearsLeft_10 : decode cX12_yearsLeft 10 = .ok (.isub, 1) := by decide +kernel
theorem dX12_yearsLeft_11 : decode cX12_yearsLeft 11 = .ok (.aload_n 0, 1) := by decide +kernel
theorem dX12_yearsLeft_12 : decode cX12_yearsLeft 12 = .ok (.iload_n 1, 1) := by decide +kernel
theorem dX12_yearsLeft_13 : decode cX12_yearsLeft 13 = .ok (.invokevirtual 370, 3) := by decide +kernel
theorem dX12_yearsLeft_16 : decode cX12_yearsLeft 16 = .ok (.ifCond .eq 12, 3) := by decide +kernel
theorem dX12_yearsLeft_19 : decode cX12_yearsLeft 19 = .ok (.aload_n 0, 1) := by decide +kernel
theorem dX12_yearsLeft_20 : decode cX12_yearsLeft 20 = .ok (.getfield 13, 3) := by decide +kernel
theorem dX12_yearsLeft_23 : decode cX12_yearsLeft 23 = .ok (.iconst 1, 1) := by decide +kernel
theorem dX12_yearsLeft_24 : decode cX12_yearsLeft 24 = .ok (.iaload, 1) := by decide +kernel
theorem dX12_yearsLeft_25 : decode cX12_yearsLeft 25 = .ok (.goto 4, 3) := by decide +kernel
theorem dX12_yearsLeft_28 : decode cX12_yearsLeft 28 = .ok (.iconst 0, 1) := by decide +kernel
theorem dX12_yearsLeft_29 : decode cX12_yearsLeft 29 = .ok (.iadd, 1) := by decide +kernel
theorem dX12_yearsLeft_30 : decode cX12_yearsLeft 30 = .ok (.ireturn, 1) := by decide +kernel
theorem dX12_drawnHope_0 : decode cX12_drawnHope 0 = .ok (.aload_n 0, 1) := by decide +kernel
theorem dX12_drawnHope_1 : decode cX12_drawnHope 1 = .ok (.iload_n 1, 1) := by decide +kernel
theorem dX12_drawnHope_2 : decode cX12_drawnHope 2 = .ok (.invokevirtual 370, 3) := by decide +kernel
theorem dX12_drawnHope_5 : decode cX12_drawnHope 5 = .ok (.ifCond .eq 20, 3) := by decide +kernel
theorem dX12_drawnHope_8 : decode cX12_drawnHope 8 = .ok (.aload_n 0, 1) := by decide +kernel
theorem dX12_drawnHope_9 : decode cX12_drawnHope 9 = .ok (.aload_n 0, 1) := by decide +kernel
theorem dX12_drawnHope_10 : decode cX12_drawnHope 10 = .ok (.aload_n 0, 1) := by decide +kernel
theorem dX12_drawnHope_11 : decode cX12_drawnHope 11 = .ok (.getfield 360, 3) := by decide +kernel
theorem dX12_drawnHope_14 : decode cX12_drawnHope 14 = .ok (.iload_n 1, 1) := by decide +kernel
theorem dX12_drawnHope_15 : decode cX12_drawnHope 15 = .ok (.invokevirtual 275, 3) := by decide +kernel
theorem dX12_drawnHope_18 : decode cX12_drawnHope 18 = .ok (.iload_n 2, 1) := by decide +kernel
theorem dX12_drawnHope_19 : decode cX12_drawnHope 19 = .ok (.invokevirtual 418, 3) := by decide +kernel
theorem dX12_drawnHope_22 : decode cX12_drawnHope 22 = .ok (.goto 4, 3) := by decide +kernel
theorem dX12_drawnHope_25 : decode cX12_drawnHope 25 = .ok (.lconst 0, 1) := by decide +kernel
theorem dX12_drawnHope_26 : decode cX12_drawnHope 26 = .ok (.lreturn, 1) := by decide +kernel
theorem dX12_livedHope_0 : decode cX12_livedHope 0 = .ok (.aload_n 0, 1) := by decide +kernel
theorem dX12_livedHope_1 : decode cX12_livedHope 1 = .ok (.iload_n 1, 1) := by decide +kernel
theorem dX12_livedHope_2 : decode cX12_livedHope 2 = .ok (.iload_n 2, 1) := by decide +kernel
theorem dX12_livedHope_3 : decode cX12_livedHope 3 = .ok (.invokestatic 268, 3) := by decide +kernel
theorem dX12_livedHope_6 : decode cX12_livedHope 6 = .ok (.iload_n 3, 1) := by decide +kernel
theorem dX12_livedHope_7 : decode cX12_livedHope 7 = .ok (.aload_n 0, 1) := by decide +kernel
theorem dX12_livedHope_8 : decode cX12_livedHope 8 = .ok (.aload_n 0, 1) := by decide +kernel
theorem dX12_livedHope_9 : decode cX12_livedHope 9 = .ok (.getfield 360, 3) := by decide +kernel
theorem dX12_livedHope_12 : decode cX12_livedHope 12 = .ok (.iload_n 1, 1) := by decide +kernel
theorem dX12_livedHope_13 : decode cX12_livedHope 13 = .ok (.iload_n 2, 1) := by decide +kernel
theorem dX12_livedHope_14 : decode cX12_livedHope 14 = .ok (.invokevirtual 259, 3) := by decide +kernel
theorem dX12_livedHope_17 : decode cX12_livedHope 17 = .ok (.isub, 1) := by decide +kernel
theorem dX12_livedHope_18 : decode cX12_livedHope 18 = .ok (.invokevirtual 418, 3) := by decide +kernel
theorem dX12_livedHope_21 : decode cX12_livedHope 21 = .ok (.ldc2_w 307, 3) := by decide +kernel
theorem dX12_livedHope_24 : decode cX12_livedHope 24 = .ok (.ldiv, 1) := by decide +kernel
theorem dX12_livedHope_25 : decode cX12_livedHope 25 = .ok (.bipush 10, 2) := by decide +kernel
theorem dX12_livedHope_27 : decode cX12_livedHope 27 = .ok (.aload_n 0, 1) := by decide +kernel
theorem dX12_livedHope_28 : decode cX12_livedHope 28 = .ok (.getfield 13, 3) := by decide +kernel
theorem dX12_livedHope_31 : decode cX12_livedHope 31 = .ok (.iconst 4, 1) := by decide +kernel
theorem dX12_livedHope_32 : decode cX12_livedHope 32 = .ok (.iaload, 1) := by decide +kernel
theorem dX12_livedHope_33 : decode cX12_livedHope 33 = .ok (.isub, 1) := by decide +kernel
theorem dX12_livedHope_34 : decode cX12_livedHope 34 = .ok (.i2l, 1) := by decide +kernel
theorem dX12_livedHope_35 : decode cX12_livedHope 35 = .ok (.lmul, 1) := by decide +kernel
theorem dX12_livedHope_36 : decode cX12_livedHope 36 = .ok (.aload_n 0, 1) := by decide +kernel
theorem dX12_livedHope_37 : decode cX12_livedHope 37 = .ok (.iload_n 1, 1) := by decide +kernel
theorem dX12_livedHope_38 : decode cX12_livedHope 38 = .ok (.iload_n 3, 1) := by decide +kernel
theorem dX12_livedHope_39 : decode cX12_livedHope 39 = .ok (.invokevirtual 421, 3) := by decide +kernel
theorem dX12_livedHope_42 : decode cX12_livedHope 42 = .ok (.ldc2_w 307, 3) := by decide +kernel
theorem dX12_livedHope_45 : decode cX12_livedHope 45 = .ok (.ldiv, 1) := by decide +kernel
theorem dX12_livedHope_46 : decode cX12_livedHope 46 = .ok (.aload_n 0, 1) := by decide +kernel
theorem dX12_livedHope_47 : decode cX12_livedHope 47 = .ok (.getfield 13, 3) := by decide +kernel
theorem dX12_livedHope_50 : decode cX12_livedHope 50 = .ok (.iconst 4, 1) := by decide +kernel
theorem dX12_livedHope_51 : decode cX12_livedHope 51 = .ok (.iaload, 1) := by decide +kernel
theorem dX12_livedHope_52 : decode cX12_livedHope 52 = .ok (.i2l, 1) := by decide +kernel
theorem dX12_livedHope_53 : decode cX12_livedHope 53 = .ok (.lmul, 1) := by decide +kernel
theorem dX12_livedHope_54 : decode cX12_livedHope 54 = .ok (.ladd, 1) := by decide +kernel
theorem dX12_livedHope_55 : decode cX12_livedHope 55 = .ok (.lreturn, 1) := by decide +kernel
theorem dX12_hopeFrom_0 : decode cX12_hopeFrom 0 = .ok (.iload_n 2, 1) := by decide +kernel
theorem dX12_hopeFrom_1 : decode cX12_hopeFrom 1 = .ok (.ifCond .gt 7, 3) := by decide +kernel
theorem dX12_hopeFrom_4 : decode cX12_hopeFrom 4 = .ok (.ldc2_w 401, 3) := by decide +kernel
theorem dX12_hopeFrom_7 : decode cX12_hopeFrom 7 = .ok (.lreturn, 1) := by decide +kernel
theorem dX12_hopeFrom_8 : decode cX12_hopeFrom 8 = .ok (.iload_n 2, 1) := by decide +kernel
theorem dX12_hopeFrom_9 : decode cX12_hopeFrom 9 = .ok (.bipush 9, 2) := by decide +kernel
theorem dX12_hopeFrom_11 : decode cX12_hopeFrom 11 = .ok (.aload_n 0, 1) := by decide +kernel
theorem dX12_hopeFrom_12 : decode cX12_hopeFrom 12 = .ok (.iload_n 1, 1) := by decide +kernel
theorem dX12_hopeFrom_13 : decode cX12_hopeFrom 13 = .ok (.invokevirtual 424, 3) := by decide +kernel
theorem dX12_hopeFrom_16 : decode cX12_hopeFrom 16 = .ok (.imul, 1) := by decide +kernel
theorem dX12_hopeFrom_17 : decode cX12_hopeFrom 17 = .ok (.if_icmp .le 5, 3) := by decide +kernel
theorem dX12_hopeFrom_20 : decode cX12_hopeFrom 20 = .ok (.lconst 0, 1) := by decide +kernel
theorem dX12_hopeFrom_21 : decode cX12_hopeFrom 21 = .ok (.lreturn, 1) := by decide +kernel
theorem dX12_hopeFrom_22 : decode cX12_hopeFrom 22 = .ok (.bipush 109, 2) := by decide +kernel
theorem dX12_hopeFrom_24 : decode cX12_hopeFrom 24 = .ok (.iload_n 1, 1) := by decide +kernel
theorem dX12_hopeFrom_25 : decode cX12_hopeFrom 25 = .ok (.imul, 1) := by decide +kernel
theorem dX12_hopeFrom_26 : decode cX12_hopeFrom 26 = .ok (.iload_n 2, 1) := by decide +kernel
theorem dX12_hopeFrom_27 : decode cX12_hopeFrom 27 = .ok (.iadd, 1) := by decide +kernel
theorem dX12_hopeFrom_28 : decode cX12_hopeFrom 28 = .ok (.istore_n 3, 1) := by decide +kernel
theorem dX12_hopeFrom_29 : decode cX12_hopeFrom 29 = .ok (.aload_n 0, 1) := by decide +kernel
theorem dX12_hopeFrom_30 : decode cX12_hopeFrom 30 = .ok (.getfield 62, 3) := by decide +kernel
theorem dX12_hopeFrom_33 : decode cX12_hopeFrom 33 = .ok (.iload_n 3, 1) := by decide +kernel
theorem dX12_hopeFrom_34 : decode cX12_hopeFrom 34 = .ok (.laload, 1) := by decide +kernel
theorem dX12_hopeFrom_35 : decode cX12_hopeFrom 35 = .ok (.lconst 0, 1) := by decide +kernel
theorem dX12_hopeFrom_36 : decode cX12_hopeFrom 36 = .ok (.lcmp, 1) := by decide +kernel
theorem dX12_hopeFrom_37 : decode cX12_hopeFrom 37 = .ok (.ifCond .lt 10, 3) := by decide +kernel
theorem dX12_hopeFrom_40 : decode cX12_hopeFrom 40 = .ok (.aload_n 0, 1) := by decide +kernel
theorem dX12_hopeFrom_41 : decode cX12_hopeFrom 41 = .ok (.getfield 62, 3) := by decide +kernel
theorem dX12_hopeFrom_44 : decode cX12_hopeFrom 44 = .ok (.iload_n 3, 1) := by decide +kernel
theorem dX12_hopeFrom_45 : decode cX12_hopeFrom 45 = .ok (.laload, 1) := by decide +kernel
theorem dX12_hopeFrom_46 : decode cX12_hopeFrom 46 = .ok (.lreturn, 1) := by decide +kernel
theorem dX12_hopeFrom_47 : decode cX12_hopeFrom 47 = .ok (.aload_n 0, 1) := by decide +kernel
theorem dX12_hopeFrom_48 : decode cX12_hopeFrom 48 = .ok (.iload_n 1, 1) := by decide +kernel
theorem dX12_hopeFrom_49 : decode cX12_hopeFrom 49 = .ok (.iload_n 2, 1) := by decide +kernel
theorem dX12_hopeFrom_50 : decode cX12_hopeFrom 50 = .ok (.invokevirtual 421, 3) := by decide +kernel
theorem dX12_hopeFrom_53 : decode cX12_hopeFrom 53 = .ok (.lstore 4, 2) := by decide +kernel
theorem dX12_hopeFrom_55 : decode cX12_hopeFrom 55 = .ok (.iconst 0, 1) := by decide +kernel
theorem dX12_hopeFrom_56 : decode cX12_hopeFrom 56 = .ok (.istore 6, 2) := by decide +kernel
theorem dX12_hopeFrom_58 : decode cX12_hopeFrom 58 = .ok (.iload 6, 2) := by decide +kernel
theorem dX12_hopeFrom_60 : decode cX12_hopeFrom 60 = .ok (.aload_n 0, 1) := by decide +kernel
theorem dX12_hopeFrom_61 : decode cX12_hopeFrom 61 = .ok (.getfield 13, 3) := by decide +kernel
theorem dX12_hopeFrom_64 : decode cX12_hopeFrom 64 = .ok (.iconst 2, 1) := by decide +kernel
theorem dX12_hopeFrom_65 : decode cX12_hopeFrom 65 = .ok (.iaload, 1) := by decide +kernel
theorem dX12_hopeFrom_66 : decode cX12_hopeFrom 66 = .ok (.if_icmp .ge 44, 3) := by decide +kernel
theorem dX12_hopeFrom_69 : decode cX12_hopeFrom 69 = .ok (.aload_n 0, 1) := by decide +kernel
theorem dX12_hopeFrom_70 : decode cX12_hopeFrom 70 = .ok (.iload_n 1, 1) := by decide +kernel
theorem dX12_hopeFrom_71 : decode cX12_hopeFrom 71 = .ok (.invokevirtual 256, 3) := by decide +kernel
theorem dX12_hopeFrom_74 : decode cX12_hopeFrom 74 = .ok (.ifCond .ne 36, 3) := by decide +kernel
theorem dX12_hopeFrom_77 : decode cX12_hopeFrom 77 = .ok (.aload_n 0, 1) := by decide +kernel
theorem dX12_hopeFrom_78 : decode cX12_hopeFrom 78 = .ok (.iload_n 1, 1) := by decide +kernel
theorem dX12_hopeFrom_79 : decode cX12_hopeFrom 79 = .ok (.iload 6, 2) := by decide +kernel
theorem dX12_hopeFrom_81 : decode cX12_hopeFrom 81 = .ok (.iload_n 2, 1) := by decide +kernel
theorem dX12_hopeFrom_82 : decode cX12_hopeFrom 82 = .ok (.invokevirtual 427, 3) := by decide +kernel
theorem dX12_hopeFrom_85 : decode cX12_hopeFrom 85 = .ok (.lstore 7, 2) := by decide +kernel
theorem dX12_hopeFrom_87 : decode cX12_hopeFrom 87 = .ok (.lload 7, 2) := by decide +kernel
theorem dX12_hopeFrom_89 : decode cX12_hopeFrom 89 = .ok (.lload 4, 2) := by decide +kernel
theorem dX12_hopeFrom_91 : decode cX12_hopeFrom 91 = .ok (.lcmp, 1) := by decide +kernel
theorem dX12_hopeFrom_92 : decode cX12_hopeFrom 92 = .ok (.ifCond .le 8, 3) := by decide +kernel
theorem dX12_hopeFrom_95 : decode cX12_hopeFrom 95 = .ok (.lload 7, 2) := by decide +kernel
theorem dX12_hopeFrom_97 : decode cX12_hopeFrom 97 = .ok (.goto 5, 3) := by decide +kernel
theorem dX12_hopeFrom_100 : decode cX12_hopeFrom 100 = .ok (.lload 4, 2) := by decide +kernel
theorem dX12_hopeFrom_102 : decode cX12_hopeFrom 102 = .ok (.lstore 4, 2) := by decide +kernel
theorem dX12_hopeFrom_104 : decode cX12_hopeFrom 104 = .ok (.iinc 6 1, 3) := by decide +kernel
theorem dX12_hopeFrom_107 : decode cX12_hopeFrom 107 = .ok (.goto (-49), 3) := by decide +kernel
theorem dX12_hopeFrom_110 : decode cX12_hopeFrom 110 = .ok (.aload_n 0, 1) := by decide +kernel
theorem dX12_hopeFrom_111 : decode cX12_hopeFrom 111 = .ok (.getfield 62, 3) := by decide +kernel
theorem dX12_hopeFrom_114 : decode cX12_hopeFrom 114 = .ok (.iload_n 3, 1) := by decide +kernel
theorem dX12_hopeFrom_115 : decode cX12_hopeFrom 115 = .ok (.lload 4, 2) := by decide +kernel
theorem dX12_hopeFrom_117 : decode cX12_hopeFrom 117 = .ok (.lastore, 1) := by decide +kernel
theorem dX12_hopeFrom_118 : decode cX12_hopeFrom 118 = .ok (.lload 4, 2) := by decide +kernel
theorem dX12_hopeFrom_120 : decode cX12_hopeFrom 120 = .ok (.lreturn, 1) := by decide +kernel
theorem dX12_beginsHope_0 : decode cX12_beginsHope 0 = .ok (.aload_n 0, 1) := by decide +kernel
theorem dX12_beginsHope_1 : decode cX12_beginsHope 1 = .ok (.iload_n 1, 1) := by decide +kernel
theorem dX12_beginsHope_2 : decode cX12_beginsHope 2 = .ok (.invokevirtual 373, 3) := by decide +kernel
theorem dX12_beginsHope_5 : decode cX12_beginsHope 5 = .ok (.iconst 0, 1) := by decide +kernel
theorem dX12_beginsHope_6 : decode cX12_beginsHope 6 = .ok (.istore_n 2, 1) := by decide +kernel
theorem dX12_beginsHope_7 : decode cX12_beginsHope 7 = .ok (.iload_n 2, 1) := by decide +kernel
theorem dX12_beginsHope_8 : decode cX12_beginsHope 8 = .ok (.ldc 61, 2) := by decide +kernel
theorem dX12_beginsHope_10 : decode cX12_beginsHope 10 = .ok (.if_icmp .ge 18, 3) := by decide +kernel
theorem dX12_beginsHope_13 : decode cX12_beginsHope 13 = .ok (.aload_n 0, 1) := by decide +kernel
theorem dX12_beginsHope_14 : decode cX12_beginsHope 14 = .ok (.getfield 62, 3) := by decide +kernel
theorem dX12_beginsHope_17 : decode cX12_beginsHope 17 = .ok (.iload_n 2, 1) := by decide +kernel
theorem dX12_beginsHope_18 : decode cX12_beginsHope 18 = .ok (.ldc2_w 431, 3) := by decide +kernel
theorem dX12_beginsHope_21 : decode cX12_beginsHope 21 = .ok (.lastore, 1) := by decide +kernel
theorem dX12_beginsHope_22 : decode cX12_beginsHope 22 = .ok (.iinc 2 1, 3) := by decide +kernel
theorem dX12_beginsHope_25 : decode cX12_beginsHope 25 = .ok (.goto (-18), 3) := by decide +kernel
theorem dX12_beginsHope_28 : decode cX12_beginsHope 28 = .ok (.return_, 1) := by decide +kernel
theorem dX12_hope_0 : decode cX12_hope 0 = .ok (.aload_n 0, 1) := by decide +kernel
theorem dX12_hope_1 : decode cX12_hope 1 = .ok (.iconst 0, 1) := by decide +kernel
theorem dX12_hope_2 : decode cX12_hope 2 = .ok (.putfield 1, 3) := by decide +kernel
theorem dX12_hope_5 : decode cX12_hope 5 = .ok (.aload_n 0, 1) := by decide +kernel
theorem dX12_hope_6 : decode cX12_hope 6 = .ok (.iload_n 1, 1) := by decide +kernel
theorem dX12_hope_7 : decode cX12_hope 7 = .ok (.i2l, 1) := by decide +kernel
theorem dX12_hope_8 : decode cX12_hope 8 = .ok (.invokevirtual 245, 3) := by decide +kernel
theorem dX12_hope_11 : decode cX12_hope 11 = .ok (.ifCond .eq 13, 3) := by decide +kernel
theorem dX12_hope_14 : decode cX12_hope 14 = .ok (.iload_n 3, 1) := by decide +kernel
theorem dX12_hope_15 : decode cX12_hope 15 = .ok (.i2l, 1) := by decide +kernel
theorem dX12_hope_16 : decode cX12_hope 16 = .ok (.lconst 0, 1) := by decide +kernel
theorem dX12_hope_17 : decode cX12_hope 17 = .ok (.lconst 1, 1) := by decide +kernel
theorem dX12_hope_18 : decode cX12_hope 18 = .ok (.invokestatic 144, 3) := by decide +kernel
theorem dX12_hope_21 : decode cX12_hope 21 = .ok (.ifCond .ne 7, 3) := by decide +kernel
theorem dX12_hope_24 : decode cX12_hope 24 = .ok (.ldc2_w 389, 3) := by decide +kernel
theorem dX12_hope_27 : decode cX12_hope 27 = .ok (.lreturn, 1) := by decide +kernel
theorem dX12_hope_28 : decode cX12_hope 28 = .ok (.iload_n 2, 1) := by decide +kernel
theorem dX12_hope_29 : decode cX12_hope 29 = .ok (.i2l, 1) := by decide +kernel
theorem dX12_hope_30 : decode cX12_hope 30 = .ok (.lconst 0, 1) := by decide +kernel
theorem dX12_hope_31 : decode cX12_hope 31 = .ok (.ldc2_w 433, 3) := by decide +kernel
theorem dX12_hope_34 : decode cX12_hope 34 = .ok (.invokestatic 144, 3) := by decide +kernel
theorem dX12_hope_37 : decode cX12_hope 37 = .ok (.ifCond .ne 7, 3) := by decide +kernel
theorem dX12_hope_40 : decode cX12_hope 40 = .ok (.ldc2_w 435, 3) := by decide +kernel
theorem dX12_hope_43 : decode cX12_hope 43 = .ok (.lreturn, 1) := by decide +kernel
theorem dX12_hope_44 : decode cX12_hope 44 = .ok (.aload_n 0, 1) := by decide +kernel
theorem dX12_hope_45 : decode cX12_hope 45 = .ok (.iload_n 1, 1) := by decide +kernel
theorem dX12_hope_46 : decode cX12_hope 46 = .ok (.invokevirtual 437, 3) := by decide +kernel
theorem dX12_hope_49 : decode cX12_hope 49 = .ok (.aload_n 0, 1) := by decide +kernel
theorem dX12_hope_50 : decode cX12_hope 50 = .ok (.aload_n 0, 1) := by decide +kernel
theorem dX12_hope_51 : decode cX12_hope 51 = .ok (.iload_n 1, 1) := by decide +kernel
theorem dX12_hope_52 : decode cX12_hope 52 = .ok (.invokevirtual 253, 3) := by decide +kernel
theorem dX12_hope_55 : decode cX12_hope 55 = .ok (.iload_n 2, 1) := by decide +kernel
theorem dX12_hope_56 : decode cX12_hope 56 = .ok (.invokevirtual 418, 3) := by decide +kernel
theorem dX12_hope_59 : decode cX12_hope 59 = .ok (.iload_n 3, 1) := by decide +kernel
theorem dX12_hope_60 : decode cX12_hope 60 = .ok (.invokestatic 414, 3) := by decide +kernel
theorem dX12_hope_63 : decode cX12_hope 63 = .ok (.lreturn, 1) := by decide +kernel
theorem dX12_hoping_0 : decode cX12_hoping 0 = .ok (.aload_n 0, 1) := by decide +kernel
theorem dX12_hoping_1 : decode cX12_hoping 1 = .ok (.iconst 0, 1) := by decide +kernel
theorem dX12_hoping_2 : decode cX12_hoping 2 = .ok (.putfield 1, 3) := by decide +kernel
theorem dX12_hoping_5 : decode cX12_hoping 5 = .ok (.aload_n 0, 1) := by decide +kernel
theorem dX12_hoping_6 : decode cX12_hoping 6 = .ok (.iload_n 1, 1) := by decide +kernel
theorem dX12_hoping_7 : decode cX12_hoping 7 = .ok (.i2l, 1) := by decide +kernel
theorem dX12_hoping_8 : decode cX12_hoping 8 = .ok (.invokevirtual 245, 3) := by decide +kernel
theorem dX12_hoping_11 : decode cX12_hoping 11 = .ok (.ifCond .ne 6, 3) := by decide +kernel
theorem dX12_hoping_14 : decode cX12_hoping 14 = .ok (.ldc 249, 2) := by decide +kernel
theorem dX12_hoping_16 : decode cX12_hoping 16 = .ok (.ireturn, 1) := by decide +kernel
theorem dX12_hoping_17 : decode cX12_hoping 17 = .ok (.iload_n 2, 1) := by decide +kernel
theorem dX12_hoping_18 : decode cX12_hoping 18 = .ok (.i2l, 1) := by decide +kernel
theorem dX12_hoping_19 : decode cX12_hoping 19 = .ok (.lconst 0, 1) := by decide +kernel
theorem dX12_hoping_20 : decode cX12_hoping 20 = .ok (.ldc2_w 433, 3) := by decide +kernel
theorem dX12_hoping_23 : decode cX12_hoping 23 = .ok (.invokestatic 144, 3) := by decide +kernel
theorem dX12_hoping_26 : decode cX12_hoping 26 = .ok (.ifCond .ne 6, 3) := by decide +kernel
theorem dX12_hoping_29 : decode cX12_hoping 29 = .ok (.ldc 201, 2) := by decide +kernel
theorem dX12_hoping_31 : decode cX12_hoping 31 = .ok (.ireturn, 1) := by decide +kernel
theorem dX12_hoping_32 : decode cX12_hoping 32 = .ok (.aload_n 0, 1) := by decide +kernel
theorem dX12_hoping_33 : decode cX12_hoping 33 = .ok (.iload_n 1, 1) := by decide +kernel
theorem dX12_hoping_34 : decode cX12_hoping 34 = .ok (.invokevirtual 437, 3) := by decide +kernel
theorem dX12_hoping_37 : decode cX12_hoping 37 = .ok (.aload_n 0, 1) := by decide +kernel
theorem dX12_hoping_38 : decode cX12_hoping 38 = .ok (.iload_n 1, 1) := by decide +kernel
theorem dX12_hoping_39 : decode cX12_hoping 39 = .ok (.invokevirtual 253, 3) := by decide +kernel
theorem dX12_hoping_42 : decode cX12_hoping 42 = .ok (.istore_n 3, 1) := by decide +kernel
theorem dX12_hoping_43 : decode cX12_hoping 43 = .ok (.aload_n 0, 1) := by decide +kernel
theorem dX12_hoping_44 : decode cX12_hoping 44 = .ok (.iload_n 3, 1) := by decide +kernel
theorem dX12_hoping_45 : decode cX12_hoping 45 = .ok (.iload_n 2, 1) := by decide +kernel
theorem dX12_hoping_46 : decode cX12_hoping 46 = .ok (.invokevirtual 418, 3) := by decide +kernel
theorem dX12_hoping_49 : decode cX12_hoping 49 = .ok (.lstore 4, 2) := by decide +kernel
theorem dX12_hoping_51 : decode cX12_hoping 51 = .ok (.iload_n 2, 1) := by decide +kernel
theorem dX12_hoping_52 : decode cX12_hoping 52 = .ok (.ifCond .eq 10, 3) := by decide +kernel
theorem dX12_hoping_55 : decode cX12_hoping 55 = .ok (.lload 4, 2) := by decide +kernel
theorem dX12_hoping_57 : decode cX12_hoping 57 = .ok (.lconst 0, 1) := by decide +kernel
theorem dX12_hoping_58 : decode cX12_hoping 58 = .ok (.lcmp, 1) := by decide +kernel
theorem dX12_hoping_59 : decode cX12_hoping 59 = .ok (.ifCond .ne 5, 3) := by decide +kernel
theorem dX12_hoping_62 : decode cX12_hoping 62 = .ok (.iconst (-1), 1) := by decide +kernel
theorem dX12_hoping_63 : decode cX12_hoping 63 = .ok (.ireturn, 1) := by decide +kernel
theorem dX12_hoping_64 : decode cX12_hoping 64 = .ok (.iconst 0, 1) := by decide +kernel
theorem dX12_hoping_65 : decode cX12_hoping 65 = .ok (.istore 6, 2) := by decide +kernel
theorem dX12_hoping_67 : decode cX12_hoping 67 = .ok (.iload 6, 2) := by decide +kernel
theorem dX12_hoping_69 : decode cX12_hoping 69 = .ok (.aload_n 0, 1) := by decide +kernel
theorem dX12_hoping_70 : decode cX12_hoping 70 = .ok (.getfield 13, 3) := by decide +kernel
theorem dX12_hoping_73 : decode cX12_hoping 73 = .ok (.iconst 2, 1) := by decide +kernel
theorem dX12_hoping_74 : decode cX12_hoping 74 = .ok (.iaload, 1) := by decide +kernel
theorem dX12_hoping_75 : decode cX12_hoping 75 = .ok (.if_icmp .ge 34, 3) := by decide +kernel
theorem dX12_hoping_78 : decode cX12_hoping 78 = .ok (.aload_n 0, 1) := by decide +kernel
theorem dX12_hoping_79 : decode cX12_hoping 79 = .ok (.iload_n 3, 1) := by decide +kernel
theorem dX12_hoping_80 : decode cX12_hoping 80 = .ok (.invokevirtual 256, 3) := by decide +kernel
theorem dX12_hoping_83 : decode cX12_hoping 83 = .ok (.ifCond .ne 26, 3) := by decide +kernel
theorem dX12_hoping_86 : decode cX12_hoping 86 = .ok (.aload_n 0, 1) := by decide +kernel
theorem dX12_hoping_87 : decode cX12_hoping 87 = .ok (.iload_n 3, 1) := by decide +kernel
theorem dX12_hoping_88 : decode cX12_hoping 88 = .ok (.iload 6, 2) := by decide +kernel
theorem dX12_hoping_90 : decode cX12_hoping 90 = .ok (.iload_n 2, 1) := by decide +kernel
theorem dX12_hoping_91 : decode cX12_hoping 91 = .ok (.invokevirtual 427, 3) := by decide +kernel
theorem dX12_hoping_94 : decode cX12_hoping 94 = .ok (.lload 4, 2) := by decide +kernel
theorem dX12_hoping_96 : decode cX12_hoping 96 = .ok (.lcmp, 1) := by decide +kernel
theorem dX12_hoping_97 : decode cX12_hoping 97 = .ok (.ifCond .ne 6, 3) := by decide +kernel
theorem dX12_hoping_100 : decode cX12_hoping 100 = .ok (.iload 6, 2) := by decide +kernel
theorem dX12_hoping_102 : decode cX12_hoping 102 = .ok (.ireturn, 1) := by decide +kernel
theorem dX12_hoping_103 : decode cX12_hoping 103 = .ok (.iinc 6 1, 3) := by decide +kernel
theorem dX12_hoping_106 : decode cX12_hoping 106 = .ok (.goto (-39), 3) := by decide +kernel
theorem dX12_hoping_109 : decode cX12_hoping 109 = .ok (.bipush 9, 2) := by decide +kernel
theorem dX12_hoping_111 : decode cX12_hoping 111 = .ok (.ireturn, 1) := by decide +kernel
theorem dX12_noLived_0 : decode cX12_noLived 0 = .ok (.iload_n 1, 1) := by decide +kernel
theorem dX12_noLived_1 : decode cX12_noLived 1 = .ok (.i2l, 1) := by decide +kernel
theorem dX12_noLived_2 : decode cX12_noLived 2 = .ok (.lconst 0, 1) := by decide +kernel
theorem dX12_noLived_3 : decode cX12_noLived 3 = .ok (.ldc2_w 330, 3) := by decide +kernel
theorem dX12_noLived_6 : decode cX12_noLived 6 = .ok (.invokestatic 144, 3) := by decide +kernel
theorem dX12_noLived_9 : decode cX12_noLived 9 = .ok (.ifCond .eq 12, 3) := by decide +kernel
theorem dX12_noLived_12 : decode cX12_noLived 12 = .ok (.aload_n 0, 1) := by decide +kernel
theorem dX12_noLived_13 : decode cX12_noLived 13 = .ok (.iload_n 2, 1) := by decide +kernel
theorem dX12_noLived_14 : decode cX12_noLived 14 = .ok (.i2l, 1) := by decide +kernel
theorem dX12_noLived_15 : decode cX12_noLived 15 = .ok (.invokevirtual 245, 3) := by decide +kernel
theorem dX12_noLived_18 : decode cX12_noLived 18 = .ok (.ifCond .ne 6, 3) := by decide +kernel
theorem dX12_noLived_21 : decode cX12_noLived 21 = .ok (.ldc 249, 2) := by decide +kernel
theorem dX12_noLived_23 : decode cX12_noLived 23 = .ok (.ireturn, 1) := by decide +kernel
theorem dX12_noLived_24 : decode cX12_noLived 24 = .ok (.aload_n 0, 1) := by decide +kernel
theorem dX12_noLived_25 : decode cX12_noLived 25 = .ok (.iload_n 1, 1) := by decide +kernel
theorem dX12_noLived_26 : decode cX12_noLived 26 = .ok (.invokevirtual 333, 3) := by decide +kernel
theorem dX12_noLived_29 : decode cX12_noLived 29 = .ok (.istore_n 3, 1) := by decide +kernel
theorem dX12_noLived_30 : decode cX12_noLived 30 = .ok (.iload_n 3, 1) := by decide +kernel
theorem dX12_noLived_31 : decode cX12_noLived 31 = .ok (.ifCond .eq 5, 3) := by decide +kernel
theorem dX12_noLived_34 : decode cX12_noLived 34 = .ok (.iload_n 3, 1) := by decide +kernel
theorem dX12_noLived_35 : decode cX12_noLived 35 = .ok (.ireturn, 1) := by decide +kernel
theorem dX12_noLived_36 : decode cX12_noLived 36 = .ok (.aload_n 0, 1) := by decide +kernel
theorem dX12_noLived_37 : decode cX12_noLived 37 = .ok (.getfield 71, 3) := by decide +kernel
theorem dX12_noLived_40 : decode cX12_noLived 40 = .ok (.iload_n 1, 1) := by decide +kernel
theorem dX12_noLived_41 : decode cX12_noLived 41 = .ok (.iaload, 1) := by decide +kernel
theorem dX12_noLived_42 : decode cX12_noLived 42 = .ok (.i2l, 1) := by decide +kernel
theorem dX12_noLived_43 : decode cX12_noLived 43 = .ok (.lconst 1, 1) := by decide +kernel
theorem dX12_noLived_44 : decode cX12_noLived 44 = .ok (.ldc2_w 440, 3) := by decide +kernel
theorem dX12_noLived_47 : decode cX12_noLived 47 = .ok (.invokestatic 144, 3) := by decide +kernel
theorem dX12_noLived_50 : decode cX12_noLived 50 = .ok (.ifCond .eq 28, 3) := by decide +kernel
theorem dX12_noLived_53 : decode cX12_noLived 53 = .ok (.aload_n 0, 1) := by decide +kernel
theorem dX12_noLived_54 : decode cX12_noLived 54 = .ok (.getfield 71, 3) := by decide +kernel
theorem dX12_noLived_57 : decode cX12_noLived 57 = .ok (.iload_n 1, 1) := by decide +kernel
theorem dX12_noLived_58 : decode cX12_noLived 58 = .ok (.iaload, 1) := by decide +kernel
theorem dX12_noLived_59 : decode cX12_noLived 59 = .ok (.aload_n 0, 1) := by decide +kernel
theorem dX12_noLived_60 : decode cX12_noLived 60 = .ok (.getfield 13, 3) := by decide +kernel
theorem dX12_noLived_63 : decode cX12_noLived 63 = .ok (.iconst 1, 1) := by decide +kernel
theorem dX12_noLived_64 : decode cX12_noLived 64 = .ok (.iaload, 1) := by decide +kernel
theorem dX12_noLived_65 : decode cX12_noLived 65 = .ok (.aload_n 0, 1) := by decide +kernel
theorem dX12_noLived_66 : decode cX12_noLived 66 = .ok (.getfield 13, 3) := by decide +kernel
theorem dX12_noLived_69 : decode cX12_noLived 69 = .ok (.bipush 18, 2) := by decide +kernel
theorem dX12_noLived_71 : decode cX12_noLived 71 = .ok (.iload_n 2, 1) := by decide +kernel
theorem dX12_noLived_72 : decode cX12_noLived 72 = .ok (.iadd, 1) := by decide +kernel
theorem dX12_noLived_73 : decode cX12_noLived 73 = .ok (.iaload, 1) := by decide +kernel
theorem dX12_noLived_74 : decode cX12_noLived 74 = .ok (.isub, 1) := by decide +kernel
theorem dX12_noLived_75 : decode cX12_noLived 75 = .ok (.if_icmp .le 7, 3) := by decide +kernel
theorem dX12_noLived_78 : decode cX12_noLived 78 = .ok (.ldc_w 442, 3) := by decide +kernel
theorem dX12_noLived_81 : decode cX12_noLived 81 = .ok (.ireturn, 1) := by decide +kernel
theorem dX12_noLived_82 : decode cX12_noLived 82 = .ok (.iconst 0, 1) := by decide +kernel
theorem dX12_noLived_83 : decode cX12_noLived 83 = .ok (.istore 4, 2) := by decide +kernel
theorem dX12_noLived_85 : decode cX12_noLived 85 = .ok (.iload 4, 2) := by decide +kernel
theorem dX12_noLived_87 : decode cX12_noLived 87 = .ok (.aload_n 0, 1) := by decide +kernel
theorem dX12_noLived_88 : decode cX12_noLived 88 = .ok (.getfield 71, 3) := by decide +kernel
theorem dX12_noLived_91 : decode cX12_noLived 91 = .ok (.iload_n 1, 1) := by decide +kernel
theorem dX12_noLived_92 : decode cX12_noLived 92 = .ok (.iaload, 1) := by decide +kernel
theorem dX12_noLived_93 : decode cX12_noLived 93 = .ok (.if_icmp .ge 31, 3) := by decide +kernel
theorem dX12_noLived_96 : decode cX12_noLived 96 = .ok (.aload_n 0, 1) := by decide +kernel
theorem dX12_noLived_97 : decode cX12_noLived 97 = .ok (.aload_n 0, 1) := by decide +kernel
theorem dX12_noLived_98 : decode cX12_noLived 98 = .ok (.getfield 74, 3) := by decide +kernel
theorem dX12_noLived_101 : decode cX12_noLived 101 = .ok (.bipush 40, 2) := by decide +kernel
theorem dX12_noLived_103 : decode cX12_noLived 103 = .ok (.iload_n 1, 1) := by decide +kernel
theorem dX12_noLived_104 : decode cX12_noLived 104 = .ok (.imul, 1) := by decide +kernel
theorem dX12_noLived_105 : decode cX12_noLived 105 = .ok (.iload 4, 2) := by decide +kernel
theorem dX12_noLived_107 : decode cX12_noLived 107 = .ok (.iadd, 1) := by decide +kernel
theorem dX12_noLived_108 : decode cX12_noLived 108 = .ok (.laload, 1) := by decide +kernel
theorem dX12_noLived_109 : decode cX12_noLived 109 = .ok (.invokevirtual 250, 3) := by decide +kernel
theorem dX12_noLived_112 : decode cX12_noLived 112 = .ok (.ifCond .ne 6, 3) := by decide +kernel
theorem dX12_noLived_115 : decode cX12_noLived 115 = .ok (.ldc 201, 2) := by decide +kernel
theorem dX12_noLived_117 : decode cX12_noLived 117 = .ok (.ireturn, 1) := by decide +kernel
theorem dX12_noLived_118 : decode cX12_noLived 118 = .ok (.iinc 4 1, 3) := by decide +kernel
theorem dX12_noLived_121 : decode cX12_noLived 121 = .ok (.goto (-36), 3) := by decide +kernel
theorem dX12_noLived_124 : decode cX12_noLived 124 = .ok (.iconst 0, 1) := by decide +kernel
theorem dX12_noLived_125 : decode cX12_noLived 125 = .ok (.ireturn, 1) := by decide +kernel
theorem dX12_talentsOf_0 : decode cX12_talentsOf 0 = .ok (.iconst 0, 1) := by decide +kernel
theorem dX12_talentsOf_1 : decode cX12_talentsOf 1 = .ok (.istore 4, 2) := by decide +kernel
theorem dX12_talentsOf_3 : decode cX12_talentsOf 3 = .ok (.iconst 0, 1) := by decide +kernel
theorem dX12_talentsOf_4 : decode cX12_talentsOf 4 = .ok (.istore 5, 2) := by decide +kernel
theorem dX12_talentsOf_6 : decode cX12_talentsOf 6 = .ok (.iload 5, 2) := by decide +kernel
theorem dX12_talentsOf_8 : decode cX12_talentsOf 8 = .ok (.bipush 10, 2) := by decide +kernel
theorem dX12_talentsOf_10 : decode cX12_talentsOf 10 = .ok (.if_icmp .ge 97, 3) := by decide +kernel
theorem dX12_talentsOf_13 : decode cX12_talentsOf 13 = .ok (.aload_n 0, 1) := by decide +kernel
theorem dX12_talentsOf_14 : decode cX12_talentsOf 14 = .ok (.iload_n 2, 1) := by decide +kernel
theorem dX12_talentsOf_15 : decode cX12_talentsOf 15 = .ok (.invokevirtual 253, 3) := by decide +kernel
theorem dX12_talentsOf_18 : decode cX12_talentsOf 18 = .ok (.istore 6, 2) := by decide +kernel
theorem dX12_talentsOf_20 : decode cX12_talentsOf 20 = .ok (.iconst 0, 1) := by decide +kernel
theorem dX12_talentsOf_21 : decode cX12_talentsOf 21 = .ok (.istore 7, 2) := by decide +kernel
theorem dX12_talentsOf_23 : decode cX12_talentsOf 23 = .ok (.iconst 0, 1) := by decide +kernel
theorem dX12_talentsOf_24 : decode cX12_talentsOf 24 = .ok (.istore 8, 2) := by decide +kernel
theorem dX12_talentsOf_26 : decode cX12_talentsOf 26 = .ok (.iload 8, 2) := by decide +kernel
theorem dX12_talentsOf_28 : decode cX12_talentsOf 28 = .ok (.aload_n 0, 1) := by decide +kernel
theorem dX12_talentsOf_29 : decode cX12_talentsOf 29 = .ok (.getfield 71, 3) := by decide +kernel
theorem dX12_talentsOf_32 : decode cX12_talentsOf 32 = .ok (.iload_n 1, 1) := by decide +kernel
theorem dX12_talentsOf_33 : decode cX12_talentsOf 33 = .ok (.iaload, 1) := by decide +kernel
theorem dX12_talentsOf_34 : decode cX12_talentsOf 34 = .ok (.if_icmp .ge 48, 3) := by decide +kernel
theorem dX12_talentsOf_37 : decode cX12_talentsOf 37 = .ok (.aload_n 0, 1) := by decide +kernel
theorem dX12_talentsOf_38 : decode cX12_talentsOf 38 = .ok (.getfield 74, 3) := by decide +kernel
theorem dX12_talentsOf_41 : decode cX12_talentsOf 41 = .ok (.bipush 40, 2) := by decide +kernel
theorem dX12_talentsOf_43 : decode cX12_talentsOf 43 = .ok (.iload_n 1, 1) := by decide +kernel
theorem dX12_talentsOf_44 : decode cX12_talentsOf 44 = .ok (.imul, 1) := by decide +kernel
theorem dX12_talentsOf_45 : decode cX12_talentsOf 45 = .ok (.iload 8, 2) := by decide +kernel
theorem dX12_talentsOf_47 : decode cX12_talentsOf 47 = .ok (.iadd, 1) := by decide +kernel
theorem dX12_talentsOf_48 : decode cX12_talentsOf 48 = .ok (.laload, 1) := by decide +kernel
theorem dX12_talentsOf_49 : decode cX12_talentsOf 49 = .ok (.l2i, 1) := by decide +kernel
theorem dX12_talentsOf_50 : decode cX12_talentsOf 50 = .ok (.istore 9, 2) := by decide +kernel
theorem dX12_talentsOf_52 : decode cX12_talentsOf 52 = .ok (.iload 7, 2) := by decide +kernel
theorem dX12_talentsOf_54 : decode cX12_talentsOf 54 = .ok (.aload_n 0, 1) := by decide +kernel
theorem dX12_talentsOf_55 : decode cX12_talentsOf 55 = .ok (.iload 5, 2) := by decide +kernel
theorem dX12_talentsOf_57 : decode cX12_talentsOf 57 = .ok (.iload 6, 2) := by decide +kernel
theorem dX12_talentsOf_59 : decode cX12_talentsOf 59 = .ok (.iload 9, 2) := by decide +kernel
theorem dX12_talentsOf_61 : decode cX12_talentsOf 61 = .ok (.invokevirtual 259, 3) := by decide +kernel
theorem dX12_talentsOf_64 : decode cX12_talentsOf 64 = .ok (.iadd, 1) := by decide +kernel
theorem dX12_talentsOf_65 : decode cX12_talentsOf 65 = .ok (.istore 7, 2) := by decide +kernel
theorem dX12_talentsOf_67 : decode cX12_talentsOf 67 = .ok (.iload 6, 2) := by decide +kernel
theorem dX12_talentsOf_69 : decode cX12_talentsOf 69 = .ok (.iload 9, 2) := by decide +kernel
theorem dX12_talentsOf_71 : decode cX12_talentsOf 71 = .ok (.invokestatic 268, 3) := by decide +kernel
theorem dX12_talentsOf_74 : decode cX12_talentsOf 74 = .ok (.istore 6, 2) := by decide +kernel
theorem dX12_talentsOf_76 : decode cX12_talentsOf 76 = .ok (.iinc 8 1, 3) := by decide +kernel
theorem dX12_talentsOf_79 : decode cX12_talentsOf 79 = .ok (.goto (-53), 3) := by decide +kernel
theorem dX12_talentsOf_82 : decode cX12_talentsOf 82 = .ok (.iload 4, 2) := by decide +kernel
theorem dX12_talentsOf_84 : decode cX12_talentsOf 84 = .ok (.iload 7, 2) := by decide +kernel
theorem dX12_talentsOf_86 : decode cX12_talentsOf 86 = .ok (.iload_n 3, 1) := by decide +kernel
theorem dX12_talentsOf_87 : decode cX12_talentsOf 87 = .ok (.if_icmp .ne 10, 3) := by decide +kernel
theorem dX12_talentsOf_90 : decode cX12_talentsOf 90 = .ok (.iconst 1, 1) := by decide +kernel
theorem dX12_talentsOf_91 : decode cX12_talentsOf 91 = .ok (.iload 5, 2) := by decide +kernel
theorem dX12_talentsOf_93 : decode cX12_talentsOf 93 = .ok (.ishl, 1) := by decide +kernel
theorem dX12_talentsOf_94 : decode cX12_talentsOf 94 = .ok (.goto 4, 3) := by decide +kernel
theorem dX12_talentsOf_97 : decode cX12_talentsOf 97 = .ok (.iconst 0, 1) := by decide +kernel
theorem dX12_talentsOf_98 : decode cX12_talentsOf 98 = .ok (.ior, 1) := by decide +kernel
theorem dX12_talentsOf_99 : decode cX12_talentsOf 99 = .ok (.istore 4, 2) := by decide +kernel
theorem dX12_talentsOf_101 : decode cX12_talentsOf 101 = .ok (.iinc 5 1, 3) := by decide +kernel
theorem dX12_talentsOf_104 : decode cX12_talentsOf 104 = .ok (.goto (-98), 3) := by decide +kernel
theorem dX12_talentsOf_107 : decode cX12_talentsOf 107 = .ok (.iload 4, 2) := by decide +kernel
theorem dX12_talentsOf_109 : decode cX12_talentsOf 109 = .ok (.ireturn, 1) := by decide +kernel
theorem dX12_talents_0 : decode cX12_talents 0 = .ok (.aload_n 0, 1) := by decide +kernel
theorem dX12_talents_1 : decode cX12_talents 1 = .ok (.iconst 0, 1) := by decide +kernel
theorem dX12_talents_2 : decode cX12_talents 2 = .ok (.putfield 1, 3) := by decide +kernel
theorem dX12_talents_5 : decode cX12_talents 5 = .ok (.aload_n 0, 1) := by decide +kernel
theorem dX12_talents_6 : decode cX12_talents 6 = .ok (.iload_n 1, 1) := by decide +kernel
theorem dX12_talents_7 : decode cX12_talents 7 = .ok (.iload_n 2, 1) := by decide +kernel
theorem dX12_talents_8 : decode cX12_talents 8 = .ok (.invokevirtual 443, 3) := by decide +kernel
theorem dX12_talents_11 : decode cX12_talents 11 = .ok (.istore 4, 2) := by decide +kernel
theorem dX12_talents_13 : decode cX12_talents 13 = .ok (.iload 4, 2) := by decide +kernel
theorem dX12_talents_15 : decode cX12_talents 15 = .ok (.ifCond .eq 8, 3) := by decide +kernel
theorem dX12_talents_18 : decode cX12_talents 18 = .ok (.iload 4, 2) := by decide +kernel
theorem dX12_talents_20 : decode cX12_talents 20 = .ok (.goto 10, 3) := by decide +kernel
theorem dX12_talents_23 : decode cX12_talents 23 = .ok (.aload_n 0, 1) := by decide +kernel
theorem dX12_talents_24 : decode cX12_talents 24 = .ok (.iload_n 1, 1) := by decide +kernel
theorem dX12_talents_25 : decode cX12_talents 25 = .ok (.iload_n 2, 1) := by decide +kernel
theorem dX12_talents_26 : decode cX12_talents 26 = .ok (.iload_n 3, 1) := by decide +kernel
theorem dX12_talents_27 : decode cX12_talents 27 = .ok (.invokevirtual 446, 3) := by decide +kernel
theorem dX12_talents_30 : decode cX12_talents 30 = .ok (.ireturn, 1) := by decide +kernel
theorem dX12_mostOften_0 : decode cX12_mostOften 0 = .ok (.iconst 0, 1) := by decide +kernel
theorem dX12_mostOften_1 : decode cX12_mostOften 1 = .ok (.istore 4, 2) := by decide +kernel
theorem dX12_mostOften_3 : decode cX12_mostOften 3 = .ok (.iconst 0, 1) := by decide +kernel
theorem dX12_mostOften_4 : decode cX12_mostOften 4 = .ok (.istore 5, 2) := by decide +kernel
theorem dX12_mostOften_6 : decode cX12_mostOften 6 = .ok (.iload 5, 2) := by decide +kernel
theorem dX12_mostOften_8 : decode cX12_mostOften 8 = .ok (.bipush 19, 2) := by decide +kernel
theorem dX12_mostOften_10 : decode cX12_mostOften 10 = .ok (.if_icmp .ge 17, 3) := by decide +kernel
theorem dX12_mostOften_13 : decode cX12_mostOften 13 = .ok (.aload_n 0, 1) := by decide +kernel
theorem dX12_mostOften_14 : decode cX12_mostOften 14 = .ok (.getfield 65, 3) := by decide +kernel
theorem dX12_mostOften_17 : decode cX12_mostOften 17 = .ok (.iload 5, 2) := by decide +kernel
theorem dX12_mostOften_19 : decode cX12_mostOften 19 = .ok (.iconst 0, 1) := by decide +kernel
theorem dX12_mostOften_20 : decode cX12_mostOften 20 = .ok (.iastore, 1) := by decide +kernel
theorem dX12_mostOften_21 : decode cX12_mostOften 21 = .ok (.iinc 5 1, 3) := by decide +kernel
theorem dX12_mostOften_24 : decode cX12_mostOften 24 = .ok (.goto (-18), 3) := by decide +kernel
theorem dX12_mostOften_27 : decode cX12_mostOften 27 = .ok (.iconst 0, 1) := by decide +kernel
theorem dX12_mostOften_28 : decode cX12_mostOften 28 = .ok (.istore 5, 2) := by decide +kernel
theorem dX12_mostOften_30 : decode cX12_mostOften 30 = .ok (.iload 5, 2) := by decide +kernel
theorem dX12_mostOften_32 : decode cX12_mostOften 32 = .ok (.bipush 10, 2) := by decide +kernel
theorem dX12_mostOften_34 : decode cX12_mostOften 34 = .ok (.if_icmp .ge 76, 3) := by decide +kernel
theorem dX12_mostOften_37 : decode cX12_mostOften 37 = .ok (.iload_n 3, 1) := by decide +kernel
theorem dX12_mostOften_38 : decode cX12_mostOften 38 = .ok (.i2l, 1) := by decide +kernel
theorem dX12_mostOften_39 : decode cX12_mostOften 39 = .ok (.iload 5, 2) := by decide +kernel
theorem dX12_mostOften_41 : decode cX12_mostOften 41 = .ok (.invokestatic 449, 3) := by decide +kernel
theorem dX12_mostOften_44 : decode cX12_mostOften 44 = .ok (.ifCond .ne 6, 3) := by decide +kernel
theorem dX12_mostOften_47 : decode cX12_mostOften 47 = .ok (.goto 57, 3) := by decide +kernel
theorem dX12_mostOften_50 : decode cX12_mostOften 50 = .ok (.bipush 9, 2) := by decide +kernel
theorem dX12_mostOften_52 : decode cX12_mostOften 52 = .ok (.aload_n 0, 1) := by decide +kernel
theorem dX12_mostOften_53 : decode cX12_mostOften 53 = .ok (.iload 5, 2) := by decide +kernel
theorem dX12_mostOften_55 : decode cX12_mostOften 55 = .ok (.aload_n 0, 1) := by decide +kernel
theorem dX12_mostOften_56 : decode cX12_mostOften 56 = .ok (.iload_n 1, 1) := by decide +kernel
theorem dX12_mostOften_57 : decode cX12_mostOften 57 = .ok (.invokevirtual 253, 3) := by decide +kernel
theorem dX12_mostOften_60 : decode cX12_mostOften 60 = .ok (.iload_n 2, 1) := by decide +kernel
theorem dX12_mostOften_61 : decode cX12_mostOften 61 = .ok (.invokevirtual 259, 3) := by decide +kernel
theorem dX12_mostOften_64 : decode cX12_mostOften 64 = .ok (.iadd, 1) := by decide +kernel
theorem dX12_mostOften_65 : decode cX12_mostOften 65 = .ok (.istore 6, 2) := by decide +kernel
theorem dX12_mostOften_67 : decode cX12_mostOften 67 = .ok (.aload_n 0, 1) := by decide +kernel
theorem dX12_mostOften_68 : decode cX12_mostOften 68 = .ok (.getfield 65, 3) := by decide +kernel
theorem dX12_mostOften_71 : decode cX12_mostOften 71 = .ok (.iload 6, 2) := by decide +kernel
theorem dX12_mostOften_73 : decode cX12_mostOften 73 = .ok (.dup2, 1) := by decide +kernel
theorem dX12_mostOften_74 : decode cX12_mostOften 74 = .ok (.iaload, 1) := by decide +kernel
theorem dX12_mostOften_75 : decode cX12_mostOften 75 = .ok (.iconst 1, 1) := by decide +kernel
theorem dX12_mostOften_76 : decode cX12_mostOften 76 = .ok (.iadd, 1) := by decide +kernel
theorem dX12_mostOften_77 : decode cX12_mostOften 77 = .ok (.iastore, 1) := by decide +kernel
theorem dX12_mostOften_78 : decode cX12_mostOften 78 = .ok (.aload_n 0, 1) := by decide +kernel
theorem dX12_mostOften_79 : decode cX12_mostOften 79 = .ok (.getfield 65, 3) := by decide +kernel
theorem dX12_mostOften_82 : decode cX12_mostOften 82 = .ok (.iload 6, 2) := by decide +kernel
theorem dX12_mostOften_84 : decode cX12_mostOften 84 = .ok (.iaload, 1) := by decide +kernel
theorem dX12_mostOften_85 : decode cX12_mostOften 85 = .ok (.iload 4, 2) := by decide +kernel
theorem dX12_mostOften_87 : decode cX12_mostOften 87 = .ok (.if_icmp .le 13, 3) := by decide +kernel
theorem dX12_mostOften_90 : decode cX12_mostOften 90 = .ok (.aload_n 0, 1) := by decide +kernel
theorem dX12_mostOften_91 : decode cX12_mostOften 91 = .ok (.getfield 65, 3) := by decide +kernel
theorem dX12_mostOften_94 : decode cX12_mostOften 94 = .ok (.iload 6, 2) := by decide +kernel
theorem dX12_mostOften_96 : decode cX12_mostOften 96 = .ok (.iaload, 1) := by decide +kernel
theorem dX12_mostOften_97 : decode cX12_mostOften 97 = .ok (.goto 5, 3) := by decide +kernel
theorem dX12_mostOften_100 : decode cX12_mostOften 100 = .ok (.iload 4, 2) := by decide +kernel
theorem dX12_mostOften_102 : decode cX12_mostOften 102 = .ok (.istore 4, 2) := by decide +kernel
theorem dX12_mostOften_104 : decode cX12_mostOften 104 = .ok (.iinc 5 1, 3) := by decide +kernel
theorem dX12_mostOften_107 : decode cX12_mostOften 107 = .ok (.goto (-77), 3) := by decide +kernel
theorem dX12_mostOften_110 : decode cX12_mostOften 110 = .ok (.iload 4, 2) := by decide +kernel
theorem dX12_mostOften_112 : decode cX12_mostOften 112 = .ok (.ireturn, 1) := by decide +kernel
theorem dX12_attempt_0 : decode cX12_attempt 0 = .ok (.aload_n 0, 1) := by decide +kernel
theorem dX12_attempt_1 : decode cX12_attempt 1 = .ok (.iconst 0, 1) := by decide +kernel
theorem dX12_attempt_2 : decode cX12_attempt 2 = .ok (.putfield 1, 3) := by decide +kernel
theorem dX12_attempt_5 : decode cX12_attempt 5 = .ok (.aload_n 0, 1) := by decide +kernel
theorem dX12_attempt_6 : decode cX12_attempt 6 = .ok (.iload_n 1, 1) := by decide +kernel
theorem dX12_attempt_7 : decode cX12_attempt 7 = .ok (.iload_n 2, 1) := by decide +kernel
theorem dX12_attempt_8 : decode cX12_attempt 8 = .ok (.invokevirtual 443, 3) := by decide +kernel
theorem dX12_attempt_11 : decode cX12_attempt 11 = .ok (.istore 4, 2) := by decide +kernel
theorem dX12_attempt_13 : decode cX12_attempt 13 = .ok (.iload 4, 2) := by decide +kernel
theorem dX12_attempt_15 : decode cX12_attempt 15 = .ok (.ifCond .eq 6, 3) := by decide +kernel
theorem dX12_attempt_18 : decode cX12_attempt 18 = .ok (.iload 4, 2) := by decide +kernel
theorem dX12_attempt_20 : decode cX12_attempt 20 = .ok (.ireturn, 1) := by decide +kernel
theorem dX12_attempt_21 : decode cX12_attempt 21 = .ok (.aload_n 0, 1) := by decide +kernel
theorem dX12_attempt_22 : decode cX12_attempt 22 = .ok (.iload_n 1, 1) := by decide +kernel
theorem dX12_attempt_23 : decode cX12_attempt 23 = .ok (.iload_n 2, 1) := by decide +kernel
theorem dX12_attempt_24 : decode cX12_attempt 24 = .ok (.iload_n 3, 1) := by decide +kernel
theorem dX12_attempt_25 : decode cX12_attempt 25 = .ok (.invokevirtual 446, 3) := by decide +kernel
theorem dX12_attempt_28 : decode cX12_attempt 28 = .ok (.istore 5, 2) := by decide +kernel
theorem dX12_attempt_30 : decode cX12_attempt 30 = .ok (.iconst (-1), 1) := by decide +kernel
theorem dX12_attempt_31 : decode cX12_attempt 31 = .ok (.istore 6, 2) := by decide +kernel
theorem dX12_attempt_33 : decode cX12_attempt 33 = .ok (.bipush 11, 2) := by decide +kernel
theorem dX12_attempt_35 : decode cX12_attempt 35 = .ok (.istore 7, 2) := by decide +kernel
theorem dX12_attempt_37 : decode cX12_attempt 37 = .ok (.iconst 0, 1) := by decide +kernel
theorem dX12_attempt_38 : decode cX12_attempt 38 = .ok (.istore 8, 2) := by decide +kernel
theorem dX12_attempt_40 : decode cX12_attempt 40 = .ok (.iload 8, 2) := by decide +kernel
theorem dX12_attempt_42 : decode cX12_attempt 42 = .ok (.aload_n 0, 1) := by decide +kernel
theorem dX12_attempt_43 : decode cX12_attempt 43 = .ok (.getfield 13, 3) := by decide +kernel
theorem dX12_attempt_46 : decode cX12_attempt 46 = .ok (.iconst 2, 1) := by decide +kernel
theorem dX12_attempt_47 : decode cX12_attempt 47 = .ok (.iaload, 1) := by decide +kernel
theorem dX12_attempt_48 : decode cX12_attempt 48 = .ok (.if_icmp .ge 43, 3) := by decide +kernel
theorem dX12_attempt_51 : decode cX12_attempt 51 = .ok (.iload 5, 2) := by decide +kernel
theorem dX12_attempt_53 : decode cX12_attempt 53 = .ok (.ifCond .eq 38, 3) := by decide +kernel
theorem dX12_attempt_56 : decode cX12_attempt 56 = .ok (.aload_n 0, 1) := by decide +kernel
theorem dX12_attempt_57 : decode cX12_attempt 57 = .ok (.iload_n 2, 1) := by decide +kernel
theorem dX12_attempt_58 : decode cX12_attempt 58 = .ok (.iload 8, 2) := by decide +kernel
theorem dX12_attempt_60 : decode cX12_attempt 60 = .ok (.iload 5, 2) := by decide +kernel
theorem dX12_attempt_62 : decode cX12_attempt 62 = .ok (.invokevirtual 453, 3) := by decide +kernel
theorem dX12_attempt_65 : decode cX12_attempt 65 = .ok (.istore 9, 2) := by decide +kernel
theorem dX12_attempt_67 : decode cX12_attempt 67 = .ok (.iload 9, 2) := by decide +kernel
theorem dX12_attempt_69 : decode cX12_attempt 69 = .ok (.iload 7, 2) := by decide +kernel
theorem dX12_attempt_71 : decode cX12_attempt 71 = .ok (.if_icmp .lt 6, 3) := by decide +kernel
theorem dX12_attempt_74 : decode cX12_attempt 74 = .ok (.goto 11, 3) := by decide +kernel
theorem dX12_attempt_77 : decode cX12_attempt 77 = .ok (.iload 8, 2) := by decide +kernel
theorem dX12_attempt_79 : decode cX12_attempt 79 = .ok (.istore 6, 2) := by decide +kernel
theorem dX12_attempt_81 : decode cX12_attempt 81 = .ok (.iload 9, 2) := by decide +kernel
theorem dX12_attempt_83 : decode cX12_attempt 83 = .ok (.istore 7, 2) := by decide +kernel
theorem dX12_attempt_85 : decode cX12_attempt 85 = .ok (.iinc 8 1, 3) := by decide +kernel
theorem dX12_attempt_88 : decode cX12_attempt 88 = .ok (.goto (-48), 3) := by decide +kernel
theorem dX12_attempt_91 : decode cX12_attempt 91 = .ok (.iload 6, 2) := by decide +kernel
theorem dX12_attempt_93 : decode cX12_attempt 93 = .ok (.ireturn, 1) := by decide +kernel
theorem dX12_isSet_0 : decode cX12_isSet 0 = .ok (.iload_n 1, 1) := by decide +kernel
theorem dX12_isSet_1 : decode cX12_isSet 1 = .ok (.ifCond .lt 19, 3) := by decide +kernel
theorem dX12_isSet_4 : decode cX12_isSet 4 = .ok (.iload_n 1, 1) := by decide +kernel
theorem dX12_isSet_5 : decode cX12_isSet 5 = .ok (.iconst 1, 1) := by decide +kernel
theorem dX12_isSet_6 : decode cX12_isSet 6 = .ok (.aload_n 0, 1) := by decide +kernel
theorem dX12_isSet_7 : decode cX12_isSet 7 = .ok (.getfield 13, 3) := by decide +kernel
theorem dX12_isSet_10 : decode cX12_isSet 10 = .ok (.iconst 3, 1) := by decide +kernel
theorem dX12_isSet_11 : decode cX12_isSet 11 = .ok (.iaload, 1) := by decide +kernel
theorem dX12_isSet_12 : decode cX12_isSet 12 = .ok (.ishl, 1) := by decide +kernel
theorem dX12_isSet_13 : decode cX12_isSet 13 = .ok (.if_icmp .ge 7, 3) := by decide +kernel
theorem dX12_isSet_16 : decode cX12_isSet 16 = .ok (.iconst 1, 1) := by decide +kernel
theorem dX12_isSet_17 : decode cX12_isSet 17 = .ok (.goto 4, 3) := by decide +kernel
theorem dX12_isSet_20 : decode cX12_isSet 20 = .ok (.iconst 0, 1) := by decide +kernel
theorem dX12_isSet_21 : decode cX12_isSet 21 = .ok (.ireturn, 1) := by decide +kernel
theorem dX12_joins_0 : decode cX12_joins 0 = .ok (.iload_n 1, 1) := by decide +kernel
theorem dX12_joins_1 : decode cX12_joins 1 = .ok (.istore_n 3, 1) := by decide +kernel
theorem dX12_joins_2 : decode cX12_joins 2 = .ok (.iconst 0, 1) := by decide +kernel
theorem dX12_joins_3 : decode cX12_joins 3 = .ok (.istore 4, 2) := by decide +kernel
theorem dX12_joins_5 : decode cX12_joins 5 = .ok (.iload 4, 2) := by decide +kernel
theorem dX12_joins_7 : decode cX12_joins 7 = .ok (.aload_n 0, 1) := by decide +kernel
theorem dX12_joins_8 : decode cX12_joins 8 = .ok (.getfield 13, 3) := by decide +kernel
theorem dX12_joins_11 : decode cX12_joins 11 = .ok (.iconst 3, 1) := by decide +kernel
theorem dX12_joins_12 : decode cX12_joins 12 = .ok (.iaload, 1) := by decide +kernel
theorem dX12_joins_13 : decode cX12_joins 13 = .ok (.if_icmp .ge 47, 3) := by decide +kernel
theorem dX12_joins_16 : decode cX12_joins 16 = .ok (.iload_n 3, 1) := by decide +kernel
theorem dX12_joins_17 : decode cX12_joins 17 = .ok (.iload_n 2, 1) := by decide +kernel
theorem dX12_joins_18 : decode cX12_joins 18 = .ok (.i2l, 1) := by decide +kernel
theorem dX12_joins_19 : decode cX12_joins 19 = .ok (.iload 4, 2) := by decide +kernel
theorem dX12_joins_21 : decode cX12_joins 21 = .ok (.invokestatic 449, 3) := by decide +kernel
theorem dX12_joins_24 : decode cX12_joins 24 = .ok (.ifCond .ne 27, 3) := by decide +kernel
theorem dX12_joins_27 : decode cX12_joins 27 = .ok (.iload_n 1, 1) := by decide +kernel
theorem dX12_joins_28 : decode cX12_joins 28 = .ok (.invokestatic 456, 3) := by decide +kernel
theorem dX12_joins_31 : decode cX12_joins 31 = .ok (.aload_n 0, 1) := by decide +kernel
theorem dX12_joins_32 : decode cX12_joins 32 = .ok (.getfield 13, 3) := by decide +kernel
theorem dX12_joins_35 : decode cX12_joins 35 = .ok (.bipush 11, 2) := by decide +kernel
theorem dX12_joins_37 : decode cX12_joins 37 = .ok (.iload 4, 2) := by decide +kernel
theorem dX12_joins_39 : decode cX12_joins 39 = .ok (.iadd, 1) := by decide +kernel
theorem dX12_joins_40 : decode cX12_joins 40 = .ok (.iaload, 1) := by decide +kernel
theorem dX12_joins_41 : decode cX12_joins 41 = .ok (.if_icmp .lt 10, 3) := by decide +kernel
theorem dX12_joins_44 : decode cX12_joins 44 = .ok (.iconst 1, 1) := by decide +kernel
theorem dX12_joins_45 : decode cX12_joins 45 = .ok (.iload 4, 2) := by decide +kernel
theorem dX12_joins_47 : decode cX12_joins 47 = .ok (.ishl, 1) := by decide +kernel
theorem dX12_joins_48 : decode cX12_joins 48 = .ok (.goto 4, 3) := by decide +kernel
theorem dX12_joins_51 : decode cX12_joins 51 = .ok (.iconst 0, 1) := by decide +kernel
theorem dX12_joins_52 : decode cX12_joins 52 = .ok (.ior, 1) := by decide +kernel
theorem dX12_joins_53 : decode cX12_joins 53 = .ok (.istore_n 3, 1) := by decide +kernel
theorem dX12_joins_54 : decode cX12_joins 54 = .ok (.iinc 4 1, 3) := by decide +kernel
theorem dX12_joins_57 : decode cX12_joins 57 = .ok (.goto (-52), 3) := by decide +kernel
theorem dX12_joins_60 : decode cX12_joins 60 = .ok (.iload_n 3, 1) := by decide +kernel
theorem dX12_joins_61 : decode cX12_joins 61 = .ok (.ireturn, 1) := by decide +kernel
theorem dX12_runOf_0 : decode cX12_runOf 0 = .ok (.iload_n 1, 1) := by decide +kernel
theorem dX12_runOf_1 : decode cX12_runOf 1 = .ok (.istore_n 3, 1) := by decide +kernel
theorem dX12_runOf_2 : decode cX12_runOf 2 = .ok (.aload_n 0, 1) := by decide +kernel
theorem dX12_runOf_3 : decode cX12_runOf 3 = .ok (.iconst 0, 1) := by decide +kernel
theorem dX12_runOf_4 : decode cX12_runOf 4 = .ok (.putfield 459, 3) := by decide +kernel
theorem dX12_runOf_7 : decode cX12_runOf 7 = .ok (.aload_n 0, 1) := by decide +kernel
theorem dX12_runOf_8 : decode cX12_runOf 8 = .ok (.iload_n 3, 1) := by decide +kernel
theorem dX12_runOf_9 : decode cX12_runOf 9 = .ok (.iload_n 2, 1) := by decide +kernel
theorem dX12_runOf_10 : decode cX12_runOf 10 = .ok (.invokevirtual 462, 3) := by decide +kernel
theorem dX12_runOf_13 : decode cX12_runOf 13 = .ok (.iload_n 3, 1) := by decide +kernel
theorem dX12_runOf_14 : decode cX12_runOf 14 = .ok (.if_icmp .eq 23, 3) := by decide +kernel
theorem dX12_runOf_17 : decode cX12_runOf 17 = .ok (.aload_n 0, 1) := by decide +kernel
theorem dX12_runOf_18 : decode cX12_runOf 18 = .ok (.iload_n 3, 1) := by decide +kernel
theorem dX12_runOf_19 : decode cX12_runOf 19 = .ok (.iload_n 2, 1) := by decide +kernel
theorem dX12_runOf_20 : decode cX12_runOf 20 = .ok (.invokevirtual 462, 3) := by decide +kernel
theorem dX12_runOf_23 : decode cX12_runOf 23 = .ok (.istore_n 3, 1) := by decide +kernel
theorem dX12_runOf_24 : decode cX12_runOf 24 = .ok (.aload_n 0, 1) := by decide +kernel
theorem dX12_runOf_25 : decode cX12_runOf 25 = .ok (.dup, 1) := by decide +kernel
theorem dX12_runOf_26 : decode cX12_runOf 26 = .ok (.getfield 459, 3) := by decide +kernel
theorem dX12_runOf_29 : decode cX12_runOf 29 = .ok (.iconst 1, 1) := by decide +kernel
theorem dX12_runOf_30 : decode cX12_runOf 30 = .ok (.iadd, 1) := by decide +kernel
theorem dX12_runOf_31 : decode cX12_runOf 31 = .ok (.putfield 459, 3) := by decide +kernel
theorem dX12_runOf_34 : decode cX12_runOf 34 = .ok (.goto (-27), 3) := by decide +kernel
theorem dX12_runOf_37 : decode cX12_runOf 37 = .ok (.iload_n 3, 1) := by decide +kernel
theorem dX12_runOf_38 : decode cX12_runOf 38 = .ok (.ireturn, 1) := by decide +kernel
theorem dX12_run_0 : decode cX12_run 0 = .ok (.aload_n 0, 1) := by decide +kernel
theorem dX12_run_1 : decode cX12_run 1 = .ok (.iconst 0, 1) := by decide +kernel
theorem dX12_run_2 : decode cX12_run 2 = .ok (.putfield 1, 3) := by decide +kernel
theorem dX12_run_5 : decode cX12_run 5 = .ok (.aload_n 0, 1) := by decide +kernel
theorem dX12_run_6 : decode cX12_run 6 = .ok (.iload_n 1, 1) := by decide +kernel
theorem dX12_run_7 : decode cX12_run 7 = .ok (.invokevirtual 465, 3) := by decide +kernel
theorem dX12_run_10 : decode cX12_run 10 = .ok (.ifCond .eq 12, 3) := by decide +kernel
theorem dX12_run_13 : decode cX12_run 13 = .ok (.aload_n 0, 1) := by decide +kernel
theorem dX12_run_14 : decode cX12_run 14 = .ok (.iload_n 1, 1) := by decide +kernel
theorem dX12_run_15 : decode cX12_run 15 = .ok (.iconst 0, 1) := by decide +kernel
theorem dX12_run_16 : decode cX12_run 16 = .ok (.invokevirtual 468, 3) := by decide +kernel
theorem dX12_run_19 : decode cX12_run 19 = .ok (.goto 5, 3) := by decide +kernel
theorem dX12_run_22 : decode cX12_run 22 = .ok (.ldc 201, 2) := by decide +kernel
theorem dX12_run_24 : decode cX12_run 24 = .ok (.ireturn, 1) := by decide +kernel
theorem dX12_rounds_0 : decode cX12_rounds 0 = .ok (.aload_n 0, 1) := by decide +kernel
theorem dX12_rounds_1 : decode cX12_rounds 1 = .ok (.iconst 0, 1) := by decide +kernel
theorem dX12_rounds_2 : decode cX12_rounds 2 = .ok (.putfield 1, 3) := by decide +kernel
theorem dX12_rounds_5 : decode cX12_rounds 5 = .ok (.aload_n 0, 1) := by decide +kernel
theorem dX12_rounds_6 : decode cX12_rounds 6 = .ok (.iload_n 1, 1) := by decide +kernel
theorem dX12_rounds_7 : decode cX12_rounds 7 = .ok (.invokevirtual 465, 3) := by decide +kernel
theorem dX12_rounds_10 : decode cX12_rounds 10 = .ok (.ifCond .ne 6, 3) := by decide +kernel
theorem dX12_rounds_13 : decode cX12_rounds 13 = .ok (.ldc 201, 2) := by decide +kernel
theorem dX12_rounds_15 : decode cX12_rounds 15 = .ok (.ireturn, 1) := by decide +kernel
theorem dX12_rounds_16 : decode cX12_rounds 16 = .ok (.aload_n 0, 1) := by decide +kernel
theorem dX12_rounds_17 : decode cX12_rounds 17 = .ok (.iload_n 1, 1) := by decide +kernel
theorem dX12_rounds_18 : decode cX12_rounds 18 = .ok (.iconst 0, 1) := by decide +kernel
theorem dX12_rounds_19 : decode cX12_rounds 19 = .ok (.invokevirtual 468, 3) := by decide +kernel
theorem dX12_rounds_22 : decode cX12_rounds 22 = .ok (.pop, 1) := by decide +kernel
theorem dX12_rounds_23 : decode cX12_rounds 23 = .ok (.aload_n 0, 1) := by decide +kernel
theorem dX12_rounds_24 : decode cX12_rounds 24 = .ok (.getfield 459, 3) := by decide +kernel
theorem dX12_rounds_27 : decode cX12_rounds 27 = .ok (.ireturn, 1) := by decide +kernel
theorem dX12_spark_0 : decode cX12_spark 0 = .ok (.aload_n 0, 1) := by decide +kernel
theorem dX12_spark_1 : decode cX12_spark 1 = .ok (.iconst 0, 1) := by decide +kernel
theorem dX12_spark_2 : decode cX12_spark 2 = .ok (.putfield 1, 3) := by decide +kernel
theorem dX12_spark_5 : decode cX12_spark 5 = .ok (.iload_n 1, 1) := by decide +kernel
theorem dX12_spark_6 : decode cX12_spark 6 = .ok (.i2l, 1) := by decide +kernel
theorem dX12_spark_7 : decode cX12_spark 7 = .ok (.lconst 1, 1) := by decide +kernel
theorem dX12_spark_8 : decode cX12_spark 8 = .ok (.ldc2_w 471, 3) := by decide +kernel
theorem dX12_spark_11 : decode cX12_spark 11 = .ok (.invokestatic 144, 3) := by decide +kernel
theorem dX12_spark_14 : decode cX12_spark 14 = .ok (.ifCond .ne 6, 3) := by decide +kernel
theorem dX12_spark_17 : decode cX12_spark 17 = .ok (.ldc 201, 2) := by decide +kernel
theorem dX12_spark_19 : decode cX12_spark 19 = .ok (.ireturn, 1) := by decide +kernel
theorem dX12_spark_20 : decode cX12_spark 20 = .ok (.iconst (-1), 1) := by decide +kernel
theorem dX12_spark_21 : decode cX12_spark 21 = .ok (.istore_n 2, 1) := by decide +kernel
theorem dX12_spark_22 : decode cX12_spark 22 = .ok (.iconst 0, 1) := by decide +kernel
theorem dX12_spark_23 : decode cX12_spark 23 = .ok (.istore_n 3, 1) := by decide +kernel
theorem dX12_spark_24 : decode cX12_spark 24 = .ok (.iload_n 3, 1) := by decide +kernel
theorem dX12_spark_25 : decode cX12_spark 25 = .ok (.iconst 1, 1) := by decide +kernel
theorem dX12_spark_26 : decode cX12_spark 26 = .ok (.aload_n 0, 1) := by decide +kernel
theorem dX12_spark_27 : decode cX12_spark 27 = .ok (.getfield 13, 3) := by decide +kernel
theorem dX12_spark_30 : decode cX12_spark 30 = .ok (.iconst 3, 1) := by decide +kernel
theorem dX12_spark_31 : decode cX12_spark 31 = .ok (.iaload, 1) := by decide +kernel
theorem dX12_spark_32 : decode cX12_spark 32 = .ok (.ishl, 1) := by decide +kernel
theorem dX12_spark_33 : decode cX12_spark 33 = .ok (.if_icmp .ge 40, 3) := by decide +kernel
theorem dX12_spark_36 : decode cX12_spark 36 = .ok (.iload_n 2, 1) := by decide +kernel
theorem dX12_spark_37 : decode cX12_spark 37 = .ok (.iconst (-1), 1) := by decide +kernel
theorem dX12_spark_38 : decode cX12_spark 38 = .ok (.if_icmp .eq 14, 3) := by decide +kernel
theorem dX12_spark_41 : decode cX12_spark 41 = .ok (.iload_n 3, 1) := by decide +kernel
theorem dX12_spark_42 : decode cX12_spark 42 = .ok (.invokestatic 456, 3) := by decide +kernel
theorem dX12_spark_45 : decode cX12_spark 45 = .ok (.iload_n 2, 1) := by decide +kernel
theorem dX12_spark_46 : decode cX12_spark 46 = .ok (.invokestatic 456, 3) := by decide +kernel
theorem dX12_spark_49 : decode cX12_spark 49 = .ok (.if_icmp .ge 18, 3) := by decide +kernel
theorem dX12_spark_52 : decode cX12_spark 52 = .ok (.aload_n 0, 1) := by decide +kernel
theorem dX12_spark_53 : decode cX12_spark 53 = .ok (.iload_n 3, 1) := by decide +kernel
theorem dX12_spark_54 : decode cX12_spark 54 = .ok (.iconst 0, 1) := by decide +kernel
theorem dX12_spark_55 : decode cX12_spark 55 = .ok (.invokevirtual 468, 3) := by decide +kernel
theorem dX12_spark_58 : decode cX12_spark 58 = .ok (.invokestatic 456, 3) := by decide +kernel
theorem dX12_spark_61 : decode cX12_spark 61 = .ok (.iload_n 1, 1) := by decide +kernel
theorem dX12_spark_62 : decode cX12_spark 62 = .ok (.if_icmp .lt 5, 3) := by decide +kernel
theorem dX12_spark_65 : decode cX12_spark 65 = .ok (.iload_n 3, 1) := by decide +kernel
theorem dX12_spark_66 : decode cX12_spark 66 = .ok (.istore_n 2, 1) := by decide +kernel
theorem dX12_spark_67 : decode cX12_spark 67 = .ok (.iinc 3 1, 3) := by decide +kernel
theorem dX12_spark_70 : decode cX12_spark 70 = .ok (.goto (-46), 3) := by decide +kernel
theorem dX12_spark_73 : decode cX12_spark 73 = .ok (.iload_n 2, 1) := by decide +kernel
theorem dX12_spark_74 : decode cX12_spark 74 = .ok (.ireturn, 1) := by decide +kernel
theorem dX12_calm_0 : decode cX12_calm 0 = .ok (.aload_n 0, 1) := by decide +kernel
theorem dX12_calm_1 : decode cX12_calm 1 = .ok (.iconst 0, 1) := by decide +kernel
theorem dX12_calm_2 : decode cX12_calm 2 = .ok (.putfield 1, 3) := by decide +kernel
theorem dX12_calm_5 : decode cX12_calm 5 = .ok (.aload_n 0, 1) := by decide +kernel
theorem dX12_calm_6 : decode cX12_calm 6 = .ok (.iload_n 1, 1) := by decide +kernel
theorem dX12_calm_7 : decode cX12_calm 7 = .ok (.invokevirtual 465, 3) := by decide +kernel
theorem dX12_calm_10 : decode cX12_calm 10 = .ok (.ifCond .eq 15, 3) := by decide +kernel
theorem dX12_calm_13 : decode cX12_calm 13 = .ok (.iload_n 2, 1) := by decide +kernel
theorem dX12_calm_14 : decode cX12_calm 14 = .ok (.i2l, 1) := by decide +kernel
theorem dX12_calm_15 : decode cX12_calm 15 = .ok (.lconst 0, 1) := by decide +kernel
theorem dX12_calm_16 : decode cX12_calm 16 = .ok (.ldc2_w 471, 3) := by decide +kernel
theorem dX12_calm_19 : decode cX12_calm 19 = .ok (.invokestatic 144, 3) := by decide +kernel
theorem dX12_calm_22 : decode cX12_calm 22 = .ok (.ifCond .ne 6, 3) := by decide +kernel
theorem dX12_calm_25 : decode cX12_calm 25 = .ok (.ldc 201, 2) := by decide +kernel
theorem dX12_calm_27 : decode cX12_calm 27 = .ok (.ireturn, 1) := by decide +kernel
theorem dX12_calm_28 : decode cX12_calm 28 = .ok (.iconst (-1), 1) := by decide +kernel
theorem dX12_calm_29 : decode cX12_calm 29 = .ok (.istore_n 3, 1) := by decide +kernel
theorem dX12_calm_30 : decode cX12_calm 30 = .ok (.iconst 0, 1) := by decide +kernel
theorem dX12_calm_31 : decode cX12_calm 31 = .ok (.istore 4, 2) := by decide +kernel
theorem dX12_calm_33 : decode cX12_calm 33 = .ok (.iload 4, 2) := by decide +kernel
theorem dX12_calm_35 : decode cX12_calm 35 = .ok (.iconst 1, 1) := by decide +kernel
theorem dX12_calm_36 : decode cX12_calm 36 = .ok (.aload_n 0, 1) := by decide +kernel
theorem dX12_calm_37 : decode cX12_calm 37 = .ok (.getfield 13, 3) := by decide +kernel
theorem dX12_calm_40 : decode cX12_calm 40 = .ok (.iconst 3, 1) := by decide +kernel
theorem dX12_calm_41 : decode cX12_calm 41 = .ok (.iaload, 1) := by decide +kernel
theorem dX12_calm_42 : decode cX12_calm 42 = .ok (.ishl, 1) := by decide +kernel
theorem dX12_calm_43 : decode cX12_calm 43 = .ok (.if_icmp .ge 53, 3) := by decide +kernel
theorem dX12_calm_46 : decode cX12_calm 46 = .ok (.iload 4, 2) := by decide +kernel
theorem dX12_calm_48 : decode cX12_calm 48 = .ok (.iload_n 1, 1) := by decide +kernel
theorem dX12_calm_49 : decode cX12_calm 49 = .ok (.iand, 1) := by decide +kernel
theorem dX12_calm_50 : decode cX12_calm 50 = .ok (.ifCond .ne 40, 3) := by decide +kernel
theorem dX12_calm_53 : decode cX12_calm 53 = .ok (.iload_n 3, 1) := by decide +kernel
