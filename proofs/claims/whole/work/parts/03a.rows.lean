theorem dX0_init_0 : decode cX0_init 0 = .ok (.aload_n 0, 1) := by decide +kernel
theorem dX0_init_1 : decode cX0_init 1 = .ok (.invokespecial 3, 3) := by decide +kernel
theorem dX0_init_4 : decode cX0_init 4 = .ok (.aload_n 0, 1) := by decide +kernel
theorem dX0_init_5 : decode cX0_init 5 = .ok (.new 9, 3) := by decide +kernel
theorem dX0_init_8 : decode cX0_init 8 = .ok (.dup, 1) := by decide +kernel
theorem dX0_init_9 : decode cX0_init 9 = .ok (.sipush 1400, 3) := by decide +kernel
theorem dX0_init_12 : decode cX0_init 12 = .ok (.invokespecial 13, 3) := by decide +kernel
theorem dX0_init_15 : decode cX0_init 15 = .ok (.putfield 16, 3) := by decide +kernel
theorem dX0_init_18 : decode cX0_init 18 = .ok (.aload_n 0, 1) := by decide +kernel
theorem dX0_init_19 : decode cX0_init 19 = .ok (.sipush 1400, 3) := by decide +kernel
theorem dX0_init_22 : decode cX0_init 22 = .ok (.newarray .int, 2) := by decide +kernel
theorem dX0_init_24 : decode cX0_init 24 = .ok (.putfield 22, 3) := by decide +kernel
theorem dX0_init_27 : decode cX0_init 27 = .ok (.aload_n 0, 1) := by decide +kernel
theorem dX0_init_28 : decode cX0_init 28 = .ok (.aconst_null, 1) := by decide +kernel
theorem dX0_init_29 : decode cX0_init 29 = .ok (.putfield 26, 3) := by decide +kernel
theorem dX0_init_32 : decode cX0_init 32 = .ok (.aload_n 0, 1) := by decide +kernel
theorem dX0_init_33 : decode cX0_init 33 = .ok (.aload_n 1, 1) := by decide +kernel
theorem dX0_init_34 : decode cX0_init 34 = .ok (.putfield 29, 3) := by decide +kernel
theorem dX0_init_37 : decode cX0_init 37 = .ok (.aload_n 0, 1) := by decide +kernel
theorem dX0_init_38 : decode cX0_init 38 = .ok (.aload_n 2, 1) := by decide +kernel
theorem dX0_init_39 : decode cX0_init 39 = .ok (.putfield 33, 3) := by decide +kernel
theorem dX0_init_42 : decode cX0_init 42 = .ok (.return_, 1) := by decide +kernel
theorem dX0_keptHopes_0 : decode cX0_keptHopes 0 = .ok (.aload_n 0, 1) := by decide +kernel
theorem dX0_keptHopes_1 : decode cX0_keptHopes 1 = .ok (.getfield 26, 3) := by decide +kernel
theorem dX0_keptHopes_4 : decode cX0_keptHopes 4 = .ok (.ifnonnull 18, 3) := by decide +kernel
theorem dX0_keptHopes_7 : decode cX0_keptHopes 7 = .ok (.aload_n 0, 1) := by decide +kernel
theorem dX0_keptHopes_8 : decode cX0_keptHopes 8 = .ok (.new 9, 3) := by decide +kernel
theorem dX0_keptHopes_11 : decode cX0_keptHopes 11 = .ok (.dup, 1) := by decide +kernel
theorem dX0_keptHopes_12 : decode cX0_keptHopes 12 = .ok (.aload_n 0, 1) := by decide +kernel
theorem dX0_keptHopes_13 : decode cX0_keptHopes 13 = .ok (.invokevirtual 37, 3) := by decide +kernel
theorem dX0_keptHopes_16 : decode cX0_keptHopes 16 = .ok (.invokespecial 13, 3) := by decide +kernel
theorem dX0_keptHopes_19 : decode cX0_keptHopes 19 = .ok (.putfield 26, 3) := by decide +kernel
theorem dX0_keptHopes_22 : decode cX0_keptHopes 22 = .ok (.aload_n 0, 1) := by decide +kernel
theorem dX0_keptHopes_23 : decode cX0_keptHopes 23 = .ok (.getfield 26, 3) := by decide +kernel
theorem dX0_keptHopes_26 : decode cX0_keptHopes 26 = .ok (.areturn, 1) := by decide +kernel
theorem dX0_layOutHopes_0 : decode cX0_layOutHopes 0 = .ok (.iconst 0, 1) := by decide +kernel
theorem dX0_layOutHopes_1 : decode cX0_layOutHopes 1 = .ok (.istore_n 1, 1) := by decide +kernel
theorem dX0_layOutHopes_2 : decode cX0_layOutHopes 2 = .ok (.iconst 0, 1) := by decide +kernel
theorem dX0_layOutHopes_3 : decode cX0_layOutHopes 3 = .ok (.istore_n 2, 1) := by decide +kernel
theorem dX0_layOutHopes_4 : decode cX0_layOutHopes 4 = .ok (.iload_n 2, 1) := by decide +kernel
theorem dX0_layOutHopes_5 : decode cX0_layOutHopes 5 = .ok (.aload_n 0, 1) := by decide +kernel
theorem dX0_layOutHopes_6 : decode cX0_layOutHopes 6 = .ok (.getfield 22, 3) := by decide +kernel
theorem dX0_layOutHopes_9 : decode cX0_layOutHopes 9 = .ok (.arraylength, 1) := by decide +kernel
theorem dX0_layOutHopes_10 : decode cX0_layOutHopes 10 = .ok (.if_icmp .ge 55, 3) := by decide +kernel
theorem dX0_layOutHopes_13 : decode cX0_layOutHopes 13 = .ok (.aload_n 0, 1) := by decide +kernel
theorem dX0_layOutHopes_14 : decode cX0_layOutHopes 14 = .ok (.getfield 22, 3) := by decide +kernel
theorem dX0_layOutHopes_17 : decode cX0_layOutHopes 17 = .ok (.iload_n 2, 1) := by decide +kernel
theorem dX0_layOutHopes_18 : decode cX0_layOutHopes 18 = .ok (.iload_n 1, 1) := by decide +kernel
theorem dX0_layOutHopes_19 : decode cX0_layOutHopes 19 = .ok (.iastore, 1) := by decide +kernel
theorem dX0_layOutHopes_20 : decode cX0_layOutHopes 20 = .ok (.iload_n 2, 1) := by decide +kernel
theorem dX0_layOutHopes_21 : decode cX0_layOutHopes 21 = .ok (.invokestatic 41, 3) := by decide +kernel
theorem dX0_layOutHopes_24 : decode cX0_layOutHopes 24 = .ok (.iload_n 2, 1) := by decide +kernel
theorem dX0_layOutHopes_25 : decode cX0_layOutHopes 25 = .ok (.invokestatic 45, 3) := by decide +kernel
theorem dX0_layOutHopes_28 : decode cX0_layOutHopes 28 = .ok (.if_icmp .gt 31, 3) := by decide +kernel
theorem dX0_layOutHopes_31 : decode cX0_layOutHopes 31 = .ok (.iload_n 2, 1) := by decide +kernel
theorem dX0_layOutHopes_32 : decode cX0_layOutHopes 32 = .ok (.invokestatic 48, 3) := by decide +kernel
theorem dX0_layOutHopes_35 : decode cX0_layOutHopes 35 = .ok (.ifCond .ne 7, 3) := by decide +kernel
theorem dX0_layOutHopes_38 : decode cX0_layOutHopes 38 = .ok (.iconst 2, 1) := by decide +kernel
theorem dX0_layOutHopes_39 : decode cX0_layOutHopes 39 = .ok (.goto 4, 3) := by decide +kernel
theorem dX0_layOutHopes_42 : decode cX0_layOutHopes 42 = .ok (.iconst 1, 1) := by decide +kernel
theorem dX0_layOutHopes_43 : decode cX0_layOutHopes 43 = .ok (.istore_n 3, 1) := by decide +kernel
theorem dX0_layOutHopes_44 : decode cX0_layOutHopes 44 = .ok (.iload_n 1, 1) := by decide +kernel
theorem dX0_layOutHopes_45 : decode cX0_layOutHopes 45 = .ok (.iload_n 3, 1) := by decide +kernel
theorem dX0_layOutHopes_46 : decode cX0_layOutHopes 46 = .ok (.bipush 6, 2) := by decide +kernel
theorem dX0_layOutHopes_48 : decode cX0_layOutHopes 48 = .ok (.imul, 1) := by decide +kernel
theorem dX0_layOutHopes_49 : decode cX0_layOutHopes 49 = .ok (.iload_n 2, 1) := by decide +kernel
theorem dX0_layOutHopes_50 : decode cX0_layOutHopes 50 = .ok (.invokestatic 45, 3) := by decide +kernel
theorem dX0_layOutHopes_53 : decode cX0_layOutHopes 53 = .ok (.isub, 1) := by decide +kernel
theorem dX0_layOutHopes_54 : decode cX0_layOutHopes 54 = .ok (.bipush 9, 2) := by decide +kernel
theorem dX0_layOutHopes_56 : decode cX0_layOutHopes 56 = .ok (.imul, 1) := by decide +kernel
theorem dX0_layOutHopes_57 : decode cX0_layOutHopes 57 = .ok (.iadd, 1) := by decide +kernel
theorem dX0_layOutHopes_58 : decode cX0_layOutHopes 58 = .ok (.istore_n 1, 1) := by decide +kernel
theorem dX0_layOutHopes_59 : decode cX0_layOutHopes 59 = .ok (.iinc 2 1, 3) := by decide +kernel
theorem dX0_layOutHopes_62 : decode cX0_layOutHopes 62 = .ok (.goto (-58), 3) := by decide +kernel
theorem dX0_layOutHopes_65 : decode cX0_layOutHopes 65 = .ok (.iload_n 1, 1) := by decide +kernel
theorem dX0_layOutHopes_66 : decode cX0_layOutHopes 66 = .ok (.ireturn, 1) := by decide +kernel
theorem dX0_tenthsAt_0 : decode cX0_tenthsAt 0 = .ok (.iload_n 1, 1) := by decide +kernel
theorem dX0_tenthsAt_1 : decode cX0_tenthsAt 1 = .ok (.invokestatic 48, 3) := by decide +kernel
theorem dX0_tenthsAt_4 : decode cX0_tenthsAt 4 = .ok (.ifCond .ne 7, 3) := by decide +kernel
theorem dX0_tenthsAt_7 : decode cX0_tenthsAt 7 = .ok (.iconst 2, 1) := by decide +kernel
theorem dX0_tenthsAt_8 : decode cX0_tenthsAt 8 = .ok (.goto 4, 3) := by decide +kernel
theorem dX0_tenthsAt_11 : decode cX0_tenthsAt 11 = .ok (.iconst 1, 1) := by decide +kernel
theorem dX0_tenthsAt_12 : decode cX0_tenthsAt 12 = .ok (.istore_n 2, 1) := by decide +kernel
theorem dX0_tenthsAt_13 : decode cX0_tenthsAt 13 = .ok (.iload_n 2, 1) := by decide +kernel
theorem dX0_tenthsAt_14 : decode cX0_tenthsAt 14 = .ok (.aload_n 0, 1) := by decide +kernel
theorem dX0_tenthsAt_15 : decode cX0_tenthsAt 15 = .ok (.getfield 29, 3) := by decide +kernel
theorem dX0_tenthsAt_18 : decode cX0_tenthsAt 18 = .ok (.getfield 51, 3) := by decide +kernel
theorem dX0_tenthsAt_21 : decode cX0_tenthsAt 21 = .ok (.getfield 55, 3) := by decide +kernel
theorem dX0_tenthsAt_24 : decode cX0_tenthsAt 24 = .ok (.imul, 1) := by decide +kernel
theorem dX0_tenthsAt_25 : decode cX0_tenthsAt 25 = .ok (.iload_n 1, 1) := by decide +kernel
theorem dX0_tenthsAt_26 : decode cX0_tenthsAt 26 = .ok (.invokestatic 45, 3) := by decide +kernel
theorem dX0_tenthsAt_29 : decode cX0_tenthsAt 29 = .ok (.isub, 1) := by decide +kernel
theorem dX0_tenthsAt_30 : decode cX0_tenthsAt 30 = .ok (.ireturn, 1) := by decide +kernel
theorem dX0_tens_0 : decode cX0_tens 0 = .ok (.iload_n 0, 1) := by decide +kernel
theorem dX0_tens_1 : decode cX0_tens 1 = .ok (.ifCond .lt 19, 3) := by decide +kernel
theorem dX0_tens_4 : decode cX0_tens 4 = .ok (.iload_n 0, 1) := by decide +kernel
theorem dX0_tens_5 : decode cX0_tens 5 = .ok (.getstatic 61, 3) := by decide +kernel
theorem dX0_tens_8 : decode cX0_tens 8 = .ok (.arraylength, 1) := by decide +kernel
theorem dX0_tens_9 : decode cX0_tens 9 = .ok (.if_icmp .ge 11, 3) := by decide +kernel
theorem dX0_tens_12 : decode cX0_tens 12 = .ok (.getstatic 61, 3) := by decide +kernel
theorem dX0_tens_15 : decode cX0_tens 15 = .ok (.iload_n 0, 1) := by decide +kernel
theorem dX0_tens_16 : decode cX0_tens 16 = .ok (.laload, 1) := by decide +kernel
theorem dX0_tens_17 : decode cX0_tens 17 = .ok (.goto 4, 3) := by decide +kernel
theorem dX0_tens_20 : decode cX0_tens 20 = .ok (.lconst 0, 1) := by decide +kernel
theorem dX0_tens_21 : decode cX0_tens 21 = .ok (.lreturn, 1) := by decide +kernel
theorem dX0_fraction_0 : decode cX0_fraction 0 = .ok (.aload_n 0, 1) := by decide +kernel
theorem dX0_fraction_1 : decode cX0_fraction 1 = .ok (.aload_n 0, 1) := by decide +kernel
theorem dX0_fraction_2 : decode cX0_fraction 2 = .ok (.getfield 29, 3) := by decide +kernel
theorem dX0_fraction_5 : decode cX0_fraction 5 = .ok (.getfield 65, 3) := by decide +kernel
theorem dX0_fraction_8 : decode cX0_fraction 8 = .ok (.invokevirtual 68, 3) := by decide +kernel
theorem dX0_fraction_11 : decode cX0_fraction 11 = .ok (.invokestatic 71, 3) := by decide +kernel
theorem dX0_fraction_14 : decode cX0_fraction 14 = .ok (.lstore 4, 2) := by decide +kernel
theorem dX0_fraction_16 : decode cX0_fraction 16 = .ok (.lload_n 1, 1) := by decide +kernel
theorem dX0_fraction_17 : decode cX0_fraction 17 = .ok (.lload 4, 2) := by decide +kernel
theorem dX0_fraction_19 : decode cX0_fraction 19 = .ok (.invokestatic 75, 3) := by decide +kernel
theorem dX0_fraction_22 : decode cX0_fraction 22 = .ok (.lstore 6, 2) := by decide +kernel
theorem dX0_fraction_24 : decode cX0_fraction 24 = .ok (.lload 6, 2) := by decide +kernel
theorem dX0_fraction_26 : decode cX0_fraction 26 = .ok (.lconst 0, 1) := by decide +kernel
theorem dX0_fraction_27 : decode cX0_fraction 27 = .ok (.lcmp, 1) := by decide +kernel
theorem dX0_fraction_28 : decode cX0_fraction 28 = .ok (.ifCond .ne 5, 3) := by decide +kernel
theorem dX0_fraction_31 : decode cX0_fraction 31 = .ok (.lconst 0, 1) := by decide +kernel
theorem dX0_fraction_32 : decode cX0_fraction 32 = .ok (.lreturn, 1) := by decide +kernel
theorem dX0_fraction_33 : decode cX0_fraction 33 = .ok (.iload_n 3, 1) := by decide +kernel
theorem dX0_fraction_34 : decode cX0_fraction 34 = .ok (.ifCond .ne 7, 3) := by decide +kernel
theorem dX0_fraction_37 : decode cX0_fraction 37 = .ok (.lload_n 1, 1) := by decide +kernel
theorem dX0_fraction_38 : decode cX0_fraction 38 = .ok (.goto 5, 3) := by decide +kernel
theorem dX0_fraction_41 : decode cX0_fraction 41 = .ok (.lload 4, 2) := by decide +kernel
theorem dX0_fraction_43 : decode cX0_fraction 43 = .ok (.lload 6, 2) := by decide +kernel
theorem dX0_fraction_45 : decode cX0_fraction 45 = .ok (.ldiv, 1) := by decide +kernel
theorem dX0_fraction_46 : decode cX0_fraction 46 = .ok (.lreturn, 1) := by decide +kernel
theorem dX0_commonDivisor_0 : decode cX0_commonDivisor 0 = .ok (.lload_n 0, 1) := by decide +kernel
theorem dX0_commonDivisor_1 : decode cX0_commonDivisor 1 = .ok (.lstore 4, 2) := by decide +kernel
theorem dX0_commonDivisor_3 : decode cX0_commonDivisor 3 = .ok (.lload_n 2, 1) := by decide +kernel
theorem dX0_commonDivisor_4 : decode cX0_commonDivisor 4 = .ok (.lstore 6, 2) := by decide +kernel
theorem dX0_commonDivisor_6 : decode cX0_commonDivisor 6 = .ok (.iconst 0, 1) := by decide +kernel
theorem dX0_commonDivisor_7 : decode cX0_commonDivisor 7 = .ok (.istore 8, 2) := by decide +kernel
theorem dX0_commonDivisor_9 : decode cX0_commonDivisor 9 = .ok (.iload 8, 2) := by decide +kernel
theorem dX0_commonDivisor_11 : decode cX0_commonDivisor 11 = .ok (.sipush 130, 3) := by decide +kernel
theorem dX0_commonDivisor_14 : decode cX0_commonDivisor 14 = .ok (.if_icmp .ge 31, 3) := by decide +kernel
theorem dX0_commonDivisor_17 : decode cX0_commonDivisor 17 = .ok (.lload 6, 2) := by decide +kernel
theorem dX0_commonDivisor_19 : decode cX0_commonDivisor 19 = .ok (.lconst 0, 1) := by decide +kernel
theorem dX0_commonDivisor_20 : decode cX0_commonDivisor 20 = .ok (.lcmp, 1) := by decide +kernel
theorem dX0_commonDivisor_21 : decode cX0_commonDivisor 21 = .ok (.ifCond .eq 24, 3) := by decide +kernel
theorem dX0_commonDivisor_24 : decode cX0_commonDivisor 24 = .ok (.lload 4, 2) := by decide +kernel
theorem dX0_commonDivisor_26 : decode cX0_commonDivisor 26 = .ok (.lload 6, 2) := by decide +kernel
theorem dX0_commonDivisor_28 : decode cX0_commonDivisor 28 = .ok (.lrem, 1) := by decide +kernel
theorem dX0_commonDivisor_29 : decode cX0_commonDivisor 29 = .ok (.lstore 9, 2) := by decide +kernel
theorem dX0_commonDivisor_31 : decode cX0_commonDivisor 31 = .ok (.lload 6, 2) := by decide +kernel
theorem dX0_commonDivisor_33 : decode cX0_commonDivisor 33 = .ok (.lstore 4, 2) := by decide +kernel
theorem dX0_commonDivisor_35 : decode cX0_commonDivisor 35 = .ok (.lload 9, 2) := by decide +kernel
theorem dX0_commonDivisor_37 : decode cX0_commonDivisor 37 = .ok (.lstore 6, 2) := by decide +kernel
theorem dX0_commonDivisor_39 : decode cX0_commonDivisor 39 = .ok (.iinc 8 1, 3) := by decide +kernel
theorem dX0_commonDivisor_42 : decode cX0_commonDivisor 42 = .ok (.goto (-33), 3) := by decide +kernel
theorem dX0_commonDivisor_45 : decode cX0_commonDivisor 45 = .ok (.lload 4, 2) := by decide +kernel
theorem dX0_commonDivisor_47 : decode cX0_commonDivisor 47 = .ok (.lreturn, 1) := by decide +kernel
theorem dX0_meanFrom_0 : decode cX0_meanFrom 0 = .ok (.aload_n 0, 1) := by decide +kernel
theorem dX0_meanFrom_1 : decode cX0_meanFrom 1 = .ok (.getfield 16, 3) := by decide +kernel
theorem dX0_meanFrom_4 : decode cX0_meanFrom 4 = .ok (.iload_n 1, 1) := by decide +kernel
theorem dX0_meanFrom_5 : decode cX0_meanFrom 5 = .ok (.aload_n 0, 1) := by decide +kernel
theorem dX0_meanFrom_6 : decode cX0_meanFrom 6 = .ok (.getfield 29, 3) := by decide +kernel
theorem dX0_meanFrom_9 : decode cX0_meanFrom 9 = .ok (.getfield 79, 3) := by decide +kernel
theorem dX0_meanFrom_12 : decode cX0_meanFrom 12 = .ok (.invokevirtual 82, 3) := by decide +kernel
theorem dX0_meanFrom_15 : decode cX0_meanFrom 15 = .ok (.lstore_n 2, 1) := by decide +kernel
theorem dX0_meanFrom_16 : decode cX0_meanFrom 16 = .ok (.lload_n 2, 1) := by decide +kernel
theorem dX0_meanFrom_17 : decode cX0_meanFrom 17 = .ok (.ldc2_w 86, 3) := by decide +kernel
theorem dX0_meanFrom_20 : decode cX0_meanFrom 20 = .ok (.lcmp, 1) := by decide +kernel
theorem dX0_meanFrom_21 : decode cX0_meanFrom 21 = .ok (.ifCond .eq 5, 3) := by decide +kernel
theorem dX0_meanFrom_24 : decode cX0_meanFrom 24 = .ok (.lload_n 2, 1) := by decide +kernel
theorem dX0_meanFrom_25 : decode cX0_meanFrom 25 = .ok (.lreturn, 1) := by decide +kernel
theorem dX0_meanFrom_26 : decode cX0_meanFrom 26 = .ok (.aload_n 0, 1) := by decide +kernel
theorem dX0_meanFrom_27 : decode cX0_meanFrom 27 = .ok (.iload_n 1, 1) := by decide +kernel
theorem dX0_meanFrom_28 : decode cX0_meanFrom 28 = .ok (.aload_n 0, 1) := by decide +kernel
theorem dX0_meanFrom_29 : decode cX0_meanFrom 29 = .ok (.iload_n 1, 1) := by decide +kernel
theorem dX0_meanFrom_30 : decode cX0_meanFrom 30 = .ok (.invokevirtual 68, 3) := by decide +kernel
theorem dX0_meanFrom_33 : decode cX0_meanFrom 33 = .ok (.invokevirtual 88, 3) := by decide +kernel
theorem dX0_meanFrom_36 : decode cX0_meanFrom 36 = .ok (.lstore 4, 2) := by decide +kernel
theorem dX0_meanFrom_38 : decode cX0_meanFrom 38 = .ok (.aload_n 0, 1) := by decide +kernel
theorem dX0_meanFrom_39 : decode cX0_meanFrom 39 = .ok (.getfield 29, 3) := by decide +kernel
theorem dX0_meanFrom_42 : decode cX0_meanFrom 42 = .ok (.iload_n 1, 1) := by decide +kernel
theorem dX0_meanFrom_43 : decode cX0_meanFrom 43 = .ok (.invokevirtual 91, 3) := by decide +kernel
theorem dX0_meanFrom_46 : decode cX0_meanFrom 46 = .ok (.istore 6, 2) := by decide +kernel
theorem dX0_meanFrom_48 : decode cX0_meanFrom 48 = .ok (.iconst 0, 1) := by decide +kernel
theorem dX0_meanFrom_49 : decode cX0_meanFrom 49 = .ok (.istore 7, 2) := by decide +kernel
theorem dX0_meanFrom_51 : decode cX0_meanFrom 51 = .ok (.iload 7, 2) := by decide +kernel
theorem dX0_meanFrom_53 : decode cX0_meanFrom 53 = .ok (.iload 6, 2) := by decide +kernel
theorem dX0_meanFrom_55 : decode cX0_meanFrom 55 = .ok (.if_icmp .ge 23, 3) := by decide +kernel
theorem dX0_meanFrom_58 : decode cX0_meanFrom 58 = .ok (.lload 4, 2) := by decide +kernel
theorem dX0_meanFrom_60 : decode cX0_meanFrom 60 = .ok (.aload_n 0, 1) := by decide +kernel
theorem dX0_meanFrom_61 : decode cX0_meanFrom 61 = .ok (.iload_n 1, 1) := by decide +kernel
theorem dX0_meanFrom_62 : decode cX0_meanFrom 62 = .ok (.iload 7, 2) := by decide +kernel
theorem dX0_meanFrom_64 : decode cX0_meanFrom 64 = .ok (.invokevirtual 94, 3) := by decide +kernel
theorem dX0_meanFrom_67 : decode cX0_meanFrom 67 = .ok (.invokestatic 97, 3) := by decide +kernel
theorem dX0_meanFrom_70 : decode cX0_meanFrom 70 = .ok (.lstore 4, 2) := by decide +kernel
theorem dX0_meanFrom_72 : decode cX0_meanFrom 72 = .ok (.iinc 7 1, 3) := by decide +kernel
theorem dX0_meanFrom_75 : decode cX0_meanFrom 75 = .ok (.goto (-24), 3) := by decide +kernel
theorem dX0_meanFrom_78 : decode cX0_meanFrom 78 = .ok (.aload_n 0, 1) := by decide +kernel
theorem dX0_meanFrom_79 : decode cX0_meanFrom 79 = .ok (.getfield 16, 3) := by decide +kernel
theorem dX0_meanFrom_82 : decode cX0_meanFrom 82 = .ok (.iload_n 1, 1) := by decide +kernel
theorem dX0_meanFrom_83 : decode cX0_meanFrom 83 = .ok (.aload_n 0, 1) := by decide +kernel
theorem dX0_meanFrom_84 : decode cX0_meanFrom 84 = .ok (.getfield 29, 3) := by decide +kernel
theorem dX0_meanFrom_87 : decode cX0_meanFrom 87 = .ok (.getfield 79, 3) := by decide +kernel
theorem dX0_meanFrom_90 : decode cX0_meanFrom 90 = .ok (.lload 4, 2) := by decide +kernel
theorem dX0_meanFrom_92 : decode cX0_meanFrom 92 = .ok (.invokevirtual 102, 3) := by decide +kernel
theorem dX0_meanFrom_95 : decode cX0_meanFrom 95 = .ok (.lload 4, 2) := by decide +kernel
theorem dX0_meanFrom_97 : decode cX0_meanFrom 97 = .ok (.lreturn, 1) := by decide +kernel
theorem dX0_meanByYear_0 : decode cX0_meanByYear 0 = .ok (.aload_n 0, 1) := by decide +kernel
theorem dX0_meanByYear_1 : decode cX0_meanByYear 1 = .ok (.iload_n 1, 1) := by decide +kernel
theorem dX0_meanByYear_2 : decode cX0_meanByYear 2 = .ok (.invokevirtual 68, 3) := by decide +kernel
theorem dX0_meanByYear_5 : decode cX0_meanByYear 5 = .ok (.iconst 1, 1) := by decide +kernel
theorem dX0_meanByYear_6 : decode cX0_meanByYear 6 = .ok (.isub, 1) := by decide +kernel
theorem dX0_meanByYear_7 : decode cX0_meanByYear 7 = .ok (.istore_n 3, 1) := by decide +kernel
theorem dX0_meanByYear_8 : decode cX0_meanByYear 8 = .ok (.aload_n 0, 1) := by decide +kernel
theorem dX0_meanByYear_9 : decode cX0_meanByYear 9 = .ok (.getfield 29, 3) := by decide +kernel
theorem dX0_meanByYear_12 : decode cX0_meanByYear 12 = .ok (.getfield 51, 3) := by decide +kernel
theorem dX0_meanByYear_15 : decode cX0_meanByYear 15 = .ok (.getfield 106, 3) := by decide +kernel
theorem dX0_meanByYear_18 : decode cX0_meanByYear 18 = .ok (.istore 4, 2) := by decide +kernel
theorem dX0_meanByYear_20 : decode cX0_meanByYear 20 = .ok (.aload_n 0, 1) := by decide +kernel
theorem dX0_meanByYear_21 : decode cX0_meanByYear 21 = .ok (.getfield 29, 3) := by decide +kernel
theorem dX0_meanByYear_24 : decode cX0_meanByYear 24 = .ok (.iload_n 1, 1) := by decide +kernel
theorem dX0_meanByYear_25 : decode cX0_meanByYear 25 = .ok (.iload_n 2, 1) := by decide +kernel
theorem dX0_meanByYear_26 : decode cX0_meanByYear 26 = .ok (.invokevirtual 109, 3) := by decide +kernel
theorem dX0_meanByYear_29 : decode cX0_meanByYear 29 = .ok (.i2l, 1) := by decide +kernel
theorem dX0_meanByYear_30 : decode cX0_meanByYear 30 = .ok (.iload_n 3, 1) := by decide +kernel
theorem dX0_meanByYear_31 : decode cX0_meanByYear 31 = .ok (.invokestatic 71, 3) := by decide +kernel
theorem dX0_meanByYear_34 : decode cX0_meanByYear 34 = .ok (.lmul, 1) := by decide +kernel
theorem dX0_meanByYear_35 : decode cX0_meanByYear 35 = .ok (.aload_n 0, 1) := by decide +kernel
theorem dX0_meanByYear_36 : decode cX0_meanByYear 36 = .ok (.aload_n 0, 1) := by decide +kernel
theorem dX0_meanByYear_37 : decode cX0_meanByYear 37 = .ok (.getfield 29, 3) := by decide +kernel
theorem dX0_meanByYear_40 : decode cX0_meanByYear 40 = .ok (.iload_n 1, 1) := by decide +kernel
theorem dX0_meanByYear_41 : decode cX0_meanByYear 41 = .ok (.iload_n 2, 1) := by decide +kernel
theorem dX0_meanByYear_42 : decode cX0_meanByYear 42 = .ok (.invokevirtual 113, 3) := by decide +kernel
theorem dX0_meanByYear_45 : decode cX0_meanByYear 45 = .ok (.invokevirtual 116, 3) := by decide +kernel
theorem dX0_meanByYear_48 : decode cX0_meanByYear 48 = .ok (.ladd, 1) := by decide +kernel
theorem dX0_meanByYear_49 : decode cX0_meanByYear 49 = .ok (.lstore 5, 2) := by decide +kernel
theorem dX0_meanByYear_51 : decode cX0_meanByYear 51 = .ok (.bipush 10, 2) := by decide +kernel
theorem dX0_meanByYear_53 : decode cX0_meanByYear 53 = .ok (.iload 4, 2) := by decide +kernel
theorem dX0_meanByYear_55 : decode cX0_meanByYear 55 = .ok (.isub, 1) := by decide +kernel
theorem dX0_meanByYear_56 : decode cX0_meanByYear 56 = .ok (.i2l, 1) := by decide +kernel
theorem dX0_meanByYear_57 : decode cX0_meanByYear 57 = .ok (.lload 5, 2) := by decide +kernel
theorem dX0_meanByYear_59 : decode cX0_meanByYear 59 = .ok (.lmul, 1) := by decide +kernel
theorem dX0_meanByYear_60 : decode cX0_meanByYear 60 = .ok (.iload 4, 2) := by decide +kernel
theorem dX0_meanByYear_62 : decode cX0_meanByYear 62 = .ok (.i2l, 1) := by decide +kernel
theorem dX0_meanByYear_63 : decode cX0_meanByYear 63 = .ok (.aload_n 0, 1) := by decide +kernel
theorem dX0_meanByYear_64 : decode cX0_meanByYear 64 = .ok (.iload_n 1, 1) := by decide +kernel
theorem dX0_meanByYear_65 : decode cX0_meanByYear 65 = .ok (.iload_n 3, 1) := by decide +kernel
theorem dX0_meanByYear_66 : decode cX0_meanByYear 66 = .ok (.invokevirtual 88, 3) := by decide +kernel
theorem dX0_meanByYear_69 : decode cX0_meanByYear 69 = .ok (.lmul, 1) := by decide +kernel
theorem dX0_meanByYear_70 : decode cX0_meanByYear 70 = .ok (.ladd, 1) := by decide +kernel
theorem dX0_meanByYear_71 : decode cX0_meanByYear 71 = .ok (.lreturn, 1) := by decide +kernel
theorem dX0_meanByDrawing_0 : decode cX0_meanByDrawing 0 = .ok (.aload_n 0, 1) := by decide +kernel
theorem dX0_meanByDrawing_1 : decode cX0_meanByDrawing 1 = .ok (.getfield 29, 3) := by decide +kernel
theorem dX0_meanByDrawing_4 : decode cX0_meanByDrawing 4 = .ok (.iload_n 1, 1) := by decide +kernel
theorem dX0_meanByDrawing_5 : decode cX0_meanByDrawing 5 = .ok (.invokevirtual 119, 3) := by decide +kernel
theorem dX0_meanByDrawing_8 : decode cX0_meanByDrawing 8 = .ok (.istore_n 3, 1) := by decide +kernel
theorem dX0_meanByDrawing_9 : decode cX0_meanByDrawing 9 = .ok (.iload_n 3, 1) := by decide +kernel
theorem dX0_meanByDrawing_10 : decode cX0_meanByDrawing 10 = .ok (.iconst (-1), 1) := by decide +kernel
theorem dX0_meanByDrawing_11 : decode cX0_meanByDrawing 11 = .ok (.if_icmp .ne 7, 3) := by decide +kernel
theorem dX0_meanByDrawing_14 : decode cX0_meanByDrawing 14 = .ok (.lconst 0, 1) := by decide +kernel
theorem dX0_meanByDrawing_15 : decode cX0_meanByDrawing 15 = .ok (.goto 19, 3) := by decide +kernel
theorem dX0_meanByDrawing_18 : decode cX0_meanByDrawing 18 = .ok (.aload_n 0, 1) := by decide +kernel
theorem dX0_meanByDrawing_19 : decode cX0_meanByDrawing 19 = .ok (.iload_n 3, 1) := by decide +kernel
theorem dX0_meanByDrawing_20 : decode cX0_meanByDrawing 20 = .ok (.invokevirtual 116, 3) := by decide +kernel
theorem dX0_meanByDrawing_23 : decode cX0_meanByDrawing 23 = .ok (.iload_n 2, 1) := by decide +kernel
theorem dX0_meanByDrawing_24 : decode cX0_meanByDrawing 24 = .ok (.aload_n 0, 1) := by decide +kernel
theorem dX0_meanByDrawing_25 : decode cX0_meanByDrawing 25 = .ok (.iload_n 3, 1) := by decide +kernel
theorem dX0_meanByDrawing_26 : decode cX0_meanByDrawing 26 = .ok (.invokevirtual 68, 3) := by decide +kernel
theorem dX0_meanByDrawing_29 : decode cX0_meanByDrawing 29 = .ok (.isub, 1) := by decide +kernel
theorem dX0_meanByDrawing_30 : decode cX0_meanByDrawing 30 = .ok (.invokestatic 71, 3) := by decide +kernel
theorem dX0_meanByDrawing_33 : decode cX0_meanByDrawing 33 = .ok (.lmul, 1) := by decide +kernel
theorem dX0_meanByDrawing_34 : decode cX0_meanByDrawing 34 = .ok (.lreturn, 1) := by decide +kernel
theorem dX0_meanDoing_0 : decode cX0_meanDoing 0 = .ok (.aload_n 0, 1) := by decide +kernel
theorem dX0_meanDoing_1 : decode cX0_meanDoing 1 = .ok (.getfield 29, 3) := by decide +kernel
theorem dX0_meanDoing_4 : decode cX0_meanDoing 4 = .ok (.getfield 65, 3) := by decide +kernel
theorem dX0_meanDoing_7 : decode cX0_meanDoing 7 = .ok (.istore_n 1, 1) := by decide +kernel
theorem dX0_meanDoing_8 : decode cX0_meanDoing 8 = .ok (.aload_n 0, 1) := by decide +kernel
theorem dX0_meanDoing_9 : decode cX0_meanDoing 9 = .ok (.iload_n 1, 1) := by decide +kernel
theorem dX0_meanDoing_10 : decode cX0_meanDoing 10 = .ok (.invokevirtual 116, 3) := by decide +kernel
theorem dX0_meanDoing_13 : decode cX0_meanDoing 13 = .ok (.lstore_n 2, 1) := by decide +kernel
theorem dX0_meanDoing_14 : decode cX0_meanDoing 14 = .ok (.lload_n 2, 1) := by decide +kernel
theorem dX0_meanDoing_15 : decode cX0_meanDoing 15 = .ok (.lconst 0, 1) := by decide +kernel
theorem dX0_meanDoing_16 : decode cX0_meanDoing 16 = .ok (.lcmp, 1) := by decide +kernel
theorem dX0_meanDoing_17 : decode cX0_meanDoing 17 = .ok (.ifCond .ne 5, 3) := by decide +kernel
theorem dX0_meanDoing_20 : decode cX0_meanDoing 20 = .ok (.iconst (-1), 1) := by decide +kernel
theorem dX0_meanDoing_21 : decode cX0_meanDoing 21 = .ok (.ireturn, 1) := by decide +kernel
theorem dX0_meanDoing_22 : decode cX0_meanDoing 22 = .ok (.aload_n 0, 1) := by decide +kernel
theorem dX0_meanDoing_23 : decode cX0_meanDoing 23 = .ok (.getfield 29, 3) := by decide +kernel
theorem dX0_meanDoing_26 : decode cX0_meanDoing 26 = .ok (.iload_n 1, 1) := by decide +kernel
theorem dX0_meanDoing_27 : decode cX0_meanDoing 27 = .ok (.invokevirtual 91, 3) := by decide +kernel
theorem dX0_meanDoing_30 : decode cX0_meanDoing 30 = .ok (.istore 4, 2) := by decide +kernel
theorem dX0_meanDoing_32 : decode cX0_meanDoing 32 = .ok (.iconst 0, 1) := by decide +kernel
theorem dX0_meanDoing_33 : decode cX0_meanDoing 33 = .ok (.istore 5, 2) := by decide +kernel
theorem dX0_meanDoing_35 : decode cX0_meanDoing 35 = .ok (.iload 5, 2) := by decide +kernel
theorem dX0_meanDoing_37 : decode cX0_meanDoing 37 = .ok (.iload 4, 2) := by decide +kernel
theorem dX0_meanDoing_39 : decode cX0_meanDoing 39 = .ok (.if_icmp .ge 24, 3) := by decide +kernel
theorem dX0_meanDoing_42 : decode cX0_meanDoing 42 = .ok (.aload_n 0, 1) := by decide +kernel
theorem dX0_meanDoing_43 : decode cX0_meanDoing 43 = .ok (.iload_n 1, 1) := by decide +kernel
theorem dX0_meanDoing_44 : decode cX0_meanDoing 44 = .ok (.iload 5, 2) := by decide +kernel
theorem dX0_meanDoing_46 : decode cX0_meanDoing 46 = .ok (.invokevirtual 94, 3) := by decide +kernel
theorem dX0_meanDoing_49 : decode cX0_meanDoing 49 = .ok (.lload_n 2, 1) := by decide +kernel
theorem dX0_meanDoing_50 : decode cX0_meanDoing 50 = .ok (.lcmp, 1) := by decide +kernel
theorem dX0_meanDoing_51 : decode cX0_meanDoing 51 = .ok (.ifCond .ne 6, 3) := by decide +kernel
theorem dX0_meanDoing_54 : decode cX0_meanDoing 54 = .ok (.iload 5, 2) := by decide +kernel
theorem dX0_meanDoing_56 : decode cX0_meanDoing 56 = .ok (.ireturn, 1) := by decide +kernel
theorem dX0_meanDoing_57 : decode cX0_meanDoing 57 = .ok (.iinc 5 1, 3) := by decide +kernel
theorem dX0_meanDoing_60 : decode cX0_meanDoing 60 = .ok (.goto (-25), 3) := by decide +kernel
theorem dX0_meanDoing_63 : decode cX0_meanDoing 63 = .ok (.bipush 9, 2) := by decide +kernel
theorem dX0_meanDoing_65 : decode cX0_meanDoing 65 = .ok (.ireturn, 1) := by decide +kernel
theorem dX0_drawingIsBest_0 : decode cX0_drawingIsBest 0 = .ok (.aload_n 0, 1) := by decide +kernel
theorem dX0_drawingIsBest_1 : decode cX0_drawingIsBest 1 = .ok (.getfield 29, 3) := by decide +kernel
theorem dX0_drawingIsBest_4 : decode cX0_drawingIsBest 4 = .ok (.getfield 65, 3) := by decide +kernel
theorem dX0_drawingIsBest_7 : decode cX0_drawingIsBest 7 = .ok (.istore_n 1, 1) := by decide +kernel
theorem dX0_drawingIsBest_8 : decode cX0_drawingIsBest 8 = .ok (.aload_n 0, 1) := by decide +kernel
theorem dX0_drawingIsBest_9 : decode cX0_drawingIsBest 9 = .ok (.getfield 29, 3) := by decide +kernel
theorem dX0_drawingIsBest_12 : decode cX0_drawingIsBest 12 = .ok (.iload_n 1, 1) := by decide +kernel
theorem dX0_drawingIsBest_13 : decode cX0_drawingIsBest 13 = .ok (.invokevirtual 119, 3) := by decide +kernel
theorem dX0_drawingIsBest_16 : decode cX0_drawingIsBest 16 = .ok (.iconst (-1), 1) := by decide +kernel
theorem dX0_drawingIsBest_17 : decode cX0_drawingIsBest 17 = .ok (.if_icmp .eq 26, 3) := by decide +kernel
theorem dX0_drawingIsBest_20 : decode cX0_drawingIsBest 20 = .ok (.aload_n 0, 1) := by decide +kernel
theorem dX0_drawingIsBest_21 : decode cX0_drawingIsBest 21 = .ok (.iload_n 1, 1) := by decide +kernel
theorem dX0_drawingIsBest_22 : decode cX0_drawingIsBest 22 = .ok (.aload_n 0, 1) := by decide +kernel
theorem dX0_drawingIsBest_23 : decode cX0_drawingIsBest 23 = .ok (.iload_n 1, 1) := by decide +kernel
theorem dX0_drawingIsBest_24 : decode cX0_drawingIsBest 24 = .ok (.invokevirtual 68, 3) := by decide +kernel
theorem dX0_drawingIsBest_27 : decode cX0_drawingIsBest 27 = .ok (.invokevirtual 88, 3) := by decide +kernel
theorem dX0_drawingIsBest_30 : decode cX0_drawingIsBest 30 = .ok (.aload_n 0, 1) := by decide +kernel
theorem dX0_drawingIsBest_31 : decode cX0_drawingIsBest 31 = .ok (.iload_n 1, 1) := by decide +kernel
theorem dX0_drawingIsBest_32 : decode cX0_drawingIsBest 32 = .ok (.invokevirtual 116, 3) := by decide +kernel
theorem dX0_drawingIsBest_35 : decode cX0_drawingIsBest 35 = .ok (.lcmp, 1) := by decide +kernel
theorem dX0_drawingIsBest_36 : decode cX0_drawingIsBest 36 = .ok (.ifCond .ne 7, 3) := by decide +kernel
theorem dX0_drawingIsBest_39 : decode cX0_drawingIsBest 39 = .ok (.iconst 1, 1) := by decide +kernel
theorem dX0_drawingIsBest_40 : decode cX0_drawingIsBest 40 = .ok (.goto 4, 3) := by decide +kernel
theorem dX0_drawingIsBest_43 : decode cX0_drawingIsBest 43 = .ok (.iconst 0, 1) := by decide +kernel
theorem dX0_drawingIsBest_44 : decode cX0_drawingIsBest 44 = .ok (.ireturn, 1) := by decide +kernel
theorem dX0_hopeNow_0 : decode cX0_hopeNow 0 = .ok (.aload_n 0, 1) := by decide +kernel
theorem dX0_hopeNow_1 : decode cX0_hopeNow 1 = .ok (.getfield 33, 3) := by decide +kernel
theorem dX0_hopeNow_4 : decode cX0_hopeNow 4 = .ok (.aload_n 0, 1) := by decide +kernel
theorem dX0_hopeNow_5 : decode cX0_hopeNow 5 = .ok (.getfield 29, 3) := by decide +kernel
theorem dX0_hopeNow_8 : decode cX0_hopeNow 8 = .ok (.getfield 65, 3) := by decide +kernel
theorem dX0_hopeNow_11 : decode cX0_hopeNow 11 = .ok (.invokevirtual 122, 3) := by decide +kernel
theorem dX0_hopeNow_14 : decode cX0_hopeNow 14 = .ok (.pop2, 1) := by decide +kernel
theorem dX0_hopeNow_15 : decode cX0_hopeNow 15 = .ok (.aload_n 0, 1) := by decide +kernel
theorem dX0_hopeNow_16 : decode cX0_hopeNow 16 = .ok (.aload_n 0, 1) := by decide +kernel
theorem dX0_hopeNow_17 : decode cX0_hopeNow 17 = .ok (.getfield 29, 3) := by decide +kernel
theorem dX0_hopeNow_20 : decode cX0_hopeNow 20 = .ok (.getfield 65, 3) := by decide +kernel
theorem dX0_hopeNow_23 : decode cX0_hopeNow 23 = .ok (.iload_n 1, 1) := by decide +kernel
theorem dX0_hopeNow_24 : decode cX0_hopeNow 24 = .ok (.invokevirtual 127, 3) := by decide +kernel
theorem dX0_hopeNow_27 : decode cX0_hopeNow 27 = .ok (.lreturn, 1) := by decide +kernel
theorem dX0_hopeFrom_0 : decode cX0_hopeFrom 0 = .ok (.iload_n 2, 1) := by decide +kernel
theorem dX0_hopeFrom_1 : decode cX0_hopeFrom 1 = .ok (.ifCond .gt 12, 3) := by decide +kernel
theorem dX0_hopeFrom_4 : decode cX0_hopeFrom 4 = .ok (.aload_n 0, 1) := by decide +kernel
theorem dX0_hopeFrom_5 : decode cX0_hopeFrom 5 = .ok (.iload_n 1, 1) := by decide +kernel
theorem dX0_hopeFrom_6 : decode cX0_hopeFrom 6 = .ok (.invokevirtual 68, 3) := by decide +kernel
theorem dX0_hopeFrom_9 : decode cX0_hopeFrom 9 = .ok (.invokestatic 71, 3) := by decide +kernel
theorem dX0_hopeFrom_12 : decode cX0_hopeFrom 12 = .ok (.lreturn, 1) := by decide +kernel
theorem dX0_hopeFrom_13 : decode cX0_hopeFrom 13 = .ok (.iload_n 2, 1) := by decide +kernel
theorem dX0_hopeFrom_14 : decode cX0_hopeFrom 14 = .ok (.aload_n 0, 1) := by decide +kernel
theorem dX0_hopeFrom_15 : decode cX0_hopeFrom 15 = .ok (.getfield 33, 3) := by decide +kernel
theorem dX0_hopeFrom_18 : decode cX0_hopeFrom 18 = .ok (.iload_n 1, 1) := by decide +kernel
theorem dX0_hopeFrom_19 : decode cX0_hopeFrom 19 = .ok (.invokevirtual 130, 3) := by decide +kernel
theorem dX0_hopeFrom_22 : decode cX0_hopeFrom 22 = .ok (.if_icmp .gt 16, 3) := by decide +kernel
theorem dX0_hopeFrom_25 : decode cX0_hopeFrom 25 = .ok (.iload_n 1, 1) := by decide +kernel
theorem dX0_hopeFrom_26 : decode cX0_hopeFrom 26 = .ok (.ifCond .lt 12, 3) := by decide +kernel
theorem dX0_hopeFrom_29 : decode cX0_hopeFrom 29 = .ok (.iload_n 1, 1) := by decide +kernel
theorem dX0_hopeFrom_30 : decode cX0_hopeFrom 30 = .ok (.aload_n 0, 1) := by decide +kernel
theorem dX0_hopeFrom_31 : decode cX0_hopeFrom 31 = .ok (.getfield 22, 3) := by decide +kernel
theorem dX0_hopeFrom_34 : decode cX0_hopeFrom 34 = .ok (.arraylength, 1) := by decide +kernel
theorem dX0_hopeFrom_35 : decode cX0_hopeFrom 35 = .ok (.if_icmp .lt 5, 3) := by decide +kernel
theorem dX0_hopeFrom_38 : decode cX0_hopeFrom 38 = .ok (.lconst 0, 1) := by decide +kernel
theorem dX0_hopeFrom_39 : decode cX0_hopeFrom 39 = .ok (.lreturn, 1) := by decide +kernel
theorem dX0_hopeFrom_40 : decode cX0_hopeFrom 40 = .ok (.aload_n 0, 1) := by decide +kernel
theorem dX0_hopeFrom_41 : decode cX0_hopeFrom 41 = .ok (.invokevirtual 133, 3) := by decide +kernel
theorem dX0_hopeFrom_44 : decode cX0_hopeFrom 44 = .ok (.astore_n 3, 1) := by decide +kernel
theorem dX0_hopeFrom_45 : decode cX0_hopeFrom 45 = .ok (.aload_n 0, 1) := by decide +kernel
theorem dX0_hopeFrom_46 : decode cX0_hopeFrom 46 = .ok (.getfield 22, 3) := by decide +kernel
theorem dX0_hopeFrom_49 : decode cX0_hopeFrom 49 = .ok (.iload_n 1, 1) := by decide +kernel
theorem dX0_hopeFrom_50 : decode cX0_hopeFrom 50 = .ok (.iaload, 1) := by decide +kernel
theorem dX0_hopeFrom_51 : decode cX0_hopeFrom 51 = .ok (.iload_n 2, 1) := by decide +kernel
theorem dX0_hopeFrom_52 : decode cX0_hopeFrom 52 = .ok (.iadd, 1) := by decide +kernel
theorem dX0_hopeFrom_53 : decode cX0_hopeFrom 53 = .ok (.iconst 1, 1) := by decide +kernel
theorem dX0_hopeFrom_54 : decode cX0_hopeFrom 54 = .ok (.isub, 1) := by decide +kernel
theorem dX0_hopeFrom_55 : decode cX0_hopeFrom 55 = .ok (.istore 4, 2) := by decide +kernel
theorem dX0_hopeFrom_57 : decode cX0_hopeFrom 57 = .ok (.aload_n 3, 1) := by decide +kernel
theorem dX0_hopeFrom_58 : decode cX0_hopeFrom 58 = .ok (.iload 4, 2) := by decide +kernel
theorem dX0_hopeFrom_60 : decode cX0_hopeFrom 60 = .ok (.aload_n 0, 1) := by decide +kernel
theorem dX0_hopeFrom_61 : decode cX0_hopeFrom 61 = .ok (.getfield 29, 3) := by decide +kernel
theorem dX0_hopeFrom_64 : decode cX0_hopeFrom 64 = .ok (.getfield 79, 3) := by decide +kernel
theorem dX0_hopeFrom_67 : decode cX0_hopeFrom 67 = .ok (.invokevirtual 82, 3) := by decide +kernel
theorem dX0_hopeFrom_70 : decode cX0_hopeFrom 70 = .ok (.lstore 5, 2) := by decide +kernel
theorem dX0_hopeFrom_72 : decode cX0_hopeFrom 72 = .ok (.lload 5, 2) := by decide +kernel
theorem dX0_hopeFrom_74 : decode cX0_hopeFrom 74 = .ok (.ldc2_w 86, 3) := by decide +kernel
theorem dX0_hopeFrom_77 : decode cX0_hopeFrom 77 = .ok (.lcmp, 1) := by decide +kernel
theorem dX0_hopeFrom_78 : decode cX0_hopeFrom 78 = .ok (.ifCond .eq 6, 3) := by decide +kernel
theorem dX0_hopeFrom_81 : decode cX0_hopeFrom 81 = .ok (.lload 5, 2) := by decide +kernel
theorem dX0_hopeFrom_83 : decode cX0_hopeFrom 83 = .ok (.lreturn, 1) := by decide +kernel
theorem dX0_hopeFrom_84 : decode cX0_hopeFrom 84 = .ok (.aload_n 0, 1) := by decide +kernel
theorem dX0_hopeFrom_85 : decode cX0_hopeFrom 85 = .ok (.iload_n 1, 1) := by decide +kernel
theorem dX0_hopeFrom_86 : decode cX0_hopeFrom 86 = .ok (.iload_n 2, 1) := by decide +kernel
theorem dX0_hopeFrom_87 : decode cX0_hopeFrom 87 = .ok (.aload_n 0, 1) := by decide +kernel
theorem dX0_hopeFrom_88 : decode cX0_hopeFrom 88 = .ok (.iload_n 1, 1) := by decide +kernel
theorem dX0_hopeFrom_89 : decode cX0_hopeFrom 89 = .ok (.invokevirtual 68, 3) := by decide +kernel
theorem dX0_hopeFrom_92 : decode cX0_hopeFrom 92 = .ok (.invokevirtual 137, 3) := by decide +kernel
theorem dX0_hopeFrom_95 : decode cX0_hopeFrom 95 = .ok (.lstore 7, 2) := by decide +kernel
theorem dX0_hopeFrom_97 : decode cX0_hopeFrom 97 = .ok (.aload_n 0, 1) := by decide +kernel
theorem dX0_hopeFrom_98 : decode cX0_hopeFrom 98 = .ok (.getfield 29, 3) := by decide +kernel
theorem dX0_hopeFrom_101 : decode cX0_hopeFrom 101 = .ok (.iload_n 1, 1) := by decide +kernel
theorem dX0_hopeFrom_102 : decode cX0_hopeFrom 102 = .ok (.invokevirtual 91, 3) := by decide +kernel
theorem dX0_hopeFrom_105 : decode cX0_hopeFrom 105 = .ok (.istore 9, 2) := by decide +kernel
theorem dX0_hopeFrom_107 : decode cX0_hopeFrom 107 = .ok (.iconst 0, 1) := by decide +kernel
theorem dX0_hopeFrom_108 : decode cX0_hopeFrom 108 = .ok (.istore 10, 2) := by decide +kernel
theorem dX0_hopeFrom_110 : decode cX0_hopeFrom 110 = .ok (.iload 10, 2) := by decide +kernel
theorem dX0_hopeFrom_112 : decode cX0_hopeFrom 112 = .ok (.iload 9, 2) := by decide +kernel
theorem dX0_hopeFrom_114 : decode cX0_hopeFrom 114 = .ok (.if_icmp .ge 24, 3) := by decide +kernel
theorem dX0_hopeFrom_117 : decode cX0_hopeFrom 117 = .ok (.lload 7, 2) := by decide +kernel
theorem dX0_hopeFrom_119 : decode cX0_hopeFrom 119 = .ok (.aload_n 0, 1) := by decide +kernel
theorem dX0_hopeFrom_120 : decode cX0_hopeFrom 120 = .ok (.iload_n 1, 1) := by decide +kernel
theorem dX0_hopeFrom_121 : decode cX0_hopeFrom 121 = .ok (.iload_n 2, 1) := by decide +kernel
theorem dX0_hopeFrom_122 : decode cX0_hopeFrom 122 = .ok (.iload 10, 2) := by decide +kernel
theorem dX0_hopeFrom_124 : decode cX0_hopeFrom 124 = .ok (.invokevirtual 141, 3) := by decide +kernel
theorem dX0_hopeFrom_127 : decode cX0_hopeFrom 127 = .ok (.invokestatic 97, 3) := by decide +kernel
theorem dX0_hopeFrom_130 : decode cX0_hopeFrom 130 = .ok (.lstore 7, 2) := by decide +kernel
theorem dX0_hopeFrom_132 : decode cX0_hopeFrom 132 = .ok (.iinc 10 1, 3) := by decide +kernel
theorem dX0_hopeFrom_135 : decode cX0_hopeFrom 135 = .ok (.goto (-25), 3) := by decide +kernel
theorem dX0_hopeFrom_138 : decode cX0_hopeFrom 138 = .ok (.aload_n 3, 1) := by decide +kernel
theorem dX0_hopeFrom_139 : decode cX0_hopeFrom 139 = .ok (.iload 4, 2) := by decide +kernel
theorem dX0_hopeFrom_141 : decode cX0_hopeFrom 141 = .ok (.aload_n 0, 1) := by decide +kernel
theorem dX0_hopeFrom_142 : decode cX0_hopeFrom 142 = .ok (.getfield 29, 3) := by decide +kernel
theorem dX0_hopeFrom_145 : decode cX0_hopeFrom 145 = .ok (.getfield 79, 3) := by decide +kernel
theorem dX0_hopeFrom_148 : decode cX0_hopeFrom 148 = .ok (.lload 7, 2) := by decide +kernel
theorem dX0_hopeFrom_150 : decode cX0_hopeFrom 150 = .ok (.invokevirtual 102, 3) := by decide +kernel
theorem dX0_hopeFrom_153 : decode cX0_hopeFrom 153 = .ok (.lload 7, 2) := by decide +kernel
theorem dX0_hopeFrom_155 : decode cX0_hopeFrom 155 = .ok (.lreturn, 1) := by decide +kernel
theorem dX0_hopeByYear_0 : decode cX0_hopeByYear 0 = .ok (.aload_n 0, 1) := by decide +kernel
theorem dX0_hopeByYear_1 : decode cX0_hopeByYear 1 = .ok (.getfield 29, 3) := by decide +kernel
theorem dX0_hopeByYear_4 : decode cX0_hopeByYear 4 = .ok (.getfield 51, 3) := by decide +kernel
theorem dX0_hopeByYear_7 : decode cX0_hopeByYear 7 = .ok (.getfield 106, 3) := by decide +kernel
theorem dX0_hopeByYear_10 : decode cX0_hopeByYear 10 = .ok (.istore 4, 2) := by decide +kernel
theorem dX0_hopeByYear_12 : decode cX0_hopeByYear 12 = .ok (.aload_n 0, 1) := by decide +kernel
theorem dX0_hopeByYear_13 : decode cX0_hopeByYear 13 = .ok (.aload_n 0, 1) := by decide +kernel
theorem dX0_hopeByYear_14 : decode cX0_hopeByYear 14 = .ok (.getfield 29, 3) := by decide +kernel
theorem dX0_hopeByYear_17 : decode cX0_hopeByYear 17 = .ok (.iload_n 1, 1) := by decide +kernel
theorem dX0_hopeByYear_18 : decode cX0_hopeByYear 18 = .ok (.iload_n 3, 1) := by decide +kernel
theorem dX0_hopeByYear_19 : decode cX0_hopeByYear 19 = .ok (.invokevirtual 113, 3) := by decide +kernel
theorem dX0_hopeByYear_22 : decode cX0_hopeByYear 22 = .ok (.iload_n 2, 1) := by decide +kernel
theorem dX0_hopeByYear_23 : decode cX0_hopeByYear 23 = .ok (.aload_n 0, 1) := by decide +kernel
theorem dX0_hopeByYear_24 : decode cX0_hopeByYear 24 = .ok (.getfield 29, 3) := by decide +kernel
theorem dX0_hopeByYear_27 : decode cX0_hopeByYear 27 = .ok (.iload_n 1, 1) := by decide +kernel
theorem dX0_hopeByYear_28 : decode cX0_hopeByYear 28 = .ok (.iload_n 3, 1) := by decide +kernel
theorem dX0_hopeByYear_29 : decode cX0_hopeByYear 29 = .ok (.invokevirtual 109, 3) := by decide +kernel
theorem dX0_hopeByYear_32 : decode cX0_hopeByYear 32 = .ok (.isub, 1) := by decide +kernel
theorem dX0_hopeByYear_33 : decode cX0_hopeByYear 33 = .ok (.invokevirtual 127, 3) := by decide +kernel
theorem dX0_hopeByYear_36 : decode cX0_hopeByYear 36 = .ok (.lstore 5, 2) := by decide +kernel
theorem dX0_hopeByYear_38 : decode cX0_hopeByYear 38 = .ok (.bipush 10, 2) := by decide +kernel
theorem dX0_hopeByYear_40 : decode cX0_hopeByYear 40 = .ok (.iload 4, 2) := by decide +kernel
theorem dX0_hopeByYear_42 : decode cX0_hopeByYear 42 = .ok (.isub, 1) := by decide +kernel
theorem dX0_hopeByYear_43 : decode cX0_hopeByYear 43 = .ok (.i2l, 1) := by decide +kernel
theorem dX0_hopeByYear_44 : decode cX0_hopeByYear 44 = .ok (.lload 5, 2) := by decide +kernel
theorem dX0_hopeByYear_46 : decode cX0_hopeByYear 46 = .ok (.lmul, 1) := by decide +kernel
theorem dX0_hopeByYear_47 : decode cX0_hopeByYear 47 = .ok (.iload 4, 2) := by decide +kernel
theorem dX0_hopeByYear_49 : decode cX0_hopeByYear 49 = .ok (.i2l, 1) := by decide +kernel
theorem dX0_hopeByYear_50 : decode cX0_hopeByYear 50 = .ok (.aload_n 0, 1) := by decide +kernel
theorem dX0_hopeByYear_51 : decode cX0_hopeByYear 51 = .ok (.iload_n 1, 1) := by decide +kernel
theorem dX0_hopeByYear_52 : decode cX0_hopeByYear 52 = .ok (.iload_n 2, 1) := by decide +kernel
theorem dX0_hopeByYear_53 : decode cX0_hopeByYear 53 = .ok (.aload_n 0, 1) := by decide +kernel
theorem dX0_hopeByYear_54 : decode cX0_hopeByYear 54 = .ok (.iload_n 1, 1) := by decide +kernel
theorem dX0_hopeByYear_55 : decode cX0_hopeByYear 55 = .ok (.invokevirtual 68, 3) := by decide +kernel
theorem dX0_hopeByYear_58 : decode cX0_hopeByYear 58 = .ok (.iconst 1, 1) := by decide +kernel
theorem dX0_hopeByYear_59 : decode cX0_hopeByYear 59 = .ok (.isub, 1) := by decide +kernel
theorem dX0_hopeByYear_60 : decode cX0_hopeByYear 60 = .ok (.invokevirtual 137, 3) := by decide +kernel
theorem dX0_hopeByYear_63 : decode cX0_hopeByYear 63 = .ok (.lmul, 1) := by decide +kernel
theorem dX0_hopeByYear_64 : decode cX0_hopeByYear 64 = .ok (.ladd, 1) := by decide +kernel
theorem dX0_hopeByYear_65 : decode cX0_hopeByYear 65 = .ok (.lreturn, 1) := by decide +kernel
theorem dX0_hopeByDrawing_0 : decode cX0_hopeByDrawing 0 = .ok (.aload_n 0, 1) := by decide +kernel
theorem dX0_hopeByDrawing_1 : decode cX0_hopeByDrawing 1 = .ok (.getfield 29, 3) := by decide +kernel
theorem dX0_hopeByDrawing_4 : decode cX0_hopeByDrawing 4 = .ok (.iload_n 1, 1) := by decide +kernel
theorem dX0_hopeByDrawing_5 : decode cX0_hopeByDrawing 5 = .ok (.invokevirtual 119, 3) := by decide +kernel
theorem dX0_hopeByDrawing_8 : decode cX0_hopeByDrawing 8 = .ok (.istore 4, 2) := by decide +kernel
theorem dX0_hopeByDrawing_10 : decode cX0_hopeByDrawing 10 = .ok (.iload 4, 2) := by decide +kernel
theorem dX0_hopeByDrawing_12 : decode cX0_hopeByDrawing 12 = .ok (.iconst (-1), 1) := by decide +kernel
theorem dX0_hopeByDrawing_13 : decode cX0_hopeByDrawing 13 = .ok (.if_icmp .ne 7, 3) := by decide +kernel
theorem dX0_hopeByDrawing_16 : decode cX0_hopeByDrawing 16 = .ok (.lconst 0, 1) := by decide +kernel
theorem dX0_hopeByDrawing_17 : decode cX0_hopeByDrawing 17 = .ok (.goto 22, 3) := by decide +kernel
theorem dX0_hopeByDrawing_20 : decode cX0_hopeByDrawing 20 = .ok (.aload_n 0, 1) := by decide +kernel
theorem dX0_hopeByDrawing_21 : decode cX0_hopeByDrawing 21 = .ok (.iload 4, 2) := by decide +kernel
theorem dX0_hopeByDrawing_23 : decode cX0_hopeByDrawing 23 = .ok (.iload_n 2, 1) := by decide +kernel
theorem dX0_hopeByDrawing_24 : decode cX0_hopeByDrawing 24 = .ok (.invokevirtual 127, 3) := by decide +kernel
theorem dX0_hopeByDrawing_27 : decode cX0_hopeByDrawing 27 = .ok (.iload_n 3, 1) := by decide +kernel
theorem dX0_hopeByDrawing_28 : decode cX0_hopeByDrawing 28 = .ok (.aload_n 0, 1) := by decide +kernel
theorem dX0_hopeByDrawing_29 : decode cX0_hopeByDrawing 29 = .ok (.iload 4, 2) := by decide +kernel
theorem dX0_hopeByDrawing_31 : decode cX0_hopeByDrawing 31 = .ok (.invokevirtual 68, 3) := by decide +kernel
theorem dX0_hopeByDrawing_34 : decode cX0_hopeByDrawing 34 = .ok (.isub, 1) := by decide +kernel
theorem dX0_hopeByDrawing_35 : decode cX0_hopeByDrawing 35 = .ok (.invokestatic 71, 3) := by decide +kernel
theorem dX0_hopeByDrawing_38 : decode cX0_hopeByDrawing 38 = .ok (.lmul, 1) := by decide +kernel
theorem dX0_hopeByDrawing_39 : decode cX0_hopeByDrawing 39 = .ok (.lreturn, 1) := by decide +kernel
theorem dX0_hopeDoing_0 : decode cX0_hopeDoing 0 = .ok (.aload_n 0, 1) := by decide +kernel
theorem dX0_hopeDoing_1 : decode cX0_hopeDoing 1 = .ok (.getfield 29, 3) := by decide +kernel
theorem dX0_hopeDoing_4 : decode cX0_hopeDoing 4 = .ok (.getfield 65, 3) := by decide +kernel
theorem dX0_hopeDoing_7 : decode cX0_hopeDoing 7 = .ok (.istore_n 2, 1) := by decide +kernel
theorem dX0_hopeDoing_8 : decode cX0_hopeDoing 8 = .ok (.aload_n 0, 1) := by decide +kernel
theorem dX0_hopeDoing_9 : decode cX0_hopeDoing 9 = .ok (.iload_n 1, 1) := by decide +kernel
theorem dX0_hopeDoing_10 : decode cX0_hopeDoing 10 = .ok (.invokevirtual 144, 3) := by decide +kernel
theorem dX0_hopeDoing_13 : decode cX0_hopeDoing 13 = .ok (.lstore_n 3, 1) := by decide +kernel
theorem dX0_hopeDoing_14 : decode cX0_hopeDoing 14 = .ok (.iload_n 1, 1) := by decide +kernel
theorem dX0_hopeDoing_15 : decode cX0_hopeDoing 15 = .ok (.ifCond .le 9, 3) := by decide +kernel
theorem dX0_hopeDoing_18 : decode cX0_hopeDoing 18 = .ok (.lload_n 3, 1) := by decide +kernel
theorem dX0_hopeDoing_19 : decode cX0_hopeDoing 19 = .ok (.lconst 0, 1) := by decide +kernel
theorem dX0_hopeDoing_20 : decode cX0_hopeDoing 20 = .ok (.lcmp, 1) := by decide +kernel
theorem dX0_hopeDoing_21 : decode cX0_hopeDoing 21 = .ok (.ifCond .ne 5, 3) := by decide +kernel
theorem dX0_hopeDoing_24 : decode cX0_hopeDoing 24 = .ok (.iconst (-1), 1) := by decide +kernel
theorem dX0_hopeDoing_25 : decode cX0_hopeDoing 25 = .ok (.ireturn, 1) := by decide +kernel
theorem dX0_hopeDoing_26 : decode cX0_hopeDoing 26 = .ok (.aload_n 0, 1) := by decide +kernel
theorem dX0_hopeDoing_27 : decode cX0_hopeDoing 27 = .ok (.getfield 29, 3) := by decide +kernel
theorem dX0_hopeDoing_30 : decode cX0_hopeDoing 30 = .ok (.iload_n 2, 1) := by decide +kernel
theorem dX0_hopeDoing_31 : decode cX0_hopeDoing 31 = .ok (.invokevirtual 91, 3) := by decide +kernel
theorem dX0_hopeDoing_34 : decode cX0_hopeDoing 34 = .ok (.istore 5, 2) := by decide +kernel
theorem dX0_hopeDoing_36 : decode cX0_hopeDoing 36 = .ok (.iconst 0, 1) := by decide +kernel
theorem dX0_hopeDoing_37 : decode cX0_hopeDoing 37 = .ok (.istore 6, 2) := by decide +kernel
theorem dX0_hopeDoing_39 : decode cX0_hopeDoing 39 = .ok (.iload 6, 2) := by decide +kernel
theorem dX0_hopeDoing_41 : decode cX0_hopeDoing 41 = .ok (.iload 5, 2) := by decide +kernel
theorem dX0_hopeDoing_43 : decode cX0_hopeDoing 43 = .ok (.if_icmp .ge 25, 3) := by decide +kernel
theorem dX0_hopeDoing_46 : decode cX0_hopeDoing 46 = .ok (.aload_n 0, 1) := by decide +kernel
theorem dX0_hopeDoing_47 : decode cX0_hopeDoing 47 = .ok (.iload_n 2, 1) := by decide +kernel
theorem dX0_hopeDoing_48 : decode cX0_hopeDoing 48 = .ok (.iload_n 1, 1) := by decide +kernel
theorem dX0_hopeDoing_49 : decode cX0_hopeDoing 49 = .ok (.iload 6, 2) := by decide +kernel
theorem dX0_hopeDoing_51 : decode cX0_hopeDoing 51 = .ok (.invokevirtual 141, 3) := by decide +kernel
theorem dX0_hopeDoing_54 : decode cX0_hopeDoing 54 = .ok (.lload_n 3, 1) := by decide +kernel
theorem dX0_hopeDoing_55 : decode cX0_hopeDoing 55 = .ok (.lcmp, 1) := by decide +kernel
theorem dX0_hopeDoing_56 : decode cX0_hopeDoing 56 = .ok (.ifCond .ne 6, 3) := by decide +kernel
theorem dX0_hopeDoing_59 : decode cX0_hopeDoing 59 = .ok (.iload 6, 2) := by decide +kernel
theorem dX0_hopeDoing_61 : decode cX0_hopeDoing 61 = .ok (.ireturn, 1) := by decide +kernel
theorem dX0_hopeDoing_62 : decode cX0_hopeDoing 62 = .ok (.iinc 6 1, 3) := by decide +kernel
theorem dX0_hopeDoing_65 : decode cX0_hopeDoing 65 = .ok (.goto (-26), 3) := by decide +kernel
theorem dX0_hopeDoing_68 : decode cX0_hopeDoing 68 = .ok (.bipush 9, 2) := by decide +kernel
theorem dX0_hopeDoing_70 : decode cX0_hopeDoing 70 = .ok (.ireturn, 1) := by decide +kernel
theorem dX1_init_0 : decode cX1_init 0 = .ok (.aload_n 0, 1) := by decide +kernel
theorem dX1_init_1 : decode cX1_init 1 = .ok (.invokespecial 3, 3) := by decide +kernel
theorem dX1_init_4 : decode cX1_init 4 = .ok (.aload_n 0, 1) := by decide +kernel
theorem dX1_init_5 : decode cX1_init 5 = .ok (.new 9, 3) := by decide +kernel
theorem dX1_init_8 : decode cX1_init 8 = .ok (.dup, 1) := by decide +kernel
theorem dX1_init_9 : decode cX1_init 9 = .ok (.sipush 1400, 3) := by decide +kernel
theorem dX1_init_12 : decode cX1_init 12 = .ok (.invokespecial 13, 3) := by decide +kernel
theorem dX1_init_15 : decode cX1_init 15 = .ok (.putfield 16, 3) := by decide +kernel
theorem dX1_init_18 : decode cX1_init 18 = .ok (.aload_n 0, 1) := by decide +kernel
theorem dX1_init_19 : decode cX1_init 19 = .ok (.sipush 1400, 3) := by decide +kernel
theorem dX1_init_22 : decode cX1_init 22 = .ok (.newarray .int, 2) := by decide +kernel
theorem dX1_init_24 : decode cX1_init 24 = .ok (.putfield 22, 3) := by decide +kernel
theorem dX1_init_27 : decode cX1_init 27 = .ok (.aload_n 0, 1) := by decide +kernel
theorem dX1_init_28 : decode cX1_init 28 = .ok (.sipush 1400, 3) := by decide +kernel
theorem dX1_init_31 : decode cX1_init 31 = .ok (.newarray .int, 2) := by decide +kernel
theorem dX1_init_33 : decode cX1_init 33 = .ok (.putfield 26, 3) := by decide +kernel
theorem dX1_init_36 : decode cX1_init 36 = .ok (.aload_n 0, 1) := by decide +kernel
theorem dX1_init_37 : decode cX1_init 37 = .ok (.aload_n 1, 1) := by decide +kernel
theorem dX1_init_38 : decode cX1_init 38 = .ok (.putfield 29, 3) := by decide +kernel
theorem dX1_init_41 : decode cX1_init 41 = .ok (.return_, 1) := by decide +kernel
theorem dX1_mostFrom_0 : decode cX1_mostFrom 0 = .ok (.aload_n 0, 1) := by decide +kernel
theorem dX1_mostFrom_1 : decode cX1_mostFrom 1 = .ok (.iload_n 1, 1) := by decide +kernel
theorem dX1_mostFrom_2 : decode cX1_mostFrom 2 = .ok (.invokevirtual 33, 3) := by decide +kernel
theorem dX1_mostFrom_5 : decode cX1_mostFrom 5 = .ok (.invokestatic 37, 3) := by decide +kernel
theorem dX1_mostFrom_8 : decode cX1_mostFrom 8 = .ok (.bipush 16, 2) := by decide +kernel
theorem dX1_mostFrom_10 : decode cX1_mostFrom 10 = .ok (.iadd, 1) := by decide +kernel
theorem dX1_mostFrom_11 : decode cX1_mostFrom 11 = .ok (.iconst 1, 1) := by decide +kernel
theorem dX1_mostFrom_12 : decode cX1_mostFrom 12 = .ok (.isub, 1) := by decide +kernel
theorem dX1_mostFrom_13 : decode cX1_mostFrom 13 = .ok (.bipush 16, 2) := by decide +kernel
theorem dX1_mostFrom_15 : decode cX1_mostFrom 15 = .ok (.idiv, 1) := by decide +kernel
theorem dX1_mostFrom_16 : decode cX1_mostFrom 16 = .ok (.ireturn, 1) := by decide +kernel
theorem dX1_knownMost_0 : decode cX1_knownMost 0 = .ok (.aload_n 0, 1) := by decide +kernel
theorem dX1_knownMost_1 : decode cX1_knownMost 1 = .ok (.getfield 16, 3) := by decide +kernel
theorem dX1_knownMost_4 : decode cX1_knownMost 4 = .ok (.iload_n 1, 1) := by decide +kernel
theorem dX1_knownMost_5 : decode cX1_knownMost 5 = .ok (.aload_n 0, 1) := by decide +kernel
theorem dX1_knownMost_6 : decode cX1_knownMost 6 = .ok (.getfield 29, 3) := by decide +kernel
theorem dX1_knownMost_9 : decode cX1_knownMost 9 = .ok (.getfield 41, 3) := by decide +kernel
theorem dX1_knownMost_12 : decode cX1_knownMost 12 = .ok (.invokevirtual 45, 3) := by decide +kernel
theorem dX1_knownMost_15 : decode cX1_knownMost 15 = .ok (.lstore_n 2, 1) := by decide +kernel
theorem dX1_knownMost_16 : decode cX1_knownMost 16 = .ok (.lload_n 2, 1) := by decide +kernel
theorem dX1_knownMost_17 : decode cX1_knownMost 17 = .ok (.ldc2_w 49, 3) := by decide +kernel
theorem dX1_knownMost_20 : decode cX1_knownMost 20 = .ok (.lcmp, 1) := by decide +kernel
theorem dX1_knownMost_21 : decode cX1_knownMost 21 = .ok (.ifCond .ne 8, 3) := by decide +kernel
theorem dX1_knownMost_24 : decode cX1_knownMost 24 = .ok (.bipush 117, 2) := by decide +kernel
theorem dX1_knownMost_26 : decode cX1_knownMost 26 = .ok (.goto 15, 3) := by decide +kernel
theorem dX1_knownMost_29 : decode cX1_knownMost 29 = .ok (.lload_n 2, 1) := by decide +kernel
theorem dX1_knownMost_30 : decode cX1_knownMost 30 = .ok (.invokestatic 37, 3) := by decide +kernel
theorem dX1_knownMost_33 : decode cX1_knownMost 33 = .ok (.bipush 16, 2) := by decide +kernel
theorem dX1_knownMost_35 : decode cX1_knownMost 35 = .ok (.iadd, 1) := by decide +kernel
theorem dX1_knownMost_36 : decode cX1_knownMost 36 = .ok (.iconst 1, 1) := by decide +kernel
theorem dX1_knownMost_37 : decode cX1_knownMost 37 = .ok (.isub, 1) := by decide +kernel
theorem dX1_knownMost_38 : decode cX1_knownMost 38 = .ok (.bipush 16, 2) := by decide +kernel
theorem dX1_knownMost_40 : decode cX1_knownMost 40 = .ok (.idiv, 1) := by decide +kernel
theorem dX1_knownMost_41 : decode cX1_knownMost 41 = .ok (.ireturn, 1) := by decide +kernel
theorem dX1_scoreIn_0 : decode cX1_scoreIn 0 = .ok (.lload_n 0, 1) := by decide +kernel
theorem dX1_scoreIn_1 : decode cX1_scoreIn 1 = .ok (.ldc2_w 51, 3) := by decide +kernel
theorem dX1_scoreIn_4 : decode cX1_scoreIn 4 = .ok (.ldiv, 1) := by decide +kernel
theorem dX1_scoreIn_5 : decode cX1_scoreIn 5 = .ok (.l2i, 1) := by decide +kernel
theorem dX1_scoreIn_6 : decode cX1_scoreIn 6 = .ok (.ireturn, 1) := by decide +kernel
theorem dX1_doingIn_0 : decode cX1_doingIn 0 = .ok (.lload_n 0, 1) := by decide +kernel
theorem dX1_doingIn_1 : decode cX1_doingIn 1 = .ok (.ldc2_w 51, 3) := by decide +kernel
theorem dX1_doingIn_4 : decode cX1_doingIn 4 = .ok (.lrem, 1) := by decide +kernel
theorem dX1_doingIn_5 : decode cX1_doingIn 5 = .ok (.l2i, 1) := by decide +kernel
theorem dX1_doingIn_6 : decode cX1_doingIn 6 = .ok (.iconst 1, 1) := by decide +kernel
theorem dX1_doingIn_7 : decode cX1_doingIn 7 = .ok (.isub, 1) := by decide +kernel
theorem dX1_doingIn_8 : decode cX1_doingIn 8 = .ok (.ireturn, 1) := by decide +kernel
theorem dX1_bestFrom_0 : decode cX1_bestFrom 0 = .ok (.aload_n 0, 1) := by decide +kernel
theorem dX1_bestFrom_1 : decode cX1_bestFrom 1 = .ok (.getfield 16, 3) := by decide +kernel
theorem dX1_bestFrom_4 : decode cX1_bestFrom 4 = .ok (.iload_n 1, 1) := by decide +kernel
theorem dX1_bestFrom_5 : decode cX1_bestFrom 5 = .ok (.aload_n 0, 1) := by decide +kernel
theorem dX1_bestFrom_6 : decode cX1_bestFrom 6 = .ok (.getfield 29, 3) := by decide +kernel
theorem dX1_bestFrom_9 : decode cX1_bestFrom 9 = .ok (.getfield 41, 3) := by decide +kernel
theorem dX1_bestFrom_12 : decode cX1_bestFrom 12 = .ok (.invokevirtual 45, 3) := by decide +kernel
theorem dX1_bestFrom_15 : decode cX1_bestFrom 15 = .ok (.lstore_n 2, 1) := by decide +kernel
theorem dX1_bestFrom_16 : decode cX1_bestFrom 16 = .ok (.lload_n 2, 1) := by decide +kernel
theorem dX1_bestFrom_17 : decode cX1_bestFrom 17 = .ok (.ldc2_w 49, 3) := by decide +kernel
theorem dX1_bestFrom_20 : decode cX1_bestFrom 20 = .ok (.lcmp, 1) := by decide +kernel
theorem dX1_bestFrom_21 : decode cX1_bestFrom 21 = .ok (.ifCond .eq 5, 3) := by decide +kernel
theorem dX1_bestFrom_24 : decode cX1_bestFrom 24 = .ok (.lload_n 2, 1) := by decide +kernel
theorem dX1_bestFrom_25 : decode cX1_bestFrom 25 = .ok (.lreturn, 1) := by decide +kernel
theorem dX1_bestFrom_26 : decode cX1_bestFrom 26 = .ok (.iconst 0, 1) := by decide +kernel
theorem dX1_bestFrom_27 : decode cX1_bestFrom 27 = .ok (.istore 4, 2) := by decide +kernel
theorem dX1_bestFrom_29 : decode cX1_bestFrom 29 = .ok (.iconst (-1), 1) := by decide +kernel
theorem dX1_bestFrom_30 : decode cX1_bestFrom 30 = .ok (.istore 5, 2) := by decide +kernel
theorem dX1_bestFrom_32 : decode cX1_bestFrom 32 = .ok (.aload_n 0, 1) := by decide +kernel
theorem dX1_bestFrom_33 : decode cX1_bestFrom 33 = .ok (.getfield 29, 3) := by decide +kernel
theorem dX1_bestFrom_36 : decode cX1_bestFrom 36 = .ok (.iload_n 1, 1) := by decide +kernel
theorem dX1_bestFrom_37 : decode cX1_bestFrom 37 = .ok (.invokevirtual 53, 3) := by decide +kernel
theorem dX1_bestFrom_40 : decode cX1_bestFrom 40 = .ok (.istore 6, 2) := by decide +kernel
theorem dX1_bestFrom_42 : decode cX1_bestFrom 42 = .ok (.iconst 0, 1) := by decide +kernel
theorem dX1_bestFrom_43 : decode cX1_bestFrom 43 = .ok (.istore 7, 2) := by decide +kernel
theorem dX1_bestFrom_45 : decode cX1_bestFrom 45 = .ok (.iload 7, 2) := by decide +kernel
theorem dX1_bestFrom_47 : decode cX1_bestFrom 47 = .ok (.iload 6, 2) := by decide +kernel
theorem dX1_bestFrom_49 : decode cX1_bestFrom 49 = .ok (.if_icmp .ge 59, 3) := by decide +kernel
theorem dX1_bestFrom_52 : decode cX1_bestFrom 52 = .ok (.aload_n 0, 1) := by decide +kernel
theorem dX1_bestFrom_53 : decode cX1_bestFrom 53 = .ok (.aload_n 0, 1) := by decide +kernel
theorem dX1_bestFrom_54 : decode cX1_bestFrom 54 = .ok (.getfield 29, 3) := by decide +kernel
theorem dX1_bestFrom_57 : decode cX1_bestFrom 57 = .ok (.iload_n 1, 1) := by decide +kernel
theorem dX1_bestFrom_58 : decode cX1_bestFrom 58 = .ok (.iload 7, 2) := by decide +kernel
theorem dX1_bestFrom_60 : decode cX1_bestFrom 60 = .ok (.invokevirtual 57, 3) := by decide +kernel
theorem dX1_bestFrom_63 : decode cX1_bestFrom 63 = .ok (.invokevirtual 33, 3) := by decide +kernel
theorem dX1_bestFrom_66 : decode cX1_bestFrom 66 = .ok (.invokestatic 37, 3) := by decide +kernel
theorem dX1_bestFrom_69 : decode cX1_bestFrom 69 = .ok (.aload_n 0, 1) := by decide +kernel
theorem dX1_bestFrom_70 : decode cX1_bestFrom 70 = .ok (.getfield 29, 3) := by decide +kernel
theorem dX1_bestFrom_73 : decode cX1_bestFrom 73 = .ok (.iload_n 1, 1) := by decide +kernel
theorem dX1_bestFrom_74 : decode cX1_bestFrom 74 = .ok (.iload 7, 2) := by decide +kernel
theorem dX1_bestFrom_76 : decode cX1_bestFrom 76 = .ok (.invokevirtual 61, 3) := by decide +kernel
theorem dX1_bestFrom_79 : decode cX1_bestFrom 79 = .ok (.bipush 16, 2) := by decide +kernel
theorem dX1_bestFrom_81 : decode cX1_bestFrom 81 = .ok (.imul, 1) := by decide +kernel
theorem dX1_bestFrom_82 : decode cX1_bestFrom 82 = .ok (.iadd, 1) := by decide +kernel
theorem dX1_bestFrom_83 : decode cX1_bestFrom 83 = .ok (.iconst 1, 1) := by decide +kernel
theorem dX1_bestFrom_84 : decode cX1_bestFrom 84 = .ok (.isub, 1) := by decide +kernel
theorem dX1_bestFrom_85 : decode cX1_bestFrom 85 = .ok (.istore 8, 2) := by decide +kernel
theorem dX1_bestFrom_87 : decode cX1_bestFrom 87 = .ok (.iload 8, 2) := by decide +kernel
theorem dX1_bestFrom_89 : decode cX1_bestFrom 89 = .ok (.iload 4, 2) := by decide +kernel
theorem dX1_bestFrom_91 : decode cX1_bestFrom 91 = .ok (.if_icmp .le 11, 3) := by decide +kernel
theorem dX1_bestFrom_94 : decode cX1_bestFrom 94 = .ok (.iload 8, 2) := by decide +kernel
theorem dX1_bestFrom_96 : decode cX1_bestFrom 96 = .ok (.istore 4, 2) := by decide +kernel
theorem dX1_bestFrom_98 : decode cX1_bestFrom 98 = .ok (.iload 7, 2) := by decide +kernel
theorem dX1_bestFrom_100 : decode cX1_bestFrom 100 = .ok (.istore 5, 2) := by decide +kernel
theorem dX1_bestFrom_102 : decode cX1_bestFrom 102 = .ok (.iinc 7 1, 3) := by decide +kernel
theorem dX1_bestFrom_105 : decode cX1_bestFrom 105 = .ok (.goto (-60), 3) := by decide +kernel
theorem dX1_bestFrom_108 : decode cX1_bestFrom 108 = .ok (.aload_n 0, 1) := by decide +kernel
theorem dX1_bestFrom_109 : decode cX1_bestFrom 109 = .ok (.getfield 29, 3) := by decide +kernel
theorem dX1_bestFrom_112 : decode cX1_bestFrom 112 = .ok (.iload_n 1, 1) := by decide +kernel
theorem dX1_bestFrom_113 : decode cX1_bestFrom 113 = .ok (.invokevirtual 64, 3) := by decide +kernel
theorem dX1_bestFrom_116 : decode cX1_bestFrom 116 = .ok (.istore 7, 2) := by decide +kernel
theorem dX1_bestFrom_118 : decode cX1_bestFrom 118 = .ok (.iload 7, 2) := by decide +kernel
theorem dX1_bestFrom_120 : decode cX1_bestFrom 120 = .ok (.iconst (-1), 1) := by decide +kernel
theorem dX1_bestFrom_121 : decode cX1_bestFrom 121 = .ok (.if_icmp .ne 7, 3) := by decide +kernel
theorem dX1_bestFrom_124 : decode cX1_bestFrom 124 = .ok (.iconst (-1), 1) := by decide +kernel
theorem dX1_bestFrom_125 : decode cX1_bestFrom 125 = .ok (.goto 14, 3) := by decide +kernel
theorem dX1_bestFrom_128 : decode cX1_bestFrom 128 = .ok (.aload_n 0, 1) := by decide +kernel
theorem dX1_bestFrom_129 : decode cX1_bestFrom 129 = .ok (.iload 7, 2) := by decide +kernel
theorem dX1_bestFrom_131 : decode cX1_bestFrom 131 = .ok (.invokevirtual 33, 3) := by decide +kernel
theorem dX1_bestFrom_134 : decode cX1_bestFrom 134 = .ok (.invokestatic 37, 3) := by decide +kernel
theorem dX1_bestFrom_137 : decode cX1_bestFrom 137 = .ok (.iconst 1, 1) := by decide +kernel
theorem dX1_bestFrom_138 : decode cX1_bestFrom 138 = .ok (.isub, 1) := by decide +kernel
theorem dX1_bestFrom_139 : decode cX1_bestFrom 139 = .ok (.istore 8, 2) := by decide +kernel
theorem dX1_bestFrom_141 : decode cX1_bestFrom 141 = .ok (.iload 8, 2) := by decide +kernel
theorem dX1_bestFrom_143 : decode cX1_bestFrom 143 = .ok (.iload 4, 2) := by decide +kernel
theorem dX1_bestFrom_145 : decode cX1_bestFrom 145 = .ok (.if_icmp .le 11, 3) := by decide +kernel
theorem dX1_bestFrom_148 : decode cX1_bestFrom 148 = .ok (.iload 8, 2) := by decide +kernel
theorem dX1_bestFrom_150 : decode cX1_bestFrom 150 = .ok (.istore 4, 2) := by decide +kernel
theorem dX1_bestFrom_152 : decode cX1_bestFrom 152 = .ok (.bipush 9, 2) := by decide +kernel
theorem dX1_bestFrom_154 : decode cX1_bestFrom 154 = .ok (.istore 5, 2) := by decide +kernel
theorem dX1_bestFrom_156 : decode cX1_bestFrom 156 = .ok (.iload 4, 2) := by decide +kernel
theorem dX1_bestFrom_158 : decode cX1_bestFrom 158 = .ok (.i2l, 1) := by decide +kernel
theorem dX1_bestFrom_159 : decode cX1_bestFrom 159 = .ok (.ldc2_w 51, 3) := by decide +kernel
theorem dX1_bestFrom_162 : decode cX1_bestFrom 162 = .ok (.lmul, 1) := by decide +kernel
theorem dX1_bestFrom_163 : decode cX1_bestFrom 163 = .ok (.iload 5, 2) := by decide +kernel
theorem dX1_bestFrom_165 : decode cX1_bestFrom 165 = .ok (.i2l, 1) := by decide +kernel
theorem dX1_bestFrom_166 : decode cX1_bestFrom 166 = .ok (.ladd, 1) := by decide +kernel
theorem dX1_bestFrom_167 : decode cX1_bestFrom 167 = .ok (.lconst 1, 1) := by decide +kernel
theorem dX1_bestFrom_168 : decode cX1_bestFrom 168 = .ok (.ladd, 1) := by decide +kernel
theorem dX1_bestFrom_169 : decode cX1_bestFrom 169 = .ok (.lstore 9, 2) := by decide +kernel
theorem dX1_bestFrom_171 : decode cX1_bestFrom 171 = .ok (.aload_n 0, 1) := by decide +kernel
theorem dX1_bestFrom_172 : decode cX1_bestFrom 172 = .ok (.getfield 16, 3) := by decide +kernel
theorem dX1_bestFrom_175 : decode cX1_bestFrom 175 = .ok (.iload_n 1, 1) := by decide +kernel
theorem dX1_bestFrom_176 : decode cX1_bestFrom 176 = .ok (.aload_n 0, 1) := by decide +kernel
theorem dX1_bestFrom_177 : decode cX1_bestFrom 177 = .ok (.getfield 29, 3) := by decide +kernel
theorem dX1_bestFrom_180 : decode cX1_bestFrom 180 = .ok (.getfield 41, 3) := by decide +kernel
theorem dX1_bestFrom_183 : decode cX1_bestFrom 183 = .ok (.lload 9, 2) := by decide +kernel
theorem dX1_bestFrom_185 : decode cX1_bestFrom 185 = .ok (.invokevirtual 67, 3) := by decide +kernel
theorem dX1_bestFrom_188 : decode cX1_bestFrom 188 = .ok (.lload 9, 2) := by decide +kernel
theorem dX1_bestFrom_190 : decode cX1_bestFrom 190 = .ok (.lreturn, 1) := by decide +kernel
theorem dX1_after_0 : decode cX1_after 0 = .ok (.iload_n 2, 1) := by decide +kernel
theorem dX1_after_1 : decode cX1_after 1 = .ok (.bipush 9, 2) := by decide +kernel
theorem dX1_after_3 : decode cX1_after 3 = .ok (.if_icmp .ne 14, 3) := by decide +kernel
theorem dX1_after_6 : decode cX1_after 6 = .ok (.aload_n 0, 1) := by decide +kernel
theorem dX1_after_7 : decode cX1_after 7 = .ok (.getfield 29, 3) := by decide +kernel
theorem dX1_after_10 : decode cX1_after 10 = .ok (.iload_n 1, 1) := by decide +kernel
theorem dX1_after_11 : decode cX1_after 11 = .ok (.invokevirtual 64, 3) := by decide +kernel
theorem dX1_after_14 : decode cX1_after 14 = .ok (.goto 12, 3) := by decide +kernel
theorem dX1_after_17 : decode cX1_after 17 = .ok (.aload_n 0, 1) := by decide +kernel
theorem dX1_after_18 : decode cX1_after 18 = .ok (.getfield 29, 3) := by decide +kernel
theorem dX1_after_21 : decode cX1_after 21 = .ok (.iload_n 1, 1) := by decide +kernel
theorem dX1_after_22 : decode cX1_after 22 = .ok (.iload_n 2, 1) := by decide +kernel
theorem dX1_after_23 : decode cX1_after 23 = .ok (.invokevirtual 57, 3) := by decide +kernel
theorem dX1_after_26 : decode cX1_after 26 = .ok (.ireturn, 1) := by decide +kernel
theorem dX1_doingAt_0 : decode cX1_doingAt 0 = .ok (.aload_n 0, 1) := by decide +kernel
theorem dX1_doingAt_1 : decode cX1_doingAt 1 = .ok (.getfield 29, 3) := by decide +kernel
theorem dX1_doingAt_4 : decode cX1_doingAt 4 = .ok (.getfield 71, 3) := by decide +kernel
theorem dX1_doingAt_7 : decode cX1_doingAt 7 = .ok (.istore_n 2, 1) := by decide +kernel
theorem dX1_doingAt_8 : decode cX1_doingAt 8 = .ok (.iconst 0, 1) := by decide +kernel
theorem dX1_doingAt_9 : decode cX1_doingAt 9 = .ok (.istore_n 3, 1) := by decide +kernel
theorem dX1_doingAt_10 : decode cX1_doingAt 10 = .ok (.iload_n 3, 1) := by decide +kernel
theorem dX1_doingAt_11 : decode cX1_doingAt 11 = .ok (.bipush 13, 2) := by decide +kernel
theorem dX1_doingAt_13 : decode cX1_doingAt 13 = .ok (.if_icmp .ge 41, 3) := by decide +kernel
theorem dX1_doingAt_16 : decode cX1_doingAt 16 = .ok (.aload_n 0, 1) := by decide +kernel
theorem dX1_doingAt_17 : decode cX1_doingAt 17 = .ok (.iload_n 2, 1) := by decide +kernel
theorem dX1_doingAt_18 : decode cX1_doingAt 18 = .ok (.invokevirtual 33, 3) := by decide +kernel
theorem dX1_doingAt_21 : decode cX1_doingAt 21 = .ok (.invokestatic 74, 3) := by decide +kernel
theorem dX1_doingAt_24 : decode cX1_doingAt 24 = .ok (.istore 4, 2) := by decide +kernel
theorem dX1_doingAt_26 : decode cX1_doingAt 26 = .ok (.iload 4, 2) := by decide +kernel
theorem dX1_doingAt_28 : decode cX1_doingAt 28 = .ok (.iconst (-1), 1) := by decide +kernel
theorem dX1_doingAt_29 : decode cX1_doingAt 29 = .ok (.if_icmp .eq 8, 3) := by decide +kernel
theorem dX1_doingAt_32 : decode cX1_doingAt 32 = .ok (.iload_n 3, 1) := by decide +kernel
theorem dX1_doingAt_33 : decode cX1_doingAt 33 = .ok (.iload_n 1, 1) := by decide +kernel
theorem dX1_doingAt_34 : decode cX1_doingAt 34 = .ok (.if_icmp .ne 6, 3) := by decide +kernel
theorem dX1_doingAt_37 : decode cX1_doingAt 37 = .ok (.iload 4, 2) := by decide +kernel
theorem dX1_doingAt_39 : decode cX1_doingAt 39 = .ok (.ireturn, 1) := by decide +kernel
theorem dX1_doingAt_40 : decode cX1_doingAt 40 = .ok (.aload_n 0, 1) := by decide +kernel
theorem dX1_doingAt_41 : decode cX1_doingAt 41 = .ok (.iload_n 2, 1) := by decide +kernel
theorem dX1_doingAt_42 : decode cX1_doingAt 42 = .ok (.iload 4, 2) := by decide +kernel
theorem dX1_doingAt_44 : decode cX1_doingAt 44 = .ok (.invokevirtual 77, 3) := by decide +kernel
theorem dX1_doingAt_47 : decode cX1_doingAt 47 = .ok (.istore_n 2, 1) := by decide +kernel
theorem dX1_doingAt_48 : decode cX1_doingAt 48 = .ok (.iinc 3 1, 3) := by decide +kernel
theorem dX1_doingAt_51 : decode cX1_doingAt 51 = .ok (.goto (-41), 3) := by decide +kernel
theorem dX1_doingAt_54 : decode cX1_doingAt 54 = .ok (.iconst (-1), 1) := by decide +kernel
theorem dX1_doingAt_55 : decode cX1_doingAt 55 = .ok (.ireturn, 1) := by decide +kernel
theorem dX1_drawingYear_0 : decode cX1_drawingYear 0 = .ok (.aload_n 0, 1) := by decide +kernel
theorem dX1_drawingYear_1 : decode cX1_drawingYear 1 = .ok (.getfield 29, 3) := by decide +kernel
theorem dX1_drawingYear_4 : decode cX1_drawingYear 4 = .ok (.getfield 71, 3) := by decide +kernel
theorem dX1_drawingYear_7 : decode cX1_drawingYear 7 = .ok (.istore_n 1, 1) := by decide +kernel
theorem dX1_drawingYear_8 : decode cX1_drawingYear 8 = .ok (.iconst 0, 1) := by decide +kernel
theorem dX1_drawingYear_9 : decode cX1_drawingYear 9 = .ok (.istore_n 2, 1) := by decide +kernel
theorem dX1_drawingYear_10 : decode cX1_drawingYear 10 = .ok (.iload_n 2, 1) := by decide +kernel
theorem dX1_drawingYear_11 : decode cX1_drawingYear 11 = .ok (.bipush 13, 2) := by decide +kernel
theorem dX1_drawingYear_13 : decode cX1_drawingYear 13 = .ok (.if_icmp .ge 43, 3) := by decide +kernel
theorem dX1_drawingYear_16 : decode cX1_drawingYear 16 = .ok (.aload_n 0, 1) := by decide +kernel
theorem dX1_drawingYear_17 : decode cX1_drawingYear 17 = .ok (.iload_n 1, 1) := by decide +kernel
theorem dX1_drawingYear_18 : decode cX1_drawingYear 18 = .ok (.invokevirtual 33, 3) := by decide +kernel
theorem dX1_drawingYear_21 : decode cX1_drawingYear 21 = .ok (.invokestatic 74, 3) := by decide +kernel
theorem dX1_drawingYear_24 : decode cX1_drawingYear 24 = .ok (.istore_n 3, 1) := by decide +kernel
theorem dX1_drawingYear_25 : decode cX1_drawingYear 25 = .ok (.iload_n 3, 1) := by decide +kernel
theorem dX1_drawingYear_26 : decode cX1_drawingYear 26 = .ok (.iconst (-1), 1) := by decide +kernel
theorem dX1_drawingYear_27 : decode cX1_drawingYear 27 = .ok (.if_icmp .ne 5, 3) := by decide +kernel
theorem dX1_drawingYear_30 : decode cX1_drawingYear 30 = .ok (.iconst (-1), 1) := by decide +kernel
theorem dX1_drawingYear_31 : decode cX1_drawingYear 31 = .ok (.ireturn, 1) := by decide +kernel
theorem dX1_drawingYear_32 : decode cX1_drawingYear 32 = .ok (.iload_n 3, 1) := by decide +kernel
theorem dX1_drawingYear_33 : decode cX1_drawingYear 33 = .ok (.bipush 9, 2) := by decide +kernel
theorem dX1_drawingYear_35 : decode cX1_drawingYear 35 = .ok (.if_icmp .ne 8, 3) := by decide +kernel
theorem dX1_drawingYear_38 : decode cX1_drawingYear 38 = .ok (.iload_n 1, 1) := by decide +kernel
theorem dX1_drawingYear_39 : decode cX1_drawingYear 39 = .ok (.invokestatic 80, 3) := by decide +kernel
theorem dX1_drawingYear_42 : decode cX1_drawingYear 42 = .ok (.ireturn, 1) := by decide +kernel
theorem dX1_drawingYear_43 : decode cX1_drawingYear 43 = .ok (.aload_n 0, 1) := by decide +kernel
theorem dX1_drawingYear_44 : decode cX1_drawingYear 44 = .ok (.iload_n 1, 1) := by decide +kernel
theorem dX1_drawingYear_45 : decode cX1_drawingYear 45 = .ok (.iload_n 3, 1) := by decide +kernel
theorem dX1_drawingYear_46 : decode cX1_drawingYear 46 = .ok (.invokevirtual 77, 3) := by decide +kernel
theorem dX1_drawingYear_49 : decode cX1_drawingYear 49 = .ok (.istore_n 1, 1) := by decide +kernel
theorem dX1_drawingYear_50 : decode cX1_drawingYear 50 = .ok (.iinc 2 1, 3) := by decide +kernel
theorem dX1_drawingYear_53 : decode cX1_drawingYear 53 = .ok (.goto (-43), 3) := by decide +kernel
theorem dX1_drawingYear_56 : decode cX1_drawingYear 56 = .ok (.iconst (-1), 1) := by decide +kernel
theorem dX1_drawingYear_57 : decode cX1_drawingYear 57 = .ok (.ireturn, 1) := by decide +kernel
theorem dX1_listInto_0 : decode cX1_listInto 0 = .ok (.aload_n 0, 1) := by decide +kernel
theorem dX1_listInto_1 : decode cX1_listInto 1 = .ok (.getfield 29, 3) := by decide +kernel
theorem dX1_listInto_4 : decode cX1_listInto 4 = .ok (.getfield 71, 3) := by decide +kernel
theorem dX1_listInto_7 : decode cX1_listInto 7 = .ok (.istore_n 3, 1) := by decide +kernel
theorem dX1_listInto_8 : decode cX1_listInto 8 = .ok (.iconst 0, 1) := by decide +kernel
theorem dX1_listInto_9 : decode cX1_listInto 9 = .ok (.istore 4, 2) := by decide +kernel
theorem dX1_listInto_11 : decode cX1_listInto 11 = .ok (.iconst 0, 1) := by decide +kernel
theorem dX1_listInto_12 : decode cX1_listInto 12 = .ok (.istore 5, 2) := by decide +kernel
theorem dX1_listInto_14 : decode cX1_listInto 14 = .ok (.iload 5, 2) := by decide +kernel
theorem dX1_listInto_16 : decode cX1_listInto 16 = .ok (.bipush 13, 2) := by decide +kernel
theorem dX1_listInto_18 : decode cX1_listInto 18 = .ok (.if_icmp .ge 77, 3) := by decide +kernel
theorem dX1_listInto_21 : decode cX1_listInto 21 = .ok (.iload 5, 2) := by decide +kernel
theorem dX1_listInto_23 : decode cX1_listInto 23 = .ok (.aload_n 1, 1) := by decide +kernel
theorem dX1_listInto_24 : decode cX1_listInto 24 = .ok (.getfield 83, 3) := by decide +kernel
theorem dX1_listInto_27 : decode cX1_listInto 27 = .ok (.if_icmp .ge 68, 3) := by decide +kernel
theorem dX1_listInto_30 : decode cX1_listInto 30 = .ok (.aload_n 0, 1) := by decide +kernel
theorem dX1_listInto_31 : decode cX1_listInto 31 = .ok (.iload_n 3, 1) := by decide +kernel
theorem dX1_listInto_32 : decode cX1_listInto 32 = .ok (.invokevirtual 33, 3) := by decide +kernel
theorem dX1_listInto_35 : decode cX1_listInto 35 = .ok (.invokestatic 74, 3) := by decide +kernel
theorem dX1_listInto_38 : decode cX1_listInto 38 = .ok (.istore 6, 2) := by decide +kernel
theorem dX1_listInto_40 : decode cX1_listInto 40 = .ok (.iload 6, 2) := by decide +kernel
theorem dX1_listInto_42 : decode cX1_listInto 42 = .ok (.iconst (-1), 1) := by decide +kernel
theorem dX1_listInto_43 : decode cX1_listInto 43 = .ok (.if_icmp .ne 6, 3) := by decide +kernel
theorem dX1_listInto_46 : decode cX1_listInto 46 = .ok (.goto 49, 3) := by decide +kernel
theorem dX1_listInto_49 : decode cX1_listInto 49 = .ok (.aload_n 1, 1) := by decide +kernel
theorem dX1_listInto_50 : decode cX1_listInto 50 = .ok (.iload 5, 2) := by decide +kernel
theorem dX1_listInto_52 : decode cX1_listInto 52 = .ok (.iload 6, 2) := by decide +kernel
theorem dX1_listInto_54 : decode cX1_listInto 54 = .ok (.bipush 9, 2) := by decide +kernel
theorem dX1_listInto_56 : decode cX1_listInto 56 = .ok (.if_icmp .ne 11, 3) := by decide +kernel
theorem dX1_listInto_59 : decode cX1_listInto 59 = .ok (.bipush 100, 2) := by decide +kernel
theorem dX1_listInto_61 : decode cX1_listInto 61 = .ok (.iload_n 2, 1) := by decide +kernel
theorem dX1_listInto_62 : decode cX1_listInto 62 = .ok (.iadd, 1) := by decide +kernel
theorem dX1_listInto_63 : decode cX1_listInto 63 = .ok (.i2l, 1) := by decide +kernel
theorem dX1_listInto_64 : decode cX1_listInto 64 = .ok (.goto 11, 3) := by decide +kernel
theorem dX1_listInto_67 : decode cX1_listInto 67 = .ok (.iload_n 2, 1) := by decide +kernel
theorem dX1_listInto_68 : decode cX1_listInto 68 = .ok (.bipush 10, 2) := by decide +kernel
theorem dX1_listInto_70 : decode cX1_listInto 70 = .ok (.imul, 1) := by decide +kernel
theorem dX1_listInto_71 : decode cX1_listInto 71 = .ok (.iload 6, 2) := by decide +kernel
theorem dX1_listInto_73 : decode cX1_listInto 73 = .ok (.iadd, 1) := by decide +kernel
theorem dX1_listInto_74 : decode cX1_listInto 74 = .ok (.i2l, 1) := by decide +kernel
theorem dX1_listInto_75 : decode cX1_listInto 75 = .ok (.invokevirtual 88, 3) := by decide +kernel
theorem dX1_listInto_78 : decode cX1_listInto 78 = .ok (.iinc 4 1, 3) := by decide +kernel
theorem dX1_listInto_81 : decode cX1_listInto 81 = .ok (.aload_n 0, 1) := by decide +kernel
theorem dX1_listInto_82 : decode cX1_listInto 82 = .ok (.iload_n 3, 1) := by decide +kernel
theorem dX1_listInto_83 : decode cX1_listInto 83 = .ok (.iload 6, 2) := by decide +kernel
theorem dX1_listInto_85 : decode cX1_listInto 85 = .ok (.invokevirtual 77, 3) := by decide +kernel
theorem dX1_listInto_88 : decode cX1_listInto 88 = .ok (.istore_n 3, 1) := by decide +kernel
theorem dX1_listInto_89 : decode cX1_listInto 89 = .ok (.iinc 5 1, 3) := by decide +kernel
theorem dX1_listInto_92 : decode cX1_listInto 92 = .ok (.goto (-78), 3) := by decide +kernel
theorem dX1_listInto_95 : decode cX1_listInto 95 = .ok (.iload 4, 2) := by decide +kernel
theorem dX1_listInto_97 : decode cX1_listInto 97 = .ok (.ireturn, 1) := by decide +kernel
theorem dX1_howMany_0 : decode cX1_howMany 0 = .ok (.aload_n 0, 1) := by decide +kernel
theorem dX1_howMany_1 : decode cX1_howMany 1 = .ok (.getfield 29, 3) := by decide +kernel
theorem dX1_howMany_4 : decode cX1_howMany 4 = .ok (.getfield 71, 3) := by decide +kernel
theorem dX1_howMany_7 : decode cX1_howMany 7 = .ok (.invokestatic 80, 3) := by decide +kernel
theorem dX1_howMany_10 : decode cX1_howMany 10 = .ok (.istore_n 1, 1) := by decide +kernel
theorem dX1_howMany_11 : decode cX1_howMany 11 = .ok (.aload_n 0, 1) := by decide +kernel
theorem dX1_howMany_12 : decode cX1_howMany 12 = .ok (.getfield 29, 3) := by decide +kernel
theorem dX1_howMany_15 : decode cX1_howMany 15 = .ok (.getfield 92, 3) := by decide +kernel
theorem dX1_howMany_18 : decode cX1_howMany 18 = .ok (.getfield 96, 3) := by decide +kernel
theorem dX1_howMany_21 : decode cX1_howMany 21 = .ok (.istore_n 2, 1) := by decide +kernel
theorem dX1_howMany_22 : decode cX1_howMany 22 = .ok (.aload_n 0, 1) := by decide +kernel
theorem dX1_howMany_23 : decode cX1_howMany 23 = .ok (.getfield 29, 3) := by decide +kernel
theorem dX1_howMany_26 : decode cX1_howMany 26 = .ok (.getfield 71, 3) := by decide +kernel
theorem dX1_howMany_29 : decode cX1_howMany 29 = .ok (.invokestatic 101, 3) := by decide +kernel
theorem dX1_howMany_32 : decode cX1_howMany 32 = .ok (.ifCond .ne 13, 3) := by decide +kernel
theorem dX1_howMany_35 : decode cX1_howMany 35 = .ok (.aload_n 0, 1) := by decide +kernel
theorem dX1_howMany_36 : decode cX1_howMany 36 = .ok (.getfield 29, 3) := by decide +kernel
theorem dX1_howMany_39 : decode cX1_howMany 39 = .ok (.getfield 104, 3) := by decide +kernel
theorem dX1_howMany_42 : decode cX1_howMany 42 = .ok (.ifCond .ne 11, 3) := by decide +kernel
theorem dX1_howMany_45 : decode cX1_howMany 45 = .ok (.aload_n 0, 1) := by decide +kernel
theorem dX1_howMany_46 : decode cX1_howMany 46 = .ok (.iload_n 2, 1) := by decide +kernel
theorem dX1_howMany_47 : decode cX1_howMany 47 = .ok (.iload_n 1, 1) := by decide +kernel
theorem dX1_howMany_48 : decode cX1_howMany 48 = .ok (.isub, 1) := by decide +kernel
theorem dX1_howMany_49 : decode cX1_howMany 49 = .ok (.invokevirtual 108, 3) := by decide +kernel
theorem dX1_howMany_52 : decode cX1_howMany 52 = .ok (.lreturn, 1) := by decide +kernel
theorem dX1_howMany_53 : decode cX1_howMany 53 = .ok (.lconst 0, 1) := by decide +kernel
theorem dX1_howMany_54 : decode cX1_howMany 54 = .ok (.lstore_n 3, 1) := by decide +kernel
theorem dX1_howMany_55 : decode cX1_howMany 55 = .ok (.iload_n 2, 1) := by decide +kernel
theorem dX1_howMany_56 : decode cX1_howMany 56 = .ok (.istore 5, 2) := by decide +kernel
theorem dX1_howMany_58 : decode cX1_howMany 58 = .ok (.iload 5, 2) := by decide +kernel
theorem dX1_howMany_60 : decode cX1_howMany 60 = .ok (.iload_n 1, 1) := by decide +kernel
theorem dX1_howMany_61 : decode cX1_howMany 61 = .ok (.if_icmp .lt 39, 3) := by decide +kernel
theorem dX1_howMany_64 : decode cX1_howMany 64 = .ok (.lload_n 3, 1) := by decide +kernel
theorem dX1_howMany_65 : decode cX1_howMany 65 = .ok (.aload_n 0, 1) := by decide +kernel
theorem dX1_howMany_66 : decode cX1_howMany 66 = .ok (.getfield 29, 3) := by decide +kernel
theorem dX1_howMany_69 : decode cX1_howMany 69 = .ok (.getfield 92, 3) := by decide +kernel
theorem dX1_howMany_72 : decode cX1_howMany 72 = .ok (.getfield 111, 3) := by decide +kernel
theorem dX1_howMany_75 : decode cX1_howMany 75 = .ok (.i2l, 1) := by decide +kernel
theorem dX1_howMany_76 : decode cX1_howMany 76 = .ok (.lmul, 1) := by decide +kernel
theorem dX1_howMany_77 : decode cX1_howMany 77 = .ok (.aload_n 0, 1) := by decide +kernel
theorem dX1_howMany_78 : decode cX1_howMany 78 = .ok (.iload_n 2, 1) := by decide +kernel
theorem dX1_howMany_79 : decode cX1_howMany 79 = .ok (.aload_n 0, 1) := by decide +kernel
theorem dX1_howMany_80 : decode cX1_howMany 80 = .ok (.getfield 29, 3) := by decide +kernel
theorem dX1_howMany_83 : decode cX1_howMany 83 = .ok (.iload 5, 2) := by decide +kernel
theorem dX1_howMany_85 : decode cX1_howMany 85 = .ok (.invokevirtual 114, 3) := by decide +kernel
theorem dX1_howMany_88 : decode cX1_howMany 88 = .ok (.isub, 1) := by decide +kernel
theorem dX1_howMany_89 : decode cX1_howMany 89 = .ok (.invokevirtual 108, 3) := by decide +kernel
theorem dX1_howMany_92 : decode cX1_howMany 92 = .ok (.ladd, 1) := by decide +kernel
theorem dX1_howMany_93 : decode cX1_howMany 93 = .ok (.lstore_n 3, 1) := by decide +kernel
theorem dX1_howMany_94 : decode cX1_howMany 94 = .ok (.iinc 5 (-1), 3) := by decide +kernel
theorem dX1_howMany_97 : decode cX1_howMany 97 = .ok (.goto (-39), 3) := by decide +kernel
theorem dX1_howMany_100 : decode cX1_howMany 100 = .ok (.lload_n 3, 1) := by decide +kernel
theorem dX1_howMany_101 : decode cX1_howMany 101 = .ok (.lreturn, 1) := by decide +kernel
theorem dX1_choicesIn_0 : decode cX1_choicesIn 0 = .ok (.lconst 1, 1) := by decide +kernel
theorem dX1_choicesIn_1 : decode cX1_choicesIn 1 = .ok (.lstore_n 2, 1) := by decide +kernel
theorem dX1_choicesIn_2 : decode cX1_choicesIn 2 = .ok (.iconst 0, 1) := by decide +kernel
theorem dX1_choicesIn_3 : decode cX1_choicesIn 3 = .ok (.istore 4, 2) := by decide +kernel
theorem dX1_choicesIn_5 : decode cX1_choicesIn 5 = .ok (.iload 4, 2) := by decide +kernel
theorem dX1_choicesIn_7 : decode cX1_choicesIn 7 = .ok (.iload_n 1, 1) := by decide +kernel
theorem dX1_choicesIn_8 : decode cX1_choicesIn 8 = .ok (.if_icmp .ge 23, 3) := by decide +kernel
theorem dX1_choicesIn_11 : decode cX1_choicesIn 11 = .ok (.lload_n 2, 1) := by decide +kernel
theorem dX1_choicesIn_12 : decode cX1_choicesIn 12 = .ok (.aload_n 0, 1) := by decide +kernel
theorem dX1_choicesIn_13 : decode cX1_choicesIn 13 = .ok (.getfield 29, 3) := by decide +kernel
theorem dX1_choicesIn_16 : decode cX1_choicesIn 16 = .ok (.getfield 92, 3) := by decide +kernel
theorem dX1_choicesIn_19 : decode cX1_choicesIn 19 = .ok (.getfield 111, 3) := by decide +kernel
theorem dX1_choicesIn_22 : decode cX1_choicesIn 22 = .ok (.i2l, 1) := by decide +kernel
theorem dX1_choicesIn_23 : decode cX1_choicesIn 23 = .ok (.lmul, 1) := by decide +kernel
theorem dX1_choicesIn_24 : decode cX1_choicesIn 24 = .ok (.lstore_n 2, 1) := by decide +kernel
theorem dX1_choicesIn_25 : decode cX1_choicesIn 25 = .ok (.iinc 4 1, 3) := by decide +kernel
theorem dX1_choicesIn_28 : decode cX1_choicesIn 28 = .ok (.goto (-23), 3) := by decide +kernel
theorem dX1_choicesIn_31 : decode cX1_choicesIn 31 = .ok (.lload_n 2, 1) := by decide +kernel
theorem dX1_choicesIn_32 : decode cX1_choicesIn 32 = .ok (.lreturn, 1) := by decide +kernel
theorem dX1_fewestFor_0 : decode cX1_fewestFor 0 = .ok (.aload_n 0, 1) := by decide +kernel
theorem dX1_fewestFor_1 : decode cX1_fewestFor 1 = .ok (.getfield 22, 3) := by decide +kernel
theorem dX1_fewestFor_4 : decode cX1_fewestFor 4 = .ok (.ldc 117, 2) := by decide +kernel
theorem dX1_fewestFor_6 : decode cX1_fewestFor 6 = .ok (.invokestatic 118, 3) := by decide +kernel
theorem dX1_fewestFor_9 : decode cX1_fewestFor 9 = .ok (.aload_n 0, 1) := by decide +kernel
theorem dX1_fewestFor_10 : decode cX1_fewestFor 10 = .ok (.aload_n 0, 1) := by decide +kernel
theorem dX1_fewestFor_11 : decode cX1_fewestFor 11 = .ok (.getfield 29, 3) := by decide +kernel
theorem dX1_fewestFor_14 : decode cX1_fewestFor 14 = .ok (.getfield 71, 3) := by decide +kernel
theorem dX1_fewestFor_17 : decode cX1_fewestFor 17 = .ok (.iconst 0, 1) := by decide +kernel
theorem dX1_fewestFor_18 : decode cX1_fewestFor 18 = .ok (.iconst 0, 1) := by decide +kernel
theorem dX1_fewestFor_19 : decode cX1_fewestFor 19 = .ok (.invokevirtual 124, 3) := by decide +kernel
theorem dX1_fewestFor_22 : decode cX1_fewestFor 22 = .ok (.bipush 14, 2) := by decide +kernel
theorem dX1_fewestFor_24 : decode cX1_fewestFor 24 = .ok (.istore_n 3, 1) := by decide +kernel
theorem dX1_fewestFor_25 : decode cX1_fewestFor 25 = .ok (.aload_n 0, 1) := by decide +kernel
theorem dX1_fewestFor_26 : decode cX1_fewestFor 26 = .ok (.getfield 29, 3) := by decide +kernel
theorem dX1_fewestFor_29 : decode cX1_fewestFor 29 = .ok (.getfield 71, 3) := by decide +kernel
theorem dX1_fewestFor_32 : decode cX1_fewestFor 32 = .ok (.istore 4, 2) := by decide +kernel
theorem dX1_fewestFor_34 : decode cX1_fewestFor 34 = .ok (.iload 4, 2) := by decide +kernel
theorem dX1_fewestFor_36 : decode cX1_fewestFor 36 = .ok (.ifCond .lt 151, 3) := by decide +kernel
theorem dX1_fewestFor_39 : decode cX1_fewestFor 39 = .ok (.iload 4, 2) := by decide +kernel
theorem dX1_fewestFor_41 : decode cX1_fewestFor 41 = .ok (.aload_n 0, 1) := by decide +kernel
theorem dX1_fewestFor_42 : decode cX1_fewestFor 42 = .ok (.getfield 22, 3) := by decide +kernel
theorem dX1_fewestFor_45 : decode cX1_fewestFor 45 = .ok (.arraylength, 1) := by decide +kernel
theorem dX1_fewestFor_46 : decode cX1_fewestFor 46 = .ok (.if_icmp .ge 141, 3) := by decide +kernel
theorem dX1_fewestFor_49 : decode cX1_fewestFor 49 = .ok (.aload_n 0, 1) := by decide +kernel
theorem dX1_fewestFor_50 : decode cX1_fewestFor 50 = .ok (.getfield 22, 3) := by decide +kernel
theorem dX1_fewestFor_53 : decode cX1_fewestFor 53 = .ok (.iload 4, 2) := by decide +kernel
theorem dX1_fewestFor_55 : decode cX1_fewestFor 55 = .ok (.iaload, 1) := by decide +kernel
theorem dX1_fewestFor_56 : decode cX1_fewestFor 56 = .ok (.istore 5, 2) := by decide +kernel
theorem dX1_fewestFor_58 : decode cX1_fewestFor 58 = .ok (.iload 5, 2) := by decide +kernel
theorem dX1_fewestFor_60 : decode cX1_fewestFor 60 = .ok (.ldc 117, 2) := by decide +kernel
theorem dX1_fewestFor_62 : decode cX1_fewestFor 62 = .ok (.if_icmp .eq 119, 3) := by decide +kernel
theorem dX1_fewestFor_65 : decode cX1_fewestFor 65 = .ok (.iload 4, 2) := by decide +kernel
theorem dX1_fewestFor_67 : decode cX1_fewestFor 67 = .ok (.aload_n 0, 1) := by decide +kernel
theorem dX1_fewestFor_68 : decode cX1_fewestFor 68 = .ok (.getfield 26, 3) := by decide +kernel
theorem dX1_fewestFor_71 : decode cX1_fewestFor 71 = .ok (.arraylength, 1) := by decide +kernel
theorem dX1_fewestFor_72 : decode cX1_fewestFor 72 = .ok (.if_icmp .lt 6, 3) := by decide +kernel
theorem dX1_fewestFor_75 : decode cX1_fewestFor 75 = .ok (.goto 106, 3) := by decide +kernel
theorem dX1_fewestFor_78 : decode cX1_fewestFor 78 = .ok (.aload_n 0, 1) := by decide +kernel
theorem dX1_fewestFor_79 : decode cX1_fewestFor 79 = .ok (.getfield 26, 3) := by decide +kernel
theorem dX1_fewestFor_82 : decode cX1_fewestFor 82 = .ok (.iload 4, 2) := by decide +kernel
theorem dX1_fewestFor_84 : decode cX1_fewestFor 84 = .ok (.iaload, 1) := by decide +kernel
theorem dX1_fewestFor_85 : decode cX1_fewestFor 85 = .ok (.istore 6, 2) := by decide +kernel
theorem dX1_fewestFor_87 : decode cX1_fewestFor 87 = .ok (.iload 5, 2) := by decide +kernel
theorem dX1_fewestFor_89 : decode cX1_fewestFor 89 = .ok (.i2l, 1) := by decide +kernel
theorem dX1_fewestFor_90 : decode cX1_fewestFor 90 = .ok (.lload_n 1, 1) := by decide +kernel
theorem dX1_fewestFor_91 : decode cX1_fewestFor 91 = .ok (.lcmp, 1) := by decide +kernel
theorem dX1_fewestFor_92 : decode cX1_fewestFor 92 = .ok (.ifCond .lt 10, 3) := by decide +kernel
theorem dX1_fewestFor_95 : decode cX1_fewestFor 95 = .ok (.iload_n 3, 1) := by decide +kernel
theorem dX1_fewestFor_96 : decode cX1_fewestFor 96 = .ok (.iload 6, 2) := by decide +kernel
theorem dX1_fewestFor_98 : decode cX1_fewestFor 98 = .ok (.invokestatic 128, 3) := by decide +kernel
theorem dX1_fewestFor_101 : decode cX1_fewestFor 101 = .ok (.istore_n 3, 1) := by decide +kernel
theorem dX1_fewestFor_102 : decode cX1_fewestFor 102 = .ok (.aload_n 0, 1) := by decide +kernel
theorem dX1_fewestFor_103 : decode cX1_fewestFor 103 = .ok (.getfield 29, 3) := by decide +kernel
theorem dX1_fewestFor_106 : decode cX1_fewestFor 106 = .ok (.iload 4, 2) := by decide +kernel
theorem dX1_fewestFor_108 : decode cX1_fewestFor 108 = .ok (.invokevirtual 53, 3) := by decide +kernel
theorem dX1_fewestFor_111 : decode cX1_fewestFor 111 = .ok (.istore 7, 2) := by decide +kernel
theorem dX1_fewestFor_113 : decode cX1_fewestFor 113 = .ok (.iconst 0, 1) := by decide +kernel
theorem dX1_fewestFor_114 : decode cX1_fewestFor 114 = .ok (.istore 8, 2) := by decide +kernel
theorem dX1_fewestFor_116 : decode cX1_fewestFor 116 = .ok (.iload 8, 2) := by decide +kernel
theorem dX1_fewestFor_118 : decode cX1_fewestFor 118 = .ok (.iload 7, 2) := by decide +kernel
theorem dX1_fewestFor_120 : decode cX1_fewestFor 120 = .ok (.if_icmp .ge 42, 3) := by decide +kernel
theorem dX1_fewestFor_123 : decode cX1_fewestFor 123 = .ok (.aload_n 0, 1) := by decide +kernel
theorem dX1_fewestFor_124 : decode cX1_fewestFor 124 = .ok (.aload_n 0, 1) := by decide +kernel
theorem dX1_fewestFor_125 : decode cX1_fewestFor 125 = .ok (.getfield 29, 3) := by decide +kernel
theorem dX1_fewestFor_128 : decode cX1_fewestFor 128 = .ok (.iload 4, 2) := by decide +kernel
theorem dX1_fewestFor_130 : decode cX1_fewestFor 130 = .ok (.iload 8, 2) := by decide +kernel
theorem dX1_fewestFor_132 : decode cX1_fewestFor 132 = .ok (.invokevirtual 57, 3) := by decide +kernel
theorem dX1_fewestFor_135 : decode cX1_fewestFor 135 = .ok (.iload 5, 2) := by decide +kernel
theorem dX1_fewestFor_137 : decode cX1_fewestFor 137 = .ok (.aload_n 0, 1) := by decide +kernel
theorem dX1_fewestFor_138 : decode cX1_fewestFor 138 = .ok (.getfield 29, 3) := by decide +kernel
theorem dX1_fewestFor_141 : decode cX1_fewestFor 141 = .ok (.iload 4, 2) := by decide +kernel
theorem dX1_fewestFor_143 : decode cX1_fewestFor 143 = .ok (.iload 8, 2) := by decide +kernel
theorem dX1_fewestFor_145 : decode cX1_fewestFor 145 = .ok (.invokevirtual 61, 3) := by decide +kernel
theorem dX1_fewestFor_148 : decode cX1_fewestFor 148 = .ok (.iadd, 1) := by decide +kernel
theorem dX1_fewestFor_149 : decode cX1_fewestFor 149 = .ok (.iload 6, 2) := by decide +kernel
theorem dX1_fewestFor_151 : decode cX1_fewestFor 151 = .ok (.iconst 1, 1) := by decide +kernel
theorem dX1_fewestFor_152 : decode cX1_fewestFor 152 = .ok (.iadd, 1) := by decide +kernel
theorem dX1_fewestFor_153 : decode cX1_fewestFor 153 = .ok (.invokevirtual 124, 3) := by decide +kernel
theorem dX1_fewestFor_156 : decode cX1_fewestFor 156 = .ok (.iinc 8 1, 3) := by decide +kernel
theorem dX1_fewestFor_159 : decode cX1_fewestFor 159 = .ok (.goto (-43), 3) := by decide +kernel
theorem dX1_fewestFor_162 : decode cX1_fewestFor 162 = .ok (.aload_n 0, 1) := by decide +kernel
theorem dX1_fewestFor_163 : decode cX1_fewestFor 163 = .ok (.aload_n 0, 1) := by decide +kernel
theorem dX1_fewestFor_164 : decode cX1_fewestFor 164 = .ok (.getfield 29, 3) := by decide +kernel
theorem dX1_fewestFor_167 : decode cX1_fewestFor 167 = .ok (.iload 4, 2) := by decide +kernel
theorem dX1_fewestFor_169 : decode cX1_fewestFor 169 = .ok (.invokevirtual 64, 3) := by decide +kernel
theorem dX1_fewestFor_172 : decode cX1_fewestFor 172 = .ok (.iload 5, 2) := by decide +kernel
theorem dX1_fewestFor_174 : decode cX1_fewestFor 174 = .ok (.iload 6, 2) := by decide +kernel
theorem dX1_fewestFor_176 : decode cX1_fewestFor 176 = .ok (.iconst 1, 1) := by decide +kernel
theorem dX1_fewestFor_177 : decode cX1_fewestFor 177 = .ok (.iadd, 1) := by decide +kernel
theorem dX1_fewestFor_178 : decode cX1_fewestFor 178 = .ok (.invokevirtual 124, 3) := by decide +kernel
theorem dX1_fewestFor_181 : decode cX1_fewestFor 181 = .ok (.iinc 4 1, 3) := by decide +kernel
theorem dX1_fewestFor_184 : decode cX1_fewestFor 184 = .ok (.goto (-150), 3) := by decide +kernel
theorem dX1_fewestFor_187 : decode cX1_fewestFor 187 = .ok (.iload_n 3, 1) := by decide +kernel
theorem dX1_fewestFor_188 : decode cX1_fewestFor 188 = .ok (.bipush 13, 2) := by decide +kernel
theorem dX1_fewestFor_190 : decode cX1_fewestFor 190 = .ok (.if_icmp .le 7, 3) := by decide +kernel
theorem dX1_fewestFor_193 : decode cX1_fewestFor 193 = .ok (.iconst (-1), 1) := by decide +kernel
theorem dX1_fewestFor_194 : decode cX1_fewestFor 194 = .ok (.goto 4, 3) := by decide +kernel
theorem dX1_fewestFor_197 : decode cX1_fewestFor 197 = .ok (.iload_n 3, 1) := by decide +kernel
theorem dX1_fewestFor_198 : decode cX1_fewestFor 198 = .ok (.ireturn, 1) := by decide +kernel
theorem dX1_reach_0 : decode cX1_reach 0 = .ok (.iload_n 1, 1) := by decide +kernel
theorem dX1_reach_1 : decode cX1_reach 1 = .ok (.ifCond .lt 44, 3) := by decide +kernel
theorem dX1_reach_4 : decode cX1_reach 4 = .ok (.iload_n 1, 1) := by decide +kernel
theorem dX1_reach_5 : decode cX1_reach 5 = .ok (.aload_n 0, 1) := by decide +kernel
theorem dX1_reach_6 : decode cX1_reach 6 = .ok (.getfield 22, 3) := by decide +kernel
theorem dX1_reach_9 : decode cX1_reach 9 = .ok (.arraylength, 1) := by decide +kernel
theorem dX1_reach_10 : decode cX1_reach 10 = .ok (.if_icmp .ge 35, 3) := by decide +kernel
theorem dX1_reach_13 : decode cX1_reach 13 = .ok (.iload_n 1, 1) := by decide +kernel
theorem dX1_reach_14 : decode cX1_reach 14 = .ok (.aload_n 0, 1) := by decide +kernel
theorem dX1_reach_15 : decode cX1_reach 15 = .ok (.getfield 26, 3) := by decide +kernel
theorem dX1_reach_18 : decode cX1_reach 18 = .ok (.arraylength, 1) := by decide +kernel
theorem dX1_reach_19 : decode cX1_reach 19 = .ok (.if_icmp .ge 26, 3) := by decide +kernel
theorem dX1_reach_22 : decode cX1_reach 22 = .ok (.aload_n 0, 1) := by decide +kernel
theorem dX1_reach_23 : decode cX1_reach 23 = .ok (.getfield 22, 3) := by decide +kernel
theorem dX1_reach_26 : decode cX1_reach 26 = .ok (.iload_n 1, 1) := by decide +kernel
theorem dX1_reach_27 : decode cX1_reach 27 = .ok (.aload_n 0, 1) := by decide +kernel
theorem dX1_reach_28 : decode cX1_reach 28 = .ok (.getfield 22, 3) := by decide +kernel
theorem dX1_reach_31 : decode cX1_reach 31 = .ok (.iload_n 1, 1) := by decide +kernel
theorem dX1_reach_32 : decode cX1_reach 32 = .ok (.iaload, 1) := by decide +kernel
theorem dX1_reach_33 : decode cX1_reach 33 = .ok (.iload_n 2, 1) := by decide +kernel
theorem dX1_reach_34 : decode cX1_reach 34 = .ok (.invokestatic 133, 3) := by decide +kernel
theorem dX1_reach_37 : decode cX1_reach 37 = .ok (.iastore, 1) := by decide +kernel
theorem dX1_reach_38 : decode cX1_reach 38 = .ok (.aload_n 0, 1) := by decide +kernel
theorem dX1_reach_39 : decode cX1_reach 39 = .ok (.getfield 26, 3) := by decide +kernel
theorem dX1_reach_42 : decode cX1_reach 42 = .ok (.iload_n 1, 1) := by decide +kernel
theorem dX1_reach_43 : decode cX1_reach 43 = .ok (.iload_n 3, 1) := by decide +kernel
theorem dX1_reach_44 : decode cX1_reach 44 = .ok (.iastore, 1) := by decide +kernel
theorem dX1_reach_45 : decode cX1_reach 45 = .ok (.return_, 1) := by decide +kernel
theorem dX2_init_0 : decode cX2_init 0 = .ok (.aload_n 0, 1) := by decide +kernel
theorem dX2_init_1 : decode cX2_init 1 = .ok (.invokespecial 3, 3) := by decide +kernel
theorem dX2_init_4 : decode cX2_init 4 = .ok (.aload_n 0, 1) := by decide +kernel
theorem dX2_init_5 : decode cX2_init 5 = .ok (.iconst 0, 1) := by decide +kernel
theorem dX2_init_6 : decode cX2_init 6 = .ok (.putfield 9, 3) := by decide +kernel
theorem dX2_init_9 : decode cX2_init 9 = .ok (.aload_n 0, 1) := by decide +kernel
theorem dX2_init_10 : decode cX2_init 10 = .ok (.iconst 0, 1) := by decide +kernel
theorem dX2_init_11 : decode cX2_init 11 = .ok (.putfield 15, 3) := by decide +kernel
theorem dX2_init_14 : decode cX2_init 14 = .ok (.aload_n 0, 1) := by decide +kernel
theorem dX2_init_15 : decode cX2_init 15 = .ok (.aload_n 1, 1) := by decide +kernel
theorem dX2_init_16 : decode cX2_init 16 = .ok (.putfield 18, 3) := by decide +kernel
theorem dX2_init_19 : decode cX2_init 19 = .ok (.return_, 1) := by decide +kernel
theorem dX2_lives_0 : decode cX2_lives 0 = .ok (.aload_n 2, 1) := by decide +kernel
theorem dX2_lives_1 : decode cX2_lives 1 = .ok (.iload_n 3, 1) := by decide +kernel
theorem dX2_lives_2 : decode cX2_lives 2 = .ok (.invokevirtual 22, 3) := by decide +kernel
theorem dX2_lives_5 : decode cX2_lives 5 = .ok (.ifCond .eq 12, 3) := by decide +kernel
theorem dX2_lives_8 : decode cX2_lives 8 = .ok (.aload_n 1, 1) := by decide +kernel
theorem dX2_lives_9 : decode cX2_lives 9 = .ok (.lload 4, 2) := by decide +kernel
theorem dX2_lives_11 : decode cX2_lives 11 = .ok (.invokevirtual 28, 3) := by decide +kernel
theorem dX2_lives_14 : decode cX2_lives 14 = .ok (.ifCond .ne 5, 3) := by decide +kernel
theorem dX2_lives_17 : decode cX2_lives 17 = .ok (.iconst 1, 1) := by decide +kernel
theorem dX2_lives_18 : decode cX2_lives 18 = .ok (.ireturn, 1) := by decide +kernel
theorem dX2_lives_19 : decode cX2_lives 19 = .ok (.aload_n 2, 1) := by decide +kernel
theorem dX2_lives_20 : decode cX2_lives 20 = .ok (.iload_n 3, 1) := by decide +kernel
theorem dX2_lives_21 : decode cX2_lives 21 = .ok (.iconst 0, 1) := by decide +kernel
theorem dX2_lives_22 : decode cX2_lives 22 = .ok (.invokevirtual 34, 3) := by decide +kernel
theorem dX2_lives_25 : decode cX2_lives 25 = .ok (.istore 6, 2) := by decide +kernel
theorem dX2_lives_27 : decode cX2_lives 27 = .ok (.iload 6, 2) := by decide +kernel
theorem dX2_lives_29 : decode cX2_lives 29 = .ok (.aload_n 1, 1) := by decide +kernel
theorem dX2_lives_30 : decode cX2_lives 30 = .ok (.getfield 38, 3) := by decide +kernel
theorem dX2_lives_33 : decode cX2_lives 33 = .ok (.if_icmp .lt 5, 3) := by decide +kernel
theorem dX2_lives_36 : decode cX2_lives 36 = .ok (.iconst 2, 1) := by decide +kernel
theorem dX2_lives_37 : decode cX2_lives 37 = .ok (.ireturn, 1) := by decide +kernel
theorem dX2_lives_38 : decode cX2_lives 38 = .ok (.lload 4, 2) := by decide +kernel
theorem dX2_lives_40 : decode cX2_lives 40 = .ok (.l2i, 1) := by decide +kernel
theorem dX2_lives_41 : decode cX2_lives 41 = .ok (.istore 7, 2) := by decide +kernel
theorem dX2_lives_43 : decode cX2_lives 43 = .ok (.aload_n 0, 1) := by decide +kernel
theorem dX2_lives_44 : decode cX2_lives 44 = .ok (.getfield 18, 3) := by decide +kernel
theorem dX2_lives_47 : decode cX2_lives 47 = .ok (.aload_n 2, 1) := by decide +kernel
theorem dX2_lives_48 : decode cX2_lives 48 = .ok (.iload_n 3, 1) := by decide +kernel
theorem dX2_lives_49 : decode cX2_lives 49 = .ok (.invokevirtual 41, 3) := by decide +kernel
theorem dX2_lives_52 : decode cX2_lives 52 = .ok (.aload_n 0, 1) := by decide +kernel
theorem dX2_lives_53 : decode cX2_lives 53 = .ok (.getfield 18, 3) := by decide +kernel
theorem dX2_lives_56 : decode cX2_lives 56 = .ok (.aload_n 1, 1) := by decide +kernel
theorem dX2_lives_57 : decode cX2_lives 57 = .ok (.iload 7, 2) := by decide +kernel
theorem dX2_lives_59 : decode cX2_lives 59 = .ok (.invokevirtual 47, 3) := by decide +kernel
theorem dX2_lives_62 : decode cX2_lives 62 = .ok (.istore 8, 2) := by decide +kernel
theorem dX2_lives_64 : decode cX2_lives 64 = .ok (.aload_n 2, 1) := by decide +kernel
theorem dX2_lives_65 : decode cX2_lives 65 = .ok (.iload_n 3, 1) := by decide +kernel
theorem dX2_lives_66 : decode cX2_lives 66 = .ok (.iconst 3, 1) := by decide +kernel
theorem dX2_lives_67 : decode cX2_lives 67 = .ok (.invokevirtual 34, 3) := by decide +kernel
theorem dX2_lives_70 : decode cX2_lives 70 = .ok (.iload 7, 2) := by decide +kernel
theorem dX2_lives_72 : decode cX2_lives 72 = .ok (.if_icmp .ne 7, 3) := by decide +kernel
theorem dX2_lives_75 : decode cX2_lives 75 = .ok (.iconst 1, 1) := by decide +kernel
theorem dX2_lives_76 : decode cX2_lives 76 = .ok (.goto 4, 3) := by decide +kernel
theorem dX2_lives_79 : decode cX2_lives 79 = .ok (.iconst 0, 1) := by decide +kernel
theorem dX2_lives_80 : decode cX2_lives 80 = .ok (.istore 9, 2) := by decide +kernel
theorem dX2_lives_82 : decode cX2_lives 82 = .ok (.aload_n 2, 1) := by decide +kernel
theorem dX2_lives_83 : decode cX2_lives 83 = .ok (.iload_n 3, 1) := by decide +kernel
theorem dX2_lives_84 : decode cX2_lives 84 = .ok (.iconst 2, 1) := by decide +kernel
theorem dX2_lives_85 : decode cX2_lives 85 = .ok (.aload_n 2, 1) := by decide +kernel
theorem dX2_lives_86 : decode cX2_lives 86 = .ok (.iload_n 3, 1) := by decide +kernel
theorem dX2_lives_87 : decode cX2_lives 87 = .ok (.iconst 2, 1) := by decide +kernel
theorem dX2_lives_88 : decode cX2_lives 88 = .ok (.invokevirtual 34, 3) := by decide +kernel
theorem dX2_lives_91 : decode cX2_lives 91 = .ok (.iload 8, 2) := by decide +kernel
theorem dX2_lives_93 : decode cX2_lives 93 = .ok (.iadd, 1) := by decide +kernel
theorem dX2_lives_94 : decode cX2_lives 94 = .ok (.invokevirtual 51, 3) := by decide +kernel
theorem dX2_lives_97 : decode cX2_lives 97 = .ok (.aload_n 2, 1) := by decide +kernel
theorem dX2_lives_98 : decode cX2_lives 98 = .ok (.iload_n 3, 1) := by decide +kernel
theorem dX2_lives_99 : decode cX2_lives 99 = .ok (.iconst 4, 1) := by decide +kernel
theorem dX2_lives_100 : decode cX2_lives 100 = .ok (.iload 9, 2) := by decide +kernel
theorem dX2_lives_102 : decode cX2_lives 102 = .ok (.ifCond .eq 14, 3) := by decide +kernel
theorem dX2_lives_105 : decode cX2_lives 105 = .ok (.aload_n 2, 1) := by decide +kernel
theorem dX2_lives_106 : decode cX2_lives 106 = .ok (.iload_n 3, 1) := by decide +kernel
theorem dX2_lives_107 : decode cX2_lives 107 = .ok (.iconst 4, 1) := by decide +kernel
theorem dX2_lives_108 : decode cX2_lives 108 = .ok (.invokevirtual 34, 3) := by decide +kernel
theorem dX2_lives_111 : decode cX2_lives 111 = .ok (.iconst 1, 1) := by decide +kernel
theorem dX2_lives_112 : decode cX2_lives 112 = .ok (.iadd, 1) := by decide +kernel
theorem dX2_lives_113 : decode cX2_lives 113 = .ok (.goto 4, 3) := by decide +kernel
theorem dX2_lives_116 : decode cX2_lives 116 = .ok (.iconst 1, 1) := by decide +kernel
theorem dX2_lives_117 : decode cX2_lives 117 = .ok (.invokevirtual 51, 3) := by decide +kernel
theorem dX2_lives_120 : decode cX2_lives 120 = .ok (.aload_n 2, 1) := by decide +kernel
theorem dX2_lives_121 : decode cX2_lives 121 = .ok (.iload_n 3, 1) := by decide +kernel
theorem dX2_lives_122 : decode cX2_lives 122 = .ok (.iconst 3, 1) := by decide +kernel
theorem dX2_lives_123 : decode cX2_lives 123 = .ok (.iload 7, 2) := by decide +kernel
theorem dX2_lives_125 : decode cX2_lives 125 = .ok (.invokevirtual 51, 3) := by decide +kernel
theorem dX2_lives_128 : decode cX2_lives 128 = .ok (.aload_n 2, 1) := by decide +kernel
theorem dX2_lives_129 : decode cX2_lives 129 = .ok (.iload_n 3, 1) := by decide +kernel
theorem dX2_lives_130 : decode cX2_lives 130 = .ok (.iconst 0, 1) := by decide +kernel
theorem dX2_lives_131 : decode cX2_lives 131 = .ok (.iload 6, 2) := by decide +kernel
theorem dX2_lives_133 : decode cX2_lives 133 = .ok (.iconst 1, 1) := by decide +kernel
theorem dX2_lives_134 : decode cX2_lives 134 = .ok (.iadd, 1) := by decide +kernel
theorem dX2_lives_135 : decode cX2_lives 135 = .ok (.invokevirtual 51, 3) := by decide +kernel
theorem dX2_lives_138 : decode cX2_lives 138 = .ok (.iconst 0, 1) := by decide +kernel
theorem dX2_lives_139 : decode cX2_lives 139 = .ok (.ireturn, 1) := by decide +kernel
theorem dX2_draws_0 : decode cX2_draws 0 = .ok (.aload_n 2, 1) := by decide +kernel
theorem dX2_draws_1 : decode cX2_draws 1 = .ok (.iload_n 3, 1) := by decide +kernel
theorem dX2_draws_2 : decode cX2_draws 2 = .ok (.invokevirtual 22, 3) := by decide +kernel
theorem dX2_draws_5 : decode cX2_draws 5 = .ok (.ifCond .ne 5, 3) := by decide +kernel
theorem dX2_draws_8 : decode cX2_draws 8 = .ok (.iconst 1, 1) := by decide +kernel
theorem dX2_draws_9 : decode cX2_draws 9 = .ok (.ireturn, 1) := by decide +kernel
theorem dX2_draws_10 : decode cX2_draws 10 = .ok (.aload_n 2, 1) := by decide +kernel
theorem dX2_draws_11 : decode cX2_draws 11 = .ok (.iload_n 3, 1) := by decide +kernel
theorem dX2_draws_12 : decode cX2_draws 12 = .ok (.iconst 1, 1) := by decide +kernel
theorem dX2_draws_13 : decode cX2_draws 13 = .ok (.invokevirtual 34, 3) := by decide +kernel
theorem dX2_draws_16 : decode cX2_draws 16 = .ok (.iconst 1, 1) := by decide +kernel
theorem dX2_draws_17 : decode cX2_draws 17 = .ok (.if_icmp .eq 5, 3) := by decide +kernel
theorem dX2_draws_20 : decode cX2_draws 20 = .ok (.iconst 2, 1) := by decide +kernel
theorem dX2_draws_21 : decode cX2_draws 21 = .ok (.ireturn, 1) := by decide +kernel
theorem dX2_draws_22 : decode cX2_draws 22 = .ok (.aload_n 2, 1) := by decide +kernel
theorem dX2_draws_23 : decode cX2_draws 23 = .ok (.iload_n 3, 1) := by decide +kernel
theorem dX2_draws_24 : decode cX2_draws 24 = .ok (.bipush 8, 2) := by decide +kernel
theorem dX2_draws_26 : decode cX2_draws 26 = .ok (.invokevirtual 34, 3) := by decide +kernel
theorem dX2_draws_29 : decode cX2_draws 29 = .ok (.ifCond .le 5, 3) := by decide +kernel
theorem dX2_draws_32 : decode cX2_draws 32 = .ok (.iconst 3, 1) := by decide +kernel
theorem dX2_draws_33 : decode cX2_draws 33 = .ok (.ireturn, 1) := by decide +kernel
theorem dX2_draws_34 : decode cX2_draws 34 = .ok (.aload_n 0, 1) := by decide +kernel
theorem dX2_draws_35 : decode cX2_draws 35 = .ok (.getfield 18, 3) := by decide +kernel
theorem dX2_draws_38 : decode cX2_draws 38 = .ok (.aload_n 2, 1) := by decide +kernel
theorem dX2_draws_39 : decode cX2_draws 39 = .ok (.iload_n 3, 1) := by decide +kernel
theorem dX2_draws_40 : decode cX2_draws 40 = .ok (.invokevirtual 41, 3) := by decide +kernel
theorem dX2_draws_43 : decode cX2_draws 43 = .ok (.aload_n 0, 1) := by decide +kernel
theorem dX2_draws_44 : decode cX2_draws 44 = .ok (.getfield 18, 3) := by decide +kernel
theorem dX2_draws_47 : decode cX2_draws 47 = .ok (.aload_n 1, 1) := by decide +kernel
theorem dX2_draws_48 : decode cX2_draws 48 = .ok (.invokevirtual 55, 3) := by decide +kernel
theorem dX2_draws_51 : decode cX2_draws 51 = .ok (.istore 4, 2) := by decide +kernel
theorem dX2_draws_53 : decode cX2_draws 53 = .ok (.aload_n 2, 1) := by decide +kernel
theorem dX2_draws_54 : decode cX2_draws 54 = .ok (.iload_n 3, 1) := by decide +kernel
theorem dX2_draws_55 : decode cX2_draws 55 = .ok (.iconst 5, 1) := by decide +kernel
theorem dX2_draws_56 : decode cX2_draws 56 = .ok (.aload_n 2, 1) := by decide +kernel
theorem dX2_draws_57 : decode cX2_draws 57 = .ok (.iload_n 3, 1) := by decide +kernel
theorem dX2_draws_58 : decode cX2_draws 58 = .ok (.iconst 0, 1) := by decide +kernel
theorem dX2_draws_59 : decode cX2_draws 59 = .ok (.invokevirtual 34, 3) := by decide +kernel
theorem dX2_draws_62 : decode cX2_draws 62 = .ok (.invokevirtual 51, 3) := by decide +kernel
theorem dX2_draws_65 : decode cX2_draws 65 = .ok (.aload_n 2, 1) := by decide +kernel
theorem dX2_draws_66 : decode cX2_draws 66 = .ok (.iload_n 3, 1) := by decide +kernel
theorem dX2_draws_67 : decode cX2_draws 67 = .ok (.iconst 0, 1) := by decide +kernel
theorem dX2_draws_68 : decode cX2_draws 68 = .ok (.iload 4, 2) := by decide +kernel
theorem dX2_draws_70 : decode cX2_draws 70 = .ok (.invokevirtual 51, 3) := by decide +kernel
theorem dX2_draws_73 : decode cX2_draws 73 = .ok (.aload_n 2, 1) := by decide +kernel
theorem dX2_draws_74 : decode cX2_draws 74 = .ok (.iload_n 3, 1) := by decide +kernel
theorem dX2_draws_75 : decode cX2_draws 75 = .ok (.iconst 1, 1) := by decide +kernel
theorem dX2_draws_76 : decode cX2_draws 76 = .ok (.iconst 2, 1) := by decide +kernel
theorem dX2_draws_77 : decode cX2_draws 77 = .ok (.invokevirtual 51, 3) := by decide +kernel
theorem dX2_draws_80 : decode cX2_draws 80 = .ok (.aload_n 2, 1) := by decide +kernel
theorem dX2_draws_81 : decode cX2_draws 81 = .ok (.iload_n 3, 1) := by decide +kernel
theorem dX2_draws_82 : decode cX2_draws 82 = .ok (.iconst 3, 1) := by decide +kernel
theorem dX2_draws_83 : decode cX2_draws 83 = .ok (.bipush 9, 2) := by decide +kernel
theorem dX2_draws_85 : decode cX2_draws 85 = .ok (.invokevirtual 51, 3) := by decide +kernel
theorem dX2_draws_88 : decode cX2_draws 88 = .ok (.aload_n 2, 1) := by decide +kernel
theorem dX2_draws_89 : decode cX2_draws 89 = .ok (.iload_n 3, 1) := by decide +kernel
theorem dX2_draws_90 : decode cX2_draws 90 = .ok (.iconst 4, 1) := by decide +kernel
theorem dX2_draws_91 : decode cX2_draws 91 = .ok (.iconst 0, 1) := by decide +kernel
theorem dX2_draws_92 : decode cX2_draws 92 = .ok (.invokevirtual 51, 3) := by decide +kernel
theorem dX2_draws_95 : decode cX2_draws 95 = .ok (.iconst 0, 1) := by decide +kernel
theorem dX2_draws_96 : decode cX2_draws 96 = .ok (.ireturn, 1) := by decide +kernel
theorem dX2_pledges_0 : decode cX2_pledges 0 = .ok (.aload_n 1, 1) := by decide +kernel
theorem dX2_pledges_1 : decode cX2_pledges 1 = .ok (.iload_n 2, 1) := by decide +kernel
theorem dX2_pledges_2 : decode cX2_pledges 2 = .ok (.invokevirtual 22, 3) := by decide +kernel
theorem dX2_pledges_5 : decode cX2_pledges 5 = .ok (.ifCond .eq 14, 3) := by decide +kernel
theorem dX2_pledges_8 : decode cX2_pledges 8 = .ok (.iload_n 3, 1) := by decide +kernel
theorem dX2_pledges_9 : decode cX2_pledges 9 = .ok (.iconst 1, 1) := by decide +kernel
theorem dX2_pledges_10 : decode cX2_pledges 10 = .ok (.if_icmp .lt 9, 3) := by decide +kernel
theorem dX2_pledges_13 : decode cX2_pledges 13 = .ok (.iload_n 3, 1) := by decide +kernel
theorem dX2_pledges_14 : decode cX2_pledges 14 = .ok (.bipush 99, 2) := by decide +kernel
theorem dX2_pledges_16 : decode cX2_pledges 16 = .ok (.if_icmp .le 5, 3) := by decide +kernel
theorem dX2_pledges_19 : decode cX2_pledges 19 = .ok (.iconst 1, 1) := by decide +kernel
theorem dX2_pledges_20 : decode cX2_pledges 20 = .ok (.ireturn, 1) := by decide +kernel
theorem dX2_pledges_21 : decode cX2_pledges 21 = .ok (.aload_n 1, 1) := by decide +kernel
theorem dX2_pledges_22 : decode cX2_pledges 22 = .ok (.iload_n 2, 1) := by decide +kernel
theorem dX2_pledges_23 : decode cX2_pledges 23 = .ok (.iconst 1, 1) := by decide +kernel
theorem dX2_pledges_24 : decode cX2_pledges 24 = .ok (.invokevirtual 34, 3) := by decide +kernel
theorem dX2_pledges_27 : decode cX2_pledges 27 = .ok (.iconst 1, 1) := by decide +kernel
theorem dX2_pledges_28 : decode cX2_pledges 28 = .ok (.if_icmp .eq 5, 3) := by decide +kernel
theorem dX2_pledges_31 : decode cX2_pledges 31 = .ok (.iconst 2, 1) := by decide +kernel
theorem dX2_pledges_32 : decode cX2_pledges 32 = .ok (.ireturn, 1) := by decide +kernel
theorem dX2_pledges_33 : decode cX2_pledges 33 = .ok (.aload_n 1, 1) := by decide +kernel
theorem dX2_pledges_34 : decode cX2_pledges 34 = .ok (.iload_n 2, 1) := by decide +kernel
theorem dX2_pledges_35 : decode cX2_pledges 35 = .ok (.bipush 8, 2) := by decide +kernel
theorem dX2_pledges_37 : decode cX2_pledges 37 = .ok (.invokevirtual 34, 3) := by decide +kernel
theorem dX2_pledges_40 : decode cX2_pledges 40 = .ok (.ifCond .le 5, 3) := by decide +kernel
theorem dX2_pledges_43 : decode cX2_pledges 43 = .ok (.iconst 3, 1) := by decide +kernel
theorem dX2_pledges_44 : decode cX2_pledges 44 = .ok (.ireturn, 1) := by decide +kernel
theorem dX2_pledges_45 : decode cX2_pledges 45 = .ok (.iload_n 3, 1) := by decide +kernel
theorem dX2_pledges_46 : decode cX2_pledges 46 = .ok (.aload_n 1, 1) := by decide +kernel
theorem dX2_pledges_47 : decode cX2_pledges 47 = .ok (.getfield 59, 3) := by decide +kernel
theorem dX2_pledges_50 : decode cX2_pledges 50 = .ok (.if_icmp .le 5, 3) := by decide +kernel
theorem dX2_pledges_53 : decode cX2_pledges 53 = .ok (.iconst 4, 1) := by decide +kernel
theorem dX2_pledges_54 : decode cX2_pledges 54 = .ok (.ireturn, 1) := by decide +kernel
theorem dX2_pledges_55 : decode cX2_pledges 55 = .ok (.aload_n 1, 1) := by decide +kernel
theorem dX2_pledges_56 : decode cX2_pledges 56 = .ok (.iload_n 2, 1) := by decide +kernel
theorem dX2_pledges_57 : decode cX2_pledges 57 = .ok (.bipush 8, 2) := by decide +kernel
theorem dX2_pledges_59 : decode cX2_pledges 59 = .ok (.iload_n 3, 1) := by decide +kernel
theorem dX2_pledges_60 : decode cX2_pledges 60 = .ok (.invokevirtual 51, 3) := by decide +kernel
theorem dX2_pledges_63 : decode cX2_pledges 63 = .ok (.aload_n 1, 1) := by decide +kernel
theorem dX2_pledges_64 : decode cX2_pledges 64 = .ok (.iload_n 2, 1) := by decide +kernel
theorem dX2_pledges_65 : decode cX2_pledges 65 = .ok (.iconst 2, 1) := by decide +kernel
theorem dX2_pledges_66 : decode cX2_pledges 66 = .ok (.aload_n 1, 1) := by decide +kernel
theorem dX2_pledges_67 : decode cX2_pledges 67 = .ok (.iload_n 2, 1) := by decide +kernel
theorem dX2_pledges_68 : decode cX2_pledges 68 = .ok (.iconst 2, 1) := by decide +kernel
theorem dX2_pledges_69 : decode cX2_pledges 69 = .ok (.invokevirtual 34, 3) := by decide +kernel
theorem dX2_pledges_72 : decode cX2_pledges 72 = .ok (.iload_n 3, 1) := by decide +kernel
theorem dX2_pledges_73 : decode cX2_pledges 73 = .ok (.iadd, 1) := by decide +kernel
theorem dX2_pledges_74 : decode cX2_pledges 74 = .ok (.invokevirtual 51, 3) := by decide +kernel
theorem dX2_pledges_77 : decode cX2_pledges 77 = .ok (.aload_n 1, 1) := by decide +kernel
theorem dX2_pledges_78 : decode cX2_pledges 78 = .ok (.dup, 1) := by decide +kernel
theorem dX2_pledges_79 : decode cX2_pledges 79 = .ok (.getfield 59, 3) := by decide +kernel
theorem dX2_pledges_82 : decode cX2_pledges 82 = .ok (.iload_n 3, 1) := by decide +kernel
theorem dX2_pledges_83 : decode cX2_pledges 83 = .ok (.isub, 1) := by decide +kernel
theorem dX2_pledges_84 : decode cX2_pledges 84 = .ok (.putfield 59, 3) := by decide +kernel
theorem dX2_pledges_87 : decode cX2_pledges 87 = .ok (.iconst 0, 1) := by decide +kernel
theorem dX2_pledges_88 : decode cX2_pledges 88 = .ok (.ireturn, 1) := by decide +kernel
theorem dX2_redeems_0 : decode cX2_redeems 0 = .ok (.aload_n 1, 1) := by decide +kernel
theorem dX2_redeems_1 : decode cX2_redeems 1 = .ok (.iload_n 2, 1) := by decide +kernel
theorem dX2_redeems_2 : decode cX2_redeems 2 = .ok (.invokevirtual 22, 3) := by decide +kernel
theorem dX2_redeems_5 : decode cX2_redeems 5 = .ok (.ifCond .ne 5, 3) := by decide +kernel
theorem dX2_redeems_8 : decode cX2_redeems 8 = .ok (.iconst 1, 1) := by decide +kernel
theorem dX2_redeems_9 : decode cX2_redeems 9 = .ok (.ireturn, 1) := by decide +kernel
theorem dX2_redeems_10 : decode cX2_redeems 10 = .ok (.aload_n 1, 1) := by decide +kernel
theorem dX2_redeems_11 : decode cX2_redeems 11 = .ok (.iload_n 2, 1) := by decide +kernel
theorem dX2_redeems_12 : decode cX2_redeems 12 = .ok (.bipush 8, 2) := by decide +kernel
theorem dX2_redeems_14 : decode cX2_redeems 14 = .ok (.invokevirtual 34, 3) := by decide +kernel
theorem dX2_redeems_17 : decode cX2_redeems 17 = .ok (.istore_n 3, 1) := by decide +kernel
theorem dX2_redeems_18 : decode cX2_redeems 18 = .ok (.iload_n 3, 1) := by decide +kernel
theorem dX2_redeems_19 : decode cX2_redeems 19 = .ok (.ifCond .ne 5, 3) := by decide +kernel
theorem dX2_redeems_22 : decode cX2_redeems 22 = .ok (.iconst 3, 1) := by decide +kernel
theorem dX2_redeems_23 : decode cX2_redeems 23 = .ok (.ireturn, 1) := by decide +kernel
theorem dX2_redeems_24 : decode cX2_redeems 24 = .ok (.aload_n 1, 1) := by decide +kernel
theorem dX2_redeems_25 : decode cX2_redeems 25 = .ok (.iload_n 2, 1) := by decide +kernel
theorem dX2_redeems_26 : decode cX2_redeems 26 = .ok (.bipush 8, 2) := by decide +kernel
theorem dX2_redeems_28 : decode cX2_redeems 28 = .ok (.iconst 0, 1) := by decide +kernel
theorem dX2_redeems_29 : decode cX2_redeems 29 = .ok (.invokevirtual 51, 3) := by decide +kernel
theorem dX2_redeems_32 : decode cX2_redeems 32 = .ok (.aload_n 1, 1) := by decide +kernel
theorem dX2_redeems_33 : decode cX2_redeems 33 = .ok (.iload_n 2, 1) := by decide +kernel
theorem dX2_redeems_34 : decode cX2_redeems 34 = .ok (.iconst 2, 1) := by decide +kernel
theorem dX2_redeems_35 : decode cX2_redeems 35 = .ok (.aload_n 1, 1) := by decide +kernel
theorem dX2_redeems_36 : decode cX2_redeems 36 = .ok (.iload_n 2, 1) := by decide +kernel
theorem dX2_redeems_37 : decode cX2_redeems 37 = .ok (.iconst 2, 1) := by decide +kernel
theorem dX2_redeems_38 : decode cX2_redeems 38 = .ok (.invokevirtual 34, 3) := by decide +kernel
theorem dX2_redeems_41 : decode cX2_redeems 41 = .ok (.iload_n 3, 1) := by decide +kernel
theorem dX2_redeems_42 : decode cX2_redeems 42 = .ok (.isub, 1) := by decide +kernel
theorem dX2_redeems_43 : decode cX2_redeems 43 = .ok (.invokevirtual 51, 3) := by decide +kernel
theorem dX2_redeems_46 : decode cX2_redeems 46 = .ok (.aload_n 1, 1) := by decide +kernel
theorem dX2_redeems_47 : decode cX2_redeems 47 = .ok (.dup, 1) := by decide +kernel
theorem dX2_redeems_48 : decode cX2_redeems 48 = .ok (.getfield 59, 3) := by decide +kernel
theorem dX2_redeems_51 : decode cX2_redeems 51 = .ok (.iload_n 3, 1) := by decide +kernel
theorem dX2_redeems_52 : decode cX2_redeems 52 = .ok (.iadd, 1) := by decide +kernel
theorem dX2_redeems_53 : decode cX2_redeems 53 = .ok (.putfield 59, 3) := by decide +kernel
theorem dX2_redeems_56 : decode cX2_redeems 56 = .ok (.iconst 0, 1) := by decide +kernel
theorem dX2_redeems_57 : decode cX2_redeems 57 = .ok (.ireturn, 1) := by decide +kernel
theorem dX2_doTold_0 : decode cX2_doTold 0 = .ok (.lload_n 3, 1) := by decide +kernel
theorem dX2_doTold_1 : decode cX2_doTold 1 = .ok (.lconst 0, 1) := by decide +kernel
theorem dX2_doTold_2 : decode cX2_doTold 2 = .ok (.lcmp, 1) := by decide +kernel
theorem dX2_doTold_3 : decode cX2_doTold 3 = .ok (.ifCond .lt 29, 3) := by decide +kernel
theorem dX2_doTold_6 : decode cX2_doTold 6 = .ok (.lload_n 3, 1) := by decide +kernel
theorem dX2_doTold_7 : decode cX2_doTold 7 = .ok (.ldc2_w 62, 3) := by decide +kernel
theorem dX2_doTold_10 : decode cX2_doTold 10 = .ok (.lcmp, 1) := by decide +kernel
theorem dX2_doTold_11 : decode cX2_doTold 11 = .ok (.ifCond .gt 21, 3) := by decide +kernel
theorem dX2_doTold_14 : decode cX2_doTold 14 = .ok (.aload_n 0, 1) := by decide +kernel
theorem dX2_doTold_15 : decode cX2_doTold 15 = .ok (.aload_n 1, 1) := by decide +kernel
theorem dX2_doTold_16 : decode cX2_doTold 16 = .ok (.aload_n 2, 1) := by decide +kernel
theorem dX2_doTold_17 : decode cX2_doTold 17 = .ok (.lload_n 3, 1) := by decide +kernel
theorem dX2_doTold_18 : decode cX2_doTold 18 = .ok (.ldc2_w 64, 3) := by decide +kernel
theorem dX2_doTold_21 : decode cX2_doTold 21 = .ok (.ldiv, 1) := by decide +kernel
theorem dX2_doTold_22 : decode cX2_doTold 22 = .ok (.l2i, 1) := by decide +kernel
theorem dX2_doTold_23 : decode cX2_doTold 23 = .ok (.lload_n 3, 1) := by decide +kernel
theorem dX2_doTold_24 : decode cX2_doTold 24 = .ok (.ldc2_w 64, 3) := by decide +kernel
theorem dX2_doTold_27 : decode cX2_doTold 27 = .ok (.lrem, 1) := by decide +kernel
theorem dX2_doTold_28 : decode cX2_doTold 28 = .ok (.invokevirtual 66, 3) := by decide +kernel
theorem dX2_doTold_31 : decode cX2_doTold 31 = .ok (.ireturn, 1) := by decide +kernel
theorem dX2_doTold_32 : decode cX2_doTold 32 = .ok (.lload_n 3, 1) := by decide +kernel
theorem dX2_doTold_33 : decode cX2_doTold 33 = .ok (.ldc2_w 70, 3) := by decide +kernel
theorem dX2_doTold_36 : decode cX2_doTold 36 = .ok (.lcmp, 1) := by decide +kernel
theorem dX2_doTold_37 : decode cX2_doTold 37 = .ok (.ifCond .lt 24, 3) := by decide +kernel
theorem dX2_doTold_40 : decode cX2_doTold 40 = .ok (.lload_n 3, 1) := by decide +kernel
theorem dX2_doTold_41 : decode cX2_doTold 41 = .ok (.ldc2_w 72, 3) := by decide +kernel
theorem dX2_doTold_44 : decode cX2_doTold 44 = .ok (.lcmp, 1) := by decide +kernel
theorem dX2_doTold_45 : decode cX2_doTold 45 = .ok (.ifCond .gt 16, 3) := by decide +kernel
theorem dX2_doTold_48 : decode cX2_doTold 48 = .ok (.aload_n 0, 1) := by decide +kernel
theorem dX2_doTold_49 : decode cX2_doTold 49 = .ok (.aload_n 1, 1) := by decide +kernel
theorem dX2_doTold_50 : decode cX2_doTold 50 = .ok (.aload_n 2, 1) := by decide +kernel
theorem dX2_doTold_51 : decode cX2_doTold 51 = .ok (.lload_n 3, 1) := by decide +kernel
theorem dX2_doTold_52 : decode cX2_doTold 52 = .ok (.ldc2_w 70, 3) := by decide +kernel
theorem dX2_doTold_55 : decode cX2_doTold 55 = .ok (.lsub, 1) := by decide +kernel
theorem dX2_doTold_56 : decode cX2_doTold 56 = .ok (.l2i, 1) := by decide +kernel
theorem dX2_doTold_57 : decode cX2_doTold 57 = .ok (.invokevirtual 74, 3) := by decide +kernel
theorem dX2_doTold_60 : decode cX2_doTold 60 = .ok (.ireturn, 1) := by decide +kernel
theorem dX2_doTold_61 : decode cX2_doTold 61 = .ok (.lload_n 3, 1) := by decide +kernel
theorem dX2_doTold_62 : decode cX2_doTold 62 = .ok (.ldc2_w 78, 3) := by decide +kernel
theorem dX2_doTold_65 : decode cX2_doTold 65 = .ok (.lcmp, 1) := by decide +kernel
theorem dX2_doTold_66 : decode cX2_doTold 66 = .ok (.ifCond .lt 23, 3) := by decide +kernel
theorem dX2_doTold_69 : decode cX2_doTold 69 = .ok (.lload_n 3, 1) := by decide +kernel
theorem dX2_doTold_70 : decode cX2_doTold 70 = .ok (.ldc2_w 80, 3) := by decide +kernel
theorem dX2_doTold_73 : decode cX2_doTold 73 = .ok (.lcmp, 1) := by decide +kernel
theorem dX2_doTold_74 : decode cX2_doTold 74 = .ok (.ifCond .gt 15, 3) := by decide +kernel
theorem dX2_doTold_77 : decode cX2_doTold 77 = .ok (.aload_n 0, 1) := by decide +kernel
theorem dX2_doTold_78 : decode cX2_doTold 78 = .ok (.aload_n 2, 1) := by decide +kernel
theorem dX2_doTold_79 : decode cX2_doTold 79 = .ok (.lload_n 3, 1) := by decide +kernel
theorem dX2_doTold_80 : decode cX2_doTold 80 = .ok (.ldc2_w 78, 3) := by decide +kernel
theorem dX2_doTold_83 : decode cX2_doTold 83 = .ok (.lsub, 1) := by decide +kernel
theorem dX2_doTold_84 : decode cX2_doTold 84 = .ok (.l2i, 1) := by decide +kernel
theorem dX2_doTold_85 : decode cX2_doTold 85 = .ok (.invokevirtual 82, 3) := by decide +kernel
theorem dX2_doTold_88 : decode cX2_doTold 88 = .ok (.ireturn, 1) := by decide +kernel
theorem dX2_doTold_89 : decode cX2_doTold 89 = .ok (.lload_n 3, 1) := by decide +kernel
theorem dX2_doTold_90 : decode cX2_doTold 90 = .ok (.ldc2_w 86, 3) := by decide +kernel
theorem dX2_doTold_93 : decode cX2_doTold 93 = .ok (.lcmp, 1) := by decide +kernel
theorem dX2_doTold_94 : decode cX2_doTold 94 = .ok (.ifCond .lt 33, 3) := by decide +kernel
theorem dX2_doTold_97 : decode cX2_doTold 97 = .ok (.lload_n 3, 1) := by decide +kernel
theorem dX2_doTold_98 : decode cX2_doTold 98 = .ok (.ldc2_w 88, 3) := by decide +kernel
theorem dX2_doTold_101 : decode cX2_doTold 101 = .ok (.lcmp, 1) := by decide +kernel
theorem dX2_doTold_102 : decode cX2_doTold 102 = .ok (.ifCond .gt 25, 3) := by decide +kernel
theorem dX2_doTold_105 : decode cX2_doTold 105 = .ok (.aload_n 0, 1) := by decide +kernel
theorem dX2_doTold_106 : decode cX2_doTold 106 = .ok (.aload_n 2, 1) := by decide +kernel
theorem dX2_doTold_107 : decode cX2_doTold 107 = .ok (.lload_n 3, 1) := by decide +kernel
theorem dX2_doTold_108 : decode cX2_doTold 108 = .ok (.ldc2_w 86, 3) := by decide +kernel
theorem dX2_doTold_111 : decode cX2_doTold 111 = .ok (.lsub, 1) := by decide +kernel
theorem dX2_doTold_112 : decode cX2_doTold 112 = .ok (.ldc2_w 70, 3) := by decide +kernel
theorem dX2_doTold_115 : decode cX2_doTold 115 = .ok (.ldiv, 1) := by decide +kernel
theorem dX2_doTold_116 : decode cX2_doTold 116 = .ok (.l2i, 1) := by decide +kernel
theorem dX2_doTold_117 : decode cX2_doTold 117 = .ok (.lload_n 3, 1) := by decide +kernel
theorem dX2_doTold_118 : decode cX2_doTold 118 = .ok (.ldc2_w 70, 3) := by decide +kernel
theorem dX2_doTold_121 : decode cX2_doTold 121 = .ok (.lrem, 1) := by decide +kernel
theorem dX2_doTold_122 : decode cX2_doTold 122 = .ok (.l2i, 1) := by decide +kernel
theorem dX2_doTold_123 : decode cX2_doTold 123 = .ok (.invokevirtual 90, 3) := by decide +kernel
theorem dX2_doTold_126 : decode cX2_doTold 126 = .ok (.ireturn, 1) := by decide +kernel
theorem dX2_doTold_127 : decode cX2_doTold 127 = .ok (.iconst 1, 1) := by decide +kernel
theorem dX2_doTold_128 : decode cX2_doTold 128 = .ok (.ireturn, 1) := by decide +kernel
theorem dX2_doAll_0 : decode cX2_doAll 0 = .ok (.aload_n 0, 1) := by decide +kernel
theorem dX2_doAll_1 : decode cX2_doAll 1 = .ok (.iconst 0, 1) := by decide +kernel
theorem dX2_doAll_2 : decode cX2_doAll 2 = .ok (.putfield 9, 3) := by decide +kernel
theorem dX2_doAll_5 : decode cX2_doAll 5 = .ok (.iconst 0, 1) := by decide +kernel
theorem dX2_doAll_6 : decode cX2_doAll 6 = .ok (.istore 4, 2) := by decide +kernel
theorem dX2_doAll_8 : decode cX2_doAll 8 = .ok (.iload 4, 2) := by decide +kernel
theorem dX2_doAll_10 : decode cX2_doAll 10 = .ok (.aload_n 3, 1) := by decide +kernel
theorem dX2_doAll_11 : decode cX2_doAll 11 = .ok (.getfield 94, 3) := by decide +kernel
theorem dX2_doAll_14 : decode cX2_doAll 14 = .ok (.if_icmp .ge 35, 3) := by decide +kernel
theorem dX2_doAll_17 : decode cX2_doAll 17 = .ok (.aload_n 0, 1) := by decide +kernel
theorem dX2_doAll_18 : decode cX2_doAll 18 = .ok (.aload_n 0, 1) := by decide +kernel
theorem dX2_doAll_19 : decode cX2_doAll 19 = .ok (.aload_n 1, 1) := by decide +kernel
theorem dX2_doAll_20 : decode cX2_doAll 20 = .ok (.aload_n 2, 1) := by decide +kernel
theorem dX2_doAll_21 : decode cX2_doAll 21 = .ok (.aload_n 3, 1) := by decide +kernel
theorem dX2_doAll_22 : decode cX2_doAll 22 = .ok (.iload 4, 2) := by decide +kernel
theorem dX2_doAll_24 : decode cX2_doAll 24 = .ok (.invokevirtual 99, 3) := by decide +kernel
theorem dX2_doAll_27 : decode cX2_doAll 27 = .ok (.invokevirtual 103, 3) := by decide +kernel
theorem dX2_doAll_30 : decode cX2_doAll 30 = .ok (.putfield 9, 3) := by decide +kernel
theorem dX2_doAll_33 : decode cX2_doAll 33 = .ok (.aload_n 0, 1) := by decide +kernel
theorem dX2_doAll_34 : decode cX2_doAll 34 = .ok (.getfield 9, 3) := by decide +kernel
theorem dX2_doAll_37 : decode cX2_doAll 37 = .ok (.ifCond .eq 6, 3) := by decide +kernel
theorem dX2_doAll_40 : decode cX2_doAll 40 = .ok (.iload 4, 2) := by decide +kernel
theorem dX2_doAll_42 : decode cX2_doAll 42 = .ok (.ireturn, 1) := by decide +kernel
theorem dX2_doAll_43 : decode cX2_doAll 43 = .ok (.iinc 4 1, 3) := by decide +kernel
theorem dX2_doAll_46 : decode cX2_doAll 46 = .ok (.goto (-38), 3) := by decide +kernel
theorem dX2_doAll_49 : decode cX2_doAll 49 = .ok (.aload_n 3, 1) := by decide +kernel
theorem dX2_doAll_50 : decode cX2_doAll 50 = .ok (.getfield 94, 3) := by decide +kernel
theorem dX2_doAll_53 : decode cX2_doAll 53 = .ok (.ireturn, 1) := by decide +kernel
theorem dX2_doSeason_0 : decode cX2_doSeason 0 = .ok (.aload_n 0, 1) := by decide +kernel
theorem dX2_doSeason_1 : decode cX2_doSeason 1 = .ok (.iload_n 3, 1) := by decide +kernel
theorem dX2_doSeason_2 : decode cX2_doSeason 2 = .ok (.putfield 15, 3) := by decide +kernel
theorem dX2_doSeason_5 : decode cX2_doSeason 5 = .ok (.iconst 0, 1) := by decide +kernel
theorem dX2_doSeason_6 : decode cX2_doSeason 6 = .ok (.istore 5, 2) := by decide +kernel
theorem dX2_doSeason_8 : decode cX2_doSeason 8 = .ok (.iconst 0, 1) := by decide +kernel
theorem dX2_doSeason_9 : decode cX2_doSeason 9 = .ok (.istore 6, 2) := by decide +kernel
theorem dX2_doSeason_11 : decode cX2_doSeason 11 = .ok (.iload 6, 2) := by decide +kernel
theorem dX2_doSeason_13 : decode cX2_doSeason 13 = .ok (.iload 4, 2) := by decide +kernel
theorem dX2_doSeason_15 : decode cX2_doSeason 15 = .ok (.if_icmp .ge 28, 3) := by decide +kernel
theorem dX2_doSeason_18 : decode cX2_doSeason 18 = .ok (.iload 5, 2) := by decide +kernel
theorem dX2_doSeason_20 : decode cX2_doSeason 20 = .ok (.aload_n 0, 1) := by decide +kernel
theorem dX2_doSeason_21 : decode cX2_doSeason 21 = .ok (.aload_n 1, 1) := by decide +kernel
theorem dX2_doSeason_22 : decode cX2_doSeason 22 = .ok (.aload_n 2, 1) := by decide +kernel
theorem dX2_doSeason_23 : decode cX2_doSeason 23 = .ok (.invokevirtual 107, 3) := by decide +kernel
theorem dX2_doSeason_26 : decode cX2_doSeason 26 = .ok (.ifCond .ne 7, 3) := by decide +kernel
theorem dX2_doSeason_29 : decode cX2_doSeason 29 = .ok (.iconst 1, 1) := by decide +kernel
