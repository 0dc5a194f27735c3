set_option maxRecDepth 20000 in
theorem ggX12_does_X12_goes : GoodIn wsX12_does wsX12_goes := goodIn_r _ [66, 1, 67, 68, 69, 70, 71, 72, 73, 74, 75, 76, 77, 78, 79, 80, 81, 82, 83, 84, 85, 86, 87, 88, 89, 90, 91, 92, 93, 94, 95, 96, 97, 98, 99, 100, 101, 102] (by decide +kernel) (by decide +kernel)
set_option maxRecDepth 20000 in
theorem gX12_does_X12_goes : GoodIn wsX12_does (wsV RX12 298 RX12 yX12_goes wsX12_goes) := goodIn_app (goodIn_of _ (by decide +kernel)) ggX12_does_X12_goes
theorem dX12_does_0 : decode cX12_does 0 = .ok (.iload_n 1, 1) := by decide +kernel
theorem dX12_does_1 : decode cX12_does 1 = .ok (.bipush 100, 2) := by decide +kernel
theorem dX12_does_3 : decode cX12_does 3 = .ok (.if_icmp .ge 19, 3) := by decide +kernel
theorem dX12_does_6 : decode cX12_does 6 = .ok (.aload_n 0, 1) := by decide +kernel
theorem dX12_does_7 : decode cX12_does 7 = .ok (.iload_n 1, 1) := by decide +kernel
theorem dX12_does_8 : decode cX12_does 8 = .ok (.bipush 10, 2) := by decide +kernel
theorem dX12_does_10 : decode cX12_does 10 = .ok (.idiv, 1) := by decide +kernel
theorem dX12_does_11 : decode cX12_does 11 = .ok (.iload_n 1, 1) := by decide +kernel
theorem dX12_does_12 : decode cX12_does 12 = .ok (.bipush 10, 2) := by decide +kernel
theorem dX12_does_14 : decode cX12_does 14 = .ok (.irem, 1) := by decide +kernel
theorem dX12_does_15 : decode cX12_does 15 = .ok (.invokevirtual 286, 3) := by decide +kernel
theorem dX12_does_18 : decode cX12_does 18 = .ok (.pop, 1) := by decide +kernel
theorem dX12_does_19 : decode cX12_does 19 = .ok (.goto 66, 3) := by decide +kernel
theorem dX12_does_22 : decode cX12_does 22 = .ok (.iload_n 1, 1) := by decide +kernel
theorem dX12_does_23 : decode cX12_does 23 = .ok (.bipush 110, 2) := by decide +kernel
theorem dX12_does_25 : decode cX12_does 25 = .ok (.if_icmp .ge 14, 3) := by decide +kernel
theorem dX12_does_28 : decode cX12_does 28 = .ok (.aload_n 0, 1) := by decide +kernel
theorem dX12_does_29 : decode cX12_does 29 = .ok (.iload_n 1, 1) := by decide +kernel
theorem dX12_does_30 : decode cX12_does 30 = .ok (.bipush 100, 2) := by decide +kernel
theorem dX12_does_32 : decode cX12_does 32 = .ok (.isub, 1) := by decide +kernel
theorem dX12_does_33 : decode cX12_does 33 = .ok (.invokevirtual 292, 3) := by decide +kernel
theorem dX12_does_36 : decode cX12_does 36 = .ok (.goto 49, 3) := by decide +kernel
theorem dX12_does_39 : decode cX12_does 39 = .ok (.iload_n 1, 1) := by decide +kernel
theorem dX12_does_40 : decode cX12_does 40 = .ok (.bipush 120, 2) := by decide +kernel
theorem dX12_does_42 : decode cX12_does 42 = .ok (.if_icmp .ge 27, 3) := by decide +kernel
theorem dX12_does_45 : decode cX12_does 45 = .ok (.aload_n 0, 1) := by decide +kernel
theorem dX12_does_46 : decode cX12_does 46 = .ok (.iload_n 1, 1) := by decide +kernel
theorem dX12_does_47 : decode cX12_does 47 = .ok (.bipush 110, 2) := by decide +kernel
theorem dX12_does_49 : decode cX12_does 49 = .ok (.isub, 1) := by decide +kernel
theorem dX12_does_50 : decode cX12_does 50 = .ok (.aload_n 0, 1) := by decide +kernel
theorem dX12_does_51 : decode cX12_does 51 = .ok (.getfield 13, 3) := by decide +kernel
theorem dX12_does_54 : decode cX12_does 54 = .ok (.bipush 60, 2) := by decide +kernel
theorem dX12_does_56 : decode cX12_does 56 = .ok (.iload_n 1, 1) := by decide +kernel
theorem dX12_does_57 : decode cX12_does 57 = .ok (.iadd, 1) := by decide +kernel
theorem dX12_does_58 : decode cX12_does 58 = .ok (.bipush 110, 2) := by decide +kernel
theorem dX12_does_60 : decode cX12_does 60 = .ok (.isub, 1) := by decide +kernel
theorem dX12_does_61 : decode cX12_does 61 = .ok (.iaload, 1) := by decide +kernel
theorem dX12_does_62 : decode cX12_does 62 = .ok (.ineg, 1) := by decide +kernel
theorem dX12_does_63 : decode cX12_does 63 = .ok (.invokevirtual 298, 3) := by decide +kernel
theorem dX12_does_66 : decode cX12_does 66 = .ok (.goto 19, 3) := by decide +kernel
theorem dX12_does_69 : decode cX12_does 69 = .ok (.aload_n 0, 1) := by decide +kernel
theorem dX12_does_70 : decode cX12_does 70 = .ok (.iload_n 1, 1) := by decide +kernel
theorem dX12_does_71 : decode cX12_does 71 = .ok (.sipush 1000, 3) := by decide +kernel
theorem dX12_does_74 : decode cX12_does 74 = .ok (.isub, 1) := by decide +kernel
theorem dX12_does_75 : decode cX12_does 75 = .ok (.bipush 100, 2) := by decide +kernel
theorem dX12_does_77 : decode cX12_does 77 = .ok (.idiv, 1) := by decide +kernel
theorem dX12_does_78 : decode cX12_does 78 = .ok (.iload_n 1, 1) := by decide +kernel
theorem dX12_does_79 : decode cX12_does 79 = .ok (.bipush 100, 2) := by decide +kernel
theorem dX12_does_81 : decode cX12_does 81 = .ok (.irem, 1) := by decide +kernel
theorem dX12_does_82 : decode cX12_does 82 = .ok (.invokevirtual 298, 3) := by decide +kernel
theorem dX12_does_85 : decode cX12_does 85 = .ok (.return_, 1) := by decide +kernel
set_option maxRecDepth 20000 in
theorem ggX12_tells_X12_whyNot : GoodIn wsX12_tells wsX12_whyNot := goodIn_r _ [8, 9, 10, 11, 12, 13, 14, 15, 16, 17, 18, 7, 19, 20, 21, 22, 23, 24, 25, 26, 27, 28, 29, 30, 31, 32, 33, 34, 35, 36, 37, 38, 39, 40, 41, 42, 43, 44, 45, 46, 47, 48, 49, 50, 51, 52, 53, 54, 55, 56, 57, 58, 117, 118, 119, 120, 121, 122, 123, 124, 125, 126, 127, 128, 129, 130, 131, 132, 133, 134, 135, 136, 137, 138, 139, 140, 141, 142, 143, 144, 145, 146, 147, 148, 149, 150, 151, 152] (by decide +kernel) (by decide +kernel)
set_option maxRecDepth 20000 in
theorem gX12_tells_X12_whyNot : GoodIn wsX12_tells (wsV RX12 324 RX12 yX12_whyNot wsX12_whyNot) := goodIn_app (goodIn_of _ (by decide +kernel)) ggX12_tells_X12_whyNot
set_option maxRecDepth 20000 in
theorem ggX12_tells_X12_does : GoodIn wsX12_tells wsX12_does := goodIn_r _ [62, 28, 63, 64, 65, 7, 66, 33, 34, 35, 36, 37, 38, 39, 67, 68, 69, 70, 71, 44, 45, 46, 72, 73, 74, 75, 76, 77, 78, 79, 80, 81, 82, 83, 84, 85, 86, 87, 88, 89, 90, 91, 92, 93, 94, 95, 96, 97, 98, 99, 100, 101, 102, 103, 104, 105, 106, 107, 108, 109, 110, 111, 112, 113, 114, 115, 116, 117, 118, 119, 120, 121, 122, 123, 124, 125, 126, 127, 128, 129, 130, 131, 132, 133, 134, 135, 136, 137, 138, 139, 140, 141, 142, 143, 144, 145, 146, 147, 148, 149, 150, 151, 152] (by decide +kernel) (by decide +kernel)
set_option maxRecDepth 20000 in
theorem gX12_tells_X12_does : GoodIn wsX12_tells (wsV RX12 327 RX12 yX12_does wsX12_does) := goodIn_app (goodIn_of _ (by decide +kernel)) ggX12_tells_X12_does
theorem dX12_tells_0 : decode cX12_tells 0 = .ok (.aload_n 0, 1) := by decide +kernel
theorem dX12_tells_1 : decode cX12_tells 1 = .ok (.iconst 0, 1) := by decide +kernel
theorem dX12_tells_2 : decode cX12_tells 2 = .ok (.putfield 321, 3) := by decide +kernel
theorem dX12_tells_5 : decode cX12_tells 5 = .ok (.iconst 0, 1) := by decide +kernel
theorem dX12_tells_6 : decode cX12_tells 6 = .ok (.istore_n 2, 1) := by decide +kernel
theorem dX12_tells_7 : decode cX12_tells 7 = .ok (.iload_n 2, 1) := by decide +kernel
theorem dX12_tells_8 : decode cX12_tells 8 = .ok (.aload_n 0, 1) := by decide +kernel
theorem dX12_tells_9 : decode cX12_tells 9 = .ok (.getfield 71, 3) := by decide +kernel
theorem dX12_tells_12 : decode cX12_tells 12 = .ok (.iload_n 1, 1) := by decide +kernel
theorem dX12_tells_13 : decode cX12_tells 13 = .ok (.iaload, 1) := by decide +kernel
theorem dX12_tells_14 : decode cX12_tells 14 = .ok (.if_icmp .ge 53, 3) := by decide +kernel
theorem dX12_tells_17 : decode cX12_tells 17 = .ok (.aload_n 0, 1) := by decide +kernel
theorem dX12_tells_18 : decode cX12_tells 18 = .ok (.aload_n 0, 1) := by decide +kernel
theorem dX12_tells_19 : decode cX12_tells 19 = .ok (.aload_n 0, 1) := by decide +kernel
theorem dX12_tells_20 : decode cX12_tells 20 = .ok (.getfield 74, 3) := by decide +kernel
theorem dX12_tells_23 : decode cX12_tells 23 = .ok (.bipush 40, 2) := by decide +kernel
theorem dX12_tells_25 : decode cX12_tells 25 = .ok (.iload_n 1, 1) := by decide +kernel
theorem dX12_tells_26 : decode cX12_tells 26 = .ok (.imul, 1) := by decide +kernel
theorem dX12_tells_27 : decode cX12_tells 27 = .ok (.iload_n 2, 1) := by decide +kernel
theorem dX12_tells_28 : decode cX12_tells 28 = .ok (.iadd, 1) := by decide +kernel
theorem dX12_tells_29 : decode cX12_tells 29 = .ok (.laload, 1) := by decide +kernel
theorem dX12_tells_30 : decode cX12_tells 30 = .ok (.invokevirtual 324, 3) := by decide +kernel
theorem dX12_tells_33 : decode cX12_tells 33 = .ok (.putfield 321, 3) := by decide +kernel
theorem dX12_tells_36 : decode cX12_tells 36 = .ok (.aload_n 0, 1) := by decide +kernel
theorem dX12_tells_37 : decode cX12_tells 37 = .ok (.getfield 321, 3) := by decide +kernel
theorem dX12_tells_40 : decode cX12_tells 40 = .ok (.ifCond .eq 5, 3) := by decide +kernel
theorem dX12_tells_43 : decode cX12_tells 43 = .ok (.iload_n 2, 1) := by decide +kernel
theorem dX12_tells_44 : decode cX12_tells 44 = .ok (.ireturn, 1) := by decide +kernel
theorem dX12_tells_45 : decode cX12_tells 45 = .ok (.aload_n 0, 1) := by decide +kernel
theorem dX12_tells_46 : decode cX12_tells 46 = .ok (.aload_n 0, 1) := by decide +kernel
theorem dX12_tells_47 : decode cX12_tells 47 = .ok (.getfield 74, 3) := by decide +kernel
theorem dX12_tells_50 : decode cX12_tells 50 = .ok (.bipush 40, 2) := by decide +kernel
theorem dX12_tells_52 : decode cX12_tells 52 = .ok (.iload_n 1, 1) := by decide +kernel
theorem dX12_tells_53 : decode cX12_tells 53 = .ok (.imul, 1) := by decide +kernel
theorem dX12_tells_54 : decode cX12_tells 54 = .ok (.iload_n 2, 1) := by decide +kernel
theorem dX12_tells_55 : decode cX12_tells 55 = .ok (.iadd, 1) := by decide +kernel
theorem dX12_tells_56 : decode cX12_tells 56 = .ok (.laload, 1) := by decide +kernel
theorem dX12_tells_57 : decode cX12_tells 57 = .ok (.l2i, 1) := by decide +kernel
theorem dX12_tells_58 : decode cX12_tells 58 = .ok (.invokevirtual 327, 3) := by decide +kernel
theorem dX12_tells_61 : decode cX12_tells 61 = .ok (.iinc 2 1, 3) := by decide +kernel
theorem dX12_tells_64 : decode cX12_tells 64 = .ok (.goto (-57), 3) := by decide +kernel
theorem dX12_tells_67 : decode cX12_tells 67 = .ok (.aload_n 0, 1) := by decide +kernel
theorem dX12_tells_68 : decode cX12_tells 68 = .ok (.getfield 71, 3) := by decide +kernel
theorem dX12_tells_71 : decode cX12_tells 71 = .ok (.iload_n 1, 1) := by decide +kernel
theorem dX12_tells_72 : decode cX12_tells 72 = .ok (.iaload, 1) := by decide +kernel
theorem dX12_tells_73 : decode cX12_tells 73 = .ok (.ireturn, 1) := by decide +kernel
set_option maxRecDepth 20000 in
theorem ggX12_noTray_X12_within : GoodIn wsX12_noTray wsX12_within := goodIn_r _ [8] (by decide +kernel) (by decide +kernel)
set_option maxRecDepth 20000 in
theorem gX12_noTray_X12_within : GoodIn wsX12_noTray (va_wsS RX12 144 yX12_within wsX12_within) := goodIn_app (goodIn_of _ (by decide +kernel)) ggX12_noTray_X12_within
theorem dX12_noTray_0 : decode cX12_noTray 0 = .ok (.iload_n 1, 1) := by decide +kernel
theorem dX12_noTray_1 : decode cX12_noTray 1 = .ok (.i2l, 1) := by decide +kernel
theorem dX12_noTray_2 : decode cX12_noTray 2 = .ok (.lconst 0, 1) := by decide +kernel
theorem dX12_noTray_3 : decode cX12_noTray 3 = .ok (.ldc2_w 330, 3) := by decide +kernel
theorem dX12_noTray_6 : decode cX12_noTray 6 = .ok (.invokestatic 144, 3) := by decide +kernel
theorem dX12_noTray_9 : decode cX12_noTray 9 = .ok (.ifCond .ne 8, 3) := by decide +kernel
theorem dX12_noTray_12 : decode cX12_noTray 12 = .ok (.ldc 249, 2) := by decide +kernel
theorem dX12_noTray_14 : decode cX12_noTray 14 = .ok (.goto 20, 3) := by decide +kernel
theorem dX12_noTray_17 : decode cX12_noTray 17 = .ok (.aload_n 0, 1) := by decide +kernel
theorem dX12_noTray_18 : decode cX12_noTray 18 = .ok (.getfield 68, 3) := by decide +kernel
theorem dX12_noTray_21 : decode cX12_noTray 21 = .ok (.iload_n 1, 1) := by decide +kernel
theorem dX12_noTray_22 : decode cX12_noTray 22 = .ok (.iaload, 1) := by decide +kernel
theorem dX12_noTray_23 : decode cX12_noTray 23 = .ok (.iconst (-1), 1) := by decide +kernel
theorem dX12_noTray_24 : decode cX12_noTray 24 = .ok (.if_icmp .ne 9, 3) := by decide +kernel
theorem dX12_noTray_27 : decode cX12_noTray 27 = .ok (.ldc_w 332, 3) := by decide +kernel
theorem dX12_noTray_30 : decode cX12_noTray 30 = .ok (.goto 4, 3) := by decide +kernel
theorem dX12_noTray_33 : decode cX12_noTray 33 = .ok (.iconst 0, 1) := by decide +kernel
theorem dX12_noTray_34 : decode cX12_noTray 34 = .ok (.ireturn, 1) := by decide +kernel
theorem dX12_hasAll_0 : decode cX12_hasAll 0 = .ok (.iconst 0, 1) := by decide +kernel
theorem dX12_hasAll_1 : decode cX12_hasAll 1 = .ok (.istore_n 1, 1) := by decide +kernel
theorem dX12_hasAll_2 : decode cX12_hasAll 2 = .ok (.iconst 0, 1) := by decide +kernel
theorem dX12_hasAll_3 : decode cX12_hasAll 3 = .ok (.istore_n 2, 1) := by decide +kernel
theorem dX12_hasAll_4 : decode cX12_hasAll 4 = .ok (.iload_n 2, 1) := by decide +kernel
theorem dX12_hasAll_5 : decode cX12_hasAll 5 = .ok (.aload_n 0, 1) := by decide +kernel
theorem dX12_hasAll_6 : decode cX12_hasAll 6 = .ok (.getfield 13, 3) := by decide +kernel
theorem dX12_hasAll_9 : decode cX12_hasAll 9 = .ok (.iconst 3, 1) := by decide +kernel
theorem dX12_hasAll_10 : decode cX12_hasAll 10 = .ok (.iaload, 1) := by decide +kernel
theorem dX12_hasAll_11 : decode cX12_hasAll 11 = .ok (.if_icmp .ge 21, 3) := by decide +kernel
theorem dX12_hasAll_14 : decode cX12_hasAll 14 = .ok (.iload_n 1, 1) := by decide +kernel
theorem dX12_hasAll_15 : decode cX12_hasAll 15 = .ok (.aload_n 0, 1) := by decide +kernel
theorem dX12_hasAll_16 : decode cX12_hasAll 16 = .ok (.getfield 13, 3) := by decide +kernel
theorem dX12_hasAll_19 : decode cX12_hasAll 19 = .ok (.bipush 30, 2) := by decide +kernel
theorem dX12_hasAll_21 : decode cX12_hasAll 21 = .ok (.iload_n 2, 1) := by decide +kernel
theorem dX12_hasAll_22 : decode cX12_hasAll 22 = .ok (.iadd, 1) := by decide +kernel
theorem dX12_hasAll_23 : decode cX12_hasAll 23 = .ok (.iaload, 1) := by decide +kernel
theorem dX12_hasAll_24 : decode cX12_hasAll 24 = .ok (.iadd, 1) := by decide +kernel
theorem dX12_hasAll_25 : decode cX12_hasAll 25 = .ok (.istore_n 1, 1) := by decide +kernel
theorem dX12_hasAll_26 : decode cX12_hasAll 26 = .ok (.iinc 2 1, 3) := by decide +kernel
theorem dX12_hasAll_29 : decode cX12_hasAll 29 = .ok (.goto (-25), 3) := by decide +kernel
theorem dX12_hasAll_32 : decode cX12_hasAll 32 = .ok (.iload_n 1, 1) := by decide +kernel
theorem dX12_hasAll_33 : decode cX12_hasAll 33 = .ok (.ireturn, 1) := by decide +kernel
theorem dX12_inSecond_0 : decode cX12_inSecond 0 = .ok (.iconst 0, 1) := by decide +kernel
theorem dX12_inSecond_1 : decode cX12_inSecond 1 = .ok (.istore_n 1, 1) := by decide +kernel
theorem dX12_inSecond_2 : decode cX12_inSecond 2 = .ok (.iconst 0, 1) := by decide +kernel
theorem dX12_inSecond_3 : decode cX12_inSecond 3 = .ok (.istore_n 2, 1) := by decide +kernel
theorem dX12_inSecond_4 : decode cX12_inSecond 4 = .ok (.iload_n 2, 1) := by decide +kernel
theorem dX12_inSecond_5 : decode cX12_inSecond 5 = .ok (.aload_n 0, 1) := by decide +kernel
theorem dX12_inSecond_6 : decode cX12_inSecond 6 = .ok (.getfield 13, 3) := by decide +kernel
theorem dX12_inSecond_9 : decode cX12_inSecond 9 = .ok (.iconst 3, 1) := by decide +kernel
theorem dX12_inSecond_10 : decode cX12_inSecond 10 = .ok (.iaload, 1) := by decide +kernel
theorem dX12_inSecond_11 : decode cX12_inSecond 11 = .ok (.if_icmp .ge 32, 3) := by decide +kernel
theorem dX12_inSecond_14 : decode cX12_inSecond 14 = .ok (.iload_n 1, 1) := by decide +kernel
theorem dX12_inSecond_15 : decode cX12_inSecond 15 = .ok (.aload_n 0, 1) := by decide +kernel
theorem dX12_inSecond_16 : decode cX12_inSecond 16 = .ok (.getfield 13, 3) := by decide +kernel
theorem dX12_inSecond_19 : decode cX12_inSecond 19 = .ok (.bipush 24, 2) := by decide +kernel
theorem dX12_inSecond_21 : decode cX12_inSecond 21 = .ok (.iload_n 2, 1) := by decide +kernel
theorem dX12_inSecond_22 : decode cX12_inSecond 22 = .ok (.iadd, 1) := by decide +kernel
theorem dX12_inSecond_23 : decode cX12_inSecond 23 = .ok (.iaload, 1) := by decide +kernel
theorem dX12_inSecond_24 : decode cX12_inSecond 24 = .ok (.iconst 2, 1) := by decide +kernel
theorem dX12_inSecond_25 : decode cX12_inSecond 25 = .ok (.if_icmp .ne 9, 3) := by decide +kernel
theorem dX12_inSecond_28 : decode cX12_inSecond 28 = .ok (.iconst 1, 1) := by decide +kernel
theorem dX12_inSecond_29 : decode cX12_inSecond 29 = .ok (.iload_n 2, 1) := by decide +kernel
theorem dX12_inSecond_30 : decode cX12_inSecond 30 = .ok (.ishl, 1) := by decide +kernel
theorem dX12_inSecond_31 : decode cX12_inSecond 31 = .ok (.goto 4, 3) := by decide +kernel
theorem dX12_inSecond_34 : decode cX12_inSecond 34 = .ok (.iconst 0, 1) := by decide +kernel
theorem dX12_inSecond_35 : decode cX12_inSecond 35 = .ok (.ior, 1) := by decide +kernel
theorem dX12_inSecond_36 : decode cX12_inSecond 36 = .ok (.istore_n 1, 1) := by decide +kernel
theorem dX12_inSecond_37 : decode cX12_inSecond 37 = .ok (.iinc 2 1, 3) := by decide +kernel
theorem dX12_inSecond_40 : decode cX12_inSecond 40 = .ok (.goto (-36), 3) := by decide +kernel
theorem dX12_inSecond_43 : decode cX12_inSecond 43 = .ok (.iload_n 1, 1) := by decide +kernel
theorem dX12_inSecond_44 : decode cX12_inSecond 44 = .ok (.ireturn, 1) := by decide +kernel
set_option maxRecDepth 20000 in
theorem ggX12_judge_X12_within : GoodIn wsX12_judge wsX12_within := goodIn_r _ [8] (by decide +kernel) (by decide +kernel)
set_option maxRecDepth 20000 in
theorem gX12_judge_X12_within : GoodIn wsX12_judge (va_wsS RX12 144 yX12_within wsX12_within) := goodIn_app (goodIn_of _ (by decide +kernel)) ggX12_judge_X12_within
set_option maxRecDepth 20000 in
theorem ggX12_judge_X12_noTray : GoodIn wsX12_judge wsX12_noTray := goodIn_r _ [12, 2, 3, 13, 14, 5, 6, 7, 8, 147, 148, 149, 150, 151, 152, 153, 154, 155, 156, 157, 158, 159, 160, 161, 162, 163, 164, 165, 166, 167, 168, 169, 170, 171, 172, 173, 174, 175, 176, 177, 178, 179, 180, 181, 182] (by decide +kernel) (by decide +kernel)
set_option maxRecDepth 20000 in
theorem gX12_judge_X12_noTray : GoodIn wsX12_judge (wsV RX12 333 RX12 yX12_noTray wsX12_noTray) := goodIn_app (goodIn_of _ (by decide +kernel)) ggX12_judge_X12_noTray
set_option maxRecDepth 20000 in
theorem ggX12_judge_X12_keeps : GoodIn wsX12_judge wsX12_keeps := goodIn_r _ [18, 19, 20, 147, 148, 149, 150, 151, 152, 153, 154, 155, 156, 157, 158, 159, 160, 161, 162, 163, 164, 165, 166, 167, 168, 169, 170, 171, 172, 173, 174, 175, 176, 177, 178, 179, 180, 181, 182] (by decide +kernel) (by decide +kernel)
set_option maxRecDepth 20000 in
theorem gX12_judge_X12_keeps : GoodIn wsX12_judge (wsV RX12 283 RX12 yX12_keeps wsX12_keeps) := goodIn_app (goodIn_of _ (by decide +kernel)) ggX12_judge_X12_keeps
set_option maxRecDepth 20000 in
theorem ggX12_judge_X12_tells : GoodIn wsX12_judge wsX12_tells := goodIn_r _ [24, 4, 25, 26, 27, 28, 29, 7, 30, 31, 32, 33, 34, 35, 36, 37, 38, 5, 6, 8, 39, 40, 41, 42, 43, 44, 45, 46, 20, 47, 48, 49, 50, 51, 52, 53, 54, 55, 56, 57, 58, 59, 60, 61, 62, 63, 64, 65, 66, 67, 68, 69, 70, 71, 72, 73, 74, 75, 76, 77, 78, 79, 80, 81, 82, 83, 84, 85, 86, 87, 88, 89, 90, 91, 92, 93, 94, 95, 96, 97, 98, 99, 100, 101, 102, 103, 104, 105, 106, 107, 108, 109, 110, 111, 112, 113, 114, 115, 116, 117, 118, 119, 120, 121, 122, 123, 124, 125, 126, 127, 128, 129, 130, 131, 132, 133, 134, 147, 148, 149, 150, 151, 152, 153, 154, 155, 156, 157, 158, 159, 160, 161, 162, 163, 164, 165, 166, 167, 168, 169, 170, 171, 172, 173, 174, 175, 176, 177, 178, 179, 180, 181, 182] (by decide +kernel) (by decide +kernel)
set_option maxRecDepth 20000 in
theorem gX12_judge_X12_tells : GoodIn wsX12_judge (wsV RX12 336 RX12 yX12_tells wsX12_tells) := goodIn_app (goodIn_of _ (by decide +kernel)) ggX12_judge_X12_tells
set_option maxRecDepth 20000 in
theorem ggX12_judge_X12_hasAll : GoodIn wsX12_judge wsX12_hasAll := goodIn_r _ [138, 20, 147, 148, 149, 150, 151, 152, 153, 154, 155, 156, 157, 158, 159, 160, 161, 162, 163, 164, 165, 166, 167, 168, 169, 170, 171, 172, 173, 174, 175, 176, 177, 178, 179, 180, 181, 182] (by decide +kernel) (by decide +kernel)
set_option maxRecDepth 20000 in
theorem gX12_judge_X12_hasAll : GoodIn wsX12_judge (wsV RX12 339 RX12 yX12_hasAll wsX12_hasAll) := goodIn_app (goodIn_of _ (by decide +kernel)) ggX12_judge_X12_hasAll
set_option maxRecDepth 20000 in
theorem ggX12_judge_X12_inSecond : GoodIn wsX12_judge wsX12_inSecond := goodIn_r _ [142, 20, 147, 148, 149, 150, 151, 152, 153, 154, 155, 156, 157, 158, 159, 160, 161, 162, 163, 164, 165, 166, 167, 168, 169, 170, 171, 172, 173, 174, 175, 176, 177, 178, 179, 180, 181, 182] (by decide +kernel) (by decide +kernel)
set_option maxRecDepth 20000 in
theorem gX12_judge_X12_inSecond : GoodIn wsX12_judge (wsV RX12 342 RX12 yX12_inSecond wsX12_inSecond) := goodIn_app (goodIn_of _ (by decide +kernel)) ggX12_judge_X12_inSecond
set_option maxRecDepth 20000 in
theorem ggX12_judge_X12_isAgain : GoodIn wsX12_judge wsX12_isAgain := goodIn_r _ [146, 20, 19, 147, 148, 149, 150, 151, 152, 153, 154, 155, 156, 157, 158, 159, 160, 161, 162, 163, 164, 165, 166, 167, 168, 169, 170, 171, 172, 173, 174, 175, 176, 177, 178, 179, 180, 181, 182] (by decide +kernel) (by decide +kernel)
set_option maxRecDepth 20000 in
theorem gX12_judge_X12_isAgain : GoodIn wsX12_judge (wsV RX12 345 RX12 yX12_isAgain wsX12_isAgain) := goodIn_app (goodIn_of _ (by decide +kernel)) ggX12_judge_X12_isAgain
theorem dX12_judge_0 : decode cX12_judge 0 = .ok (.aload_n 0, 1) := by decide +kernel
theorem dX12_judge_1 : decode cX12_judge 1 = .ok (.iconst 0, 1) := by decide +kernel
theorem dX12_judge_2 : decode cX12_judge 2 = .ok (.putfield 1, 3) := by decide +kernel
theorem dX12_judge_5 : decode cX12_judge 5 = .ok (.iload_n 2, 1) := by decide +kernel
theorem dX12_judge_6 : decode cX12_judge 6 = .ok (.i2l, 1) := by decide +kernel
theorem dX12_judge_7 : decode cX12_judge 7 = .ok (.lconst 0, 1) := by decide +kernel
theorem dX12_judge_8 : decode cX12_judge 8 = .ok (.ldc2_w 330, 3) := by decide +kernel
theorem dX12_judge_11 : decode cX12_judge 11 = .ok (.invokestatic 144, 3) := by decide +kernel
theorem dX12_judge_14 : decode cX12_judge 14 = .ok (.ifCond .ne 6, 3) := by decide +kernel
theorem dX12_judge_17 : decode cX12_judge 17 = .ok (.ldc 249, 2) := by decide +kernel
theorem dX12_judge_19 : decode cX12_judge 19 = .ok (.ireturn, 1) := by decide +kernel
theorem dX12_judge_20 : decode cX12_judge 20 = .ok (.aload_n 0, 1) := by decide +kernel
theorem dX12_judge_21 : decode cX12_judge 21 = .ok (.iload_n 1, 1) := by decide +kernel
theorem dX12_judge_22 : decode cX12_judge 22 = .ok (.invokevirtual 333, 3) := by decide +kernel
theorem dX12_judge_25 : decode cX12_judge 25 = .ok (.istore_n 3, 1) := by decide +kernel
theorem dX12_judge_26 : decode cX12_judge 26 = .ok (.iload_n 3, 1) := by decide +kernel
theorem dX12_judge_27 : decode cX12_judge 27 = .ok (.ifCond .eq 5, 3) := by decide +kernel
theorem dX12_judge_30 : decode cX12_judge 30 = .ok (.iload_n 3, 1) := by decide +kernel
theorem dX12_judge_31 : decode cX12_judge 31 = .ok (.ireturn, 1) := by decide +kernel
theorem dX12_judge_32 : decode cX12_judge 32 = .ok (.aload_n 0, 1) := by decide +kernel
theorem dX12_judge_33 : decode cX12_judge 33 = .ok (.invokevirtual 283, 3) := by decide +kernel
theorem dX12_judge_36 : decode cX12_judge 36 = .ok (.aload_n 0, 1) := by decide +kernel
theorem dX12_judge_37 : decode cX12_judge 37 = .ok (.iload_n 1, 1) := by decide +kernel
theorem dX12_judge_38 : decode cX12_judge 38 = .ok (.invokevirtual 336, 3) := by decide +kernel
theorem dX12_judge_41 : decode cX12_judge 41 = .ok (.istore 4, 2) := by decide +kernel
theorem dX12_judge_43 : decode cX12_judge 43 = .ok (.aload_n 0, 1) := by decide +kernel
theorem dX12_judge_44 : decode cX12_judge 44 = .ok (.invokevirtual 339, 3) := by decide +kernel
theorem dX12_judge_47 : decode cX12_judge 47 = .ok (.istore 5, 2) := by decide +kernel
theorem dX12_judge_49 : decode cX12_judge 49 = .ok (.aload_n 0, 1) := by decide +kernel
theorem dX12_judge_50 : decode cX12_judge 50 = .ok (.invokevirtual 342, 3) := by decide +kernel
theorem dX12_judge_53 : decode cX12_judge 53 = .ok (.istore 6, 2) := by decide +kernel
theorem dX12_judge_55 : decode cX12_judge 55 = .ok (.aload_n 0, 1) := by decide +kernel
theorem dX12_judge_56 : decode cX12_judge 56 = .ok (.invokevirtual 345, 3) := by decide +kernel
theorem dX12_judge_59 : decode cX12_judge 59 = .ok (.iload_n 2, 1) := by decide +kernel
theorem dX12_judge_60 : decode cX12_judge 60 = .ok (.ifCond .ne 19, 3) := by decide +kernel
theorem dX12_judge_63 : decode cX12_judge 63 = .ok (.aload_n 0, 1) := by decide +kernel
theorem dX12_judge_64 : decode cX12_judge 64 = .ok (.getfield 321, 3) := by decide +kernel
theorem dX12_judge_67 : decode cX12_judge 67 = .ok (.ifCond .ne 7, 3) := by decide +kernel
theorem dX12_judge_70 : decode cX12_judge 70 = .ok (.iconst (-1), 1) := by decide +kernel
theorem dX12_judge_71 : decode cX12_judge 71 = .ok (.goto 32, 3) := by decide +kernel
theorem dX12_judge_74 : decode cX12_judge 74 = .ok (.iload 4, 2) := by decide +kernel
theorem dX12_judge_76 : decode cX12_judge 76 = .ok (.goto 27, 3) := by decide +kernel
theorem dX12_judge_79 : decode cX12_judge 79 = .ok (.iload_n 2, 1) := by decide +kernel
theorem dX12_judge_80 : decode cX12_judge 80 = .ok (.iconst 1, 1) := by decide +kernel
theorem dX12_judge_81 : decode cX12_judge 81 = .ok (.if_icmp .ne 10, 3) := by decide +kernel
theorem dX12_judge_84 : decode cX12_judge 84 = .ok (.aload_n 0, 1) := by decide +kernel
theorem dX12_judge_85 : decode cX12_judge 85 = .ok (.getfield 321, 3) := by decide +kernel
theorem dX12_judge_88 : decode cX12_judge 88 = .ok (.goto 15, 3) := by decide +kernel
theorem dX12_judge_91 : decode cX12_judge 91 = .ok (.iload_n 2, 1) := by decide +kernel
theorem dX12_judge_92 : decode cX12_judge 92 = .ok (.iconst 2, 1) := by decide +kernel
theorem dX12_judge_93 : decode cX12_judge 93 = .ok (.if_icmp .ne 8, 3) := by decide +kernel
theorem dX12_judge_96 : decode cX12_judge 96 = .ok (.iload 5, 2) := by decide +kernel
theorem dX12_judge_98 : decode cX12_judge 98 = .ok (.goto 5, 3) := by decide +kernel
theorem dX12_judge_101 : decode cX12_judge 101 = .ok (.iload 6, 2) := by decide +kernel
theorem dX12_judge_103 : decode cX12_judge 103 = .ok (.ireturn, 1) := by decide +kernel
set_option maxRecDepth 20000 in
theorem ggX12_perform_X12_noTray : GoodIn wsX12_perform wsX12_noTray := goodIn_r _ [6, 7, 8, 9, 10, 11, 12, 5, 13, 139, 140, 141, 142, 143, 144, 145, 146, 147, 148, 149, 150, 151, 152, 153, 154, 155, 156, 157, 158, 159, 160, 161, 162, 163, 164, 165, 166, 167, 168, 169, 170, 171, 172, 173, 174] (by decide +kernel) (by decide +kernel)
set_option maxRecDepth 20000 in
theorem gX12_perform_X12_noTray : GoodIn wsX12_perform (wsV RX12 333 RX12 yX12_noTray wsX12_noTray) := goodIn_app (goodIn_of _ (by decide +kernel)) ggX12_perform_X12_noTray
set_option maxRecDepth 20000 in
theorem ggX12_perform_X12_keeps : GoodIn wsX12_perform wsX12_keeps := goodIn_r _ [17, 18, 19, 139, 140, 141, 142, 143, 144, 145, 146, 147, 148, 149, 150, 151, 152, 153, 154, 155, 156, 157, 158, 159, 160, 161, 162, 163, 164, 165, 166, 167, 168, 169, 170, 171, 172, 173, 174] (by decide +kernel) (by decide +kernel)
set_option maxRecDepth 20000 in
theorem gX12_perform_X12_keeps : GoodIn wsX12_perform (wsV RX12 283 RX12 yX12_keeps wsX12_keeps) := goodIn_app (goodIn_of _ (by decide +kernel)) ggX12_perform_X12_keeps
set_option maxRecDepth 20000 in
theorem ggX12_perform_X12_tells : GoodIn wsX12_perform wsX12_tells := goodIn_r _ [23, 24, 25, 26, 27, 28, 29, 5, 30, 31, 32, 33, 34, 35, 36, 37, 38, 11, 12, 13, 39, 40, 41, 42, 43, 44, 45, 46, 19, 47, 48, 49, 50, 51, 52, 53, 54, 55, 56, 57, 58, 59, 60, 61, 62, 63, 64, 65, 66, 67, 68, 69, 70, 71, 72, 73, 74, 75, 76, 77, 78, 79, 80, 81, 82, 83, 84, 85, 86, 87, 88, 89, 90, 91, 92, 93, 94, 95, 96, 97, 98, 99, 100, 101, 102, 103, 104, 105, 106, 107, 108, 109, 110, 111, 112, 113, 114, 115, 116, 117, 118, 119, 120, 121, 122, 123, 124, 125, 126, 127, 128, 129, 130, 131, 132, 133, 134, 139, 140, 141, 142, 143, 144, 145, 146, 147, 148, 149, 150, 151, 152, 153, 154, 155, 156, 157, 158, 159, 160, 161, 162, 163, 164, 165, 166, 167, 168, 169, 170, 171, 172, 173, 174] (by decide +kernel) (by decide +kernel)
set_option maxRecDepth 20000 in
theorem gX12_perform_X12_tells : GoodIn wsX12_perform (wsV RX12 336 RX12 yX12_tells wsX12_tells) := goodIn_app (goodIn_of _ (by decide +kernel)) ggX12_perform_X12_tells
set_option maxRecDepth 20000 in
theorem ggX12_perform_X12_notes : GoodIn wsX12_perform wsX12_notes := goodIn_r _ [138, 19, 18, 139, 140, 141, 142, 143, 144, 145, 146, 147, 148, 149, 150, 151, 152, 153, 154, 155, 156, 157, 158, 159, 160, 161, 162, 163, 164, 165, 166, 167, 168, 169, 170, 171, 172, 173, 174] (by decide +kernel) (by decide +kernel)
set_option maxRecDepth 20000 in
theorem gX12_perform_X12_notes : GoodIn wsX12_perform (wsV RX12 289 RX12 yX12_notes wsX12_notes) := goodIn_app (goodIn_of _ (by decide +kernel)) ggX12_perform_X12_notes
theorem dX12_perform_0 : decode cX12_perform 0 = .ok (.aload_n 0, 1) := by decide +kernel
theorem dX12_perform_1 : decode cX12_perform 1 = .ok (.iconst 0, 1) := by decide +kernel
theorem dX12_perform_2 : decode cX12_perform 2 = .ok (.putfield 1, 3) := by decide +kernel
theorem dX12_perform_5 : decode cX12_perform 5 = .ok (.aload_n 0, 1) := by decide +kernel
theorem dX12_perform_6 : decode cX12_perform 6 = .ok (.iload_n 1, 1) := by decide +kernel
theorem dX12_perform_7 : decode cX12_perform 7 = .ok (.invokevirtual 333, 3) := by decide +kernel
theorem dX12_perform_10 : decode cX12_perform 10 = .ok (.istore_n 2, 1) := by decide +kernel
theorem dX12_perform_11 : decode cX12_perform 11 = .ok (.iload_n 2, 1) := by decide +kernel
theorem dX12_perform_12 : decode cX12_perform 12 = .ok (.ifCond .eq 5, 3) := by decide +kernel
theorem dX12_perform_15 : decode cX12_perform 15 = .ok (.iload_n 2, 1) := by decide +kernel
theorem dX12_perform_16 : decode cX12_perform 16 = .ok (.ireturn, 1) := by decide +kernel
theorem dX12_perform_17 : decode cX12_perform 17 = .ok (.aload_n 0, 1) := by decide +kernel
theorem dX12_perform_18 : decode cX12_perform 18 = .ok (.invokevirtual 283, 3) := by decide +kernel
theorem dX12_perform_21 : decode cX12_perform 21 = .ok (.aload_n 0, 1) := by decide +kernel
theorem dX12_perform_22 : decode cX12_perform 22 = .ok (.iload_n 1, 1) := by decide +kernel
theorem dX12_perform_23 : decode cX12_perform 23 = .ok (.invokevirtual 336, 3) := by decide +kernel
theorem dX12_perform_26 : decode cX12_perform 26 = .ok (.istore_n 3, 1) := by decide +kernel
theorem dX12_perform_27 : decode cX12_perform 27 = .ok (.iload_n 3, 1) := by decide +kernel
theorem dX12_perform_28 : decode cX12_perform 28 = .ok (.ifCond .le 7, 3) := by decide +kernel
theorem dX12_perform_31 : decode cX12_perform 31 = .ok (.aload_n 0, 1) := by decide +kernel
theorem dX12_perform_32 : decode cX12_perform 32 = .ok (.invokevirtual 289, 3) := by decide +kernel
theorem dX12_perform_35 : decode cX12_perform 35 = .ok (.iload_n 3, 1) := by decide +kernel
theorem dX12_perform_36 : decode cX12_perform 36 = .ok (.ireturn, 1) := by decide +kernel
theorem dX12_lot_0 : decode cX12_lot 0 = .ok (.aload_n 0, 1) := by decide +kernel
theorem dX12_lot_1 : decode cX12_lot 1 = .ok (.ldc_w 348, 3) := by decide +kernel
theorem dX12_lot_4 : decode cX12_lot 4 = .ok (.aload_n 0, 1) := by decide +kernel
theorem dX12_lot_5 : decode cX12_lot 5 = .ok (.getfield 349, 3) := by decide +kernel
theorem dX12_lot_8 : decode cX12_lot 8 = .ok (.imul, 1) := by decide +kernel
theorem dX12_lot_9 : decode cX12_lot 9 = .ok (.sipush 12345, 3) := by decide +kernel
theorem dX12_lot_12 : decode cX12_lot 12 = .ok (.iadd, 1) := by decide +kernel
theorem dX12_lot_13 : decode cX12_lot 13 = .ok (.putfield 349, 3) := by decide +kernel
theorem dX12_lot_16 : decode cX12_lot 16 = .ok (.aload_n 0, 1) := by decide +kernel
theorem dX12_lot_17 : decode cX12_lot 17 = .ok (.getfield 349, 3) := by decide +kernel
theorem dX12_lot_20 : decode cX12_lot 20 = .ok (.bipush 16, 2) := by decide +kernel
theorem dX12_lot_22 : decode cX12_lot 22 = .ok (.iushr, 1) := by decide +kernel
theorem dX12_lot_23 : decode cX12_lot 23 = .ok (.iload_n 1, 1) := by decide +kernel
theorem dX12_lot_24 : decode cX12_lot 24 = .ok (.irem, 1) := by decide +kernel
theorem dX12_lot_25 : decode cX12_lot 25 = .ok (.ireturn, 1) := by decide +kernel
set_option maxRecDepth 20000 in
theorem ggX12_drawn_X12_lot : GoodIn wsX12_drawn wsX12_lot := goodIn_r _ [5, 6, 7, 8, 9, 10, 11, 12, 13, 14, 15, 16, 17, 18, 19, 20, 21, 22, 23, 24, 25, 26, 27, 28, 29, 30, 31, 32, 33, 34, 35, 36, 37, 38, 39, 40, 41, 42, 43] (by decide +kernel) (by decide +kernel)
set_option maxRecDepth 20000 in
theorem gX12_drawn_X12_lot : GoodIn wsX12_drawn (wsV RX12 352 RX12 yX12_lot wsX12_lot) := goodIn_app (goodIn_of _ (by decide +kernel)) ggX12_drawn_X12_lot
theorem dX12_drawn_0 : decode cX12_drawn 0 = .ok (.aload_n 0, 1) := by decide +kernel
theorem dX12_drawn_1 : decode cX12_drawn 1 = .ok (.bipush 6, 2) := by decide +kernel
theorem dX12_drawn_3 : decode cX12_drawn 3 = .ok (.invokevirtual 352, 3) := by decide +kernel
theorem dX12_drawn_6 : decode cX12_drawn 6 = .ok (.istore_n 1, 1) := by decide +kernel
theorem dX12_drawn_7 : decode cX12_drawn 7 = .ok (.aload_n 0, 1) := by decide +kernel
theorem dX12_drawn_8 : decode cX12_drawn 8 = .ok (.bipush 6, 2) := by decide +kernel
theorem dX12_drawn_10 : decode cX12_drawn 10 = .ok (.invokevirtual 352, 3) := by decide +kernel
theorem dX12_drawn_13 : decode cX12_drawn 13 = .ok (.istore_n 2, 1) := by decide +kernel
theorem dX12_drawn_14 : decode cX12_drawn 14 = .ok (.iload_n 1, 1) := by decide +kernel
theorem dX12_drawn_15 : decode cX12_drawn 15 = .ok (.iconst 4, 1) := by decide +kernel
theorem dX12_drawn_16 : decode cX12_drawn 16 = .ok (.if_icmp .ge 16, 3) := by decide +kernel
theorem dX12_drawn_19 : decode cX12_drawn 19 = .ok (.bipush 10, 2) := by decide +kernel
theorem dX12_drawn_21 : decode cX12_drawn 21 = .ok (.iload_n 2, 1) := by decide +kernel
theorem dX12_drawn_22 : decode cX12_drawn 22 = .ok (.imul, 1) := by decide +kernel
theorem dX12_drawn_23 : decode cX12_drawn 23 = .ok (.aload_n 0, 1) := by decide +kernel
theorem dX12_drawn_24 : decode cX12_drawn 24 = .ok (.iconst 4, 1) := by decide +kernel
theorem dX12_drawn_25 : decode cX12_drawn 25 = .ok (.invokevirtual 352, 3) := by decide +kernel
theorem dX12_drawn_28 : decode cX12_drawn 28 = .ok (.iadd, 1) := by decide +kernel
theorem dX12_drawn_29 : decode cX12_drawn 29 = .ok (.goto 30, 3) := by decide +kernel
theorem dX12_drawn_32 : decode cX12_drawn 32 = .ok (.iload_n 1, 1) := by decide +kernel
theorem dX12_drawn_33 : decode cX12_drawn 33 = .ok (.iconst 4, 1) := by decide +kernel
theorem dX12_drawn_34 : decode cX12_drawn 34 = .ok (.if_icmp .ne 10, 3) := by decide +kernel
theorem dX12_drawn_37 : decode cX12_drawn 37 = .ok (.bipush 100, 2) := by decide +kernel
theorem dX12_drawn_39 : decode cX12_drawn 39 = .ok (.iload_n 2, 1) := by decide +kernel
theorem dX12_drawn_40 : decode cX12_drawn 40 = .ok (.iadd, 1) := by decide +kernel
theorem dX12_drawn_41 : decode cX12_drawn 41 = .ok (.goto 18, 3) := by decide +kernel
theorem dX12_drawn_44 : decode cX12_drawn 44 = .ok (.sipush 1001, 3) := by decide +kernel
theorem dX12_drawn_47 : decode cX12_drawn 47 = .ok (.bipush 100, 2) := by decide +kernel
theorem dX12_drawn_49 : decode cX12_drawn 49 = .ok (.iload_n 2, 1) := by decide +kernel
theorem dX12_drawn_50 : decode cX12_drawn 50 = .ok (.imul, 1) := by decide +kernel
theorem dX12_drawn_51 : decode cX12_drawn 51 = .ok (.iadd, 1) := by decide +kernel
theorem dX12_drawn_52 : decode cX12_drawn 52 = .ok (.aload_n 0, 1) := by decide +kernel
theorem dX12_drawn_53 : decode cX12_drawn 53 = .ok (.bipush 9, 2) := by decide +kernel
theorem dX12_drawn_55 : decode cX12_drawn 55 = .ok (.invokevirtual 352, 3) := by decide +kernel
theorem dX12_drawn_58 : decode cX12_drawn 58 = .ok (.iadd, 1) := by decide +kernel
theorem dX12_drawn_59 : decode cX12_drawn 59 = .ok (.ireturn, 1) := by decide +kernel
set_option maxRecDepth 20000 in
theorem ggX12_season_X12_within : GoodIn wsX12_season wsX12_within := goodIn_r _ [8] (by decide +kernel) (by decide +kernel)
set_option maxRecDepth 20000 in
theorem gX12_season_X12_within : GoodIn wsX12_season (va_wsS RX12 144 yX12_within wsX12_within) := goodIn_app (goodIn_of _ (by decide +kernel)) ggX12_season_X12_within
set_option maxRecDepth 20000 in
theorem ggX12_season_X12_keeps : GoodIn wsX12_season wsX12_keeps := goodIn_r _ [12, 13, 14, 136, 137, 138, 139, 140, 141, 142, 143, 144, 145, 146, 147, 148, 149, 150, 151, 152, 153, 154, 155, 156, 157, 158, 159, 160, 161, 162, 163, 164, 165, 166, 167, 168, 169, 170, 171] (by decide +kernel) (by decide +kernel)
set_option maxRecDepth 20000 in
theorem gX12_season_X12_keeps : GoodIn wsX12_season (wsV RX12 283 RX12 yX12_keeps wsX12_keeps) := goodIn_app (goodIn_of _ (by decide +kernel)) ggX12_season_X12_keeps
set_option maxRecDepth 20000 in
theorem ggX12_season_X12_drawn : GoodIn wsX12_season wsX12_drawn := goodIn_r _ [18, 19, 20, 21, 7, 22, 23, 4, 136, 137, 138, 139, 140, 141, 142, 143, 144, 145, 146, 147, 148, 149, 150, 151, 152, 153, 154, 155, 156, 157, 158, 159, 160, 161, 162, 163, 164, 165, 166, 167, 168, 169, 170, 171] (by decide +kernel) (by decide +kernel)
set_option maxRecDepth 20000 in
theorem gX12_season_X12_drawn : GoodIn wsX12_season (wsV RX12 357 RX12 yX12_drawn wsX12_drawn) := goodIn_app (goodIn_of _ (by decide +kernel)) ggX12_season_X12_drawn
set_option maxRecDepth 20000 in
theorem ggX12_season_X12_whyNot : GoodIn wsX12_season wsX12_whyNot := goodIn_r _ [27, 28, 29, 30, 31, 32, 33, 34, 35, 5, 6, 7, 8, 36, 37, 38, 39, 40, 41, 42, 43, 14, 44, 45, 46, 47, 48, 49, 50, 51, 52, 53, 54, 55, 56, 57, 58, 59, 60, 61, 62, 63, 64, 65, 66, 67, 68, 69, 70, 71, 72, 73, 136, 137, 138, 139, 140, 141, 142, 143, 144, 145, 146, 147, 148, 149, 150, 151, 152, 153, 154, 155, 156, 157, 158, 159, 160, 161, 162, 163, 164, 165, 166, 167, 168, 169, 170, 171] (by decide +kernel) (by decide +kernel)
set_option maxRecDepth 20000 in
theorem gX12_season_X12_whyNot : GoodIn wsX12_season (wsV RX12 324 RX12 yX12_whyNot wsX12_whyNot) := goodIn_app (goodIn_of _ (by decide +kernel)) ggX12_season_X12_whyNot
set_option maxRecDepth 20000 in
theorem ggX12_season_X12_does : GoodIn wsX12_season wsX12_does := goodIn_r _ [77, 14, 78, 79, 80, 7, 81, 48, 49, 50, 51, 52, 53, 54, 82, 83, 84, 85, 86, 59, 60, 61, 87, 88, 89, 90, 91, 92, 93, 94, 95, 96, 97, 98, 99, 100, 101, 102, 103, 104, 105, 106, 107, 108, 109, 110, 111, 112, 113, 114, 115, 116, 117, 118, 119, 120, 121, 122, 123, 124, 125, 126, 127, 128, 129, 130, 131, 136, 137, 138, 139, 140, 141, 142, 143, 144, 145, 146, 147, 148, 149, 150, 151, 152, 153, 154, 155, 156, 157, 158, 159, 160, 161, 162, 163, 164, 165, 166, 167, 168, 169, 170, 171] (by decide +kernel) (by decide +kernel)
set_option maxRecDepth 20000 in
theorem gX12_season_X12_does : GoodIn wsX12_season (wsV RX12 327 RX12 yX12_does wsX12_does) := goodIn_app (goodIn_of _ (by decide +kernel)) ggX12_season_X12_does
set_option maxRecDepth 20000 in
theorem ggX12_season_X12_notes : GoodIn wsX12_season wsX12_notes := goodIn_r _ [135, 14, 13, 136, 137, 138, 139, 140, 141, 142, 143, 144, 145, 146, 147, 148, 149, 150, 151, 152, 153, 154, 155, 156, 157, 158, 159, 160, 161, 162, 163, 164, 165, 166, 167, 168, 169, 170, 171] (by decide +kernel) (by decide +kernel)
set_option maxRecDepth 20000 in
theorem gX12_season_X12_notes : GoodIn wsX12_season (wsV RX12 289 RX12 yX12_notes wsX12_notes) := goodIn_app (goodIn_of _ (by decide +kernel)) ggX12_season_X12_notes
theorem dX12_season_0 : decode cX12_season 0 = .ok (.aload_n 0, 1) := by decide +kernel
theorem dX12_season_1 : decode cX12_season 1 = .ok (.iconst 0, 1) := by decide +kernel
theorem dX12_season_2 : decode cX12_season 2 = .ok (.putfield 1, 3) := by decide +kernel
theorem dX12_season_5 : decode cX12_season 5 = .ok (.iload_n 2, 1) := by decide +kernel
theorem dX12_season_6 : decode cX12_season 6 = .ok (.i2l, 1) := by decide +kernel
theorem dX12_season_7 : decode cX12_season 7 = .ok (.lconst 1, 1) := by decide +kernel
theorem dX12_season_8 : decode cX12_season 8 = .ok (.ldc2_w 355, 3) := by decide +kernel
theorem dX12_season_11 : decode cX12_season 11 = .ok (.invokestatic 144, 3) := by decide +kernel
theorem dX12_season_14 : decode cX12_season 14 = .ok (.ifCond .ne 6, 3) := by decide +kernel
theorem dX12_season_17 : decode cX12_season 17 = .ok (.ldc 201, 2) := by decide +kernel
theorem dX12_season_19 : decode cX12_season 19 = .ok (.ireturn, 1) := by decide +kernel
theorem dX12_season_20 : decode cX12_season 20 = .ok (.aload_n 0, 1) := by decide +kernel
theorem dX12_season_21 : decode cX12_season 21 = .ok (.invokevirtual 283, 3) := by decide +kernel
theorem dX12_season_24 : decode cX12_season 24 = .ok (.aload_n 0, 1) := by decide +kernel
theorem dX12_season_25 : decode cX12_season 25 = .ok (.iload_n 1, 1) := by decide +kernel
theorem dX12_season_26 : decode cX12_season 26 = .ok (.putfield 349, 3) := by decide +kernel
theorem dX12_season_29 : decode cX12_season 29 = .ok (.iconst 0, 1) := by decide +kernel
theorem dX12_season_30 : decode cX12_season 30 = .ok (.istore_n 3, 1) := by decide +kernel
theorem dX12_season_31 : decode cX12_season 31 = .ok (.iconst 0, 1) := by decide +kernel
theorem dX12_season_32 : decode cX12_season 32 = .ok (.istore 4, 2) := by decide +kernel
theorem dX12_season_34 : decode cX12_season 34 = .ok (.iload 4, 2) := by decide +kernel
theorem dX12_season_36 : decode cX12_season 36 = .ok (.iload_n 2, 1) := by decide +kernel
theorem dX12_season_37 : decode cX12_season 37 = .ok (.if_icmp .ge 37, 3) := by decide +kernel
theorem dX12_season_40 : decode cX12_season 40 = .ok (.aload_n 0, 1) := by decide +kernel
theorem dX12_season_41 : decode cX12_season 41 = .ok (.invokevirtual 357, 3) := by decide +kernel
theorem dX12_season_44 : decode cX12_season 44 = .ok (.istore 5, 2) := by decide +kernel
theorem dX12_season_46 : decode cX12_season 46 = .ok (.aload_n 0, 1) := by decide +kernel
theorem dX12_season_47 : decode cX12_season 47 = .ok (.iload 5, 2) := by decide +kernel
theorem dX12_season_49 : decode cX12_season 49 = .ok (.i2l, 1) := by decide +kernel
theorem dX12_season_50 : decode cX12_season 50 = .ok (.invokevirtual 324, 3) := by decide +kernel
theorem dX12_season_53 : decode cX12_season 53 = .ok (.ifCond .eq 6, 3) := by decide +kernel
theorem dX12_season_56 : decode cX12_season 56 = .ok (.goto 12, 3) := by decide +kernel
theorem dX12_season_59 : decode cX12_season 59 = .ok (.aload_n 0, 1) := by decide +kernel
theorem dX12_season_60 : decode cX12_season 60 = .ok (.iload 5, 2) := by decide +kernel
theorem dX12_season_62 : decode cX12_season 62 = .ok (.invokevirtual 327, 3) := by decide +kernel
theorem dX12_season_65 : decode cX12_season 65 = .ok (.iinc 3 1, 3) := by decide +kernel
theorem dX12_season_68 : decode cX12_season 68 = .ok (.iinc 4 1, 3) := by decide +kernel
theorem dX12_season_71 : decode cX12_season 71 = .ok (.goto (-37), 3) := by decide +kernel
theorem dX12_season_74 : decode cX12_season 74 = .ok (.iload_n 3, 1) := by decide +kernel
theorem dX12_season_75 : decode cX12_season 75 = .ok (.ifCond .le 7, 3) := by decide +kernel
theorem dX12_season_78 : decode cX12_season 78 = .ok (.aload_n 0, 1) := by decide +kernel
theorem dX12_season_79 : decode cX12_season 79 = .ok (.invokevirtual 289, 3) := by decide +kernel
theorem dX12_season_82 : decode cX12_season 82 = .ok (.iload_n 3, 1) := by decide +kernel
theorem dX12_season_83 : decode cX12_season 83 = .ok (.ireturn, 1) := by decide +kernel
theorem dX12_begins_0 : decode cX12_begins 0 = .ok (.aload_n 0, 1) := by decide +kernel
theorem dX12_begins_1 : decode cX12_begins 1 = .ok (.aload_n 0, 1) := by decide +kernel
theorem dX12_begins_2 : decode cX12_begins 2 = .ok (.getfield 13, 3) := by decide +kernel
theorem dX12_begins_5 : decode cX12_begins 5 = .ok (.bipush 54, 2) := by decide +kernel
theorem dX12_begins_7 : decode cX12_begins 7 = .ok (.iload_n 1, 1) := by decide +kernel
theorem dX12_begins_8 : decode cX12_begins 8 = .ok (.iadd, 1) := by decide +kernel
theorem dX12_begins_9 : decode cX12_begins 9 = .ok (.iaload, 1) := by decide +kernel
theorem dX12_begins_10 : decode cX12_begins 10 = .ok (.putfield 360, 3) := by decide +kernel
theorem dX12_begins_13 : decode cX12_begins 13 = .ok (.aload_n 0, 1) := by decide +kernel
theorem dX12_begins_14 : decode cX12_begins 14 = .ok (.aload_n 0, 1) := by decide +kernel
theorem dX12_begins_15 : decode cX12_begins 15 = .ok (.getfield 13, 3) := by decide +kernel
theorem dX12_begins_18 : decode cX12_begins 18 = .ok (.bipush 60, 2) := by decide +kernel
theorem dX12_begins_20 : decode cX12_begins 20 = .ok (.iload_n 1, 1) := by decide +kernel
theorem dX12_begins_21 : decode cX12_begins 21 = .ok (.iadd, 1) := by decide +kernel
theorem dX12_begins_22 : decode cX12_begins 22 = .ok (.iaload, 1) := by decide +kernel
theorem dX12_begins_23 : decode cX12_begins 23 = .ok (.ifCond .ne 7, 3) := by decide +kernel
theorem dX12_begins_26 : decode cX12_begins 26 = .ok (.iconst 1, 1) := by decide +kernel
theorem dX12_begins_27 : decode cX12_begins 27 = .ok (.goto 4, 3) := by decide +kernel
theorem dX12_begins_30 : decode cX12_begins 30 = .ok (.iconst 0, 1) := by decide +kernel
theorem dX12_begins_31 : decode cX12_begins 31 = .ok (.putfield 363, 3) := by decide +kernel
theorem dX12_begins_34 : decode cX12_begins 34 = .ok (.iconst 0, 1) := by decide +kernel
theorem dX12_begins_35 : decode cX12_begins 35 = .ok (.istore_n 2, 1) := by decide +kernel
theorem dX12_begins_36 : decode cX12_begins 36 = .ok (.iload_n 2, 1) := by decide +kernel
theorem dX12_begins_37 : decode cX12_begins 37 = .ok (.sipush 3430, 3) := by decide +kernel
theorem dX12_begins_40 : decode cX12_begins 40 = .ok (.if_icmp .ge 16, 3) := by decide +kernel
theorem dX12_begins_43 : decode cX12_begins 43 = .ok (.aload_n 0, 1) := by decide +kernel
theorem dX12_begins_44 : decode cX12_begins 44 = .ok (.getfield 49, 3) := by decide +kernel
theorem dX12_begins_47 : decode cX12_begins 47 = .ok (.iload_n 2, 1) := by decide +kernel
theorem dX12_begins_48 : decode cX12_begins 48 = .ok (.iconst 0, 1) := by decide +kernel
theorem dX12_begins_49 : decode cX12_begins 49 = .ok (.bastore, 1) := by decide +kernel
theorem dX12_begins_50 : decode cX12_begins 50 = .ok (.iinc 2 1, 3) := by decide +kernel
theorem dX12_begins_53 : decode cX12_begins 53 = .ok (.goto (-17), 3) := by decide +kernel
theorem dX12_begins_56 : decode cX12_begins 56 = .ok (.return_, 1) := by decide +kernel
set_option maxRecDepth 20000 in
theorem ggX12_canDraw_X12_lifeOf : GoodIn wsX12_canDraw wsX12_lifeOf := goodIn_r _ [5] (by decide +kernel) (by decide +kernel)
set_option maxRecDepth 20000 in
theorem gX12_canDraw_X12_lifeOf : GoodIn wsX12_canDraw (va_wsS RX12 233 yX12_lifeOf wsX12_lifeOf) := goodIn_app (goodIn_of _ (by decide +kernel)) ggX12_canDraw_X12_lifeOf
theorem dX12_canDraw_0 : decode cX12_canDraw 0 = .ok (.aload_n 0, 1) := by decide +kernel
theorem dX12_canDraw_1 : decode cX12_canDraw 1 = .ok (.getfield 363, 3) := by decide +kernel
theorem dX12_canDraw_4 : decode cX12_canDraw 4 = .ok (.ifCond .eq 15, 3) := by decide +kernel
theorem dX12_canDraw_7 : decode cX12_canDraw 7 = .ok (.iload_n 1, 1) := by decide +kernel
theorem dX12_canDraw_8 : decode cX12_canDraw 8 = .ok (.invokestatic 233, 3) := by decide +kernel
theorem dX12_canDraw_11 : decode cX12_canDraw 11 = .ok (.iconst 1, 1) := by decide +kernel
theorem dX12_canDraw_12 : decode cX12_canDraw 12 = .ok (.if_icmp .ne 7, 3) := by decide +kernel
theorem dX12_canDraw_15 : decode cX12_canDraw 15 = .ok (.iconst 1, 1) := by decide +kernel
theorem dX12_canDraw_16 : decode cX12_canDraw 16 = .ok (.goto 4, 3) := by decide +kernel
theorem dX12_canDraw_19 : decode cX12_canDraw 19 = .ok (.iconst 0, 1) := by decide +kernel
theorem dX12_canDraw_20 : decode cX12_canDraw 20 = .ok (.ireturn, 1) := by decide +kernel
set_option maxRecDepth 20000 in
theorem ggX12_laysBest_X12_isOver : GoodIn wsX12_laysBest wsX12_isOver := goodIn_r _ [10, 2, 11, 12, 9, 13, 63, 64, 65, 66, 67, 68, 69, 70, 71, 72, 73, 74, 75, 76, 77, 78, 79, 80, 81, 82, 83, 84, 85, 86, 87, 88, 89, 90, 91, 92, 93, 94, 95, 96, 97, 98] (by decide +kernel) (by decide +kernel)
set_option maxRecDepth 20000 in
theorem gX12_laysBest_X12_isOver : GoodIn wsX12_laysBest (wsV RX12 256 RX12 yX12_isOver wsX12_isOver) := goodIn_app (goodIn_of _ (by decide +kernel)) ggX12_laysBest_X12_isOver
set_option maxRecDepth 20000 in
theorem ggX12_laysBest_X12_livedTo : GoodIn wsX12_laysBest wsX12_livedTo := goodIn_r _ [16, 17, 18, 9, 19, 20, 21, 22, 11, 12, 13, 23, 24, 25, 26, 27, 28, 29, 30, 31] (by decide +kernel) (by decide +kernel)
set_option maxRecDepth 20000 in
theorem gX12_laysBest_X12_livedTo : GoodIn wsX12_laysBest (va_wsS RX12 268 yX12_livedTo wsX12_livedTo) := goodIn_app (goodIn_of _ (by decide +kernel)) ggX12_laysBest_X12_livedTo
set_option maxRecDepth 20000 in
theorem ggX12_laysBest_X12_laysBest : GoodIn wsX12_laysBest wsX12_laysBest := goodIn_r _ [0, 1, 2, 3, 4, 5, 6, 7, 8, 9, 10, 11, 12, 13, 14, 15, 16, 17, 18, 19, 20, 21, 22, 23, 24, 25, 26, 27, 28, 29, 30, 31, 32, 33, 34, 35, 36, 37, 38, 39, 40, 41, 42, 43, 44, 45, 46, 47, 48, 49, 50, 51, 52, 53, 54, 55, 56, 57, 58, 59, 60, 61, 62, 63, 64, 65, 66, 67, 68, 69, 70, 71, 72, 73, 74, 75, 76, 77, 78, 79, 80, 81, 82, 83, 84, 85, 86, 87, 88, 89, 90, 91, 92, 93, 94, 95, 96, 97, 98] (by decide +kernel) (by decide +kernel)
set_option maxRecDepth 20000 in
theorem gX12_laysBest_X12_laysBest : GoodIn wsX12_laysBest (wsV RX12 367 RX12 yX12_laysBest wsX12_laysBest) := goodIn_app (goodIn_of _ (by decide +kernel)) ggX12_laysBest_X12_laysBest
set_option maxRecDepth 20000 in
theorem ggX12_laysBest_X12_worthOf : GoodIn wsX12_laysBest wsX12_worthOf := goodIn_r _ [38, 2, 39, 11, 12, 9, 13, 23, 24, 25, 26, 27, 28, 17, 18, 19, 20, 21, 22, 40, 41, 42, 43, 44, 45, 46, 47, 48, 49, 63, 64, 65, 66, 67, 68, 69, 70, 71, 72, 73, 74, 75, 76, 77, 78, 79, 80, 81, 82, 83, 84, 85, 86, 87, 88, 89, 90, 91, 92, 93, 94, 95, 96, 97, 98] (by decide +kernel) (by decide +kernel)
set_option maxRecDepth 20000 in
theorem gX12_laysBest_X12_worthOf : GoodIn wsX12_laysBest (wsV RX12 259 RX12 yX12_worthOf wsX12_worthOf) := goodIn_app (goodIn_of _ (by decide +kernel)) ggX12_laysBest_X12_worthOf
set_option maxRecDepth 20000 in
theorem ggX12_laysBest_X12_canDraw : GoodIn wsX12_laysBest wsX12_canDraw := goodIn_r _ [53, 54, 17, 18, 9, 19, 63, 64, 65, 66, 67, 68, 69, 70, 71, 72, 73, 74, 75, 76, 77, 78, 79, 80, 81, 82, 83, 84, 85, 86, 87, 88, 89, 90, 91, 92, 93, 94, 95, 96, 97, 98] (by decide +kernel) (by decide +kernel)
set_option maxRecDepth 20000 in
theorem gX12_laysBest_X12_canDraw : GoodIn wsX12_laysBest (wsV RX12 370 RX12 yX12_canDraw wsX12_canDraw) := goodIn_app (goodIn_of _ (by decide +kernel)) ggX12_laysBest_X12_canDraw
set_option maxRecDepth 20000 in
theorem ggX12_laysBest_X12_drawnTo : GoodIn wsX12_laysBest wsX12_drawnTo := goodIn_r _ [58, 11, 12, 9, 13, 59, 60, 61, 62, 2, 39, 40, 41, 42, 43, 44, 45, 46, 47, 48, 49, 29, 30, 31, 63, 64, 65, 66, 67, 68, 69, 70, 71, 72, 73, 74, 75, 76, 77, 78, 79, 80, 81, 82, 83, 84, 85, 86, 87, 88, 89, 90, 91, 92, 93, 94, 95, 96, 97, 98] (by decide +kernel) (by decide +kernel)
set_option maxRecDepth 20000 in
theorem gX12_laysBest_X12_drawnTo : GoodIn wsX12_laysBest (wsV RX12 275 RX12 yX12_drawnTo wsX12_drawnTo) := goodIn_app (goodIn_of _ (by decide +kernel)) ggX12_laysBest_X12_drawnTo
theorem dX12_laysBest_0 : decode cX12_laysBest 0 = .ok (.aload_n 0, 1) := by decide +kernel
theorem dX12_laysBest_1 : decode cX12_laysBest 1 = .ok (.getfield 49, 3) := by decide +kernel
theorem dX12_laysBest_4 : decode cX12_laysBest 4 = .ok (.iload_n 1, 1) := by decide +kernel
theorem dX12_laysBest_5 : decode cX12_laysBest 5 = .ok (.baload, 1) := by decide +kernel
theorem dX12_laysBest_6 : decode cX12_laysBest 6 = .ok (.ifCond .eq 4, 3) := by decide +kernel
theorem dX12_laysBest_9 : decode cX12_laysBest 9 = .ok (.return_, 1) := by decide +kernel
theorem dX12_laysBest_10 : decode cX12_laysBest 10 = .ok (.aload_n 0, 1) := by decide +kernel
theorem dX12_laysBest_11 : decode cX12_laysBest 11 = .ok (.getfield 49, 3) := by decide +kernel
theorem dX12_laysBest_14 : decode cX12_laysBest 14 = .ok (.iload_n 1, 1) := by decide +kernel
theorem dX12_laysBest_15 : decode cX12_laysBest 15 = .ok (.iconst 1, 1) := by decide +kernel
theorem dX12_laysBest_16 : decode cX12_laysBest 16 = .ok (.bastore, 1) := by decide +kernel
theorem dX12_laysBest_17 : decode cX12_laysBest 17 = .ok (.iconst 0, 1) := by decide +kernel
theorem dX12_laysBest_18 : decode cX12_laysBest 18 = .ok (.istore_n 2, 1) := by decide +kernel
theorem dX12_laysBest_19 : decode cX12_laysBest 19 = .ok (.iconst 0, 1) := by decide +kernel
theorem dX12_laysBest_20 : decode cX12_laysBest 20 = .ok (.istore_n 3, 1) := by decide +kernel
theorem dX12_laysBest_21 : decode cX12_laysBest 21 = .ok (.iconst 0, 1) := by decide +kernel
theorem dX12_laysBest_22 : decode cX12_laysBest 22 = .ok (.istore 4, 2) := by decide +kernel
theorem dX12_laysBest_24 : decode cX12_laysBest 24 = .ok (.iload 4, 2) := by decide +kernel
theorem dX12_laysBest_26 : decode cX12_laysBest 26 = .ok (.aload_n 0, 1) := by decide +kernel
theorem dX12_laysBest_27 : decode cX12_laysBest 27 = .ok (.getfield 13, 3) := by decide +kernel
theorem dX12_laysBest_30 : decode cX12_laysBest 30 = .ok (.iconst 2, 1) := by decide +kernel
theorem dX12_laysBest_31 : decode cX12_laysBest 31 = .ok (.iaload, 1) := by decide +kernel
theorem dX12_laysBest_32 : decode cX12_laysBest 32 = .ok (.if_icmp .ge 93, 3) := by decide +kernel
theorem dX12_laysBest_35 : decode cX12_laysBest 35 = .ok (.aload_n 0, 1) := by decide +kernel
theorem dX12_laysBest_36 : decode cX12_laysBest 36 = .ok (.iload_n 1, 1) := by decide +kernel
theorem dX12_laysBest_37 : decode cX12_laysBest 37 = .ok (.invokevirtual 256, 3) := by decide +kernel
theorem dX12_laysBest_40 : decode cX12_laysBest 40 = .ok (.ifCond .ne 85, 3) := by decide +kernel
theorem dX12_laysBest_43 : decode cX12_laysBest 43 = .ok (.iload_n 1, 1) := by decide +kernel
theorem dX12_laysBest_44 : decode cX12_laysBest 44 = .ok (.iload 4, 2) := by decide +kernel
theorem dX12_laysBest_46 : decode cX12_laysBest 46 = .ok (.invokestatic 268, 3) := by decide +kernel
theorem dX12_laysBest_49 : decode cX12_laysBest 49 = .ok (.istore 5, 2) := by decide +kernel
theorem dX12_laysBest_51 : decode cX12_laysBest 51 = .ok (.aload_n 0, 1) := by decide +kernel
theorem dX12_laysBest_52 : decode cX12_laysBest 52 = .ok (.iload 5, 2) := by decide +kernel
theorem dX12_laysBest_54 : decode cX12_laysBest 54 = .ok (.invokevirtual 367, 3) := by decide +kernel
theorem dX12_laysBest_57 : decode cX12_laysBest 57 = .ok (.aload_n 0, 1) := by decide +kernel
theorem dX12_laysBest_58 : decode cX12_laysBest 58 = .ok (.aload_n 0, 1) := by decide +kernel
theorem dX12_laysBest_59 : decode cX12_laysBest 59 = .ok (.getfield 360, 3) := by decide +kernel
theorem dX12_laysBest_62 : decode cX12_laysBest 62 = .ok (.iload_n 1, 1) := by decide +kernel
theorem dX12_laysBest_63 : decode cX12_laysBest 63 = .ok (.iload 4, 2) := by decide +kernel
theorem dX12_laysBest_65 : decode cX12_laysBest 65 = .ok (.invokevirtual 259, 3) := by decide +kernel
theorem dX12_laysBest_68 : decode cX12_laysBest 68 = .ok (.aload_n 0, 1) := by decide +kernel
theorem dX12_laysBest_69 : decode cX12_laysBest 69 = .ok (.getfield 39, 3) := by decide +kernel
theorem dX12_laysBest_72 : decode cX12_laysBest 72 = .ok (.iload 5, 2) := by decide +kernel
theorem dX12_laysBest_74 : decode cX12_laysBest 74 = .ok (.iaload, 1) := by decide +kernel
theorem dX12_laysBest_75 : decode cX12_laysBest 75 = .ok (.iadd, 1) := by decide +kernel
theorem dX12_laysBest_76 : decode cX12_laysBest 76 = .ok (.istore 6, 2) := by decide +kernel
theorem dX12_laysBest_78 : decode cX12_laysBest 78 = .ok (.iload 6, 2) := by decide +kernel
theorem dX12_laysBest_80 : decode cX12_laysBest 80 = .ok (.iload_n 2, 1) := by decide +kernel
theorem dX12_laysBest_81 : decode cX12_laysBest 81 = .ok (.if_icmp .lt 38, 3) := by decide +kernel
theorem dX12_laysBest_84 : decode cX12_laysBest 84 = .ok (.iload 6, 2) := by decide +kernel
theorem dX12_laysBest_86 : decode cX12_laysBest 86 = .ok (.iload_n 2, 1) := by decide +kernel
theorem dX12_laysBest_87 : decode cX12_laysBest 87 = .ok (.if_icmp .ne 19, 3) := by decide +kernel
theorem dX12_laysBest_90 : decode cX12_laysBest 90 = .ok (.aload_n 0, 1) := by decide +kernel
theorem dX12_laysBest_91 : decode cX12_laysBest 91 = .ok (.getfield 42, 3) := by decide +kernel
theorem dX12_laysBest_94 : decode cX12_laysBest 94 = .ok (.iload 5, 2) := by decide +kernel
theorem dX12_laysBest_96 : decode cX12_laysBest 96 = .ok (.iaload, 1) := by decide +kernel
theorem dX12_laysBest_97 : decode cX12_laysBest 97 = .ok (.iconst 1, 1) := by decide +kernel
theorem dX12_laysBest_98 : decode cX12_laysBest 98 = .ok (.iadd, 1) := by decide +kernel
theorem dX12_laysBest_99 : decode cX12_laysBest 99 = .ok (.iload_n 3, 1) := by decide +kernel
theorem dX12_laysBest_100 : decode cX12_laysBest 100 = .ok (.if_icmp .lt 6, 3) := by decide +kernel
theorem dX12_laysBest_103 : decode cX12_laysBest 103 = .ok (.goto 16, 3) := by decide +kernel
theorem dX12_laysBest_106 : decode cX12_laysBest 106 = .ok (.iload 6, 2) := by decide +kernel
theorem dX12_laysBest_108 : decode cX12_laysBest 108 = .ok (.istore_n 2, 1) := by decide +kernel
theorem dX12_laysBest_109 : decode cX12_laysBest 109 = .ok (.aload_n 0, 1) := by decide +kernel
theorem dX12_laysBest_110 : decode cX12_laysBest 110 = .ok (.getfield 42, 3) := by decide +kernel
theorem dX12_laysBest_113 : decode cX12_laysBest 113 = .ok (.iload 5, 2) := by decide +kernel
theorem dX12_laysBest_115 : decode cX12_laysBest 115 = .ok (.iaload, 1) := by decide +kernel
theorem dX12_laysBest_116 : decode cX12_laysBest 116 = .ok (.iconst 1, 1) := by decide +kernel
theorem dX12_laysBest_117 : decode cX12_laysBest 117 = .ok (.iadd, 1) := by decide +kernel
theorem dX12_laysBest_118 : decode cX12_laysBest 118 = .ok (.istore_n 3, 1) := by decide +kernel
theorem dX12_laysBest_119 : decode cX12_laysBest 119 = .ok (.iinc 4 1, 3) := by decide +kernel
theorem dX12_laysBest_122 : decode cX12_laysBest 122 = .ok (.goto (-98), 3) := by decide +kernel
theorem dX12_laysBest_125 : decode cX12_laysBest 125 = .ok (.aload_n 0, 1) := by decide +kernel
theorem dX12_laysBest_126 : decode cX12_laysBest 126 = .ok (.iload_n 1, 1) := by decide +kernel
theorem dX12_laysBest_127 : decode cX12_laysBest 127 = .ok (.invokevirtual 370, 3) := by decide +kernel
theorem dX12_laysBest_130 : decode cX12_laysBest 130 = .ok (.ifCond .eq 73, 3) := by decide +kernel
theorem dX12_laysBest_133 : decode cX12_laysBest 133 = .ok (.aload_n 0, 1) := by decide +kernel
theorem dX12_laysBest_134 : decode cX12_laysBest 134 = .ok (.aload_n 0, 1) := by decide +kernel
theorem dX12_laysBest_135 : decode cX12_laysBest 135 = .ok (.getfield 360, 3) := by decide +kernel
theorem dX12_laysBest_138 : decode cX12_laysBest 138 = .ok (.iload_n 1, 1) := by decide +kernel
theorem dX12_laysBest_139 : decode cX12_laysBest 139 = .ok (.invokevirtual 275, 3) := by decide +kernel
theorem dX12_laysBest_142 : decode cX12_laysBest 142 = .ok (.istore 4, 2) := by decide +kernel
theorem dX12_laysBest_144 : decode cX12_laysBest 144 = .ok (.aload_n 0, 1) := by decide +kernel
theorem dX12_laysBest_145 : decode cX12_laysBest 145 = .ok (.iload 4, 2) := by decide +kernel
theorem dX12_laysBest_147 : decode cX12_laysBest 147 = .ok (.invokevirtual 367, 3) := by decide +kernel
theorem dX12_laysBest_150 : decode cX12_laysBest 150 = .ok (.aload_n 0, 1) := by decide +kernel
theorem dX12_laysBest_151 : decode cX12_laysBest 151 = .ok (.getfield 39, 3) := by decide +kernel
theorem dX12_laysBest_154 : decode cX12_laysBest 154 = .ok (.iload 4, 2) := by decide +kernel
theorem dX12_laysBest_156 : decode cX12_laysBest 156 = .ok (.iaload, 1) := by decide +kernel
theorem dX12_laysBest_157 : decode cX12_laysBest 157 = .ok (.iload_n 2, 1) := by decide +kernel
theorem dX12_laysBest_158 : decode cX12_laysBest 158 = .ok (.if_icmp .gt 27, 3) := by decide +kernel
theorem dX12_laysBest_161 : decode cX12_laysBest 161 = .ok (.aload_n 0, 1) := by decide +kernel
theorem dX12_laysBest_162 : decode cX12_laysBest 162 = .ok (.getfield 39, 3) := by decide +kernel
theorem dX12_laysBest_165 : decode cX12_laysBest 165 = .ok (.iload 4, 2) := by decide +kernel
theorem dX12_laysBest_167 : decode cX12_laysBest 167 = .ok (.iaload, 1) := by decide +kernel
theorem dX12_laysBest_168 : decode cX12_laysBest 168 = .ok (.iload_n 2, 1) := by decide +kernel
theorem dX12_laysBest_169 : decode cX12_laysBest 169 = .ok (.if_icmp .ne 34, 3) := by decide +kernel
theorem dX12_laysBest_172 : decode cX12_laysBest 172 = .ok (.aload_n 0, 1) := by decide +kernel
theorem dX12_laysBest_173 : decode cX12_laysBest 173 = .ok (.getfield 42, 3) := by decide +kernel
theorem dX12_laysBest_176 : decode cX12_laysBest 176 = .ok (.iload 4, 2) := by decide +kernel
theorem dX12_laysBest_178 : decode cX12_laysBest 178 = .ok (.iaload, 1) := by decide +kernel
theorem dX12_laysBest_179 : decode cX12_laysBest 179 = .ok (.iconst 1, 1) := by decide +kernel
theorem dX12_laysBest_180 : decode cX12_laysBest 180 = .ok (.iadd, 1) := by decide +kernel
theorem dX12_laysBest_181 : decode cX12_laysBest 181 = .ok (.iload_n 3, 1) := by decide +kernel
theorem dX12_laysBest_182 : decode cX12_laysBest 182 = .ok (.if_icmp .ge 21, 3) := by decide +kernel
theorem dX12_laysBest_185 : decode cX12_laysBest 185 = .ok (.aload_n 0, 1) := by decide +kernel
theorem dX12_laysBest_186 : decode cX12_laysBest 186 = .ok (.getfield 39, 3) := by decide +kernel
theorem dX12_laysBest_189 : decode cX12_laysBest 189 = .ok (.iload 4, 2) := by decide +kernel
theorem dX12_laysBest_191 : decode cX12_laysBest 191 = .ok (.iaload, 1) := by decide +kernel
theorem dX12_laysBest_192 : decode cX12_laysBest 192 = .ok (.istore_n 2, 1) := by decide +kernel
theorem dX12_laysBest_193 : decode cX12_laysBest 193 = .ok (.aload_n 0, 1) := by decide +kernel
theorem dX12_laysBest_194 : decode cX12_laysBest 194 = .ok (.getfield 42, 3) := by decide +kernel
theorem dX12_laysBest_197 : decode cX12_laysBest 197 = .ok (.iload 4, 2) := by decide +kernel
theorem dX12_laysBest_199 : decode cX12_laysBest 199 = .ok (.iaload, 1) := by decide +kernel
theorem dX12_laysBest_200 : decode cX12_laysBest 200 = .ok (.iconst 1, 1) := by decide +kernel
theorem dX12_laysBest_201 : decode cX12_laysBest 201 = .ok (.iadd, 1) := by decide +kernel
theorem dX12_laysBest_202 : decode cX12_laysBest 202 = .ok (.istore_n 3, 1) := by decide +kernel
theorem dX12_laysBest_203 : decode cX12_laysBest 203 = .ok (.aload_n 0, 1) := by decide +kernel
theorem dX12_laysBest_204 : decode cX12_laysBest 204 = .ok (.getfield 39, 3) := by decide +kernel
theorem dX12_laysBest_207 : decode cX12_laysBest 207 = .ok (.iload_n 1, 1) := by decide +kernel
theorem dX12_laysBest_208 : decode cX12_laysBest 208 = .ok (.iload_n 2, 1) := by decide +kernel
theorem dX12_laysBest_209 : decode cX12_laysBest 209 = .ok (.iastore, 1) := by decide +kernel
theorem dX12_laysBest_210 : decode cX12_laysBest 210 = .ok (.aload_n 0, 1) := by decide +kernel
theorem dX12_laysBest_211 : decode cX12_laysBest 211 = .ok (.getfield 42, 3) := by decide +kernel
theorem dX12_laysBest_214 : decode cX12_laysBest 214 = .ok (.iload_n 1, 1) := by decide +kernel
theorem dX12_laysBest_215 : decode cX12_laysBest 215 = .ok (.iload_n 3, 1) := by decide +kernel
theorem dX12_laysBest_216 : decode cX12_laysBest 216 = .ok (.iastore, 1) := by decide +kernel
theorem dX12_laysBest_217 : decode cX12_laysBest 217 = .ok (.return_, 1) := by decide +kernel
set_option maxRecDepth 20000 in
theorem ggX12_nextBest_X12_isOver : GoodIn wsX12_nextBest wsX12_isOver := goodIn_r _ [9, 2, 10, 11, 8, 12, 46, 47, 48, 49, 50, 51, 52, 53, 54, 55, 56, 57, 58, 59, 60, 61, 62, 63, 64, 65, 66, 67, 68, 69, 70, 71, 72, 73, 74, 75, 76, 77, 78, 79, 80, 81] (by decide +kernel) (by decide +kernel)
set_option maxRecDepth 20000 in
theorem gX12_nextBest_X12_isOver : GoodIn wsX12_nextBest (wsV RX12 256 RX12 yX12_isOver wsX12_isOver) := goodIn_app (goodIn_of _ (by decide +kernel)) ggX12_nextBest_X12_isOver
set_option maxRecDepth 20000 in
theorem ggX12_nextBest_X12_livedTo : GoodIn wsX12_nextBest wsX12_livedTo := goodIn_r _ [15, 16, 17, 8, 18, 19, 20, 21, 10, 11, 12, 22, 23, 24, 25, 26, 27, 28, 29, 30] (by decide +kernel) (by decide +kernel)
set_option maxRecDepth 20000 in
theorem gX12_nextBest_X12_livedTo : GoodIn wsX12_nextBest (va_wsS RX12 268 yX12_livedTo wsX12_livedTo) := goodIn_app (goodIn_of _ (by decide +kernel)) ggX12_nextBest_X12_livedTo
set_option maxRecDepth 20000 in
theorem ggX12_nextBest_X12_worthOf : GoodIn wsX12_nextBest wsX12_worthOf := goodIn_r _ [34, 2, 35, 10, 11, 8, 12, 22, 23, 24, 25, 26, 27, 16, 17, 18, 19, 20, 21, 36, 37, 38, 39, 40, 41, 42, 43, 44, 45, 46, 47, 48, 49, 50, 51, 52, 53, 54, 55, 56, 57, 58, 59, 60, 61, 62, 63, 64, 65, 66, 67, 68, 69, 70, 71, 72, 73, 74, 75, 76, 77, 78, 79, 80, 81] (by decide +kernel) (by decide +kernel)
set_option maxRecDepth 20000 in
theorem gX12_nextBest_X12_worthOf : GoodIn wsX12_nextBest (wsV RX12 259 RX12 yX12_worthOf wsX12_worthOf) := goodIn_app (goodIn_of _ (by decide +kernel)) ggX12_nextBest_X12_worthOf
theorem dX12_nextBest_0 : decode cX12_nextBest 0 = .ok (.aload_n 0, 1) := by decide +kernel
theorem dX12_nextBest_1 : decode cX12_nextBest 1 = .ok (.getfield 42, 3) := by decide +kernel
theorem dX12_nextBest_4 : decode cX12_nextBest 4 = .ok (.iload_n 1, 1) := by decide +kernel
theorem dX12_nextBest_5 : decode cX12_nextBest 5 = .ok (.iaload, 1) := by decide +kernel
theorem dX12_nextBest_6 : decode cX12_nextBest 6 = .ok (.ifCond .ne 5, 3) := by decide +kernel
theorem dX12_nextBest_9 : decode cX12_nextBest 9 = .ok (.iconst (-1), 1) := by decide +kernel
theorem dX12_nextBest_10 : decode cX12_nextBest 10 = .ok (.ireturn, 1) := by decide +kernel
theorem dX12_nextBest_11 : decode cX12_nextBest 11 = .ok (.iconst 0, 1) := by decide +kernel
theorem dX12_nextBest_12 : decode cX12_nextBest 12 = .ok (.istore_n 2, 1) := by decide +kernel
theorem dX12_nextBest_13 : decode cX12_nextBest 13 = .ok (.iload_n 2, 1) := by decide +kernel
theorem dX12_nextBest_14 : decode cX12_nextBest 14 = .ok (.aload_n 0, 1) := by decide +kernel
theorem dX12_nextBest_15 : decode cX12_nextBest 15 = .ok (.getfield 13, 3) := by decide +kernel
theorem dX12_nextBest_18 : decode cX12_nextBest 18 = .ok (.iconst 2, 1) := by decide +kernel
theorem dX12_nextBest_19 : decode cX12_nextBest 19 = .ok (.iaload, 1) := by decide +kernel
theorem dX12_nextBest_20 : decode cX12_nextBest 20 = .ok (.if_icmp .ge 68, 3) := by decide +kernel
theorem dX12_nextBest_23 : decode cX12_nextBest 23 = .ok (.aload_n 0, 1) := by decide +kernel
theorem dX12_nextBest_24 : decode cX12_nextBest 24 = .ok (.iload_n 1, 1) := by decide +kernel
theorem dX12_nextBest_25 : decode cX12_nextBest 25 = .ok (.invokevirtual 256, 3) := by decide +kernel
theorem dX12_nextBest_28 : decode cX12_nextBest 28 = .ok (.ifCond .ne 60, 3) := by decide +kernel
theorem dX12_nextBest_31 : decode cX12_nextBest 31 = .ok (.iload_n 1, 1) := by decide +kernel
theorem dX12_nextBest_32 : decode cX12_nextBest 32 = .ok (.iload_n 2, 1) := by decide +kernel
theorem dX12_nextBest_33 : decode cX12_nextBest 33 = .ok (.invokestatic 268, 3) := by decide +kernel
theorem dX12_nextBest_36 : decode cX12_nextBest 36 = .ok (.istore_n 3, 1) := by decide +kernel
theorem dX12_nextBest_37 : decode cX12_nextBest 37 = .ok (.aload_n 0, 1) := by decide +kernel
theorem dX12_nextBest_38 : decode cX12_nextBest 38 = .ok (.aload_n 0, 1) := by decide +kernel
theorem dX12_nextBest_39 : decode cX12_nextBest 39 = .ok (.getfield 360, 3) := by decide +kernel
theorem dX12_nextBest_42 : decode cX12_nextBest 42 = .ok (.iload_n 1, 1) := by decide +kernel
theorem dX12_nextBest_43 : decode cX12_nextBest 43 = .ok (.iload_n 2, 1) := by decide +kernel
theorem dX12_nextBest_44 : decode cX12_nextBest 44 = .ok (.invokevirtual 259, 3) := by decide +kernel
theorem dX12_nextBest_47 : decode cX12_nextBest 47 = .ok (.aload_n 0, 1) := by decide +kernel
theorem dX12_nextBest_48 : decode cX12_nextBest 48 = .ok (.getfield 39, 3) := by decide +kernel
theorem dX12_nextBest_51 : decode cX12_nextBest 51 = .ok (.iload_n 3, 1) := by decide +kernel
theorem dX12_nextBest_52 : decode cX12_nextBest 52 = .ok (.iaload, 1) := by decide +kernel
theorem dX12_nextBest_53 : decode cX12_nextBest 53 = .ok (.iadd, 1) := by decide +kernel
theorem dX12_nextBest_54 : decode cX12_nextBest 54 = .ok (.aload_n 0, 1) := by decide +kernel
theorem dX12_nextBest_55 : decode cX12_nextBest 55 = .ok (.getfield 39, 3) := by decide +kernel
theorem dX12_nextBest_58 : decode cX12_nextBest 58 = .ok (.iload_n 1, 1) := by decide +kernel
theorem dX12_nextBest_59 : decode cX12_nextBest 59 = .ok (.iaload, 1) := by decide +kernel
theorem dX12_nextBest_60 : decode cX12_nextBest 60 = .ok (.if_icmp .ne 22, 3) := by decide +kernel
theorem dX12_nextBest_63 : decode cX12_nextBest 63 = .ok (.aload_n 0, 1) := by decide +kernel
theorem dX12_nextBest_64 : decode cX12_nextBest 64 = .ok (.getfield 42, 3) := by decide +kernel
theorem dX12_nextBest_67 : decode cX12_nextBest 67 = .ok (.iload_n 3, 1) := by decide +kernel
theorem dX12_nextBest_68 : decode cX12_nextBest 68 = .ok (.iaload, 1) := by decide +kernel
theorem dX12_nextBest_69 : decode cX12_nextBest 69 = .ok (.iconst 1, 1) := by decide +kernel
theorem dX12_nextBest_70 : decode cX12_nextBest 70 = .ok (.iadd, 1) := by decide +kernel
theorem dX12_nextBest_71 : decode cX12_nextBest 71 = .ok (.aload_n 0, 1) := by decide +kernel
theorem dX12_nextBest_72 : decode cX12_nextBest 72 = .ok (.getfield 42, 3) := by decide +kernel
theorem dX12_nextBest_75 : decode cX12_nextBest 75 = .ok (.iload_n 1, 1) := by decide +kernel
theorem dX12_nextBest_76 : decode cX12_nextBest 76 = .ok (.iaload, 1) := by decide +kernel
theorem dX12_nextBest_77 : decode cX12_nextBest 77 = .ok (.if_icmp .ne 5, 3) := by decide +kernel
theorem dX12_nextBest_80 : decode cX12_nextBest 80 = .ok (.iload_n 2, 1) := by decide +kernel
theorem dX12_nextBest_81 : decode cX12_nextBest 81 = .ok (.ireturn, 1) := by decide +kernel
theorem dX12_nextBest_82 : decode cX12_nextBest 82 = .ok (.iinc 2 1, 3) := by decide +kernel
theorem dX12_nextBest_85 : decode cX12_nextBest 85 = .ok (.goto (-72), 3) := by decide +kernel
theorem dX12_nextBest_88 : decode cX12_nextBest 88 = .ok (.bipush 9, 2) := by decide +kernel
theorem dX12_nextBest_90 : decode cX12_nextBest 90 = .ok (.ireturn, 1) := by decide +kernel
set_option maxRecDepth 20000 in
theorem ggX12_doneTo_X12_drawnTo : GoodIn wsX12_doneTo wsX12_drawnTo := goodIn_r _ [6, 7, 8, 5, 9, 10, 11, 12, 13, 14, 15, 16, 17, 18, 19, 20, 21, 22, 23, 24, 25, 26, 27, 28, 44, 45, 46, 47, 48, 49, 50, 51, 52, 53, 54, 55, 56, 57, 58, 59, 60, 61, 62, 63, 64, 65, 66, 67, 68, 69, 70, 71, 72, 73, 74, 75, 76, 77, 78, 79] (by decide +kernel) (by decide +kernel)
set_option maxRecDepth 20000 in
theorem gX12_doneTo_X12_drawnTo : GoodIn wsX12_doneTo (wsV RX12 275 RX12 yX12_drawnTo wsX12_drawnTo) := goodIn_app (goodIn_of _ (by decide +kernel)) ggX12_doneTo_X12_drawnTo
set_option maxRecDepth 20000 in
theorem ggX12_doneTo_X12_livedTo : GoodIn wsX12_doneTo wsX12_livedTo := goodIn_r _ [31, 32, 33, 5, 34, 35, 36, 37, 7, 8, 9, 38, 39, 40, 41, 42, 43, 26, 27, 28] (by decide +kernel) (by decide +kernel)
set_option maxRecDepth 20000 in
theorem gX12_doneTo_X12_livedTo : GoodIn wsX12_doneTo (va_wsS RX12 268 yX12_livedTo wsX12_livedTo) := goodIn_app (goodIn_of _ (by decide +kernel)) ggX12_doneTo_X12_livedTo
theorem dX12_doneTo_0 : decode cX12_doneTo 0 = .ok (.iload_n 2, 1) := by decide +kernel
theorem dX12_doneTo_1 : decode cX12_doneTo 1 = .ok (.bipush 9, 2) := by decide +kernel
theorem dX12_doneTo_3 : decode cX12_doneTo 3 = .ok (.if_icmp .ne 15, 3) := by decide +kernel
theorem dX12_doneTo_6 : decode cX12_doneTo 6 = .ok (.aload_n 0, 1) := by decide +kernel
theorem dX12_doneTo_7 : decode cX12_doneTo 7 = .ok (.aload_n 0, 1) := by decide +kernel
theorem dX12_doneTo_8 : decode cX12_doneTo 8 = .ok (.getfield 360, 3) := by decide +kernel
theorem dX12_doneTo_11 : decode cX12_doneTo 11 = .ok (.iload_n 1, 1) := by decide +kernel
theorem dX12_doneTo_12 : decode cX12_doneTo 12 = .ok (.invokevirtual 275, 3) := by decide +kernel
theorem dX12_doneTo_15 : decode cX12_doneTo 15 = .ok (.goto 8, 3) := by decide +kernel
theorem dX12_doneTo_18 : decode cX12_doneTo 18 = .ok (.iload_n 1, 1) := by decide +kernel
theorem dX12_doneTo_19 : decode cX12_doneTo 19 = .ok (.iload_n 2, 1) := by decide +kernel
theorem dX12_doneTo_20 : decode cX12_doneTo 20 = .ok (.invokestatic 268, 3) := by decide +kernel
theorem dX12_doneTo_23 : decode cX12_doneTo 23 = .ok (.ireturn, 1) := by decide +kernel
set_option maxRecDepth 20000 in
theorem ggX12_best_X12_isPerson : GoodIn wsX12_best wsX12_isPerson := goodIn_r _ [8, 9, 10, 11, 7, 12, 81, 82, 83, 84, 85, 86, 87, 88, 89, 90, 91, 92, 93, 94, 95, 96, 97, 98, 99, 100, 101, 102, 103, 104, 105, 106, 107, 108, 109, 110, 111, 112, 113, 114, 115, 116] (by decide +kernel) (by decide +kernel)
set_option maxRecDepth 20000 in
theorem gX12_best_X12_isPerson : GoodIn wsX12_best (wsV RX12 245 RX12 yX12_isPerson wsX12_isPerson) := goodIn_app (goodIn_of _ (by decide +kernel)) ggX12_best_X12_isPerson
set_option maxRecDepth 20000 in
theorem ggX12_best_X12_begins : GoodIn wsX12_best wsX12_begins := goodIn_r _ [16, 9, 17, 18, 19, 81, 82, 83, 84, 85, 86, 87, 88, 89, 90, 91, 92, 93, 94, 95, 96, 97, 98, 99, 100, 101, 102, 103, 104, 105, 106, 107, 108, 109, 110, 111, 112, 113, 114, 115, 116] (by decide +kernel) (by decide +kernel)
set_option maxRecDepth 20000 in
theorem gX12_best_X12_begins : GoodIn wsX12_best (wsV RX12 373 RX12 yX12_begins wsX12_begins) := goodIn_app (goodIn_of _ (by decide +kernel)) ggX12_best_X12_begins
set_option maxRecDepth 20000 in
theorem ggX12_best_X12_standNow : GoodIn wsX12_best wsX12_standNow := goodIn_r _ [23, 9, 24, 25, 7, 26, 81, 82, 83, 84, 85, 86, 87, 88, 89, 90, 91, 92, 93, 94, 95, 96, 97, 98, 99, 100, 101, 102, 103, 104, 105, 106, 107, 108, 109, 110, 111, 112, 113, 114, 115, 116] (by decide +kernel) (by decide +kernel)
set_option maxRecDepth 20000 in
theorem gX12_best_X12_standNow : GoodIn wsX12_best (wsV RX12 253 RX12 yX12_standNow wsX12_standNow) := goodIn_app (goodIn_of _ (by decide +kernel)) ggX12_best_X12_standNow
set_option maxRecDepth 20000 in
theorem ggX12_best_X12_laysBest : GoodIn wsX12_best wsX12_laysBest := goodIn_r _ [30, 19, 9, 17, 3, 31, 32, 33, 34, 7, 35, 36, 37, 38, 39, 40, 41, 42, 43, 44, 45, 46, 47, 48, 49, 50, 51, 52, 53, 24, 25, 26, 27, 28, 29, 54, 55, 56, 57, 58, 59, 60, 61, 62, 63, 64, 65, 66, 67, 68, 69, 70, 71, 72, 18, 73, 74, 75, 76, 77, 78, 79, 80, 81, 82, 83, 84, 85, 86, 87, 88, 89, 90, 91, 92, 93, 94, 95, 96, 97, 98, 99, 100, 101, 102, 103, 104, 105, 106, 107, 108, 109, 110, 111, 112, 113, 114, 115, 116] (by decide +kernel) (by decide +kernel)
set_option maxRecDepth 20000 in
theorem gX12_best_X12_laysBest : GoodIn wsX12_best (wsV RX12 367 RX12 yX12_laysBest wsX12_laysBest) := goodIn_app (goodIn_of _ (by decide +kernel)) ggX12_best_X12_laysBest
theorem dX12_best_0 : decode cX12_best 0 = .ok (.aload_n 0, 1) := by decide +kernel
theorem dX12_best_1 : decode cX12_best 1 = .ok (.iconst 0, 1) := by decide +kernel
theorem dX12_best_2 : decode cX12_best 2 = .ok (.putfield 1, 3) := by decide +kernel
theorem dX12_best_5 : decode cX12_best 5 = .ok (.aload_n 0, 1) := by decide +kernel
theorem dX12_best_6 : decode cX12_best 6 = .ok (.iload_n 1, 1) := by decide +kernel
theorem dX12_best_7 : decode cX12_best 7 = .ok (.i2l, 1) := by decide +kernel
theorem dX12_best_8 : decode cX12_best 8 = .ok (.invokevirtual 245, 3) := by decide +kernel
theorem dX12_best_11 : decode cX12_best 11 = .ok (.ifCond .ne 6, 3) := by decide +kernel
theorem dX12_best_14 : decode cX12_best 14 = .ok (.ldc 249, 2) := by decide +kernel
theorem dX12_best_16 : decode cX12_best 16 = .ok (.ireturn, 1) := by decide +kernel
theorem dX12_best_17 : decode cX12_best 17 = .ok (.aload_n 0, 1) := by decide +kernel
theorem dX12_best_18 : decode cX12_best 18 = .ok (.iload_n 1, 1) := by decide +kernel
theorem dX12_best_19 : decode cX12_best 19 = .ok (.invokevirtual 373, 3) := by decide +kernel
theorem dX12_best_22 : decode cX12_best 22 = .ok (.aload_n 0, 1) := by decide +kernel
theorem dX12_best_23 : decode cX12_best 23 = .ok (.aload_n 0, 1) := by decide +kernel
theorem dX12_best_24 : decode cX12_best 24 = .ok (.iload_n 1, 1) := by decide +kernel
theorem dX12_best_25 : decode cX12_best 25 = .ok (.invokevirtual 253, 3) := by decide +kernel
theorem dX12_best_28 : decode cX12_best 28 = .ok (.invokevirtual 367, 3) := by decide +kernel
theorem dX12_best_31 : decode cX12_best 31 = .ok (.aload_n 0, 1) := by decide +kernel
theorem dX12_best_32 : decode cX12_best 32 = .ok (.getfield 39, 3) := by decide +kernel
theorem dX12_best_35 : decode cX12_best 35 = .ok (.aload_n 0, 1) := by decide +kernel
theorem dX12_best_36 : decode cX12_best 36 = .ok (.iload_n 1, 1) := by decide +kernel
theorem dX12_best_37 : decode cX12_best 37 = .ok (.invokevirtual 253, 3) := by decide +kernel
theorem dX12_best_40 : decode cX12_best 40 = .ok (.iaload, 1) := by decide +kernel
theorem dX12_best_41 : decode cX12_best 41 = .ok (.ireturn, 1) := by decide +kernel
set_option maxRecDepth 20000 in
theorem ggX12_courseAt_X12_begins : GoodIn wsX12_courseAt wsX12_begins := goodIn_r _ [6, 7, 8, 9, 10, 80, 81, 82, 83, 84, 85, 86, 87, 88, 89, 90, 91, 92, 93, 94, 95, 96, 97, 98, 99, 100, 101, 102, 103, 104, 105, 106, 107, 108, 109, 110, 111, 112, 113, 114, 115] (by decide +kernel) (by decide +kernel)
set_option maxRecDepth 20000 in
theorem gX12_courseAt_X12_begins : GoodIn wsX12_courseAt (wsV RX12 373 RX12 yX12_begins wsX12_begins) := goodIn_app (goodIn_of _ (by decide +kernel)) ggX12_courseAt_X12_begins
set_option maxRecDepth 20000 in
theorem ggX12_courseAt_X12_standNow : GoodIn wsX12_courseAt wsX12_standNow := goodIn_r _ [14, 7, 15, 16, 5, 17, 80, 81, 82, 83, 84, 85, 86, 87, 88, 89, 90, 91, 92, 93, 94, 95, 96, 97, 98, 99, 100, 101, 102, 103, 104, 105, 106, 107, 108, 109, 110, 111, 112, 113, 114, 115] (by decide +kernel) (by decide +kernel)
set_option maxRecDepth 20000 in
theorem gX12_courseAt_X12_standNow : GoodIn wsX12_courseAt (wsV RX12 253 RX12 yX12_standNow wsX12_standNow) := goodIn_app (goodIn_of _ (by decide +kernel)) ggX12_courseAt_X12_standNow
set_option maxRecDepth 20000 in
theorem ggX12_courseAt_X12_laysBest : GoodIn wsX12_courseAt wsX12_laysBest := goodIn_r _ [21, 10, 7, 8, 22, 1, 23, 24, 25, 5, 26, 27, 28, 29, 30, 31, 32, 33, 34, 35, 36, 37, 38, 39, 40, 41, 42, 43, 44, 15, 16, 17, 18, 19, 20, 45, 46, 47, 48, 49, 50, 51, 52, 53, 54, 55, 56, 57, 58, 59, 60, 61, 62, 63, 9, 64, 65, 66, 67, 68, 69, 70, 71, 80, 81, 82, 83, 84, 85, 86, 87, 88, 89, 90, 91, 92, 93, 94, 95, 96, 97, 98, 99, 100, 101, 102, 103, 104, 105, 106, 107, 108, 109, 110, 111, 112, 113, 114, 115] (by decide +kernel) (by decide +kernel)
set_option maxRecDepth 20000 in
theorem gX12_courseAt_X12_laysBest : GoodIn wsX12_courseAt (wsV RX12 367 RX12 yX12_laysBest wsX12_laysBest) := goodIn_app (goodIn_of _ (by decide +kernel)) ggX12_courseAt_X12_laysBest
set_option maxRecDepth 20000 in
theorem ggX12_courseAt_X12_nextBest : GoodIn wsX12_courseAt wsX12_nextBest := goodIn_r _ [75, 1, 7, 8, 22, 23, 24, 25, 5, 26, 27, 28, 29, 30, 31, 32, 33, 34, 35, 36, 37, 38, 39, 40, 41, 42, 43, 44, 15, 16, 17, 45, 46, 47, 48, 49, 50, 51, 52, 53, 54, 55, 56, 57, 58, 59, 80, 81, 82, 83, 84, 85, 86, 87, 88, 89, 90, 91, 92, 93, 94, 95, 96, 97, 98, 99, 100, 101, 102, 103, 104, 105, 106, 107, 108, 109, 110, 111, 112, 113, 114, 115] (by decide +kernel) (by decide +kernel)
set_option maxRecDepth 20000 in
theorem gX12_courseAt_X12_nextBest : GoodIn wsX12_courseAt (wsV RX12 376 RX12 yX12_nextBest wsX12_nextBest) := goodIn_app (goodIn_of _ (by decide +kernel)) ggX12_courseAt_X12_nextBest
set_option maxRecDepth 20000 in
theorem ggX12_courseAt_X12_doneTo : GoodIn wsX12_courseAt wsX12_doneTo := goodIn_r _ [79, 8, 64, 65, 66, 5, 67, 27, 28, 29, 68, 69, 70, 71, 7, 49, 50, 51, 52, 53, 54, 55, 56, 57, 58, 59, 15, 16, 17, 30, 31, 32, 33, 34, 35, 36, 37, 38, 39, 40, 41, 42, 43, 44, 80, 81, 82, 83, 84, 85, 86, 87, 88, 89, 90, 91, 92, 93, 94, 95, 96, 97, 98, 99, 100, 101, 102, 103, 104, 105, 106, 107, 108, 109, 110, 111, 112, 113, 114, 115] (by decide +kernel) (by decide +kernel)
set_option maxRecDepth 20000 in
theorem gX12_courseAt_X12_doneTo : GoodIn wsX12_courseAt (wsV RX12 379 RX12 yX12_doneTo wsX12_doneTo) := goodIn_app (goodIn_of _ (by decide +kernel)) ggX12_courseAt_X12_doneTo
theorem dX12_courseAt_0 : decode cX12_courseAt 0 = .ok (.aload_n 0, 1) := by decide +kernel
theorem dX12_courseAt_1 : decode cX12_courseAt 1 = .ok (.iload_n 1, 1) := by decide +kernel
theorem dX12_courseAt_2 : decode cX12_courseAt 2 = .ok (.invokevirtual 373, 3) := by decide +kernel
theorem dX12_courseAt_5 : decode cX12_courseAt 5 = .ok (.aload_n 0, 1) := by decide +kernel
theorem dX12_courseAt_6 : decode cX12_courseAt 6 = .ok (.iload_n 1, 1) := by decide +kernel
theorem dX12_courseAt_7 : decode cX12_courseAt 7 = .ok (.invokevirtual 253, 3) := by decide +kernel
theorem dX12_courseAt_10 : decode cX12_courseAt 10 = .ok (.istore_n 3, 1) := by decide +kernel
theorem dX12_courseAt_11 : decode cX12_courseAt 11 = .ok (.aload_n 0, 1) := by decide +kernel
theorem dX12_courseAt_12 : decode cX12_courseAt 12 = .ok (.iload_n 3, 1) := by decide +kernel
theorem dX12_courseAt_13 : decode cX12_courseAt 13 = .ok (.invokevirtual 367, 3) := by decide +kernel
theorem dX12_courseAt_16 : decode cX12_courseAt 16 = .ok (.iconst 0, 1) := by decide +kernel
theorem dX12_courseAt_17 : decode cX12_courseAt 17 = .ok (.istore 4, 2) := by decide +kernel
theorem dX12_courseAt_19 : decode cX12_courseAt 19 = .ok (.iload 4, 2) := by decide +kernel
theorem dX12_courseAt_21 : decode cX12_courseAt 21 = .ok (.iload_n 2, 1) := by decide +kernel
theorem dX12_courseAt_22 : decode cX12_courseAt 22 = .ok (.if_icmp .ge 29, 3) := by decide +kernel
theorem dX12_courseAt_25 : decode cX12_courseAt 25 = .ok (.aload_n 0, 1) := by decide +kernel
theorem dX12_courseAt_26 : decode cX12_courseAt 26 = .ok (.getfield 42, 3) := by decide +kernel
theorem dX12_courseAt_29 : decode cX12_courseAt 29 = .ok (.iload_n 3, 1) := by decide +kernel
theorem dX12_courseAt_30 : decode cX12_courseAt 30 = .ok (.iaload, 1) := by decide +kernel
theorem dX12_courseAt_31 : decode cX12_courseAt 31 = .ok (.ifCond .le 20, 3) := by decide +kernel
theorem dX12_courseAt_34 : decode cX12_courseAt 34 = .ok (.aload_n 0, 1) := by decide +kernel
theorem dX12_courseAt_35 : decode cX12_courseAt 35 = .ok (.iload_n 3, 1) := by decide +kernel
theorem dX12_courseAt_36 : decode cX12_courseAt 36 = .ok (.aload_n 0, 1) := by decide +kernel
theorem dX12_courseAt_37 : decode cX12_courseAt 37 = .ok (.iload_n 3, 1) := by decide +kernel
theorem dX12_courseAt_38 : decode cX12_courseAt 38 = .ok (.invokevirtual 376, 3) := by decide +kernel
theorem dX12_courseAt_41 : decode cX12_courseAt 41 = .ok (.invokevirtual 379, 3) := by decide +kernel
theorem dX12_courseAt_44 : decode cX12_courseAt 44 = .ok (.istore_n 3, 1) := by decide +kernel
theorem dX12_courseAt_45 : decode cX12_courseAt 45 = .ok (.iinc 4 1, 3) := by decide +kernel
theorem dX12_courseAt_48 : decode cX12_courseAt 48 = .ok (.goto (-29), 3) := by decide +kernel
theorem dX12_courseAt_51 : decode cX12_courseAt 51 = .ok (.aload_n 0, 1) := by decide +kernel
theorem dX12_courseAt_52 : decode cX12_courseAt 52 = .ok (.iload_n 3, 1) := by decide +kernel
theorem dX12_courseAt_53 : decode cX12_courseAt 53 = .ok (.invokevirtual 376, 3) := by decide +kernel
theorem dX12_courseAt_56 : decode cX12_courseAt 56 = .ok (.ireturn, 1) := by decide +kernel
set_option maxRecDepth 20000 in
theorem ggX12_course_X12_isPerson : GoodIn wsX12_course wsX12_isPerson := goodIn_r _ [8, 9, 10, 11, 7, 12, 94, 95, 96, 97, 98, 99, 100, 101, 102, 103, 104, 105, 106, 107, 108, 109, 110, 111, 112, 113, 114, 115, 116, 117, 118, 119, 120, 121, 122, 123, 124, 125, 126, 127, 128, 129] (by decide +kernel) (by decide +kernel)
set_option maxRecDepth 20000 in
theorem gX12_course_X12_isPerson : GoodIn wsX12_course (wsV RX12 245 RX12 yX12_isPerson wsX12_isPerson) := goodIn_app (goodIn_of _ (by decide +kernel)) ggX12_course_X12_isPerson
set_option maxRecDepth 20000 in
theorem ggX12_course_X12_courseAt : GoodIn wsX12_course wsX12_courseAt := goodIn_r _ [16, 17, 18, 19, 20, 7, 21, 9, 22, 23, 24, 25, 26, 27, 28, 29, 30, 31, 32, 33, 34, 35, 36, 37, 38, 39, 40, 41, 42, 43, 44, 45, 46, 47, 48, 49, 50, 51, 52, 53, 54, 55, 56, 57, 58, 59, 60, 61, 62, 63, 64, 65, 66, 67, 68, 69, 70, 71, 72, 73, 74, 75, 76, 77, 78, 79, 80, 81, 82, 83, 84, 85, 86, 87, 88, 89, 90, 91, 92, 93, 94, 95, 96, 97, 98, 99, 100, 101, 102, 103, 104, 105, 106, 107, 108, 109, 110, 111, 112, 113, 114, 115, 116, 117, 118, 119, 120, 121, 122, 123, 124, 125, 126, 127, 128, 129] (by decide +kernel) (by decide +kernel)
set_option maxRecDepth 20000 in
theorem gX12_course_X12_courseAt : GoodIn wsX12_course (wsV RX12 382 RX12 yX12_courseAt wsX12_courseAt) := goodIn_app (goodIn_of _ (by decide +kernel)) ggX12_course_X12_courseAt
theorem dX12_course_0 : decode cX12_course 0 = .ok (.aload_n 0, 1) := by decide +kernel
theorem dX12_course_1 : decode cX12_course 1 = .ok (.iconst 0, 1) := by decide +kernel
theorem dX12_course_2 : decode cX12_course 2 = .ok (.putfield 1, 3) := by decide +kernel
theorem dX12_course_5 : decode cX12_course 5 = .ok (.aload_n 0, 1) := by decide +kernel
theorem dX12_course_6 : decode cX12_course 6 = .ok (.iload_n 1, 1) := by decide +kernel
theorem dX12_course_7 : decode cX12_course 7 = .ok (.i2l, 1) := by decide +kernel
theorem dX12_course_8 : decode cX12_course 8 = .ok (.invokevirtual 245, 3) := by decide +kernel
theorem dX12_course_11 : decode cX12_course 11 = .ok (.ifCond .ne 6, 3) := by decide +kernel
theorem dX12_course_14 : decode cX12_course 14 = .ok (.ldc 249, 2) := by decide +kernel
theorem dX12_course_16 : decode cX12_course 16 = .ok (.ireturn, 1) := by decide +kernel
theorem dX12_course_17 : decode cX12_course 17 = .ok (.iload_n 2, 1) := by decide +kernel
theorem dX12_course_18 : decode cX12_course 18 = .ok (.ifCond .ge 6, 3) := by decide +kernel
theorem dX12_course_21 : decode cX12_course 21 = .ok (.ldc 201, 2) := by decide +kernel
theorem dX12_course_23 : decode cX12_course 23 = .ok (.ireturn, 1) := by decide +kernel
theorem dX12_course_24 : decode cX12_course 24 = .ok (.aload_n 0, 1) := by decide +kernel
theorem dX12_course_25 : decode cX12_course 25 = .ok (.iload_n 1, 1) := by decide +kernel
theorem dX12_course_26 : decode cX12_course 26 = .ok (.iload_n 2, 1) := by decide +kernel
theorem dX12_course_27 : decode cX12_course 27 = .ok (.invokevirtual 382, 3) := by decide +kernel
theorem dX12_course_30 : decode cX12_course 30 = .ok (.ireturn, 1) := by decide +kernel
set_option maxRecDepth 20000 in
theorem ggX12_drawsAt_X12_isPerson : GoodIn wsX12_drawsAt wsX12_isPerson := goodIn_r _ [8, 9, 10, 11, 7, 12, 89, 90, 91, 92, 93, 94, 95, 96, 97, 98, 99, 100, 101, 102, 103, 104, 105, 106, 107, 108, 109, 110, 111, 112, 113, 114, 115, 116, 117, 118, 119, 120, 121, 122, 123, 124] (by decide +kernel) (by decide +kernel)
set_option maxRecDepth 20000 in
theorem gX12_drawsAt_X12_isPerson : GoodIn wsX12_drawsAt (wsV RX12 245 RX12 yX12_isPerson wsX12_isPerson) := goodIn_app (goodIn_of _ (by decide +kernel)) ggX12_drawsAt_X12_isPerson
set_option maxRecDepth 20000 in
theorem ggX12_drawsAt_X12_begins : GoodIn wsX12_drawsAt wsX12_begins := goodIn_r _ [16, 9, 17, 18, 19, 89, 90, 91, 92, 93, 94, 95, 96, 97, 98, 99, 100, 101, 102, 103, 104, 105, 106, 107, 108, 109, 110, 111, 112, 113, 114, 115, 116, 117, 118, 119, 120, 121, 122, 123, 124] (by decide +kernel) (by decide +kernel)
set_option maxRecDepth 20000 in
theorem gX12_drawsAt_X12_begins : GoodIn wsX12_drawsAt (wsV RX12 373 RX12 yX12_begins wsX12_begins) := goodIn_app (goodIn_of _ (by decide +kernel)) ggX12_drawsAt_X12_begins
set_option maxRecDepth 20000 in
theorem ggX12_drawsAt_X12_standNow : GoodIn wsX12_drawsAt wsX12_standNow := goodIn_r _ [23, 9, 24, 25, 7, 26, 89, 90, 91, 92, 93, 94, 95, 96, 97, 98, 99, 100, 101, 102, 103, 104, 105, 106, 107, 108, 109, 110, 111, 112, 113, 114, 115, 116, 117, 118, 119, 120, 121, 122, 123, 124] (by decide +kernel) (by decide +kernel)
set_option maxRecDepth 20000 in
theorem gX12_drawsAt_X12_standNow : GoodIn wsX12_drawsAt (wsV RX12 253 RX12 yX12_standNow wsX12_standNow) := goodIn_app (goodIn_of _ (by decide +kernel)) ggX12_drawsAt_X12_standNow
set_option maxRecDepth 20000 in
theorem ggX12_drawsAt_X12_laysBest : GoodIn wsX12_drawsAt wsX12_laysBest := goodIn_r _ [30, 19, 9, 17, 31, 3, 32, 33, 34, 7, 35, 36, 37, 38, 39, 40, 41, 42, 43, 44, 45, 46, 47, 48, 49, 50, 51, 52, 53, 24, 25, 26, 27, 28, 29, 54, 55, 56, 57, 58, 59, 60, 61, 62, 63, 64, 65, 66, 67, 68, 69, 70, 71, 72, 18, 73, 74, 75, 76, 77, 78, 79, 80, 89, 90, 91, 92, 93, 94, 95, 96, 97, 98, 99, 100, 101, 102, 103, 104, 105, 106, 107, 108, 109, 110, 111, 112, 113, 114, 115, 116, 117, 118, 119, 120, 121, 122, 123, 124] (by decide +kernel) (by decide +kernel)
set_option maxRecDepth 20000 in
theorem gX12_drawsAt_X12_laysBest : GoodIn wsX12_drawsAt (wsV RX12 367 RX12 yX12_laysBest wsX12_laysBest) := goodIn_app (goodIn_of _ (by decide +kernel)) ggX12_drawsAt_X12_laysBest
set_option maxRecDepth 20000 in
theorem ggX12_drawsAt_X12_nextBest : GoodIn wsX12_drawsAt wsX12_nextBest := goodIn_r _ [84, 3, 9, 17, 31, 32, 33, 34, 7, 35, 36, 37, 38, 39, 40, 41, 42, 43, 44, 45, 46, 47, 48, 49, 50, 51, 52, 53, 24, 25, 26, 54, 55, 56, 57, 58, 59, 60, 61, 62, 63, 64, 65, 66, 67, 68, 89, 90, 91, 92, 93, 94, 95, 96, 97, 98, 99, 100, 101, 102, 103, 104, 105, 106, 107, 108, 109, 110, 111, 112, 113, 114, 115, 116, 117, 118, 119, 120, 121, 122, 123, 124] (by decide +kernel) (by decide +kernel)
set_option maxRecDepth 20000 in
theorem gX12_drawsAt_X12_nextBest : GoodIn wsX12_drawsAt (wsV RX12 376 RX12 yX12_nextBest wsX12_nextBest) := goodIn_app (goodIn_of _ (by decide +kernel)) ggX12_drawsAt_X12_nextBest
set_option maxRecDepth 20000 in
theorem ggX12_drawsAt_X12_doneTo : GoodIn wsX12_drawsAt wsX12_doneTo := goodIn_r _ [88, 17, 73, 74, 75, 7, 76, 36, 37, 38, 77, 78, 79, 80, 9, 58, 59, 60, 61, 62, 63, 64, 65, 66, 67, 68, 24, 25, 26, 39, 40, 41, 42, 43, 44, 45, 46, 47, 48, 49, 50, 51, 52, 53, 89, 90, 91, 92, 93, 94, 95, 96, 97, 98, 99, 100, 101, 102, 103, 104, 105, 106, 107, 108, 109, 110, 111, 112, 113, 114, 115, 116, 117, 118, 119, 120, 121, 122, 123, 124] (by decide +kernel) (by decide +kernel)
set_option maxRecDepth 20000 in
theorem gX12_drawsAt_X12_doneTo : GoodIn wsX12_drawsAt (wsV RX12 379 RX12 yX12_doneTo wsX12_doneTo) := goodIn_app (goodIn_of _ (by decide +kernel)) ggX12_drawsAt_X12_doneTo
set_option maxRecDepth 20000 in
theorem ggX12_drawsAt_X12_yearOf : GoodIn wsX12_drawsAt wsX12_yearOf := goodIn_r _ [38] (by decide +kernel) (by decide +kernel)
set_option maxRecDepth 20000 in
theorem gX12_drawsAt_X12_yearOf : GoodIn wsX12_drawsAt (va_wsS RX12 224 yX12_yearOf wsX12_yearOf) := goodIn_app (goodIn_of _ (by decide +kernel)) ggX12_drawsAt_X12_yearOf
theorem dX12_drawsAt_0 : decode cX12_drawsAt 0 = .ok (.aload_n 0, 1) := by decide +kernel
theorem dX12_drawsAt_1 : decode cX12_drawsAt 1 = .ok (.iconst 0, 1) := by decide +kernel
theorem dX12_drawsAt_2 : decode cX12_drawsAt 2 = .ok (.putfield 1, 3) := by decide +kernel
theorem dX12_drawsAt_5 : decode cX12_drawsAt 5 = .ok (.aload_n 0, 1) := by decide +kernel
theorem dX12_drawsAt_6 : decode cX12_drawsAt 6 = .ok (.iload_n 1, 1) := by decide +kernel
theorem dX12_drawsAt_7 : decode cX12_drawsAt 7 = .ok (.i2l, 1) := by decide +kernel
theorem dX12_drawsAt_8 : decode cX12_drawsAt 8 = .ok (.invokevirtual 245, 3) := by decide +kernel
theorem dX12_drawsAt_11 : decode cX12_drawsAt 11 = .ok (.ifCond .ne 6, 3) := by decide +kernel
theorem dX12_drawsAt_14 : decode cX12_drawsAt 14 = .ok (.ldc 249, 2) := by decide +kernel
theorem dX12_drawsAt_16 : decode cX12_drawsAt 16 = .ok (.ireturn, 1) := by decide +kernel
theorem dX12_drawsAt_17 : decode cX12_drawsAt 17 = .ok (.aload_n 0, 1) := by decide +kernel
theorem dX12_drawsAt_18 : decode cX12_drawsAt 18 = .ok (.iload_n 1, 1) := by decide +kernel
theorem dX12_drawsAt_19 : decode cX12_drawsAt 19 = .ok (.invokevirtual 373, 3) := by decide +kernel
theorem dX12_drawsAt_22 : decode cX12_drawsAt 22 = .ok (.aload_n 0, 1) := by decide +kernel
theorem dX12_drawsAt_23 : decode cX12_drawsAt 23 = .ok (.iload_n 1, 1) := by decide +kernel
theorem dX12_drawsAt_24 : decode cX12_drawsAt 24 = .ok (.invokevirtual 253, 3) := by decide +kernel
theorem dX12_drawsAt_27 : decode cX12_drawsAt 27 = .ok (.istore_n 2, 1) := by decide +kernel
theorem dX12_drawsAt_28 : decode cX12_drawsAt 28 = .ok (.aload_n 0, 1) := by decide +kernel
theorem dX12_drawsAt_29 : decode cX12_drawsAt 29 = .ok (.iload_n 2, 1) := by decide +kernel
theorem dX12_drawsAt_30 : decode cX12_drawsAt 30 = .ok (.invokevirtual 367, 3) := by decide +kernel
theorem dX12_drawsAt_33 : decode cX12_drawsAt 33 = .ok (.aload_n 0, 1) := by decide +kernel
theorem dX12_drawsAt_34 : decode cX12_drawsAt 34 = .ok (.getfield 42, 3) := by decide +kernel
theorem dX12_drawsAt_37 : decode cX12_drawsAt 37 = .ok (.iload_n 2, 1) := by decide +kernel
theorem dX12_drawsAt_38 : decode cX12_drawsAt 38 = .ok (.iaload, 1) := by decide +kernel
theorem dX12_drawsAt_39 : decode cX12_drawsAt 39 = .ok (.ifCond .le 27, 3) := by decide +kernel
theorem dX12_drawsAt_42 : decode cX12_drawsAt 42 = .ok (.aload_n 0, 1) := by decide +kernel
theorem dX12_drawsAt_43 : decode cX12_drawsAt 43 = .ok (.iload_n 2, 1) := by decide +kernel
theorem dX12_drawsAt_44 : decode cX12_drawsAt 44 = .ok (.invokevirtual 376, 3) := by decide +kernel
theorem dX12_drawsAt_47 : decode cX12_drawsAt 47 = .ok (.bipush 9, 2) := by decide +kernel
theorem dX12_drawsAt_49 : decode cX12_drawsAt 49 = .ok (.if_icmp .eq 17, 3) := by decide +kernel
theorem dX12_drawsAt_52 : decode cX12_drawsAt 52 = .ok (.aload_n 0, 1) := by decide +kernel
theorem dX12_drawsAt_53 : decode cX12_drawsAt 53 = .ok (.iload_n 2, 1) := by decide +kernel
theorem dX12_drawsAt_54 : decode cX12_drawsAt 54 = .ok (.aload_n 0, 1) := by decide +kernel
theorem dX12_drawsAt_55 : decode cX12_drawsAt 55 = .ok (.iload_n 2, 1) := by decide +kernel
theorem dX12_drawsAt_56 : decode cX12_drawsAt 56 = .ok (.invokevirtual 376, 3) := by decide +kernel
theorem dX12_drawsAt_59 : decode cX12_drawsAt 59 = .ok (.invokevirtual 379, 3) := by decide +kernel
theorem dX12_drawsAt_62 : decode cX12_drawsAt 62 = .ok (.istore_n 2, 1) := by decide +kernel
theorem dX12_drawsAt_63 : decode cX12_drawsAt 63 = .ok (.goto (-30), 3) := by decide +kernel
theorem dX12_drawsAt_66 : decode cX12_drawsAt 66 = .ok (.aload_n 0, 1) := by decide +kernel
theorem dX12_drawsAt_67 : decode cX12_drawsAt 67 = .ok (.getfield 42, 3) := by decide +kernel
theorem dX12_drawsAt_70 : decode cX12_drawsAt 70 = .ok (.iload_n 2, 1) := by decide +kernel
theorem dX12_drawsAt_71 : decode cX12_drawsAt 71 = .ok (.iaload, 1) := by decide +kernel
theorem dX12_drawsAt_72 : decode cX12_drawsAt 72 = .ok (.ifCond .le 10, 3) := by decide +kernel
theorem dX12_drawsAt_75 : decode cX12_drawsAt 75 = .ok (.iload_n 2, 1) := by decide +kernel
theorem dX12_drawsAt_76 : decode cX12_drawsAt 76 = .ok (.invokestatic 224, 3) := by decide +kernel
theorem dX12_drawsAt_79 : decode cX12_drawsAt 79 = .ok (.goto 4, 3) := by decide +kernel
theorem dX12_drawsAt_82 : decode cX12_drawsAt 82 = .ok (.iconst (-1), 1) := by decide +kernel
theorem dX12_drawsAt_83 : decode cX12_drawsAt 83 = .ok (.ireturn, 1) := by decide +kernel
set_option maxRecDepth 20000 in
theorem ggX12_coursesFrom_X12_isOver : GoodIn wsX12_coursesFrom wsX12_isOver := goodIn_r _ [9, 3, 10, 11, 8, 12, 58, 59, 60, 61, 62, 63, 64, 65, 66, 67, 68, 69, 70, 71, 72, 73, 74, 75, 76, 77, 78, 79, 80, 81, 82, 83, 84, 85, 86, 87, 88, 89, 90, 91, 92, 93] (by decide +kernel) (by decide +kernel)
set_option maxRecDepth 20000 in
theorem gX12_coursesFrom_X12_isOver : GoodIn wsX12_coursesFrom (wsV RX12 256 RX12 yX12_isOver wsX12_isOver) := goodIn_app (goodIn_of _ (by decide +kernel)) ggX12_coursesFrom_X12_isOver
set_option maxRecDepth 20000 in
theorem ggX12_coursesFrom_X12_canDraw : GoodIn wsX12_coursesFrom wsX12_canDraw := goodIn_r _ [16, 17, 18, 19, 8, 20, 58, 59, 60, 61, 62, 63, 64, 65, 66, 67, 68, 69, 70, 71, 72, 73, 74, 75, 76, 77, 78, 79, 80, 81, 82, 83, 84, 85, 86, 87, 88, 89, 90, 91, 92, 93] (by decide +kernel) (by decide +kernel)
set_option maxRecDepth 20000 in
theorem gX12_coursesFrom_X12_canDraw : GoodIn wsX12_coursesFrom (wsV RX12 370 RX12 yX12_canDraw wsX12_canDraw) := goodIn_app (goodIn_of _ (by decide +kernel)) ggX12_coursesFrom_X12_canDraw
set_option maxRecDepth 20000 in
theorem ggX12_coursesFrom_X12_livedTo : GoodIn wsX12_coursesFrom wsX12_livedTo := goodIn_r _ [23, 18, 19, 8, 20, 24, 25, 26, 10, 11, 12, 27, 28, 29, 30, 31, 32, 33, 34, 35] (by decide +kernel) (by decide +kernel)
set_option maxRecDepth 20000 in
theorem gX12_coursesFrom_X12_livedTo : GoodIn wsX12_coursesFrom (va_wsS RX12 268 yX12_livedTo wsX12_livedTo) := goodIn_app (goodIn_of _ (by decide +kernel)) ggX12_coursesFrom_X12_livedTo
set_option maxRecDepth 20000 in
theorem ggX12_coursesFrom_X12_coursesFrom : GoodIn wsX12_coursesFrom wsX12_coursesFrom := goodIn_r _ [0, 1, 2, 3, 4, 5, 6, 7, 8, 9, 10, 11, 12, 13, 14, 15, 16, 17, 18, 19, 20, 21, 22, 23, 24, 25, 26, 27, 28, 29, 30, 31, 32, 33, 34, 35, 36, 37, 38, 39, 40, 41, 42, 43, 44, 45, 46, 47, 48, 49, 50, 51, 52, 53, 54, 55, 56, 57, 58, 59, 60, 61, 62, 63, 64, 65, 66, 67, 68, 69, 70, 71, 72, 73, 74, 75, 76, 77, 78, 79, 80, 81, 82, 83, 84, 85, 86, 87, 88, 89, 90, 91, 92, 93] (by decide +kernel) (by decide +kernel)
set_option maxRecDepth 20000 in
theorem gX12_coursesFrom_X12_coursesFrom : GoodIn wsX12_coursesFrom (wsV RX12 385 RX12 yX12_coursesFrom wsX12_coursesFrom) := goodIn_app (goodIn_of _ (by decide +kernel)) ggX12_coursesFrom_X12_coursesFrom
set_option maxRecDepth 20000 in
theorem ggX12_coursesFrom_X12_drawnTo : GoodIn wsX12_coursesFrom wsX12_drawnTo := goodIn_r _ [42, 10, 11, 8, 12, 43, 44, 45, 46, 3, 47, 48, 49, 50, 51, 52, 53, 54, 55, 56, 57, 33, 34, 35, 58, 59, 60, 61, 62, 63, 64, 65, 66, 67, 68, 69, 70, 71, 72, 73, 74, 75, 76, 77, 78, 79, 80, 81, 82, 83, 84, 85, 86, 87, 88, 89, 90, 91, 92, 93] (by decide +kernel) (by decide +kernel)
set_option maxRecDepth 20000 in
theorem gX12_coursesFrom_X12_drawnTo : GoodIn wsX12_coursesFrom (wsV RX12 275 RX12 yX12_drawnTo wsX12_drawnTo) := goodIn_app (goodIn_of _ (by decide +kernel)) ggX12_coursesFrom_X12_drawnTo
theorem dX12_coursesFrom_0 : decode cX12_coursesFrom 0 = .ok (.aload_n 0, 1) := by decide +kernel
theorem dX12_coursesFrom_1 : decode cX12_coursesFrom 1 = .ok (.getfield 49, 3) := by decide +kernel
theorem dX12_coursesFrom_4 : decode cX12_coursesFrom 4 = .ok (.iload_n 1, 1) := by decide +kernel
theorem dX12_coursesFrom_5 : decode cX12_coursesFrom 5 = .ok (.baload, 1) := by decide +kernel
theorem dX12_coursesFrom_6 : decode cX12_coursesFrom 6 = .ok (.ifCond .eq 10, 3) := by decide +kernel
theorem dX12_coursesFrom_9 : decode cX12_coursesFrom 9 = .ok (.aload_n 0, 1) := by decide +kernel
theorem dX12_coursesFrom_10 : decode cX12_coursesFrom 10 = .ok (.getfield 45, 3) := by decide +kernel
theorem dX12_coursesFrom_13 : decode cX12_coursesFrom 13 = .ok (.iload_n 1, 1) := by decide +kernel
theorem dX12_coursesFrom_14 : decode cX12_coursesFrom 14 = .ok (.laload, 1) := by decide +kernel
theorem dX12_coursesFrom_15 : decode cX12_coursesFrom 15 = .ok (.lreturn, 1) := by decide +kernel
theorem dX12_coursesFrom_16 : decode cX12_coursesFrom 16 = .ok (.aload_n 0, 1) := by decide +kernel
theorem dX12_coursesFrom_17 : decode cX12_coursesFrom 17 = .ok (.getfield 49, 3) := by decide +kernel
theorem dX12_coursesFrom_20 : decode cX12_coursesFrom 20 = .ok (.iload_n 1, 1) := by decide +kernel
theorem dX12_coursesFrom_21 : decode cX12_coursesFrom 21 = .ok (.iconst 1, 1) := by decide +kernel
theorem dX12_coursesFrom_22 : decode cX12_coursesFrom 22 = .ok (.bastore, 1) := by decide +kernel
theorem dX12_coursesFrom_23 : decode cX12_coursesFrom 23 = .ok (.aload_n 0, 1) := by decide +kernel
theorem dX12_coursesFrom_24 : decode cX12_coursesFrom 24 = .ok (.getfield 45, 3) := by decide +kernel
theorem dX12_coursesFrom_27 : decode cX12_coursesFrom 27 = .ok (.iload_n 1, 1) := by decide +kernel
theorem dX12_coursesFrom_28 : decode cX12_coursesFrom 28 = .ok (.aload_n 0, 1) := by decide +kernel
theorem dX12_coursesFrom_29 : decode cX12_coursesFrom 29 = .ok (.iload_n 1, 1) := by decide +kernel
theorem dX12_coursesFrom_30 : decode cX12_coursesFrom 30 = .ok (.invokevirtual 256, 3) := by decide +kernel
theorem dX12_coursesFrom_33 : decode cX12_coursesFrom 33 = .ok (.ifCond .eq 15, 3) := by decide +kernel
theorem dX12_coursesFrom_36 : decode cX12_coursesFrom 36 = .ok (.aload_n 0, 1) := by decide +kernel
theorem dX12_coursesFrom_37 : decode cX12_coursesFrom 37 = .ok (.iload_n 1, 1) := by decide +kernel
theorem dX12_coursesFrom_38 : decode cX12_coursesFrom 38 = .ok (.invokevirtual 370, 3) := by decide +kernel
theorem dX12_coursesFrom_41 : decode cX12_coursesFrom 41 = .ok (.ifCond .ne 7, 3) := by decide +kernel
theorem dX12_coursesFrom_44 : decode cX12_coursesFrom 44 = .ok (.lconst 1, 1) := by decide +kernel
theorem dX12_coursesFrom_45 : decode cX12_coursesFrom 45 = .ok (.goto 4, 3) := by decide +kernel
theorem dX12_coursesFrom_48 : decode cX12_coursesFrom 48 = .ok (.lconst 0, 1) := by decide +kernel
theorem dX12_coursesFrom_49 : decode cX12_coursesFrom 49 = .ok (.lastore, 1) := by decide +kernel
theorem dX12_coursesFrom_50 : decode cX12_coursesFrom 50 = .ok (.aload_n 0, 1) := by decide +kernel
theorem dX12_coursesFrom_51 : decode cX12_coursesFrom 51 = .ok (.getfield 45, 3) := by decide +kernel
theorem dX12_coursesFrom_54 : decode cX12_coursesFrom 54 = .ok (.iload_n 1, 1) := by decide +kernel
theorem dX12_coursesFrom_55 : decode cX12_coursesFrom 55 = .ok (.laload, 1) := by decide +kernel
theorem dX12_coursesFrom_56 : decode cX12_coursesFrom 56 = .ok (.lstore_n 2, 1) := by decide +kernel
theorem dX12_coursesFrom_57 : decode cX12_coursesFrom 57 = .ok (.iconst 0, 1) := by decide +kernel
theorem dX12_coursesFrom_58 : decode cX12_coursesFrom 58 = .ok (.istore 4, 2) := by decide +kernel
theorem dX12_coursesFrom_60 : decode cX12_coursesFrom 60 = .ok (.iload 4, 2) := by decide +kernel
theorem dX12_coursesFrom_62 : decode cX12_coursesFrom 62 = .ok (.aload_n 0, 1) := by decide +kernel
theorem dX12_coursesFrom_63 : decode cX12_coursesFrom 63 = .ok (.getfield 13, 3) := by decide +kernel
theorem dX12_coursesFrom_66 : decode cX12_coursesFrom 66 = .ok (.iconst 2, 1) := by decide +kernel
theorem dX12_coursesFrom_67 : decode cX12_coursesFrom 67 = .ok (.iaload, 1) := by decide +kernel
theorem dX12_coursesFrom_68 : decode cX12_coursesFrom 68 = .ok (.if_icmp .ge 30, 3) := by decide +kernel
theorem dX12_coursesFrom_71 : decode cX12_coursesFrom 71 = .ok (.aload_n 0, 1) := by decide +kernel
theorem dX12_coursesFrom_72 : decode cX12_coursesFrom 72 = .ok (.iload_n 1, 1) := by decide +kernel
theorem dX12_coursesFrom_73 : decode cX12_coursesFrom 73 = .ok (.invokevirtual 256, 3) := by decide +kernel
theorem dX12_coursesFrom_76 : decode cX12_coursesFrom 76 = .ok (.ifCond .ne 22, 3) := by decide +kernel
theorem dX12_coursesFrom_79 : decode cX12_coursesFrom 79 = .ok (.lload_n 2, 1) := by decide +kernel
theorem dX12_coursesFrom_80 : decode cX12_coursesFrom 80 = .ok (.aload_n 0, 1) := by decide +kernel
theorem dX12_coursesFrom_81 : decode cX12_coursesFrom 81 = .ok (.iload_n 1, 1) := by decide +kernel
theorem dX12_coursesFrom_82 : decode cX12_coursesFrom 82 = .ok (.iload 4, 2) := by decide +kernel
theorem dX12_coursesFrom_84 : decode cX12_coursesFrom 84 = .ok (.invokestatic 268, 3) := by decide +kernel
theorem dX12_coursesFrom_87 : decode cX12_coursesFrom 87 = .ok (.invokevirtual 385, 3) := by decide +kernel
theorem dX12_coursesFrom_90 : decode cX12_coursesFrom 90 = .ok (.ladd, 1) := by decide +kernel
theorem dX12_coursesFrom_91 : decode cX12_coursesFrom 91 = .ok (.lstore_n 2, 1) := by decide +kernel
theorem dX12_coursesFrom_92 : decode cX12_coursesFrom 92 = .ok (.iinc 4 1, 3) := by decide +kernel
theorem dX12_coursesFrom_95 : decode cX12_coursesFrom 95 = .ok (.goto (-35), 3) := by decide +kernel
theorem dX12_coursesFrom_98 : decode cX12_coursesFrom 98 = .ok (.aload_n 0, 1) := by decide +kernel
theorem dX12_coursesFrom_99 : decode cX12_coursesFrom 99 = .ok (.iload_n 1, 1) := by decide +kernel
theorem dX12_coursesFrom_100 : decode cX12_coursesFrom 100 = .ok (.invokevirtual 370, 3) := by decide +kernel
theorem dX12_coursesFrom_103 : decode cX12_coursesFrom 103 = .ok (.ifCond .eq 19, 3) := by decide +kernel
theorem dX12_coursesFrom_106 : decode cX12_coursesFrom 106 = .ok (.lload_n 2, 1) := by decide +kernel
theorem dX12_coursesFrom_107 : decode cX12_coursesFrom 107 = .ok (.aload_n 0, 1) := by decide +kernel
theorem dX12_coursesFrom_108 : decode cX12_coursesFrom 108 = .ok (.aload_n 0, 1) := by decide +kernel
theorem dX12_coursesFrom_109 : decode cX12_coursesFrom 109 = .ok (.aload_n 0, 1) := by decide +kernel
theorem dX12_coursesFrom_110 : decode cX12_coursesFrom 110 = .ok (.getfield 360, 3) := by decide +kernel
theorem dX12_coursesFrom_113 : decode cX12_coursesFrom 113 = .ok (.iload_n 1, 1) := by decide +kernel
theorem dX12_coursesFrom_114 : decode cX12_coursesFrom 114 = .ok (.invokevirtual 275, 3) := by decide +kernel
theorem dX12_coursesFrom_117 : decode cX12_coursesFrom 117 = .ok (.invokevirtual 385, 3) := by decide +kernel
theorem dX12_coursesFrom_120 : decode cX12_coursesFrom 120 = .ok (.ladd, 1) := by decide +kernel
theorem dX12_coursesFrom_121 : decode cX12_coursesFrom 121 = .ok (.lstore_n 2, 1) := by decide +kernel
theorem dX12_coursesFrom_122 : decode cX12_coursesFrom 122 = .ok (.aload_n 0, 1) := by decide +kernel
theorem dX12_coursesFrom_123 : decode cX12_coursesFrom 123 = .ok (.getfield 45, 3) := by decide +kernel
theorem dX12_coursesFrom_126 : decode cX12_coursesFrom 126 = .ok (.iload_n 1, 1) := by decide +kernel
theorem dX12_coursesFrom_127 : decode cX12_coursesFrom 127 = .ok (.lload_n 2, 1) := by decide +kernel
theorem dX12_coursesFrom_128 : decode cX12_coursesFrom 128 = .ok (.lastore, 1) := by decide +kernel
theorem dX12_coursesFrom_129 : decode cX12_coursesFrom 129 = .ok (.lload_n 2, 1) := by decide +kernel
theorem dX12_coursesFrom_130 : decode cX12_coursesFrom 130 = .ok (.lreturn, 1) := by decide +kernel
set_option maxRecDepth 20000 in
theorem ggX12_courses_X12_isPerson : GoodIn wsX12_courses wsX12_isPerson := goodIn_r _ [7, 8, 9, 10, 6, 11, 76, 77, 78, 79, 80, 81, 82, 83, 84, 85, 86, 87, 88, 89, 90, 91, 92, 93, 94, 95, 96, 97, 98, 99, 100, 101, 102, 103, 104, 105, 106, 107, 108, 109, 110, 111] (by decide +kernel) (by decide +kernel)
set_option maxRecDepth 20000 in
theorem gX12_courses_X12_isPerson : GoodIn wsX12_courses (wsV RX12 245 RX12 yX12_isPerson wsX12_isPerson) := goodIn_app (goodIn_of _ (by decide +kernel)) ggX12_courses_X12_isPerson
set_option maxRecDepth 20000 in
theorem ggX12_courses_X12_begins : GoodIn wsX12_courses wsX12_begins := goodIn_r _ [15, 8, 16, 17, 18, 76, 77, 78, 79, 80, 81, 82, 83, 84, 85, 86, 87, 88, 89, 90, 91, 92, 93, 94, 95, 96, 97, 98, 99, 100, 101, 102, 103, 104, 105, 106, 107, 108, 109, 110, 111] (by decide +kernel) (by decide +kernel)
set_option maxRecDepth 20000 in
theorem gX12_courses_X12_begins : GoodIn wsX12_courses (wsV RX12 373 RX12 yX12_begins wsX12_begins) := goodIn_app (goodIn_of _ (by decide +kernel)) ggX12_courses_X12_begins
set_option maxRecDepth 20000 in
theorem ggX12_courses_X12_standNow : GoodIn wsX12_courses wsX12_standNow := goodIn_r _ [22, 8, 23, 24, 6, 25, 76, 77, 78, 79, 80, 81, 82, 83, 84, 85, 86, 87, 88, 89, 90, 91, 92, 93, 94, 95, 96, 97, 98, 99, 100, 101, 102, 103, 104, 105, 106, 107, 108, 109, 110, 111] (by decide +kernel) (by decide +kernel)
set_option maxRecDepth 20000 in
theorem gX12_courses_X12_standNow : GoodIn wsX12_courses (wsV RX12 253 RX12 yX12_standNow wsX12_standNow) := goodIn_app (goodIn_of _ (by decide +kernel)) ggX12_courses_X12_standNow
set_option maxRecDepth 20000 in
theorem ggX12_courses_X12_coursesFrom : GoodIn wsX12_courses wsX12_coursesFrom := goodIn_r _ [29, 18, 30, 8, 16, 31, 32, 33, 6, 34, 35, 36, 37, 38, 39, 40, 41, 17, 42, 43, 44, 45, 46, 47, 48, 49, 50, 51, 52, 53, 54, 55, 56, 23, 24, 25, 26, 27, 28, 57, 58, 59, 60, 61, 62, 63, 64, 65, 66, 67, 68, 69, 70, 71, 72, 73, 74, 75, 76, 77, 78, 79, 80, 81, 82, 83, 84, 85, 86, 87, 88, 89, 90, 91, 92, 93, 94, 95, 96, 97, 98, 99, 100, 101, 102, 103, 104, 105, 106, 107, 108, 109, 110, 111] (by decide +kernel) (by decide +kernel)
set_option maxRecDepth 20000 in
theorem gX12_courses_X12_coursesFrom : GoodIn wsX12_courses (wsV RX12 385 RX12 yX12_coursesFrom wsX12_coursesFrom) := goodIn_app (goodIn_of _ (by decide +kernel)) ggX12_courses_X12_coursesFrom
theorem dX12_courses_0 : decode cX12_courses 0 = .ok (.aload_n 0, 1) := by decide +kernel
theorem dX12_courses_1 : decode cX12_courses 1 = .ok (.iconst 0, 1) := by decide +kernel
theorem dX12_courses_2 : decode cX12_courses 2 = .ok (.putfield 1, 3) := by decide +kernel
theorem dX12_courses_5 : decode cX12_courses 5 = .ok (.aload_n 0, 1) := by decide +kernel
theorem dX12_courses_6 : decode cX12_courses 6 = .ok (.iload_n 1, 1) := by decide +kernel
theorem dX12_courses_7 : decode cX12_courses 7 = .ok (.i2l, 1) := by decide +kernel
theorem dX12_courses_8 : decode cX12_courses 8 = .ok (.invokevirtual 245, 3) := by decide +kernel
theorem dX12_courses_11 : decode cX12_courses 11 = .ok (.ifCond .ne 7, 3) := by decide +kernel
theorem dX12_courses_14 : decode cX12_courses 14 = .ok (.ldc2_w 389, 3) := by decide +kernel
theorem dX12_courses_17 : decode cX12_courses 17 = .ok (.lreturn, 1) := by decide +kernel
theorem dX12_courses_18 : decode cX12_courses 18 = .ok (.aload_n 0, 1) := by decide +kernel
theorem dX12_courses_19 : decode cX12_courses 19 = .ok (.iload_n 1, 1) := by decide +kernel
theorem dX12_courses_20 : decode cX12_courses 20 = .ok (.invokevirtual 373, 3) := by decide +kernel
theorem dX12_courses_23 : decode cX12_courses 23 = .ok (.aload_n 0, 1) := by decide +kernel
theorem dX12_courses_24 : decode cX12_courses 24 = .ok (.aload_n 0, 1) := by decide +kernel
theorem dX12_courses_25 : decode cX12_courses 25 = .ok (.iload_n 1, 1) := by decide +kernel
theorem dX12_courses_26 : decode cX12_courses 26 = .ok (.invokevirtual 253, 3) := by decide +kernel
theorem dX12_courses_29 : decode cX12_courses 29 = .ok (.invokevirtual 385, 3) := by decide +kernel
theorem dX12_courses_32 : decode cX12_courses 32 = .ok (.lreturn, 1) := by decide +kernel
theorem dX12_better_0 : decode cX12_better 0 = .ok (.iload_n 2, 1) := by decide +kernel
theorem dX12_better_1 : decode cX12_better 1 = .ok (.aload_n 0, 1) := by decide +kernel
theorem dX12_better_2 : decode cX12_better 2 = .ok (.getfield 55, 3) := by decide +kernel
theorem dX12_better_5 : decode cX12_better 5 = .ok (.iload_n 1, 1) := by decide +kernel
theorem dX12_better_6 : decode cX12_better 6 = .ok (.iaload, 1) := by decide +kernel
theorem dX12_better_7 : decode cX12_better 7 = .ok (.if_icmp .le 10, 3) := by decide +kernel
theorem dX12_better_10 : decode cX12_better 10 = .ok (.aload_n 0, 1) := by decide +kernel
theorem dX12_better_11 : decode cX12_better 11 = .ok (.getfield 55, 3) := by decide +kernel
theorem dX12_better_14 : decode cX12_better 14 = .ok (.iload_n 1, 1) := by decide +kernel
theorem dX12_better_15 : decode cX12_better 15 = .ok (.iload_n 2, 1) := by decide +kernel
theorem dX12_better_16 : decode cX12_better 16 = .ok (.iastore, 1) := by decide +kernel
theorem dX12_better_17 : decode cX12_better 17 = .ok (.return_, 1) := by decide +kernel
set_option maxRecDepth 20000 in
theorem ggX12_goesOn_X12_isOver : GoodIn wsX12_goesOn wsX12_isOver := goodIn_r _ [10, 4, 11, 12, 9, 13, 64, 65, 66, 67, 68, 69, 70, 71, 72, 73, 74, 75, 76, 77, 78, 79, 80, 81, 82, 83, 84, 85, 86, 87, 88, 89, 90, 91, 92, 93, 94, 95, 96, 97, 98, 99] (by decide +kernel) (by decide +kernel)
set_option maxRecDepth 20000 in
theorem gX12_goesOn_X12_isOver : GoodIn wsX12_goesOn (wsV RX12 256 RX12 yX12_isOver wsX12_isOver) := goodIn_app (goodIn_of _ (by decide +kernel)) ggX12_goesOn_X12_isOver
set_option maxRecDepth 20000 in
theorem ggX12_goesOn_X12_livedTo : GoodIn wsX12_goesOn wsX12_livedTo := goodIn_r _ [16, 17, 18, 9, 19, 20, 21, 22, 11, 12, 13, 23, 24, 25, 26, 27, 28, 29, 30, 31] (by decide +kernel) (by decide +kernel)
set_option maxRecDepth 20000 in
theorem gX12_goesOn_X12_livedTo : GoodIn wsX12_goesOn (va_wsS RX12 268 yX12_livedTo wsX12_livedTo) := goodIn_app (goodIn_of _ (by decide +kernel)) ggX12_goesOn_X12_livedTo
set_option maxRecDepth 20000 in
theorem ggX12_goesOn_X12_worthOf : GoodIn wsX12_goesOn wsX12_worthOf := goodIn_r _ [35, 4, 36, 11, 12, 9, 13, 23, 24, 25, 26, 27, 28, 17, 18, 19, 20, 21, 22, 37, 38, 39, 40, 41, 42, 43, 44, 45, 46, 64, 65, 66, 67, 68, 69, 70, 71, 72, 73, 74, 75, 76, 77, 78, 79, 80, 81, 82, 83, 84, 85, 86, 87, 88, 89, 90, 91, 92, 93, 94, 95, 96, 97, 98, 99] (by decide +kernel) (by decide +kernel)
set_option maxRecDepth 20000 in
theorem gX12_goesOn_X12_worthOf : GoodIn wsX12_goesOn (wsV RX12 259 RX12 yX12_worthOf wsX12_worthOf) := goodIn_app (goodIn_of _ (by decide +kernel)) ggX12_goesOn_X12_worthOf
set_option maxRecDepth 20000 in
theorem ggX12_goesOn_X12_better : GoodIn wsX12_goesOn wsX12_better := goodIn_r _ [50, 1, 64, 65, 66, 67, 68, 69, 70, 71, 72, 73, 74, 75, 76, 77, 78, 79, 80, 81, 82, 83, 84, 85, 86, 87, 88, 89, 90, 91, 92, 93, 94, 95, 96, 97, 98, 99] (by decide +kernel) (by decide +kernel)
set_option maxRecDepth 20000 in
theorem gX12_goesOn_X12_better : GoodIn wsX12_goesOn (wsV RX12 392 RX12 yX12_better wsX12_better) := goodIn_app (goodIn_of _ (by decide +kernel)) ggX12_goesOn_X12_better
set_option maxRecDepth 20000 in
theorem ggX12_goesOn_X12_canDraw : GoodIn wsX12_goesOn wsX12_canDraw := goodIn_r _ [54, 55, 17, 18, 9, 19, 64, 65, 66, 67, 68, 69, 70, 71, 72, 73, 74, 75, 76, 77, 78, 79, 80, 81, 82, 83, 84, 85, 86, 87, 88, 89, 90, 91, 92, 93, 94, 95, 96, 97, 98, 99] (by decide +kernel) (by decide +kernel)
set_option maxRecDepth 20000 in
theorem gX12_goesOn_X12_canDraw : GoodIn wsX12_goesOn (wsV RX12 370 RX12 yX12_canDraw wsX12_canDraw) := goodIn_app (goodIn_of _ (by decide +kernel)) ggX12_goesOn_X12_canDraw
set_option maxRecDepth 20000 in
theorem ggX12_goesOn_X12_drawnTo : GoodIn wsX12_goesOn wsX12_drawnTo := goodIn_r _ [59, 11, 12, 9, 13, 60, 61, 62, 63, 4, 36, 37, 38, 39, 40, 41, 42, 43, 44, 45, 46, 29, 30, 31, 64, 65, 66, 67, 68, 69, 70, 71, 72, 73, 74, 75, 76, 77, 78, 79, 80, 81, 82, 83, 84, 85, 86, 87, 88, 89, 90, 91, 92, 93, 94, 95, 96, 97, 98, 99] (by decide +kernel) (by decide +kernel)
set_option maxRecDepth 20000 in
theorem gX12_goesOn_X12_drawnTo : GoodIn wsX12_goesOn (wsV RX12 275 RX12 yX12_drawnTo wsX12_drawnTo) := goodIn_app (goodIn_of _ (by decide +kernel)) ggX12_goesOn_X12_drawnTo
theorem dX12_goesOn_0 : decode cX12_goesOn 0 = .ok (.iconst 0, 1) := by decide +kernel
theorem dX12_goesOn_1 : decode cX12_goesOn 1 = .ok (.istore_n 1, 1) := by decide +kernel
theorem dX12_goesOn_2 : decode cX12_goesOn 2 = .ok (.iload_n 1, 1) := by decide +kernel
theorem dX12_goesOn_3 : decode cX12_goesOn 3 = .ok (.sipush 3430, 3) := by decide +kernel
theorem dX12_goesOn_6 : decode cX12_goesOn 6 = .ok (.if_icmp .ge 18, 3) := by decide +kernel
theorem dX12_goesOn_9 : decode cX12_goesOn 9 = .ok (.aload_n 0, 1) := by decide +kernel
theorem dX12_goesOn_10 : decode cX12_goesOn 10 = .ok (.getfield 55, 3) := by decide +kernel
theorem dX12_goesOn_13 : decode cX12_goesOn 13 = .ok (.iload_n 1, 1) := by decide +kernel
theorem dX12_goesOn_14 : decode cX12_goesOn 14 = .ok (.ldc_w 391, 3) := by decide +kernel
theorem dX12_goesOn_17 : decode cX12_goesOn 17 = .ok (.iastore, 1) := by decide +kernel
theorem dX12_goesOn_18 : decode cX12_goesOn 18 = .ok (.iinc 1 1, 3) := by decide +kernel
theorem dX12_goesOn_21 : decode cX12_goesOn 21 = .ok (.goto (-19), 3) := by decide +kernel
theorem dX12_goesOn_24 : decode cX12_goesOn 24 = .ok (.iconst 0, 1) := by decide +kernel
theorem dX12_goesOn_25 : decode cX12_goesOn 25 = .ok (.istore_n 1, 1) := by decide +kernel
theorem dX12_goesOn_26 : decode cX12_goesOn 26 = .ok (.iload_n 1, 1) := by decide +kernel
theorem dX12_goesOn_27 : decode cX12_goesOn 27 = .ok (.sipush 3430, 3) := by decide +kernel
theorem dX12_goesOn_30 : decode cX12_goesOn 30 = .ok (.if_icmp .ge 103, 3) := by decide +kernel
theorem dX12_goesOn_33 : decode cX12_goesOn 33 = .ok (.aload_n 0, 1) := by decide +kernel
theorem dX12_goesOn_34 : decode cX12_goesOn 34 = .ok (.getfield 52, 3) := by decide +kernel
theorem dX12_goesOn_37 : decode cX12_goesOn 37 = .ok (.iload_n 1, 1) := by decide +kernel
theorem dX12_goesOn_38 : decode cX12_goesOn 38 = .ok (.iaload, 1) := by decide +kernel
theorem dX12_goesOn_39 : decode cX12_goesOn 39 = .ok (.ldc_w 391, 3) := by decide +kernel
theorem dX12_goesOn_42 : decode cX12_goesOn 42 = .ok (.if_icmp .ne 6, 3) := by decide +kernel
theorem dX12_goesOn_45 : decode cX12_goesOn 45 = .ok (.goto 82, 3) := by decide +kernel
theorem dX12_goesOn_48 : decode cX12_goesOn 48 = .ok (.iconst 0, 1) := by decide +kernel
theorem dX12_goesOn_49 : decode cX12_goesOn 49 = .ok (.istore_n 2, 1) := by decide +kernel
theorem dX12_goesOn_50 : decode cX12_goesOn 50 = .ok (.iload_n 2, 1) := by decide +kernel
theorem dX12_goesOn_51 : decode cX12_goesOn 51 = .ok (.aload_n 0, 1) := by decide +kernel
theorem dX12_goesOn_52 : decode cX12_goesOn 52 = .ok (.getfield 13, 3) := by decide +kernel
theorem dX12_goesOn_55 : decode cX12_goesOn 55 = .ok (.iconst 2, 1) := by decide +kernel
theorem dX12_goesOn_56 : decode cX12_goesOn 56 = .ok (.iaload, 1) := by decide +kernel
theorem dX12_goesOn_57 : decode cX12_goesOn 57 = .ok (.if_icmp .ge 43, 3) := by decide +kernel
theorem dX12_goesOn_60 : decode cX12_goesOn 60 = .ok (.aload_n 0, 1) := by decide +kernel
theorem dX12_goesOn_61 : decode cX12_goesOn 61 = .ok (.iload_n 1, 1) := by decide +kernel
theorem dX12_goesOn_62 : decode cX12_goesOn 62 = .ok (.invokevirtual 256, 3) := by decide +kernel
theorem dX12_goesOn_65 : decode cX12_goesOn 65 = .ok (.ifCond .ne 35, 3) := by decide +kernel
theorem dX12_goesOn_68 : decode cX12_goesOn 68 = .ok (.aload_n 0, 1) := by decide +kernel
theorem dX12_goesOn_69 : decode cX12_goesOn 69 = .ok (.iload_n 1, 1) := by decide +kernel
theorem dX12_goesOn_70 : decode cX12_goesOn 70 = .ok (.iload_n 2, 1) := by decide +kernel
theorem dX12_goesOn_71 : decode cX12_goesOn 71 = .ok (.invokestatic 268, 3) := by decide +kernel
theorem dX12_goesOn_74 : decode cX12_goesOn 74 = .ok (.aload_n 0, 1) := by decide +kernel
theorem dX12_goesOn_75 : decode cX12_goesOn 75 = .ok (.getfield 52, 3) := by decide +kernel
theorem dX12_goesOn_78 : decode cX12_goesOn 78 = .ok (.iload_n 1, 1) := by decide +kernel
theorem dX12_goesOn_79 : decode cX12_goesOn 79 = .ok (.iaload, 1) := by decide +kernel
theorem dX12_goesOn_80 : decode cX12_goesOn 80 = .ok (.aload_n 0, 1) := by decide +kernel
theorem dX12_goesOn_81 : decode cX12_goesOn 81 = .ok (.aload_n 0, 1) := by decide +kernel
theorem dX12_goesOn_82 : decode cX12_goesOn 82 = .ok (.getfield 360, 3) := by decide +kernel
theorem dX12_goesOn_85 : decode cX12_goesOn 85 = .ok (.iload_n 1, 1) := by decide +kernel
theorem dX12_goesOn_86 : decode cX12_goesOn 86 = .ok (.iload_n 2, 1) := by decide +kernel
theorem dX12_goesOn_87 : decode cX12_goesOn 87 = .ok (.invokevirtual 259, 3) := by decide +kernel
theorem dX12_goesOn_90 : decode cX12_goesOn 90 = .ok (.iadd, 1) := by decide +kernel
theorem dX12_goesOn_91 : decode cX12_goesOn 91 = .ok (.invokevirtual 392, 3) := by decide +kernel
theorem dX12_goesOn_94 : decode cX12_goesOn 94 = .ok (.iinc 2 1, 3) := by decide +kernel
theorem dX12_goesOn_97 : decode cX12_goesOn 97 = .ok (.goto (-47), 3) := by decide +kernel
theorem dX12_goesOn_100 : decode cX12_goesOn 100 = .ok (.aload_n 0, 1) := by decide +kernel
theorem dX12_goesOn_101 : decode cX12_goesOn 101 = .ok (.iload_n 1, 1) := by decide +kernel
theorem dX12_goesOn_102 : decode cX12_goesOn 102 = .ok (.invokevirtual 370, 3) := by decide +kernel
theorem dX12_goesOn_105 : decode cX12_goesOn 105 = .ok (.ifCond .eq 22, 3) := by decide +kernel
theorem dX12_goesOn_108 : decode cX12_goesOn 108 = .ok (.aload_n 0, 1) := by decide +kernel
theorem dX12_goesOn_109 : decode cX12_goesOn 109 = .ok (.aload_n 0, 1) := by decide +kernel
theorem dX12_goesOn_110 : decode cX12_goesOn 110 = .ok (.aload_n 0, 1) := by decide +kernel
theorem dX12_goesOn_111 : decode cX12_goesOn 111 = .ok (.getfield 360, 3) := by decide +kernel
theorem dX12_goesOn_114 : decode cX12_goesOn 114 = .ok (.iload_n 1, 1) := by decide +kernel
theorem dX12_goesOn_115 : decode cX12_goesOn 115 = .ok (.invokevirtual 275, 3) := by decide +kernel
theorem dX12_goesOn_118 : decode cX12_goesOn 118 = .ok (.aload_n 0, 1) := by decide +kernel
theorem dX12_goesOn_119 : decode cX12_goesOn 119 = .ok (.getfield 52, 3) := by decide +kernel
theorem dX12_goesOn_122 : decode cX12_goesOn 122 = .ok (.iload_n 1, 1) := by decide +kernel
theorem dX12_goesOn_123 : decode cX12_goesOn 123 = .ok (.iaload, 1) := by decide +kernel
theorem dX12_goesOn_124 : decode cX12_goesOn 124 = .ok (.invokevirtual 392, 3) := by decide +kernel
theorem dX12_goesOn_127 : decode cX12_goesOn 127 = .ok (.iinc 1 1, 3) := by decide +kernel
theorem dX12_goesOn_130 : decode cX12_goesOn 130 = .ok (.goto (-104), 3) := by decide +kernel
theorem dX12_goesOn_133 : decode cX12_goesOn 133 = .ok (.ldc_w 391, 3) := by decide +kernel
theorem dX12_goesOn_136 : decode cX12_goesOn 136 = .ok (.istore_n 1, 1) := by decide +kernel
theorem dX12_goesOn_137 : decode cX12_goesOn 137 = .ok (.iconst 0, 1) := by decide +kernel
theorem dX12_goesOn_138 : decode cX12_goesOn 138 = .ok (.istore_n 2, 1) := by decide +kernel
theorem dX12_goesOn_139 : decode cX12_goesOn 139 = .ok (.iload_n 2, 1) := by decide +kernel
theorem dX12_goesOn_140 : decode cX12_goesOn 140 = .ok (.sipush 3430, 3) := by decide +kernel
theorem dX12_goesOn_143 : decode cX12_goesOn 143 = .ok (.if_icmp .ge 42, 3) := by decide +kernel
theorem dX12_goesOn_146 : decode cX12_goesOn 146 = .ok (.aload_n 0, 1) := by decide +kernel
theorem dX12_goesOn_147 : decode cX12_goesOn 147 = .ok (.getfield 52, 3) := by decide +kernel
theorem dX12_goesOn_150 : decode cX12_goesOn 150 = .ok (.iload_n 2, 1) := by decide +kernel
theorem dX12_goesOn_151 : decode cX12_goesOn 151 = .ok (.aload_n 0, 1) := by decide +kernel
theorem dX12_goesOn_152 : decode cX12_goesOn 152 = .ok (.getfield 55, 3) := by decide +kernel
theorem dX12_goesOn_155 : decode cX12_goesOn 155 = .ok (.iload_n 2, 1) := by decide +kernel
theorem dX12_goesOn_156 : decode cX12_goesOn 156 = .ok (.iaload, 1) := by decide +kernel
theorem dX12_goesOn_157 : decode cX12_goesOn 157 = .ok (.iastore, 1) := by decide +kernel
theorem dX12_goesOn_158 : decode cX12_goesOn 158 = .ok (.aload_n 0, 1) := by decide +kernel
theorem dX12_goesOn_159 : decode cX12_goesOn 159 = .ok (.getfield 52, 3) := by decide +kernel
theorem dX12_goesOn_162 : decode cX12_goesOn 162 = .ok (.iload_n 2, 1) := by decide +kernel
theorem dX12_goesOn_163 : decode cX12_goesOn 163 = .ok (.iaload, 1) := by decide +kernel
theorem dX12_goesOn_164 : decode cX12_goesOn 164 = .ok (.iload_n 1, 1) := by decide +kernel
theorem dX12_goesOn_165 : decode cX12_goesOn 165 = .ok (.if_icmp .le 12, 3) := by decide +kernel
theorem dX12_goesOn_168 : decode cX12_goesOn 168 = .ok (.aload_n 0, 1) := by decide +kernel
theorem dX12_goesOn_169 : decode cX12_goesOn 169 = .ok (.getfield 52, 3) := by decide +kernel
theorem dX12_goesOn_172 : decode cX12_goesOn 172 = .ok (.iload_n 2, 1) := by decide +kernel
theorem dX12_goesOn_173 : decode cX12_goesOn 173 = .ok (.iaload, 1) := by decide +kernel
theorem dX12_goesOn_174 : decode cX12_goesOn 174 = .ok (.goto 4, 3) := by decide +kernel
theorem dX12_goesOn_177 : decode cX12_goesOn 177 = .ok (.iload_n 1, 1) := by decide +kernel
theorem dX12_goesOn_178 : decode cX12_goesOn 178 = .ok (.istore_n 1, 1) := by decide +kernel
theorem dX12_goesOn_179 : decode cX12_goesOn 179 = .ok (.iinc 2 1, 3) := by decide +kernel
theorem dX12_goesOn_182 : decode cX12_goesOn 182 = .ok (.goto (-43), 3) := by decide +kernel
theorem dX12_goesOn_185 : decode cX12_goesOn 185 = .ok (.iload_n 1, 1) := by decide +kernel
theorem dX12_goesOn_186 : decode cX12_goesOn 186 = .ok (.ireturn, 1) := by decide +kernel
set_option maxRecDepth 20000 in
theorem ggX12_soonest_X12_isPerson : GoodIn wsX12_soonest wsX12_isPerson := goodIn_r _ [10, 4, 11, 12, 9, 13, 86, 87, 88, 89, 90, 91, 92, 93, 94, 95, 96, 97, 98, 99, 100, 101, 102, 103, 104, 105, 106, 107, 108, 109, 110, 111, 112, 113, 114, 115, 116, 117, 118, 119, 120, 121] (by decide +kernel) (by decide +kernel)
set_option maxRecDepth 20000 in
theorem gX12_soonest_X12_isPerson : GoodIn wsX12_soonest (wsV RX12 245 RX12 yX12_isPerson wsX12_isPerson) := goodIn_app (goodIn_of _ (by decide +kernel)) ggX12_soonest_X12_isPerson
set_option maxRecDepth 20000 in
theorem ggX12_soonest_X12_begins : GoodIn wsX12_soonest wsX12_begins := goodIn_r _ [17, 4, 18, 19, 20, 86, 87, 88, 89, 90, 91, 92, 93, 94, 95, 96, 97, 98, 99, 100, 101, 102, 103, 104, 105, 106, 107, 108, 109, 110, 111, 112, 113, 114, 115, 116, 117, 118, 119, 120, 121] (by decide +kernel) (by decide +kernel)
set_option maxRecDepth 20000 in
theorem gX12_soonest_X12_begins : GoodIn wsX12_soonest (wsV RX12 373 RX12 yX12_begins wsX12_begins) := goodIn_app (goodIn_of _ (by decide +kernel)) ggX12_soonest_X12_begins
set_option maxRecDepth 20000 in
theorem ggX12_soonest_X12_standNow : GoodIn wsX12_soonest wsX12_standNow := goodIn_r _ [24, 4, 25, 26, 9, 27, 86, 87, 88, 89, 90, 91, 92, 93, 94, 95, 96, 97, 98, 99, 100, 101, 102, 103, 104, 105, 106, 107, 108, 109, 110, 111, 112, 113, 114, 115, 116, 117, 118, 119, 120, 121] (by decide +kernel) (by decide +kernel)
set_option maxRecDepth 20000 in
theorem gX12_soonest_X12_standNow : GoodIn wsX12_soonest (wsV RX12 253 RX12 yX12_standNow wsX12_standNow) := goodIn_app (goodIn_of _ (by decide +kernel)) ggX12_soonest_X12_standNow
set_option maxRecDepth 20000 in
theorem ggX12_soonest_X12_goesOn : GoodIn wsX12_soonest wsX12_goesOn := goodIn_r _ [31, 32, 5, 3, 4, 18, 33, 34, 35, 9, 36, 37, 38, 39, 40, 41, 42, 43, 44, 45, 46, 47, 48, 49, 50, 51, 52, 53, 54, 25, 26, 27, 55, 56, 57, 58, 59, 60, 61, 62, 63, 64, 65, 66, 67, 68, 69, 70, 71, 72, 73, 74, 75, 76, 77, 19, 78, 79, 80, 81, 82, 83, 84, 85, 86, 87, 88, 89, 90, 91, 92, 93, 94, 95, 96, 97, 98, 99, 100, 101, 102, 103, 104, 105, 106, 107, 108, 109, 110, 111, 112, 113, 114, 115, 116, 117, 118, 119, 120, 121] (by decide +kernel) (by decide +kernel)
set_option maxRecDepth 20000 in
theorem gX12_soonest_X12_goesOn : GoodIn wsX12_soonest (wsV RX12 395 RX12 yX12_goesOn wsX12_goesOn) := goodIn_app (goodIn_of _ (by decide +kernel)) ggX12_soonest_X12_goesOn
theorem dX12_soonest_0 : decode cX12_soonest 0 = .ok (.aload_n 0, 1) := by decide +kernel
theorem dX12_soonest_1 : decode cX12_soonest 1 = .ok (.iconst 0, 1) := by decide +kernel
theorem dX12_soonest_2 : decode cX12_soonest 2 = .ok (.putfield 1, 3) := by decide +kernel
theorem dX12_soonest_5 : decode cX12_soonest 5 = .ok (.aload_n 0, 1) := by decide +kernel
theorem dX12_soonest_6 : decode cX12_soonest 6 = .ok (.iload_n 1, 1) := by decide +kernel
theorem dX12_soonest_7 : decode cX12_soonest 7 = .ok (.i2l, 1) := by decide +kernel
theorem dX12_soonest_8 : decode cX12_soonest 8 = .ok (.invokevirtual 245, 3) := by decide +kernel
theorem dX12_soonest_11 : decode cX12_soonest 11 = .ok (.ifCond .ne 6, 3) := by decide +kernel
theorem dX12_soonest_14 : decode cX12_soonest 14 = .ok (.ldc 249, 2) := by decide +kernel
theorem dX12_soonest_16 : decode cX12_soonest 16 = .ok (.ireturn, 1) := by decide +kernel
theorem dX12_soonest_17 : decode cX12_soonest 17 = .ok (.aload_n 0, 1) := by decide +kernel
theorem dX12_soonest_18 : decode cX12_soonest 18 = .ok (.iload_n 1, 1) := by decide +kernel
theorem dX12_soonest_19 : decode cX12_soonest 19 = .ok (.invokevirtual 373, 3) := by decide +kernel
theorem dX12_soonest_22 : decode cX12_soonest 22 = .ok (.iconst 0, 1) := by decide +kernel
theorem dX12_soonest_23 : decode cX12_soonest 23 = .ok (.istore_n 3, 1) := by decide +kernel
theorem dX12_soonest_24 : decode cX12_soonest 24 = .ok (.iload_n 3, 1) := by decide +kernel
theorem dX12_soonest_25 : decode cX12_soonest 25 = .ok (.sipush 3430, 3) := by decide +kernel
theorem dX12_soonest_28 : decode cX12_soonest 28 = .ok (.if_icmp .ge 39, 3) := by decide +kernel
theorem dX12_soonest_31 : decode cX12_soonest 31 = .ok (.aload_n 0, 1) := by decide +kernel
theorem dX12_soonest_32 : decode cX12_soonest 32 = .ok (.getfield 52, 3) := by decide +kernel
theorem dX12_soonest_35 : decode cX12_soonest 35 = .ok (.iload_n 3, 1) := by decide +kernel
theorem dX12_soonest_36 : decode cX12_soonest 36 = .ok (.iload_n 3, 1) := by decide +kernel
theorem dX12_soonest_37 : decode cX12_soonest 37 = .ok (.aload_n 0, 1) := by decide +kernel
theorem dX12_soonest_38 : decode cX12_soonest 38 = .ok (.iload_n 1, 1) := by decide +kernel
theorem dX12_soonest_39 : decode cX12_soonest 39 = .ok (.invokevirtual 253, 3) := by decide +kernel
theorem dX12_soonest_42 : decode cX12_soonest 42 = .ok (.if_icmp .ne 15, 3) := by decide +kernel
theorem dX12_soonest_45 : decode cX12_soonest 45 = .ok (.aload_n 0, 1) := by decide +kernel
theorem dX12_soonest_46 : decode cX12_soonest 46 = .ok (.getfield 13, 3) := by decide +kernel
theorem dX12_soonest_49 : decode cX12_soonest 49 = .ok (.bipush 30, 2) := by decide +kernel
theorem dX12_soonest_51 : decode cX12_soonest 51 = .ok (.iload_n 1, 1) := by decide +kernel
theorem dX12_soonest_52 : decode cX12_soonest 52 = .ok (.iadd, 1) := by decide +kernel
theorem dX12_soonest_53 : decode cX12_soonest 53 = .ok (.iaload, 1) := by decide +kernel
theorem dX12_soonest_54 : decode cX12_soonest 54 = .ok (.goto 6, 3) := by decide +kernel
theorem dX12_soonest_57 : decode cX12_soonest 57 = .ok (.ldc_w 391, 3) := by decide +kernel
theorem dX12_soonest_60 : decode cX12_soonest 60 = .ok (.iastore, 1) := by decide +kernel
theorem dX12_soonest_61 : decode cX12_soonest 61 = .ok (.iinc 3 1, 3) := by decide +kernel
theorem dX12_soonest_64 : decode cX12_soonest 64 = .ok (.goto (-40), 3) := by decide +kernel
theorem dX12_soonest_67 : decode cX12_soonest 67 = .ok (.aload_n 0, 1) := by decide +kernel
theorem dX12_soonest_68 : decode cX12_soonest 68 = .ok (.getfield 13, 3) := by decide +kernel
theorem dX12_soonest_71 : decode cX12_soonest 71 = .ok (.bipush 30, 2) := by decide +kernel
theorem dX12_soonest_73 : decode cX12_soonest 73 = .ok (.iload_n 1, 1) := by decide +kernel
theorem dX12_soonest_74 : decode cX12_soonest 74 = .ok (.iadd, 1) := by decide +kernel
theorem dX12_soonest_75 : decode cX12_soonest 75 = .ok (.iaload, 1) := by decide +kernel
theorem dX12_soonest_76 : decode cX12_soonest 76 = .ok (.istore_n 3, 1) := by decide +kernel
theorem dX12_soonest_77 : decode cX12_soonest 77 = .ok (.iconst 0, 1) := by decide +kernel
theorem dX12_soonest_78 : decode cX12_soonest 78 = .ok (.istore 4, 2) := by decide +kernel
theorem dX12_soonest_80 : decode cX12_soonest 80 = .ok (.iload_n 3, 1) := by decide +kernel
theorem dX12_soonest_81 : decode cX12_soonest 81 = .ok (.ldc_w 391, 3) := by decide +kernel
theorem dX12_soonest_84 : decode cX12_soonest 84 = .ok (.if_icmp .eq 22, 3) := by decide +kernel
theorem dX12_soonest_87 : decode cX12_soonest 87 = .ok (.iload_n 3, 1) := by decide +kernel
theorem dX12_soonest_88 : decode cX12_soonest 88 = .ok (.iload_n 2, 1) := by decide +kernel
theorem dX12_soonest_89 : decode cX12_soonest 89 = .ok (.if_icmp .lt 6, 3) := by decide +kernel
theorem dX12_soonest_92 : decode cX12_soonest 92 = .ok (.iload 4, 2) := by decide +kernel
theorem dX12_soonest_94 : decode cX12_soonest 94 = .ok (.ireturn, 1) := by decide +kernel
theorem dX12_soonest_95 : decode cX12_soonest 95 = .ok (.aload_n 0, 1) := by decide +kernel
theorem dX12_soonest_96 : decode cX12_soonest 96 = .ok (.invokevirtual 395, 3) := by decide +kernel
theorem dX12_soonest_99 : decode cX12_soonest 99 = .ok (.istore_n 3, 1) := by decide +kernel
theorem dX12_soonest_100 : decode cX12_soonest 100 = .ok (.iinc 4 1, 3) := by decide +kernel
theorem dX12_soonest_103 : decode cX12_soonest 103 = .ok (.goto (-23), 3) := by decide +kernel
theorem dX12_soonest_106 : decode cX12_soonest 106 = .ok (.iconst (-1), 1) := by decide +kernel
theorem dX12_soonest_107 : decode cX12_soonest 107 = .ok (.ireturn, 1) := by decide +kernel
set_option maxRecDepth 20000 in
theorem ggX12_drawnMean_X12_canDraw : GoodIn wsX12_drawnMean wsX12_canDraw := goodIn_r _ [6, 7, 8, 9, 5, 10, 72, 73, 74, 75, 76, 77, 78, 79, 80, 81, 82, 83, 84, 85, 86, 87, 88, 89, 90, 91, 92, 93, 94, 95, 96, 97, 98, 99, 100, 101, 102, 103, 104, 105, 106, 107] (by decide +kernel) (by decide +kernel)
set_option maxRecDepth 20000 in
theorem gX12_drawnMean_X12_canDraw : GoodIn wsX12_drawnMean (wsV RX12 370 RX12 yX12_canDraw wsX12_canDraw) := goodIn_app (goodIn_of _ (by decide +kernel)) ggX12_drawnMean_X12_canDraw
set_option maxRecDepth 20000 in
theorem ggX12_drawnMean_X12_drawnTo : GoodIn wsX12_drawnMean wsX12_drawnTo := goodIn_r _ [14, 15, 16, 5, 17, 18, 19, 20, 21, 22, 23, 24, 25, 26, 27, 28, 29, 30, 31, 32, 33, 34, 35, 36, 72, 73, 74, 75, 76, 77, 78, 79, 80, 81, 82, 83, 84, 85, 86, 87, 88, 89, 90, 91, 92, 93, 94, 95, 96, 97, 98, 99, 100, 101, 102, 103, 104, 105, 106, 107] (by decide +kernel) (by decide +kernel)
set_option maxRecDepth 20000 in
theorem gX12_drawnMean_X12_drawnTo : GoodIn wsX12_drawnMean (wsV RX12 275 RX12 yX12_drawnTo wsX12_drawnTo) := goodIn_app (goodIn_of _ (by decide +kernel)) ggX12_drawnMean_X12_drawnTo
set_option maxRecDepth 20000 in
theorem ggX12_drawnMean_X12_meanFrom : GoodIn wsX12_drawnMean wsX12_meanFrom := goodIn_r _ [62, 63, 64, 22, 59, 60, 61, 5, 65, 66, 67, 68, 15, 16, 17, 69, 70, 71, 0, 1, 2, 3, 4, 6, 7, 8, 9, 10, 11, 12, 13, 14, 18, 19, 20, 21, 23, 24, 25, 26, 27, 28, 29, 30, 31, 32, 33, 34, 35, 36, 37, 38, 39, 40, 41, 42, 43, 44, 45, 46, 47, 48, 49, 50, 51, 52, 53, 54, 55, 56, 57, 58, 72, 73, 74, 75, 76, 77, 78, 79, 80, 81, 82, 83, 84, 85, 86, 87, 88, 89, 90, 91, 92, 93, 94, 95, 96, 97, 98, 99, 100, 101, 102, 103, 104, 105, 106, 107] (by decide +kernel) (by decide +kernel)
set_option maxRecDepth 20000 in
theorem gX12_drawnMean_X12_meanFrom : GoodIn wsX12_drawnMean (wsV RX12 398 RX12 yX12_meanFrom wsX12_meanFrom) := goodIn_app (goodIn_of _ (by decide +kernel)) ggX12_drawnMean_X12_meanFrom
theorem dX12_drawnMean_0 : decode cX12_drawnMean 0 = .ok (.aload_n 0, 1) := by decide +kernel
theorem dX12_drawnMean_1 : decode cX12_drawnMean 1 = .ok (.iload_n 1, 1) := by decide +kernel
theorem dX12_drawnMean_2 : decode cX12_drawnMean 2 = .ok (.invokevirtual 370, 3) := by decide +kernel
theorem dX12_drawnMean_5 : decode cX12_drawnMean 5 = .ok (.ifCond .eq 19, 3) := by decide +kernel
theorem dX12_drawnMean_8 : decode cX12_drawnMean 8 = .ok (.aload_n 0, 1) := by decide +kernel
theorem dX12_drawnMean_9 : decode cX12_drawnMean 9 = .ok (.aload_n 0, 1) := by decide +kernel
theorem dX12_drawnMean_10 : decode cX12_drawnMean 10 = .ok (.aload_n 0, 1) := by decide +kernel
theorem dX12_drawnMean_11 : decode cX12_drawnMean 11 = .ok (.getfield 360, 3) := by decide +kernel
theorem dX12_drawnMean_14 : decode cX12_drawnMean 14 = .ok (.iload_n 1, 1) := by decide +kernel
theorem dX12_drawnMean_15 : decode cX12_drawnMean 15 = .ok (.invokevirtual 275, 3) := by decide +kernel
theorem dX12_drawnMean_18 : decode cX12_drawnMean 18 = .ok (.invokevirtual 398, 3) := by decide +kernel
theorem dX12_drawnMean_21 : decode cX12_drawnMean 21 = .ok (.goto 4, 3) := by decide +kernel
theorem dX12_drawnMean_24 : decode cX12_drawnMean 24 = .ok (.lconst 0, 1) := by decide +kernel
theorem dX12_drawnMean_25 : decode cX12_drawnMean 25 = .ok (.lreturn, 1) := by decide +kernel
set_option maxRecDepth 20000 in
theorem ggX12_livedMean_X12_worthOf : GoodIn wsX12_livedMean wsX12_worthOf := goodIn_r _ [9, 4, 10, 11, 12, 8, 13, 14, 15, 16, 17, 18, 19, 20, 21, 22, 23, 24, 25, 26, 27, 28, 29, 30, 31, 32, 33, 34, 35, 72, 73, 74, 75, 76, 77, 78, 79, 80, 81, 82, 83, 84, 85, 86, 87, 88, 89, 90, 91, 92, 93, 94, 95, 96, 97, 98, 99, 100, 101, 102, 103, 104, 105, 106, 107] (by decide +kernel) (by decide +kernel)
set_option maxRecDepth 20000 in
theorem gX12_livedMean_X12_worthOf : GoodIn wsX12_livedMean (wsV RX12 259 RX12 yX12_worthOf wsX12_worthOf) := goodIn_app (goodIn_of _ (by decide +kernel)) ggX12_livedMean_X12_worthOf
set_option maxRecDepth 20000 in
theorem ggX12_livedMean_X12_livedTo : GoodIn wsX12_livedMean wsX12_livedTo := goodIn_r _ [38, 20, 21, 8, 22, 23, 24, 25, 11, 12, 13, 14, 15, 16, 17, 18, 19, 39, 40, 41] (by decide +kernel) (by decide +kernel)
set_option maxRecDepth 20000 in
theorem gX12_livedMean_X12_livedTo : GoodIn wsX12_livedMean (va_wsS RX12 268 yX12_livedTo wsX12_livedTo) := goodIn_app (goodIn_of _ (by decide +kernel)) ggX12_livedMean_X12_livedTo
set_option maxRecDepth 20000 in
theorem ggX12_livedMean_X12_meanFrom : GoodIn wsX12_livedMean wsX12_meanFrom := goodIn_r _ [62, 63, 64, 4, 45, 46, 47, 8, 65, 66, 67, 68, 11, 12, 13, 69, 70, 71, 48, 1, 49, 50, 51, 52, 53, 20, 21, 22, 54, 55, 56, 57, 58, 59, 60, 61, 10, 26, 27, 28, 29, 30, 31, 32, 33, 34, 35, 39, 40, 41, 42, 43, 44, 0, 2, 3, 5, 6, 7, 9, 14, 15, 16, 17, 18, 19, 23, 24, 25, 36, 37, 38, 72, 73, 74, 75, 76, 77, 78, 79, 80, 81, 82, 83, 84, 85, 86, 87, 88, 89, 90, 91, 92, 93, 94, 95, 96, 97, 98, 99, 100, 101, 102, 103, 104, 105, 106, 107] (by decide +kernel) (by decide +kernel)
set_option maxRecDepth 20000 in
theorem gX12_livedMean_X12_meanFrom : GoodIn wsX12_livedMean (wsV RX12 398 RX12 yX12_meanFrom wsX12_meanFrom) := goodIn_app (goodIn_of _ (by decide +kernel)) ggX12_livedMean_X12_meanFrom
set_option maxRecDepth 20000 in
theorem ggX12_livedMean_X12_drawnMean : GoodIn wsX12_livedMean wsX12_drawnMean := goodIn_r _ [48, 1, 49, 50, 51, 8, 52, 53, 20, 21, 22, 54, 55, 56, 57, 11, 12, 13, 58, 59, 60, 61, 4, 10, 26, 27, 28, 29, 30, 31, 32, 33, 34, 35, 39, 40, 41, 42, 43, 44, 0, 2, 3, 5, 6, 7, 9, 14, 15, 16, 17, 18, 19, 23, 24, 25, 36, 37, 38, 45, 46, 47, 62, 63, 64, 65, 66, 67, 68, 69, 70, 71, 72, 73, 74, 75, 76, 77, 78, 79, 80, 81, 82, 83, 84, 85, 86, 87, 88, 89, 90, 91, 92, 93, 94, 95, 96, 97, 98, 99, 100, 101, 102, 103, 104, 105, 106, 107] (by decide +kernel) (by decide +kernel)
set_option maxRecDepth 20000 in
theorem gX12_livedMean_X12_drawnMean : GoodIn wsX12_livedMean (wsV RX12 403 RX12 yX12_drawnMean wsX12_drawnMean) := goodIn_app (goodIn_of _ (by decide +kernel)) ggX12_livedMean_X12_drawnMean
theorem dX12_livedMean_0 : decode cX12_livedMean 0 = .ok (.aload_n 0, 1) := by decide +kernel
theorem dX12_livedMean_1 : decode cX12_livedMean 1 = .ok (.aload_n 0, 1) := by decide +kernel
theorem dX12_livedMean_2 : decode cX12_livedMean 2 = .ok (.getfield 360, 3) := by decide +kernel
theorem dX12_livedMean_5 : decode cX12_livedMean 5 = .ok (.iload_n 1, 1) := by decide +kernel
theorem dX12_livedMean_6 : decode cX12_livedMean 6 = .ok (.iload_n 2, 1) := by decide +kernel
theorem dX12_livedMean_7 : decode cX12_livedMean 7 = .ok (.invokevirtual 259, 3) := by decide +kernel
theorem dX12_livedMean_10 : decode cX12_livedMean 10 = .ok (.i2l, 1) := by decide +kernel
theorem dX12_livedMean_11 : decode cX12_livedMean 11 = .ok (.ldc2_w 401, 3) := by decide +kernel
theorem dX12_livedMean_14 : decode cX12_livedMean 14 = .ok (.lmul, 1) := by decide +kernel
theorem dX12_livedMean_15 : decode cX12_livedMean 15 = .ok (.aload_n 0, 1) := by decide +kernel
theorem dX12_livedMean_16 : decode cX12_livedMean 16 = .ok (.iload_n 1, 1) := by decide +kernel
theorem dX12_livedMean_17 : decode cX12_livedMean 17 = .ok (.iload_n 2, 1) := by decide +kernel
theorem dX12_livedMean_18 : decode cX12_livedMean 18 = .ok (.invokestatic 268, 3) := by decide +kernel
theorem dX12_livedMean_21 : decode cX12_livedMean 21 = .ok (.invokevirtual 398, 3) := by decide +kernel
theorem dX12_livedMean_24 : decode cX12_livedMean 24 = .ok (.ladd, 1) := by decide +kernel
theorem dX12_livedMean_25 : decode cX12_livedMean 25 = .ok (.ldc2_w 307, 3) := by decide +kernel
theorem dX12_livedMean_28 : decode cX12_livedMean 28 = .ok (.ldiv, 1) := by decide +kernel
theorem dX12_livedMean_29 : decode cX12_livedMean 29 = .ok (.bipush 10, 2) := by decide +kernel
theorem dX12_livedMean_31 : decode cX12_livedMean 31 = .ok (.aload_n 0, 1) := by decide +kernel
theorem dX12_livedMean_32 : decode cX12_livedMean 32 = .ok (.getfield 13, 3) := by decide +kernel
theorem dX12_livedMean_35 : decode cX12_livedMean 35 = .ok (.iconst 4, 1) := by decide +kernel
theorem dX12_livedMean_36 : decode cX12_livedMean 36 = .ok (.iaload, 1) := by decide +kernel
theorem dX12_livedMean_37 : decode cX12_livedMean 37 = .ok (.isub, 1) := by decide +kernel
theorem dX12_livedMean_38 : decode cX12_livedMean 38 = .ok (.i2l, 1) := by decide +kernel
theorem dX12_livedMean_39 : decode cX12_livedMean 39 = .ok (.lmul, 1) := by decide +kernel
theorem dX12_livedMean_40 : decode cX12_livedMean 40 = .ok (.aload_n 0, 1) := by decide +kernel
theorem dX12_livedMean_41 : decode cX12_livedMean 41 = .ok (.iload_n 1, 1) := by decide +kernel
theorem dX12_livedMean_42 : decode cX12_livedMean 42 = .ok (.invokevirtual 403, 3) := by decide +kernel
theorem dX12_livedMean_45 : decode cX12_livedMean 45 = .ok (.ldc2_w 307, 3) := by decide +kernel
theorem dX12_livedMean_48 : decode cX12_livedMean 48 = .ok (.ldiv, 1) := by decide +kernel
theorem dX12_livedMean_49 : decode cX12_livedMean 49 = .ok (.aload_n 0, 1) := by decide +kernel
theorem dX12_livedMean_50 : decode cX12_livedMean 50 = .ok (.getfield 13, 3) := by decide +kernel
theorem dX12_livedMean_53 : decode cX12_livedMean 53 = .ok (.iconst 4, 1) := by decide +kernel
theorem dX12_livedMean_54 : decode cX12_livedMean 54 = .ok (.iaload, 1) := by decide +kernel
theorem dX12_livedMean_55 : decode cX12_livedMean 55 = .ok (.i2l, 1) := by decide +kernel
theorem dX12_livedMean_56 : decode cX12_livedMean 56 = .ok (.lmul, 1) := by decide +kernel
theorem dX12_livedMean_57 : decode cX12_livedMean 57 = .ok (.ladd, 1) := by decide +kernel
theorem dX12_livedMean_58 : decode cX12_livedMean 58 = .ok (.lreturn, 1) := by decide +kernel
set_option maxRecDepth 20000 in
theorem ggX12_meanFrom_X12_drawnMean : GoodIn wsX12_meanFrom wsX12_drawnMean := goodIn_r _ [18, 19, 20, 21, 22, 7, 23, 24, 25, 26, 27, 28, 29, 30, 31, 12, 13, 14, 32, 33, 34, 35, 3, 36, 37, 38, 39, 40, 41, 42, 43, 44, 45, 46, 47, 48, 49, 50, 51, 52, 53, 54, 55, 56, 57, 58, 59, 60, 61, 62, 63, 64, 65, 66, 67, 68, 69, 70, 71, 4, 5, 6, 0, 1, 2, 8, 9, 10, 11, 15, 16, 17, 72, 73, 74, 75, 76, 77, 78, 79, 80, 81, 82, 83, 84, 85, 86, 87, 88, 89, 90, 91, 92, 93, 94, 95, 96, 97, 98, 99, 100, 101, 102, 103, 104, 105, 106, 107] (by decide +kernel) (by decide +kernel)
set_option maxRecDepth 20000 in
theorem gX12_meanFrom_X12_drawnMean : GoodIn wsX12_meanFrom (wsV RX12 403 RX12 yX12_drawnMean wsX12_drawnMean) := goodIn_app (goodIn_of _ (by decide +kernel)) ggX12_meanFrom_X12_drawnMean
set_option maxRecDepth 20000 in
theorem ggX12_meanFrom_X12_isOver : GoodIn wsX12_meanFrom wsX12_isOver := goodIn_r _ [11, 3, 12, 13, 7, 14, 72, 73, 74, 75, 76, 77, 78, 79, 80, 81, 82, 83, 84, 85, 86, 87, 88, 89, 90, 91, 92, 93, 94, 95, 96, 97, 98, 99, 100, 101, 102, 103, 104, 105, 106, 107] (by decide +kernel) (by decide +kernel)
set_option maxRecDepth 20000 in
theorem gX12_meanFrom_X12_isOver : GoodIn wsX12_meanFrom (wsV RX12 256 RX12 yX12_isOver wsX12_isOver) := goodIn_app (goodIn_of _ (by decide +kernel)) ggX12_meanFrom_X12_isOver
set_option maxRecDepth 20000 in
theorem ggX12_meanFrom_X12_livedMean : GoodIn wsX12_meanFrom wsX12_livedMean := goodIn_r _ [53, 19, 54, 55, 3, 56, 57, 58, 7, 59, 36, 12, 13, 14, 60, 61, 62, 63, 64, 65, 25, 26, 27, 66, 67, 68, 37, 38, 39, 40, 41, 42, 43, 44, 45, 46, 69, 70, 71, 47, 48, 49, 50, 51, 52, 4, 5, 6, 18, 20, 21, 22, 23, 24, 28, 29, 30, 31, 32, 33, 34, 35, 0, 1, 2, 8, 9, 10, 11, 15, 16, 17, 72, 73, 74, 75, 76, 77, 78, 79, 80, 81, 82, 83, 84, 85, 86, 87, 88, 89, 90, 91, 92, 93, 94, 95, 96, 97, 98, 99, 100, 101, 102, 103, 104, 105, 106, 107] (by decide +kernel) (by decide +kernel)
set_option maxRecDepth 20000 in
theorem gX12_meanFrom_X12_livedMean : GoodIn wsX12_meanFrom (wsV RX12 406 RX12 yX12_livedMean wsX12_livedMean) := goodIn_app (goodIn_of _ (by decide +kernel)) ggX12_meanFrom_X12_livedMean
theorem dX12_meanFrom_0 : decode cX12_meanFrom 0 = .ok (.aload_n 0, 1) := by decide +kernel
theorem dX12_meanFrom_1 : decode cX12_meanFrom 1 = .ok (.getfield 49, 3) := by decide +kernel
theorem dX12_meanFrom_4 : decode cX12_meanFrom 4 = .ok (.iload_n 1, 1) := by decide +kernel
theorem dX12_meanFrom_5 : decode cX12_meanFrom 5 = .ok (.baload, 1) := by decide +kernel
theorem dX12_meanFrom_6 : decode cX12_meanFrom 6 = .ok (.ifCond .eq 10, 3) := by decide +kernel
theorem dX12_meanFrom_9 : decode cX12_meanFrom 9 = .ok (.aload_n 0, 1) := by decide +kernel
theorem dX12_meanFrom_10 : decode cX12_meanFrom 10 = .ok (.getfield 58, 3) := by decide +kernel
theorem dX12_meanFrom_13 : decode cX12_meanFrom 13 = .ok (.iload_n 1, 1) := by decide +kernel
theorem dX12_meanFrom_14 : decode cX12_meanFrom 14 = .ok (.laload, 1) := by decide +kernel
theorem dX12_meanFrom_15 : decode cX12_meanFrom 15 = .ok (.lreturn, 1) := by decide +kernel
theorem dX12_meanFrom_16 : decode cX12_meanFrom 16 = .ok (.aload_n 0, 1) := by decide +kernel
theorem dX12_meanFrom_17 : decode cX12_meanFrom 17 = .ok (.iload_n 1, 1) := by decide +kernel
theorem dX12_meanFrom_18 : decode cX12_meanFrom 18 = .ok (.invokevirtual 403, 3) := by decide +kernel
theorem dX12_meanFrom_21 : decode cX12_meanFrom 21 = .ok (.lconst 0, 1) := by decide +kernel
theorem dX12_meanFrom_22 : decode cX12_meanFrom 22 = .ok (.lcmp, 1) := by decide +kernel
theorem dX12_meanFrom_23 : decode cX12_meanFrom 23 = .ok (.ifCond .le 11, 3) := by decide +kernel
theorem dX12_meanFrom_26 : decode cX12_meanFrom 26 = .ok (.aload_n 0, 1) := by decide +kernel
theorem dX12_meanFrom_27 : decode cX12_meanFrom 27 = .ok (.iload_n 1, 1) := by decide +kernel
theorem dX12_meanFrom_28 : decode cX12_meanFrom 28 = .ok (.invokevirtual 403, 3) := by decide +kernel
theorem dX12_meanFrom_31 : decode cX12_meanFrom 31 = .ok (.goto 4, 3) := by decide +kernel
theorem dX12_meanFrom_34 : decode cX12_meanFrom 34 = .ok (.lconst 0, 1) := by decide +kernel
theorem dX12_meanFrom_35 : decode cX12_meanFrom 35 = .ok (.lstore_n 2, 1) := by decide +kernel
theorem dX12_meanFrom_36 : decode cX12_meanFrom 36 = .ok (.iconst 0, 1) := by decide +kernel
theorem dX12_meanFrom_37 : decode cX12_meanFrom 37 = .ok (.istore 4, 2) := by decide +kernel
theorem dX12_meanFrom_39 : decode cX12_meanFrom 39 = .ok (.iload 4, 2) := by decide +kernel
theorem dX12_meanFrom_41 : decode cX12_meanFrom 41 = .ok (.aload_n 0, 1) := by decide +kernel
theorem dX12_meanFrom_42 : decode cX12_meanFrom 42 = .ok (.getfield 13, 3) := by decide +kernel
theorem dX12_meanFrom_45 : decode cX12_meanFrom 45 = .ok (.iconst 2, 1) := by decide +kernel
theorem dX12_meanFrom_46 : decode cX12_meanFrom 46 = .ok (.iaload, 1) := by decide +kernel
theorem dX12_meanFrom_47 : decode cX12_meanFrom 47 = .ok (.if_icmp .ge 40, 3) := by decide +kernel
theorem dX12_meanFrom_50 : decode cX12_meanFrom 50 = .ok (.aload_n 0, 1) := by decide +kernel
theorem dX12_meanFrom_51 : decode cX12_meanFrom 51 = .ok (.iload_n 1, 1) := by decide +kernel
theorem dX12_meanFrom_52 : decode cX12_meanFrom 52 = .ok (.invokevirtual 256, 3) := by decide +kernel
theorem dX12_meanFrom_55 : decode cX12_meanFrom 55 = .ok (.ifCond .ne 32, 3) := by decide +kernel
theorem dX12_meanFrom_58 : decode cX12_meanFrom 58 = .ok (.aload_n 0, 1) := by decide +kernel
theorem dX12_meanFrom_59 : decode cX12_meanFrom 59 = .ok (.iload_n 1, 1) := by decide +kernel
theorem dX12_meanFrom_60 : decode cX12_meanFrom 60 = .ok (.iload 4, 2) := by decide +kernel
theorem dX12_meanFrom_62 : decode cX12_meanFrom 62 = .ok (.invokevirtual 406, 3) := by decide +kernel
theorem dX12_meanFrom_65 : decode cX12_meanFrom 65 = .ok (.lstore 5, 2) := by decide +kernel
theorem dX12_meanFrom_67 : decode cX12_meanFrom 67 = .ok (.lload 5, 2) := by decide +kernel
theorem dX12_meanFrom_69 : decode cX12_meanFrom 69 = .ok (.lload_n 2, 1) := by decide +kernel
theorem dX12_meanFrom_70 : decode cX12_meanFrom 70 = .ok (.lcmp, 1) := by decide +kernel
theorem dX12_meanFrom_71 : decode cX12_meanFrom 71 = .ok (.ifCond .le 8, 3) := by decide +kernel
theorem dX12_meanFrom_74 : decode cX12_meanFrom 74 = .ok (.lload 5, 2) := by decide +kernel
theorem dX12_meanFrom_76 : decode cX12_meanFrom 76 = .ok (.goto 4, 3) := by decide +kernel
theorem dX12_meanFrom_79 : decode cX12_meanFrom 79 = .ok (.lload_n 2, 1) := by decide +kernel
theorem dX12_meanFrom_80 : decode cX12_meanFrom 80 = .ok (.lstore_n 2, 1) := by decide +kernel
theorem dX12_meanFrom_81 : decode cX12_meanFrom 81 = .ok (.iinc 4 1, 3) := by decide +kernel
theorem dX12_meanFrom_84 : decode cX12_meanFrom 84 = .ok (.goto (-45), 3) := by decide +kernel
theorem dX12_meanFrom_87 : decode cX12_meanFrom 87 = .ok (.aload_n 0, 1) := by decide +kernel
theorem dX12_meanFrom_88 : decode cX12_meanFrom 88 = .ok (.getfield 58, 3) := by decide +kernel
theorem dX12_meanFrom_91 : decode cX12_meanFrom 91 = .ok (.iload_n 1, 1) := by decide +kernel
theorem dX12_meanFrom_92 : decode cX12_meanFrom 92 = .ok (.lload_n 2, 1) := by decide +kernel
theorem dX12_meanFrom_93 : decode cX12_meanFrom 93 = .ok (.lastore, 1) := by decide +kernel
theorem dX12_meanFrom_94 : decode cX12_meanFrom 94 = .ok (.aload_n 0, 1) := by decide +kernel
theorem dX12_meanFrom_95 : decode cX12_meanFrom 95 = .ok (.getfield 49, 3) := by decide +kernel
theorem dX12_meanFrom_98 : decode cX12_meanFrom 98 = .ok (.iload_n 1, 1) := by decide +kernel
theorem dX12_meanFrom_99 : decode cX12_meanFrom 99 = .ok (.iconst 1, 1) := by decide +kernel
theorem dX12_meanFrom_100 : decode cX12_meanFrom 100 = .ok (.bastore, 1) := by decide +kernel
theorem dX12_meanFrom_101 : decode cX12_meanFrom 101 = .ok (.lload_n 2, 1) := by decide +kernel
theorem dX12_meanFrom_102 : decode cX12_meanFrom 102 = .ok (.lreturn, 1) := by decide +kernel
set_option maxRecDepth 20000 in
theorem ggX12_common_X12_common : GoodIn wsX12_common wsX12_common := goodIn_r _ [0, 1, 2, 3] (by decide +kernel) (by decide +kernel)
set_option maxRecDepth 20000 in
theorem gX12_common_X12_common : GoodIn wsX12_common (va_wsS RX12 410 yX12_common wsX12_common) := goodIn_app (goodIn_of _ (by decide +kernel)) ggX12_common_X12_common
theorem dX12_common_0 : decode cX12_common 0 = .ok (.lload_n 2, 1) := by decide +kernel
theorem dX12_common_1 : decode cX12_common 1 = .ok (.lconst 0, 1) := by decide +kernel
theorem dX12_common_2 : decode cX12_common 2 = .ok (.lcmp, 1) := by decide +kernel
theorem dX12_common_3 : decode cX12_common 3 = .ok (.ifCond .ne 7, 3) := by decide +kernel
theorem dX12_common_6 : decode cX12_common 6 = .ok (.lload_n 0, 1) := by decide +kernel
theorem dX12_common_7 : decode cX12_common 7 = .ok (.goto 10, 3) := by decide +kernel
theorem dX12_common_10 : decode cX12_common 10 = .ok (.lload_n 2, 1) := by decide +kernel
theorem dX12_common_11 : decode cX12_common 11 = .ok (.lload_n 0, 1) := by decide +kernel
theorem dX12_common_12 : decode cX12_common 12 = .ok (.lload_n 2, 1) := by decide +kernel
theorem dX12_common_13 : decode cX12_common 13 = .ok (.lrem, 1) := by decide +kernel
theorem dX12_common_14 : decode cX12_common 14 = .ok (.invokestatic 410, 3) := by decide +kernel
theorem dX12_common_17 : decode cX12_common 17 = .ok (.lreturn, 1) := by decide +kernel
set_option maxRecDepth 20000 in
theorem ggX12_part_X12_common : GoodIn wsX12_part wsX12_common := goodIn_r _ [5, 2, 3, 4] (by decide +kernel) (by decide +kernel)
set_option maxRecDepth 20000 in
theorem gX12_part_X12_common : GoodIn wsX12_part (va_wsS RX12 410 yX12_common wsX12_common) := goodIn_app (goodIn_of _ (by decide +kernel)) ggX12_part_X12_common
theorem dX12_part_0 : decode cX12_part 0 = .ok (.iload_n 2, 1) := by decide +kernel
theorem dX12_part_1 : decode cX12_part 1 = .ok (.ifCond .ne 7, 3) := by decide +kernel
theorem dX12_part_4 : decode cX12_part 4 = .ok (.lload_n 0, 1) := by decide +kernel
theorem dX12_part_5 : decode cX12_part 5 = .ok (.goto 6, 3) := by decide +kernel
theorem dX12_part_8 : decode cX12_part 8 = .ok (.ldc2_w 401, 3) := by decide +kernel
theorem dX12_part_11 : decode cX12_part 11 = .ok (.lload_n 0, 1) := by decide +kernel
theorem dX12_part_12 : decode cX12_part 12 = .ok (.ldc2_w 401, 3) := by decide +kernel
theorem dX12_part_15 : decode cX12_part 15 = .ok (.invokestatic 410, 3) := by decide +kernel
theorem dX12_part_18 : decode cX12_part 18 = .ok (.ldiv, 1) := by decide +kernel
theorem dX12_part_19 : decode cX12_part 19 = .ok (.lreturn, 1) := by decide +kernel
set_option maxRecDepth 20000 in
theorem ggX12_mean_X12_isPerson : GoodIn wsX12_mean wsX12_isPerson := goodIn_r _ [7, 8, 9, 10, 6, 11, 96, 97, 98, 99, 100, 101, 102, 103, 104, 105, 106, 107, 108, 109, 110, 111, 112, 113, 114, 115, 116, 117, 118, 119, 120, 121, 122, 123, 124, 125, 126, 127, 128, 129, 130, 131] (by decide +kernel) (by decide +kernel)
set_option maxRecDepth 20000 in
theorem gX12_mean_X12_isPerson : GoodIn wsX12_mean (wsV RX12 245 RX12 yX12_isPerson wsX12_isPerson) := goodIn_app (goodIn_of _ (by decide +kernel)) ggX12_mean_X12_isPerson
set_option maxRecDepth 20000 in
theorem ggX12_mean_X12_within : GoodIn wsX12_mean wsX12_within := goodIn_r _ [11] (by decide +kernel) (by decide +kernel)
set_option maxRecDepth 20000 in
theorem gX12_mean_X12_within : GoodIn wsX12_mean (va_wsS RX12 144 yX12_within wsX12_within) := goodIn_app (goodIn_of _ (by decide +kernel)) ggX12_mean_X12_within
set_option maxRecDepth 20000 in
theorem ggX12_mean_X12_begins : GoodIn wsX12_mean wsX12_begins := goodIn_r _ [15, 8, 16, 17, 18, 96, 97, 98, 99, 100, 101, 102, 103, 104, 105, 106, 107, 108, 109, 110, 111, 112, 113, 114, 115, 116, 117, 118, 119, 120, 121, 122, 123, 124, 125, 126, 127, 128, 129, 130, 131] (by decide +kernel) (by decide +kernel)
set_option maxRecDepth 20000 in
theorem gX12_mean_X12_begins : GoodIn wsX12_mean (wsV RX12 373 RX12 yX12_begins wsX12_begins) := goodIn_app (goodIn_of _ (by decide +kernel)) ggX12_mean_X12_begins
set_option maxRecDepth 20000 in
theorem ggX12_mean_X12_standNow : GoodIn wsX12_mean wsX12_standNow := goodIn_r _ [22, 8, 23, 24, 6, 25, 96, 97, 98, 99, 100, 101, 102, 103, 104, 105, 106, 107, 108, 109, 110, 111, 112, 113, 114, 115, 116, 117, 118, 119, 120, 121, 122, 123, 124, 125, 126, 127, 128, 129, 130, 131] (by decide +kernel) (by decide +kernel)
set_option maxRecDepth 20000 in
theorem gX12_mean_X12_standNow : GoodIn wsX12_mean (wsV RX12 253 RX12 yX12_standNow wsX12_standNow) := goodIn_app (goodIn_of _ (by decide +kernel)) ggX12_mean_X12_standNow
set_option maxRecDepth 20000 in
theorem ggX12_mean_X12_meanFrom : GoodIn wsX12_mean wsX12_meanFrom := goodIn_r _ [29, 18, 30, 8, 31, 32, 33, 6, 34, 35, 36, 37, 38, 39, 40, 41, 42, 43, 44, 16, 45, 46, 47, 48, 17, 49, 50, 51, 52, 53, 54, 55, 56, 57, 58, 59, 60, 61, 62, 63, 64, 65, 66, 67, 68, 69, 70, 23, 24, 25, 26, 27, 28, 71, 72, 73, 74, 75, 76, 77, 78, 79, 80, 81, 82, 83, 84, 85, 86, 87, 88, 89, 96, 97, 98, 99, 100, 101, 102, 103, 104, 105, 106, 107, 108, 109, 110, 111, 112, 113, 114, 115, 116, 117, 118, 119, 120, 121, 122, 123, 124, 125, 126, 127, 128, 129, 130, 131] (by decide +kernel) (by decide +kernel)
set_option maxRecDepth 20000 in
theorem gX12_mean_X12_meanFrom : GoodIn wsX12_mean (wsV RX12 398 RX12 yX12_meanFrom wsX12_meanFrom) := goodIn_app (goodIn_of _ (by decide +kernel)) ggX12_mean_X12_meanFrom
set_option maxRecDepth 20000 in
theorem ggX12_mean_X12_part : GoodIn wsX12_mean wsX12_part := goodIn_r _ [92, 72, 93, 94, 6, 95] (by decide +kernel) (by decide +kernel)
set_option maxRecDepth 20000 in
theorem gX12_mean_X12_part : GoodIn wsX12_mean (va_wsS RX12 414 yX12_part wsX12_part) := goodIn_app (goodIn_of _ (by decide +kernel)) ggX12_mean_X12_part
theorem dX12_mean_0 : decode cX12_mean 0 = .ok (.aload_n 0, 1) := by decide +kernel
theorem dX12_mean_1 : decode cX12_mean 1 = .ok (.iconst 0, 1) := by decide +kernel
theorem dX12_mean_2 : decode cX12_mean 2 = .ok (.putfield 1, 3) := by decide +kernel
theorem dX12_mean_5 : decode cX12_mean 5 = .ok (.aload_n 0, 1) := by decide +kernel
theorem dX12_mean_6 : decode cX12_mean 6 = .ok (.iload_n 1, 1) := by decide +kernel
theorem dX12_mean_7 : decode cX12_mean 7 = .ok (.i2l, 1) := by decide +kernel
theorem dX12_mean_8 : decode cX12_mean 8 = .ok (.invokevirtual 245, 3) := by decide +kernel
theorem dX12_mean_11 : decode cX12_mean 11 = .ok (.ifCond .eq 13, 3) := by decide +kernel
theorem dX12_mean_14 : decode cX12_mean 14 = .ok (.iload_n 2, 1) := by decide +kernel
theorem dX12_mean_15 : decode cX12_mean 15 = .ok (.i2l, 1) := by decide +kernel
theorem dX12_mean_16 : decode cX12_mean 16 = .ok (.lconst 0, 1) := by decide +kernel
theorem dX12_mean_17 : decode cX12_mean 17 = .ok (.lconst 1, 1) := by decide +kernel
theorem dX12_mean_18 : decode cX12_mean 18 = .ok (.invokestatic 144, 3) := by decide +kernel
theorem dX12_mean_21 : decode cX12_mean 21 = .ok (.ifCond .ne 7, 3) := by decide +kernel
theorem dX12_mean_24 : decode cX12_mean 24 = .ok (.ldc2_w 389, 3) := by decide +kernel
theorem dX12_mean_27 : decode cX12_mean 27 = .ok (.lreturn, 1) := by decide +kernel
theorem dX12_mean_28 : decode cX12_mean 28 = .ok (.aload_n 0, 1) := by decide +kernel
theorem dX12_mean_29 : decode cX12_mean 29 = .ok (.iload_n 1, 1) := by decide +kernel
theorem dX12_mean_30 : decode cX12_mean 30 = .ok (.invokevirtual 373, 3) := by decide +kernel
theorem dX12_mean_33 : decode cX12_mean 33 = .ok (.aload_n 0, 1) := by decide +kernel
theorem dX12_mean_34 : decode cX12_mean 34 = .ok (.aload_n 0, 1) := by decide +kernel
theorem dX12_mean_35 : decode cX12_mean 35 = .ok (.iload_n 1, 1) := by decide +kernel
theorem dX12_mean_36 : decode cX12_mean 36 = .ok (.invokevirtual 253, 3) := by decide +kernel
theorem dX12_mean_39 : decode cX12_mean 39 = .ok (.invokevirtual 398, 3) := by decide +kernel
theorem dX12_mean_42 : decode cX12_mean 42 = .ok (.iload_n 2, 1) := by decide +kernel
theorem dX12_mean_43 : decode cX12_mean 43 = .ok (.invokestatic 414, 3) := by decide +kernel
theorem dX12_mean_46 : decode cX12_mean 46 = .ok (.lreturn, 1) := by decide +kernel
set_option maxRecDepth 20000 in
theorem ggX12_choice_X12_isPerson : GoodIn wsX12_choice wsX12_isPerson := goodIn_r _ [8, 3, 9, 10, 7, 11, 90, 91, 92, 93, 94, 95, 96, 97, 98, 99, 100, 101, 102, 103, 104, 105, 106, 107, 108, 109, 110, 111, 112, 113, 114, 115, 116, 117, 118, 119, 120, 121, 122, 123, 124, 125] (by decide +kernel) (by decide +kernel)
set_option maxRecDepth 20000 in
theorem gX12_choice_X12_isPerson : GoodIn wsX12_choice (wsV RX12 245 RX12 yX12_isPerson wsX12_isPerson) := goodIn_app (goodIn_of _ (by decide +kernel)) ggX12_choice_X12_isPerson
set_option maxRecDepth 20000 in
theorem ggX12_choice_X12_begins : GoodIn wsX12_choice wsX12_begins := goodIn_r _ [15, 3, 16, 17, 18, 90, 91, 92, 93, 94, 95, 96, 97, 98, 99, 100, 101, 102, 103, 104, 105, 106, 107, 108, 109, 110, 111, 112, 113, 114, 115, 116, 117, 118, 119, 120, 121, 122, 123, 124, 125] (by decide +kernel) (by decide +kernel)
set_option maxRecDepth 20000 in
theorem gX12_choice_X12_begins : GoodIn wsX12_choice (wsV RX12 373 RX12 yX12_begins wsX12_begins) := goodIn_app (goodIn_of _ (by decide +kernel)) ggX12_choice_X12_begins
set_option maxRecDepth 20000 in
theorem ggX12_choice_X12_standNow : GoodIn wsX12_choice wsX12_standNow := goodIn_r _ [22, 3, 23, 24, 7, 25, 90, 91, 92, 93, 94, 95, 96, 97, 98, 99, 100, 101, 102, 103, 104, 105, 106, 107, 108, 109, 110, 111, 112, 113, 114, 115, 116, 117, 118, 119, 120, 121, 122, 123, 124, 125] (by decide +kernel) (by decide +kernel)
set_option maxRecDepth 20000 in
theorem gX12_choice_X12_standNow : GoodIn wsX12_choice (wsV RX12 253 RX12 yX12_standNow wsX12_standNow) := goodIn_app (goodIn_of _ (by decide +kernel)) ggX12_choice_X12_standNow
set_option maxRecDepth 20000 in
theorem ggX12_choice_X12_meanFrom : GoodIn wsX12_choice wsX12_meanFrom := goodIn_r _ [29, 18, 30, 3, 31, 32, 33, 7, 34, 35, 36, 37, 38, 39, 40, 41, 42, 43, 44, 16, 45, 46, 47, 48, 17, 49, 50, 51, 52, 53, 54, 55, 56, 57, 58, 59, 60, 61, 62, 63, 64, 65, 66, 67, 68, 69, 70, 23, 24, 25, 26, 27, 28, 71, 72, 73, 74, 75, 76, 77, 78, 79, 80, 81, 82, 83, 84, 85, 86, 87, 88, 89, 90, 91, 92, 93, 94, 95, 96, 97, 98, 99, 100, 101, 102, 103, 104, 105, 106, 107, 108, 109, 110, 111, 112, 113, 114, 115, 116, 117, 118, 119, 120, 121, 122, 123, 124, 125] (by decide +kernel) (by decide +kernel)
set_option maxRecDepth 20000 in
theorem gX12_choice_X12_meanFrom : GoodIn wsX12_choice (wsV RX12 398 RX12 yX12_meanFrom wsX12_meanFrom) := goodIn_app (goodIn_of _ (by decide +kernel)) ggX12_choice_X12_meanFrom
set_option maxRecDepth 20000 in
theorem ggX12_choice_X12_isOver : GoodIn wsX12_choice wsX12_isOver := goodIn_r _ [37, 3, 38, 39, 7, 40, 90, 91, 92, 93, 94, 95, 96, 97, 98, 99, 100, 101, 102, 103, 104, 105, 106, 107, 108, 109, 110, 111, 112, 113, 114, 115, 116, 117, 118, 119, 120, 121, 122, 123, 124, 125] (by decide +kernel) (by decide +kernel)
set_option maxRecDepth 20000 in
theorem gX12_choice_X12_isOver : GoodIn wsX12_choice (wsV RX12 256 RX12 yX12_isOver wsX12_isOver) := goodIn_app (goodIn_of _ (by decide +kernel)) ggX12_choice_X12_isOver
set_option maxRecDepth 20000 in
theorem ggX12_choice_X12_livedMean : GoodIn wsX12_choice wsX12_livedMean := goodIn_r _ [71, 16, 72, 73, 3, 74, 75, 76, 7, 77, 60, 38, 39, 40, 78, 79, 80, 81, 82, 83, 49, 50, 51, 84, 85, 86, 61, 62, 63, 64, 65, 66, 67, 68, 69, 70, 87, 88, 89, 23, 24, 25, 26, 27, 28, 31, 32, 33, 44, 45, 46, 47, 48, 17, 52, 53, 54, 55, 56, 57, 58, 59, 29, 18, 30, 34, 35, 36, 37, 41, 42, 43, 90, 91, 92, 93, 94, 95, 96, 97, 98, 99, 100, 101, 102, 103, 104, 105, 106, 107, 108, 109, 110, 111, 112, 113, 114, 115, 116, 117, 118, 119, 120, 121, 122, 123, 124, 125] (by decide +kernel) (by decide +kernel)
set_option maxRecDepth 20000 in
theorem gX12_choice_X12_livedMean : GoodIn wsX12_choice (wsV RX12 406 RX12 yX12_livedMean wsX12_livedMean) := goodIn_app (goodIn_of _ (by decide +kernel)) ggX12_choice_X12_livedMean
theorem dX12_choice_0 : decode cX12_choice 0 = .ok (.aload_n 0, 1) := by decide +kernel
theorem dX12_choice_1 : decode cX12_choice 1 = .ok (.iconst 0, 1) := by decide +kernel
theorem dX12_choice_2 : decode cX12_choice 2 = .ok (.putfield 1, 3) := by decide +kernel
theorem dX12_choice_5 : decode cX12_choice 5 = .ok (.aload_n 0, 1) := by decide +kernel
theorem dX12_choice_6 : decode cX12_choice 6 = .ok (.iload_n 1, 1) := by decide +kernel
theorem dX12_choice_7 : decode cX12_choice 7 = .ok (.i2l, 1) := by decide +kernel
theorem dX12_choice_8 : decode cX12_choice 8 = .ok (.invokevirtual 245, 3) := by decide +kernel
theorem dX12_choice_11 : decode cX12_choice 11 = .ok (.ifCond .ne 6, 3) := by decide +kernel
theorem dX12_choice_14 : decode cX12_choice 14 = .ok (.ldc 249, 2) := by decide +kernel
theorem dX12_choice_16 : decode cX12_choice 16 = .ok (.ireturn, 1) := by decide +kernel
theorem dX12_choice_17 : decode cX12_choice 17 = .ok (.aload_n 0, 1) := by decide +kernel
theorem dX12_choice_18 : decode cX12_choice 18 = .ok (.iload_n 1, 1) := by decide +kernel
theorem dX12_choice_19 : decode cX12_choice 19 = .ok (.invokevirtual 373, 3) := by decide +kernel
theorem dX12_choice_22 : decode cX12_choice 22 = .ok (.aload_n 0, 1) := by decide +kernel
theorem dX12_choice_23 : decode cX12_choice 23 = .ok (.iload_n 1, 1) := by decide +kernel
theorem dX12_choice_24 : decode cX12_choice 24 = .ok (.invokevirtual 253, 3) := by decide +kernel
theorem dX12_choice_27 : decode cX12_choice 27 = .ok (.istore_n 2, 1) := by decide +kernel
theorem dX12_choice_28 : decode cX12_choice 28 = .ok (.aload_n 0, 1) := by decide +kernel
theorem dX12_choice_29 : decode cX12_choice 29 = .ok (.iload_n 2, 1) := by decide +kernel
theorem dX12_choice_30 : decode cX12_choice 30 = .ok (.invokevirtual 398, 3) := by decide +kernel
theorem dX12_choice_33 : decode cX12_choice 33 = .ok (.lstore_n 3, 1) := by decide +kernel
theorem dX12_choice_34 : decode cX12_choice 34 = .ok (.lload_n 3, 1) := by decide +kernel
theorem dX12_choice_35 : decode cX12_choice 35 = .ok (.lconst 0, 1) := by decide +kernel
theorem dX12_choice_36 : decode cX12_choice 36 = .ok (.lcmp, 1) := by decide +kernel
theorem dX12_choice_37 : decode cX12_choice 37 = .ok (.ifCond .ne 5, 3) := by decide +kernel
theorem dX12_choice_40 : decode cX12_choice 40 = .ok (.iconst (-1), 1) := by decide +kernel
theorem dX12_choice_41 : decode cX12_choice 41 = .ok (.ireturn, 1) := by decide +kernel
theorem dX12_choice_42 : decode cX12_choice 42 = .ok (.iconst 0, 1) := by decide +kernel
theorem dX12_choice_43 : decode cX12_choice 43 = .ok (.istore 5, 2) := by decide +kernel
theorem dX12_choice_45 : decode cX12_choice 45 = .ok (.iload 5, 2) := by decide +kernel
theorem dX12_choice_47 : decode cX12_choice 47 = .ok (.aload_n 0, 1) := by decide +kernel
theorem dX12_choice_48 : decode cX12_choice 48 = .ok (.getfield 13, 3) := by decide +kernel
theorem dX12_choice_51 : decode cX12_choice 51 = .ok (.iconst 2, 1) := by decide +kernel
theorem dX12_choice_52 : decode cX12_choice 52 = .ok (.iaload, 1) := by decide +kernel
theorem dX12_choice_53 : decode cX12_choice 53 = .ok (.if_icmp .ge 32, 3) := by decide +kernel
theorem dX12_choice_56 : decode cX12_choice 56 = .ok (.aload_n 0, 1) := by decide +kernel
theorem dX12_choice_57 : decode cX12_choice 57 = .ok (.iload_n 2, 1) := by decide +kernel
theorem dX12_choice_58 : decode cX12_choice 58 = .ok (.invokevirtual 256, 3) := by decide +kernel
theorem dX12_choice_61 : decode cX12_choice 61 = .ok (.ifCond .ne 24, 3) := by decide +kernel
theorem dX12_choice_64 : decode cX12_choice 64 = .ok (.aload_n 0, 1) := by decide +kernel
theorem dX12_choice_65 : decode cX12_choice 65 = .ok (.iload_n 2, 1) := by decide +kernel
theorem dX12_choice_66 : decode cX12_choice 66 = .ok (.iload 5, 2) := by decide +kernel
theorem dX12_choice_68 : decode cX12_choice 68 = .ok (.invokevirtual 406, 3) := by decide +kernel
theorem dX12_choice_71 : decode cX12_choice 71 = .ok (.lload_n 3, 1) := by decide +kernel
theorem dX12_choice_72 : decode cX12_choice 72 = .ok (.lcmp, 1) := by decide +kernel
theorem dX12_choice_73 : decode cX12_choice 73 = .ok (.ifCond .ne 6, 3) := by decide +kernel
theorem dX12_choice_76 : decode cX12_choice 76 = .ok (.iload 5, 2) := by decide +kernel
theorem dX12_choice_78 : decode cX12_choice 78 = .ok (.ireturn, 1) := by decide +kernel
theorem dX12_choice_79 : decode cX12_choice 79 = .ok (.iinc 5 1, 3) := by decide +kernel
theorem dX12_choice_82 : decode cX12_choice 82 = .ok (.goto (-37), 3) := by decide +kernel
theorem dX12_choice_85 : decode cX12_choice 85 = .ok (.bipush 9, 2) := by decide +kernel
theorem dX12_choice_87 : decode cX12_choice 87 = .ok (.ireturn, 1) := by decide +kernel
set_option maxRecDepth 20000 in
theorem ggX12_drawing_X12_isPerson : GoodIn wsX12_drawing wsX12_isPerson := goodIn_r _ [7, 8, 9, 10, 6, 11, 90, 91, 92, 93, 94, 95, 96, 97, 98, 99, 100, 101, 102, 103, 104, 105, 106, 107, 108, 109, 110, 111, 112, 113, 114, 115, 116, 117, 118, 119, 120, 121, 122, 123, 124, 125] (by decide +kernel) (by decide +kernel)
set_option maxRecDepth 20000 in
theorem gX12_drawing_X12_isPerson : GoodIn wsX12_drawing (wsV RX12 245 RX12 yX12_isPerson wsX12_isPerson) := goodIn_app (goodIn_of _ (by decide +kernel)) ggX12_drawing_X12_isPerson
set_option maxRecDepth 20000 in
theorem ggX12_drawing_X12_begins : GoodIn wsX12_drawing wsX12_begins := goodIn_r _ [15, 8, 16, 17, 18, 90, 91, 92, 93, 94, 95, 96, 97, 98, 99, 100, 101, 102, 103, 104, 105, 106, 107, 108, 109, 110, 111, 112, 113, 114, 115, 116, 117, 118, 119, 120, 121, 122, 123, 124, 125] (by decide +kernel) (by decide +kernel)
set_option maxRecDepth 20000 in
theorem gX12_drawing_X12_begins : GoodIn wsX12_drawing (wsV RX12 373 RX12 yX12_begins wsX12_begins) := goodIn_app (goodIn_of _ (by decide +kernel)) ggX12_drawing_X12_begins
set_option maxRecDepth 20000 in
theorem ggX12_drawing_X12_standNow : GoodIn wsX12_drawing wsX12_standNow := goodIn_r _ [22, 8, 23, 24, 6, 25, 90, 91, 92, 93, 94, 95, 96, 97, 98, 99, 100, 101, 102, 103, 104, 105, 106, 107, 108, 109, 110, 111, 112, 113, 114, 115, 116, 117, 118, 119, 120, 121, 122, 123, 124, 125] (by decide +kernel) (by decide +kernel)
set_option maxRecDepth 20000 in
theorem gX12_drawing_X12_standNow : GoodIn wsX12_drawing (wsV RX12 253 RX12 yX12_standNow wsX12_standNow) := goodIn_app (goodIn_of _ (by decide +kernel)) ggX12_drawing_X12_standNow
set_option maxRecDepth 20000 in
theorem ggX12_drawing_X12_canDraw : GoodIn wsX12_drawing wsX12_canDraw := goodIn_r _ [29, 17, 30, 31, 6, 32, 90, 91, 92, 93, 94, 95, 96, 97, 98, 99, 100, 101, 102, 103, 104, 105, 106, 107, 108, 109, 110, 111, 112, 113, 114, 115, 116, 117, 118, 119, 120, 121, 122, 123, 124, 125] (by decide +kernel) (by decide +kernel)
set_option maxRecDepth 20000 in
theorem gX12_drawing_X12_canDraw : GoodIn wsX12_drawing (wsV RX12 370 RX12 yX12_canDraw wsX12_canDraw) := goodIn_app (goodIn_of _ (by decide +kernel)) ggX12_drawing_X12_canDraw
set_option maxRecDepth 20000 in
theorem ggX12_drawing_X12_drawnMean : GoodIn wsX12_drawing wsX12_drawnMean := goodIn_r _ [36, 16, 26, 27, 28, 6, 29, 17, 30, 31, 32, 37, 38, 39, 40, 41, 42, 43, 44, 45, 46, 47, 8, 48, 49, 50, 51, 52, 53, 54, 55, 56, 57, 58, 23, 24, 25, 59, 60, 61, 62, 63, 64, 65, 66, 67, 68, 69, 70, 71, 72, 73, 74, 75, 76, 77, 78, 79, 80, 33, 34, 35, 81, 18, 82, 83, 84, 85, 86, 87, 88, 89, 90, 91, 92, 93, 94, 95, 96, 97, 98, 99, 100, 101, 102, 103, 104, 105, 106, 107, 108, 109, 110, 111, 112, 113, 114, 115, 116, 117, 118, 119, 120, 121, 122, 123, 124, 125] (by decide +kernel) (by decide +kernel)
set_option maxRecDepth 20000 in
theorem gX12_drawing_X12_drawnMean : GoodIn wsX12_drawing (wsV RX12 403 RX12 yX12_drawnMean wsX12_drawnMean) := goodIn_app (goodIn_of _ (by decide +kernel)) ggX12_drawing_X12_drawnMean
set_option maxRecDepth 20000 in
theorem ggX12_drawing_X12_meanFrom : GoodIn wsX12_drawing wsX12_meanFrom := goodIn_r _ [81, 18, 82, 8, 33, 34, 35, 6, 83, 84, 85, 86, 41, 42, 43, 87, 88, 89, 36, 16, 26, 27, 28, 29, 17, 30, 31, 32, 37, 38, 39, 40, 44, 45, 46, 47, 48, 49, 50, 51, 52, 53, 54, 55, 56, 57, 58, 23, 24, 25, 59, 60, 61, 62, 63, 64, 65, 66, 67, 68, 69, 70, 71, 72, 73, 74, 75, 76, 77, 78, 79, 80, 90, 91, 92, 93, 94, 95, 96, 97, 98, 99, 100, 101, 102, 103, 104, 105, 106, 107, 108, 109, 110, 111, 112, 113, 114, 115, 116, 117, 118, 119, 120, 121, 122, 123, 124, 125] (by decide +kernel) (by decide +kernel)
set_option maxRecDepth 20000 in
theorem gX12_drawing_X12_meanFrom : GoodIn wsX12_drawing (wsV RX12 398 RX12 yX12_meanFrom wsX12_meanFrom) := goodIn_app (goodIn_of _ (by decide +kernel)) ggX12_drawing_X12_meanFrom
theorem dX12_drawing_0 : decode cX12_drawing 0 = .ok (.aload_n 0, 1) := by decide +kernel
theorem dX12_drawing_1 : decode cX12_drawing 1 = .ok (.iconst 0, 1) := by decide +kernel
theorem dX12_drawing_2 : decode cX12_drawing 2 = .ok (.putfield 1, 3) := by decide +kernel
theorem dX12_drawing_5 : decode cX12_drawing 5 = .ok (.aload_n 0, 1) := by decide +kernel
theorem dX12_drawing_6 : decode cX12_drawing 6 = .ok (.iload_n 1, 1) := by decide +kernel
theorem dX12_drawing_7 : decode cX12_drawing 7 = .ok (.i2l, 1) := by decide +kernel
theorem dX12_drawing_8 : decode cX12_drawing 8 = .ok (.invokevirtual 245, 3) := by decide +kernel
theorem dX12_drawing_11 : decode cX12_drawing 11 = .ok (.ifCond .ne 6, 3) := by decide +kernel
theorem dX12_drawing_14 : decode cX12_drawing 14 = .ok (.ldc 249, 2) := by decide +kernel
theorem dX12_drawing_16 : decode cX12_drawing 16 = .ok (.ireturn, 1) := by decide +kernel
theorem dX12_drawing_17 : decode cX12_drawing 17 = .ok (.aload_n 0, 1) := by decide +kernel
theorem dX12_drawing_18 : decode cX12_drawing 18 = .ok (.iload_n 1, 1) := by decide +kernel
theorem dX12_drawing_19 : decode cX12_drawing 19 = .ok (.invokevirtual 373, 3) := by decide +kernel
theorem dX12_drawing_22 : decode cX12_drawing 22 = .ok (.aload_n 0, 1) := by decide +kernel
theorem dX12_drawing_23 : decode cX12_drawing 23 = .ok (.iload_n 1, 1) := by decide +kernel
theorem dX12_drawing_24 : decode cX12_drawing 24 = .ok (.invokevirtual 253, 3) := by decide +kernel
theorem dX12_drawing_27 : decode cX12_drawing 27 = .ok (.istore_n 2, 1) := by decide +kernel
theorem dX12_drawing_28 : decode cX12_drawing 28 = .ok (.aload_n 0, 1) := by decide +kernel
theorem dX12_drawing_29 : decode cX12_drawing 29 = .ok (.iload_n 2, 1) := by decide +kernel
theorem dX12_drawing_30 : decode cX12_drawing 30 = .ok (.invokevirtual 370, 3) := by decide +kernel
theorem dX12_drawing_33 : decode cX12_drawing 33 = .ok (.ifCond .eq 21, 3) := by decide +kernel
theorem dX12_drawing_36 : decode cX12_drawing 36 = .ok (.aload_n 0, 1) := by decide +kernel
theorem dX12_drawing_37 : decode cX12_drawing 37 = .ok (.iload_n 2, 1) := by decide +kernel
theorem dX12_drawing_38 : decode cX12_drawing 38 = .ok (.invokevirtual 403, 3) := by decide +kernel
theorem dX12_drawing_41 : decode cX12_drawing 41 = .ok (.aload_n 0, 1) := by decide +kernel
theorem dX12_drawing_42 : decode cX12_drawing 42 = .ok (.iload_n 2, 1) := by decide +kernel
theorem dX12_drawing_43 : decode cX12_drawing 43 = .ok (.invokevirtual 398, 3) := by decide +kernel
theorem dX12_drawing_46 : decode cX12_drawing 46 = .ok (.lcmp, 1) := by decide +kernel
theorem dX12_drawing_47 : decode cX12_drawing 47 = .ok (.ifCond .ne 7, 3) := by decide +kernel
theorem dX12_drawing_50 : decode cX12_drawing 50 = .ok (.iconst 1, 1) := by decide +kernel
theorem dX12_drawing_51 : decode cX12_drawing 51 = .ok (.goto 4, 3) := by decide +kernel
theorem dX12_drawing_54 : decode cX12_drawing 54 = .ok (.iconst 0, 1) := by decide +kernel
theorem dX12_drawing_55 : decode cX12_drawing 55 = .ok (.ireturn, 1) := by decide +kernel
set_option maxRecDepth 20000 in
theorem ggX12_yearsLeft_X12_yearOf : GoodIn wsX12_yearsLeft wsX12_yearOf := goodIn_r _ [5] (by decide +kernel) (by decide +kernel)
set_option maxRecDepth 20000 in
theorem gX12_yearsLeft_X12_yearOf : GoodIn wsX12_yearsLeft (va_wsS RX12 224 yX12_yearOf wsX12_yearOf) := goodIn_app (goodIn_of _ (by decide +kernel)) ggX12_yearsLeft_X12_yearOf
set_option maxRecDepth 20000 in
theorem ggX12_yearsLeft_X12_canDraw : GoodIn wsX12_yearsLeft wsX12_canDraw := goodIn_r _ [9, 10, 11, 12, 4, 13, 14, 15, 16, 17, 18, 19, 20, 21, 22, 23, 24, 25, 26, 27, 28, 29, 30, 31, 32, 33, 34, 35, 36, 37, 38, 39, 40, 41, 42, 43, 44, 45, 46, 47, 48, 49] (by decide +kernel) (by decide +kernel)
set_option maxRecDepth 20000 in
theorem gX12_yearsLeft_X12_canDraw : GoodIn wsX12_yearsLeft (wsV RX12 370 RX12 yX12_canDraw wsX12_canDraw) := goodIn_app (goodIn_of _ (by decide +kernel)) ggX12_yearsLeft_X12_canDraw
theorem dX12_yearsLeft_0 : decode cX12_yearsLeft 0 = .ok (.aload_n 0, 1) := by decide +kernel
theorem dX12_yearsLeft_1 : decode cX12_yearsLeft 1 = .ok (.getfield 13, 3) := by decide +kernel
theorem dX12_yearsLeft_4 : decode cX12_yearsLeft 4 = .ok (.iconst 1, 1) := by decide +kernel
theorem dX12_yearsLeft_5 : decode cX12_yearsLeft 5 = .ok (.iaload, 1) := by decide +kernel
theorem dX12_yearsLeft_6 : decode cX12_yearsLeft 6 = .ok (.iload_n 1, 1) := by decide +kernel
theorem dX12_yearsLeft_7 : decode cX12_yearsLeft 7 = .ok (.invokestatic 224, 3) := by decide +kernel
theorem dX12_yearsLeft_10 : decode cX12_yearsLeft 10 = .ok (.isub, 1) := by decide +kernel
theorem dX12_yearsLeft_11 : decode cX12_yearsLeft 11 = .ok (.aload_n 0, 1) := by decide +kernel
theorem dX12_yearsLeft_12 : decode cX12_yearsLeft 12 = .ok (.iload_n 1, 1) := by decide +kernel
theorem dX12_yearsLeft_13 : decode cX12_yearsLeft 13 = .ok (.invokevirtual 370, 3) := by decide +kernel
theorem dX12_yearsLeft_16 : decode cX12_yearsLeft 16 = .ok (.ifCond .eq 12, 3) := by decide +kernel
theorem dX12_yearsLeft_19 : decode cX12_yearsLeft 19 = .ok (.aload_n 0, 1) := by decide +kernel
theorem dX12_yearsLeft_20 : decode cX12_yearsLeft 20 = .ok (.getfield 13, 3) := by decide +kernel
theorem dX12_yearsLeft_23 : decode cX12_yearsLeft 23 = .ok (.iconst 1, 1) := by decide +kernel
theorem dX12_yearsLeft_24 : decode cX12_yearsLeft 24 = .ok (.iaload, 1) := by decide +kernel
theorem dX12_yearsLeft_25 : decode cX12_yearsLeft 25 = .ok (.goto 4, 3) := by decide +kernel
theorem dX12_yearsLeft_28 : decode cX12_yearsLeft 28 = .ok (.iconst 0, 1) := by decide +kernel
theorem dX12_yearsLeft_29 : decode cX12_yearsLeft 29 = .ok (.iadd, 1) := by decide +kernel
theorem dX12_yearsLeft_30 : decode cX12_yearsLeft 30 = .ok (.ireturn, 1) := by decide +kernel
set_option maxRecDepth 20000 in
theorem ggX12_drawnHope_X12_canDraw : GoodIn wsX12_drawnHope wsX12_canDraw := goodIn_r _ [6, 7, 8, 9, 5, 10, 75, 76, 77, 78, 79, 80, 81, 82, 83, 84, 85, 86, 87, 88, 89, 90, 91, 92, 93, 94, 95, 96, 97, 98, 99, 100, 101, 102, 103, 104, 105, 106, 107, 108, 109, 110] (by decide +kernel) (by decide +kernel)
set_option maxRecDepth 20000 in
theorem gX12_drawnHope_X12_canDraw : GoodIn wsX12_drawnHope (wsV RX12 370 RX12 yX12_canDraw wsX12_canDraw) := goodIn_app (goodIn_of _ (by decide +kernel)) ggX12_drawnHope_X12_canDraw
set_option maxRecDepth 20000 in
theorem ggX12_drawnHope_X12_drawnTo : GoodIn wsX12_drawnHope wsX12_drawnTo := goodIn_r _ [14, 15, 16, 5, 17, 18, 19, 20, 21, 22, 23, 24, 25, 26, 27, 28, 29, 30, 31, 32, 33, 34, 35, 36, 75, 76, 77, 78, 79, 80, 81, 82, 83, 84, 85, 86, 87, 88, 89, 90, 91, 92, 93, 94, 95, 96, 97, 98, 99, 100, 101, 102, 103, 104, 105, 106, 107, 108, 109, 110] (by decide +kernel) (by decide +kernel)
set_option maxRecDepth 20000 in
theorem gX12_drawnHope_X12_drawnTo : GoodIn wsX12_drawnHope (wsV RX12 275 RX12 yX12_drawnTo wsX12_drawnTo) := goodIn_app (goodIn_of _ (by decide +kernel)) ggX12_drawnHope_X12_drawnTo
set_option maxRecDepth 20000 in
theorem ggX12_drawnHope_X12_hopeFrom : GoodIn wsX12_drawnHope wsX12_hopeFrom := goodIn_r _ [40, 41, 42, 22, 43, 44, 45, 5, 46, 15, 16, 17, 2, 3, 4, 6, 7, 8, 9, 10, 47, 48, 49, 50, 51, 52, 53, 54, 55, 56, 0, 1, 11, 12, 13, 14, 18, 19, 20, 21, 23, 24, 25, 26, 27, 28, 29, 30, 31, 32, 33, 34, 35, 36, 37, 38, 39, 57, 58, 59, 60, 61, 62, 63, 64, 65, 66, 67, 68, 69, 70, 71, 72, 73, 74, 75, 76, 77, 78, 79, 80, 81, 82, 83, 84, 85, 86, 87, 88, 89, 90, 91, 92, 93, 94, 95, 96, 97, 98, 99, 100, 101, 102, 103, 104, 105, 106, 107, 108, 109, 110] (by decide +kernel) (by decide +kernel)
set_option maxRecDepth 20000 in
theorem gX12_drawnHope_X12_hopeFrom : GoodIn wsX12_drawnHope (wsV RX12 418 RX12 yX12_hopeFrom wsX12_hopeFrom) := goodIn_app (goodIn_of _ (by decide +kernel)) ggX12_drawnHope_X12_hopeFrom
theorem dX12_drawnHope_0 : decode cX12_drawnHope 0 = .ok (.aload_n 0, 1) := by decide +kernel
theorem dX12_drawnHope_1 : decode cX12_drawnHope 1 = .ok (.iload_n 1, 1) := by decide +kernel
theorem dX12_drawnHope_2 : decode cX12_drawnHope 2 = .ok (.invokevirtual 370, 3) := by decide +kernel
theorem dX12_drawnHope_5 : decode cX12_drawnHope 5 = .ok (.ifCond .eq 20, 3) := by decide +kernel
theorem dX12_drawnHope_8 : decode cX12_drawnHope 8 = .ok (.aload_n 0, 1) := by decide +kernel
theorem dX12_drawnHope_9 : decode cX12_drawnHope 9 = .ok (.aload_n 0, 1) := by decide +kernel
theorem dX12_drawnHope_10 : decode cX12_drawnHope 10 = .ok (.aload_n 0, 1) := by decide +kernel
theorem dX12_drawnHope_11 : decode cX12_drawnHope 11 = .ok (.getfield 360, 3) := by decide +kernel
theorem dX12_drawnHope_14 : decode cX12_drawnHope 14 = .ok (.iload_n 1, 1) := by decide +kernel
theorem dX12_drawnHope_15 : decode cX12_drawnHope 15 = .ok (.invokevirtual 275, 3) := by decide +kernel
theorem dX12_drawnHope_18 : decode cX12_drawnHope 18 = .ok (.iload_n 2, 1) := by decide +kernel
theorem dX12_drawnHope_19 : decode cX12_drawnHope 19 = .ok (.invokevirtual 418, 3) := by decide +kernel
theorem dX12_drawnHope_22 : decode cX12_drawnHope 22 = .ok (.goto 4, 3) := by decide +kernel
theorem dX12_drawnHope_25 : decode cX12_drawnHope 25 = .ok (.lconst 0, 1) := by decide +kernel
theorem dX12_drawnHope_26 : decode cX12_drawnHope 26 = .ok (.lreturn, 1) := by decide +kernel
set_option maxRecDepth 20000 in
theorem ggX12_livedHope_X12_livedTo : GoodIn wsX12_livedHope wsX12_livedTo := goodIn_r _ [7, 8, 9, 6, 10, 11, 12, 13, 14, 15, 16, 17, 18, 19, 20, 21, 22, 23, 24, 25] (by decide +kernel) (by decide +kernel)
set_option maxRecDepth 20000 in
theorem gX12_livedHope_X12_livedTo : GoodIn wsX12_livedHope (va_wsS RX12 268 yX12_livedTo wsX12_livedTo) := goodIn_app (goodIn_of _ (by decide +kernel)) ggX12_livedHope_X12_livedTo
set_option maxRecDepth 20000 in
theorem ggX12_livedHope_X12_worthOf : GoodIn wsX12_livedHope wsX12_worthOf := goodIn_r _ [29, 3, 30, 14, 15, 6, 16, 17, 18, 19, 20, 21, 22, 8, 9, 10, 11, 12, 13, 31, 32, 33, 34, 35, 36, 37, 38, 39, 40, 75, 76, 77, 78, 79, 80, 81, 82, 83, 84, 85, 86, 87, 88, 89, 90, 91, 92, 93, 94, 95, 96, 97, 98, 99, 100, 101, 102, 103, 104, 105, 106, 107, 108, 109, 110] (by decide +kernel) (by decide +kernel)
set_option maxRecDepth 20000 in
theorem gX12_livedHope_X12_worthOf : GoodIn wsX12_livedHope (wsV RX12 259 RX12 yX12_worthOf wsX12_worthOf) := goodIn_app (goodIn_of _ (by decide +kernel)) ggX12_livedHope_X12_worthOf
set_option maxRecDepth 20000 in
theorem ggX12_livedHope_X12_hopeFrom : GoodIn wsX12_livedHope wsX12_hopeFrom := goodIn_r _ [61, 62, 63, 3, 64, 65, 66, 6, 67, 14, 15, 16, 48, 49, 50, 51, 52, 8, 9, 10, 44, 45, 46, 68, 69, 70, 71, 72, 73, 74, 47, 1, 53, 54, 55, 56, 57, 58, 59, 60, 30, 31, 32, 33, 34, 35, 36, 37, 38, 39, 40, 23, 24, 25, 41, 42, 43, 0, 2, 4, 5, 7, 11, 12, 13, 17, 18, 19, 20, 21, 22, 26, 27, 28, 29, 75, 76, 77, 78, 79, 80, 81, 82, 83, 84, 85, 86, 87, 88, 89, 90, 91, 92, 93, 94, 95, 96, 97, 98, 99, 100, 101, 102, 103, 104, 105, 106, 107, 108, 109, 110] (by decide +kernel) (by decide +kernel)
set_option maxRecDepth 20000 in
theorem gX12_livedHope_X12_hopeFrom : GoodIn wsX12_livedHope (wsV RX12 418 RX12 yX12_hopeFrom wsX12_hopeFrom) := goodIn_app (goodIn_of _ (by decide +kernel)) ggX12_livedHope_X12_hopeFrom
set_option maxRecDepth 20000 in
theorem ggX12_livedHope_X12_drawnHope : GoodIn wsX12_livedHope wsX12_drawnHope := goodIn_r _ [47, 1, 48, 49, 50, 6, 51, 52, 8, 9, 10, 53, 54, 55, 56, 14, 15, 16, 57, 58, 59, 60, 3, 30, 31, 32, 33, 34, 35, 36, 37, 38, 39, 40, 23, 24, 25, 41, 42, 43, 61, 62, 63, 64, 65, 66, 67, 44, 45, 46, 68, 69, 70, 71, 72, 73, 74, 0, 2, 4, 5, 7, 11, 12, 13, 17, 18, 19, 20, 21, 22, 26, 27, 28, 29, 75, 76, 77, 78, 79, 80, 81, 82, 83, 84, 85, 86, 87, 88, 89, 90, 91, 92, 93, 94, 95, 96, 97, 98, 99, 100, 101, 102, 103, 104, 105, 106, 107, 108, 109, 110] (by decide +kernel) (by decide +kernel)
set_option maxRecDepth 20000 in
theorem gX12_livedHope_X12_drawnHope : GoodIn wsX12_livedHope (wsV RX12 421 RX12 yX12_drawnHope wsX12_drawnHope) := goodIn_app (goodIn_of _ (by decide +kernel)) ggX12_livedHope_X12_drawnHope
