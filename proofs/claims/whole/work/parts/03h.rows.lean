theorem dX12_livedHope_0 : decode cX12_livedHope 0 = .ok (.aload_n 0, 1) := by decide +kernel
theorem dX12_livedHope_1 : decode cX12_livedHope 1 = .ok (.iload_n 1, 1) := by decide +kernel
theorem dX12_livedHope_2 : decode cX12_livedHope 2 = .ok (.iload_n 2, 1) := by decide +kernel
theorem dX12_livedHope_3 : decode cX12_livedHope 3 = .ok (.invokestatic 268, 3) := by decide +kernel
theorem dX12_livedHope_6 : decode cX12_livedHope 6 = .ok (.iload_n 3, 1) := by decide +kernel
theorem dX12_livedHope_7 : decode cX12_livedHope 7 = .ok (.aload_n 0, 1) := by decide +kernel
theorem dX12_livedHope_8 : decode cX12_livedHope 8 = .ok (.aload_n 0, 1) := by decide +kernel
theorem dX12_livedHope_9 : decode cX12_livedHope 9 = .ok (.getfield 360, 3) := by decide +kernel
theorem dX12_livedHope_12 : decode cX12_livedHope 12 = .ok (.iload_n 1, 1) := by decide +kernel
theorem dX12_livedHope_13 : decode cX12_livedHope 13 = .ok (.iload_n 2, 1) := by decide +kernel
theorem dX12_livedHope_14 : decode cX12_livedHope 14 = .ok (.invokevirtual 259, 3) := by decide +kernel
theorem dX12_livedHope_17 : decode cX12_livedHope 17 = .ok (.isub, 1) := by decide +kernel
theorem dX12_livedHope_18 : decode cX12_livedHope 18 = .ok (.invokevirtual 418, 3) := by decide +kernel
theorem dX12_livedHope_21 : decode cX12_livedHope 21 = .ok (.ldc2_w 307, 3) := by decide +kernel
theorem dX12_livedHope_24 : decode cX12_livedHope 24 = .ok (.ldiv, 1) := by decide +kernel
theorem dX12_livedHope_25 : decode cX12_livedHope 25 = .ok (.bipush 10, 2) := by decide +kernel
theorem dX12_livedHope_27 : decode cX12_livedHope 27 = .ok (.aload_n 0, 1) := by decide +kernel
theorem dX12_livedHope_28 : decode cX12_livedHope 28 = .ok (.getfield 13, 3) := by decide +kernel
theorem dX12_livedHope_31 : decode cX12_livedHope 31 = .ok (.iconst 4, 1) := by decide +kernel
theorem dX12_livedHope_32 : decode cX12_livedHope 32 = .ok (.iaload, 1) := by decide +kernel
theorem dX12_livedHope_33 : decode cX12_livedHope 33 = .ok (.isub, 1) := by decide +kernel
theorem dX12_livedHope_34 : decode cX12_livedHope 34 = .ok (.i2l, 1) := by decide +kernel
theorem dX12_livedHope_35 : decode cX12_livedHope 35 = .ok (.lmul, 1) := by decide +kernel
theorem dX12_livedHope_36 : decode cX12_livedHope 36 = .ok (.aload_n 0, 1) := by decide +kernel
theorem dX12_livedHope_37 : decode cX12_livedHope 37 = .ok (.iload_n 1, 1) := by decide +kernel
theorem dX12_livedHope_38 : decode cX12_livedHope 38 = .ok (.iload_n 3, 1) := by decide +kernel
theorem dX12_livedHope_39 : decode cX12_livedHope 39 = .ok (.invokevirtual 421, 3) := by decide +kernel
theorem dX12_livedHope_42 : decode cX12_livedHope 42 = .ok (.ldc2_w 307, 3) := by decide +kernel
theorem dX12_livedHope_45 : decode cX12_livedHope 45 = .ok (.ldiv, 1) := by decide +kernel
theorem dX12_livedHope_46 : decode cX12_livedHope 46 = .ok (.aload_n 0, 1) := by decide +kernel
theorem dX12_livedHope_47 : decode cX12_livedHope 47 = .ok (.getfield 13, 3) := by decide +kernel
theorem dX12_livedHope_50 : decode cX12_livedHope 50 = .ok (.iconst 4, 1) := by decide +kernel
theorem dX12_livedHope_51 : decode cX12_livedHope 51 = .ok (.iaload, 1) := by decide +kernel
theorem dX12_livedHope_52 : decode cX12_livedHope 52 = .ok (.i2l, 1) := by decide +kernel
theorem dX12_livedHope_53 : decode cX12_livedHope 53 = .ok (.lmul, 1) := by decide +kernel
theorem dX12_livedHope_54 : decode cX12_livedHope 54 = .ok (.ladd, 1) := by decide +kernel
theorem dX12_livedHope_55 : decode cX12_livedHope 55 = .ok (.lreturn, 1) := by decide +kernel
set_option maxRecDepth 20000 in
theorem ggX12_hopeFrom_X12_yearsLeft : GoodIn wsX12_hopeFrom wsX12_yearsLeft := goodIn_r _ [8, 3, 9, 10, 7, 11, 12, 13, 14, 15, 16, 17, 18, 19, 75, 76, 77, 78, 79, 80, 81, 82, 83, 84, 85, 86, 87, 88, 89, 90, 91, 92, 93, 94, 95, 96, 97, 98, 99, 100, 101, 102, 103, 104, 105, 106, 107, 108, 109, 110] (by decide +kernel) (by decide +kernel)
set_option maxRecDepth 20000 in
theorem gX12_hopeFrom_X12_yearsLeft : GoodIn wsX12_hopeFrom (wsV RX12 424 RX12 yX12_yearsLeft wsX12_yearsLeft) := goodIn_app (goodIn_of _ (by decide +kernel)) ggX12_hopeFrom_X12_yearsLeft
set_option maxRecDepth 20000 in
theorem ggX12_hopeFrom_X12_drawnHope : GoodIn wsX12_hopeFrom wsX12_drawnHope := goodIn_r _ [30, 31, 12, 13, 14, 7, 15, 16, 17, 18, 19, 32, 33, 34, 35, 9, 10, 11, 36, 37, 38, 39, 3, 40, 41, 42, 43, 44, 45, 46, 47, 48, 49, 50, 51, 52, 53, 54, 55, 56, 0, 1, 2, 4, 5, 6, 8, 20, 21, 22, 23, 24, 25, 26, 27, 28, 29, 57, 58, 59, 60, 61, 62, 63, 64, 65, 66, 67, 68, 69, 70, 71, 72, 73, 74, 75, 76, 77, 78, 79, 80, 81, 82, 83, 84, 85, 86, 87, 88, 89, 90, 91, 92, 93, 94, 95, 96, 97, 98, 99, 100, 101, 102, 103, 104, 105, 106, 107, 108, 109, 110] (by decide +kernel) (by decide +kernel)
set_option maxRecDepth 20000 in
theorem gX12_hopeFrom_X12_drawnHope : GoodIn wsX12_hopeFrom (wsV RX12 421 RX12 yX12_drawnHope wsX12_drawnHope) := goodIn_app (goodIn_of _ (by decide +kernel)) ggX12_hopeFrom_X12_drawnHope
set_option maxRecDepth 20000 in
theorem ggX12_hopeFrom_X12_isOver : GoodIn wsX12_hopeFrom wsX12_isOver := goodIn_r _ [26, 3, 9, 10, 7, 11, 75, 76, 77, 78, 79, 80, 81, 82, 83, 84, 85, 86, 87, 88, 89, 90, 91, 92, 93, 94, 95, 96, 97, 98, 99, 100, 101, 102, 103, 104, 105, 106, 107, 108, 109, 110] (by decide +kernel) (by decide +kernel)
set_option maxRecDepth 20000 in
theorem gX12_hopeFrom_X12_isOver : GoodIn wsX12_hopeFrom (wsV RX12 256 RX12 yX12_isOver wsX12_isOver) := goodIn_app (goodIn_of _ (by decide +kernel)) ggX12_hopeFrom_X12_isOver
set_option maxRecDepth 20000 in
theorem ggX12_hopeFrom_X12_livedHope : GoodIn wsX12_hopeFrom wsX12_livedHope := goodIn_r _ [57, 31, 58, 3, 59, 60, 7, 61, 17, 18, 19, 62, 63, 64, 9, 10, 11, 65, 66, 67, 68, 69, 70, 51, 52, 53, 71, 72, 73, 74, 40, 41, 42, 43, 44, 45, 46, 47, 48, 49, 50, 54, 55, 56, 20, 21, 22, 30, 12, 13, 14, 15, 16, 32, 33, 34, 35, 36, 37, 38, 39, 0, 1, 2, 4, 5, 6, 8, 23, 24, 25, 26, 27, 28, 29, 75, 76, 77, 78, 79, 80, 81, 82, 83, 84, 85, 86, 87, 88, 89, 90, 91, 92, 93, 94, 95, 96, 97, 98, 99, 100, 101, 102, 103, 104, 105, 106, 107, 108, 109, 110] (by decide +kernel) (by decide +kernel)
set_option maxRecDepth 20000 in
theorem gX12_hopeFrom_X12_livedHope : GoodIn wsX12_hopeFrom (wsV RX12 427 RX12 yX12_livedHope wsX12_livedHope) := goodIn_app (goodIn_of _ (by decide +kernel)) ggX12_hopeFrom_X12_livedHope
theorem dX12_hopeFrom_0 : decode cX12_hopeFrom 0 = .ok (.iload_n 2, 1) := by decide +kernel
theorem dX12_hopeFrom_1 : decode cX12_hopeFrom 1 = .ok (.ifCond .gt 7, 3) := by decide +kernel
theorem dX12_hopeFrom_4 : decode cX12_hopeFrom 4 = .ok (.ldc2_w 401, 3) := by decide +kernel
theorem dX12_hopeFrom_7 : decode cX12_hopeFrom 7 = .ok (.lreturn, 1) := by decide +kernel
theorem dX12_hopeFrom_8 : decode cX12_hopeFrom 8 = .ok (.iload_n 2, 1) := by decide +kernel
theorem dX12_hopeFrom_9 : decode cX12_hopeFrom 9 = .ok (.bipush 9, 2) := by decide +kernel
theorem dX12_hopeFrom_11 : decode cX12_hopeFrom 11 = .ok (.aload_n 0, 1) := by decide +kernel
theorem dX12_hopeFrom_12 : decode cX12_hopeFrom 12 = .ok (.iload_n 1, 1) := by decide +kernel
theorem dX12_hopeFrom_13 : decode cX12_hopeFrom 13 = .ok (.invokevirtual 424, 3) := by decide +kernel
theorem dX12_hopeFrom_16 : decode cX12_hopeFrom 16 = .ok (.imul, 1) := by decide +kernel
theorem dX12_hopeFrom_17 : decode cX12_hopeFrom 17 = .ok (.if_icmp .le 5, 3) := by decide +kernel
theorem dX12_hopeFrom_20 : decode cX12_hopeFrom 20 = .ok (.lconst 0, 1) := by decide +kernel
theorem dX12_hopeFrom_21 : decode cX12_hopeFrom 21 = .ok (.lreturn, 1) := by decide +kernel
theorem dX12_hopeFrom_22 : decode cX12_hopeFrom 22 = .ok (.bipush 109, 2) := by decide +kernel
theorem dX12_hopeFrom_24 : decode cX12_hopeFrom 24 = .ok (.iload_n 1, 1) := by decide +kernel
theorem dX12_hopeFrom_25 : decode cX12_hopeFrom 25 = .ok (.imul, 1) := by decide +kernel
theorem dX12_hopeFrom_26 : decode cX12_hopeFrom 26 = .ok (.iload_n 2, 1) := by decide +kernel
theorem dX12_hopeFrom_27 : decode cX12_hopeFrom 27 = .ok (.iadd, 1) := by decide +kernel
theorem dX12_hopeFrom_28 : decode cX12_hopeFrom 28 = .ok (.istore_n 3, 1) := by decide +kernel
theorem dX12_hopeFrom_29 : decode cX12_hopeFrom 29 = .ok (.aload_n 0, 1) := by decide +kernel
theorem dX12_hopeFrom_30 : decode cX12_hopeFrom 30 = .ok (.getfield 62, 3) := by decide +kernel
theorem dX12_hopeFrom_33 : decode cX12_hopeFrom 33 = .ok (.iload_n 3, 1) := by decide +kernel
theorem dX12_hopeFrom_34 : decode cX12_hopeFrom 34 = .ok (.laload, 1) := by decide +kernel
theorem dX12_hopeFrom_35 : decode cX12_hopeFrom 35 = .ok (.lconst 0, 1) := by decide +kernel
theorem dX12_hopeFrom_36 : decode cX12_hopeFrom 36 = .ok (.lcmp, 1) := by decide +kernel
theorem dX12_hopeFrom_37 : decode cX12_hopeFrom 37 = .ok (.ifCond .lt 10, 3) := by decide +kernel
theorem dX12_hopeFrom_40 : decode cX12_hopeFrom 40 = .ok (.aload_n 0, 1) := by decide +kernel
theorem dX12_hopeFrom_41 : decode cX12_hopeFrom 41 = .ok (.getfield 62, 3) := by decide +kernel
theorem dX12_hopeFrom_44 : decode cX12_hopeFrom 44 = .ok (.iload_n 3, 1) := by decide +kernel
theorem dX12_hopeFrom_45 : decode cX12_hopeFrom 45 = .ok (.laload, 1) := by decide +kernel
theorem dX12_hopeFrom_46 : decode cX12_hopeFrom 46 = .ok (.lreturn, 1) := by decide +kernel
theorem dX12_hopeFrom_47 : decode cX12_hopeFrom 47 = .ok (.aload_n 0, 1) := by decide +kernel
theorem dX12_hopeFrom_48 : decode cX12_hopeFrom 48 = .ok (.iload_n 1, 1) := by decide +kernel
theorem dX12_hopeFrom_49 : decode cX12_hopeFrom 49 = .ok (.iload_n 2, 1) := by decide +kernel
theorem dX12_hopeFrom_50 : decode cX12_hopeFrom 50 = .ok (.invokevirtual 421, 3) := by decide +kernel
theorem dX12_hopeFrom_53 : decode cX12_hopeFrom 53 = .ok (.lstore 4, 2) := by decide +kernel
theorem dX12_hopeFrom_55 : decode cX12_hopeFrom 55 = .ok (.iconst 0, 1) := by decide +kernel
theorem dX12_hopeFrom_56 : decode cX12_hopeFrom 56 = .ok (.istore 6, 2) := by decide +kernel
theorem dX12_hopeFrom_58 : decode cX12_hopeFrom 58 = .ok (.iload 6, 2) := by decide +kernel
theorem dX12_hopeFrom_60 : decode cX12_hopeFrom 60 = .ok (.aload_n 0, 1) := by decide +kernel
theorem dX12_hopeFrom_61 : decode cX12_hopeFrom 61 = .ok (.getfield 13, 3) := by decide +kernel
theorem dX12_hopeFrom_64 : decode cX12_hopeFrom 64 = .ok (.iconst 2, 1) := by decide +kernel
theorem dX12_hopeFrom_65 : decode cX12_hopeFrom 65 = .ok (.iaload, 1) := by decide +kernel
theorem dX12_hopeFrom_66 : decode cX12_hopeFrom 66 = .ok (.if_icmp .ge 44, 3) := by decide +kernel
theorem dX12_hopeFrom_69 : decode cX12_hopeFrom 69 = .ok (.aload_n 0, 1) := by decide +kernel
theorem dX12_hopeFrom_70 : decode cX12_hopeFrom 70 = .ok (.iload_n 1, 1) := by decide +kernel
theorem dX12_hopeFrom_71 : decode cX12_hopeFrom 71 = .ok (.invokevirtual 256, 3) := by decide +kernel
theorem dX12_hopeFrom_74 : decode cX12_hopeFrom 74 = .ok (.ifCond .ne 36, 3) := by decide +kernel
theorem dX12_hopeFrom_77 : decode cX12_hopeFrom 77 = .ok (.aload_n 0, 1) := by decide +kernel
theorem dX12_hopeFrom_78 : decode cX12_hopeFrom 78 = .ok (.iload_n 1, 1) := by decide +kernel
theorem dX12_hopeFrom_79 : decode cX12_hopeFrom 79 = .ok (.iload 6, 2) := by decide +kernel
theorem dX12_hopeFrom_81 : decode cX12_hopeFrom 81 = .ok (.iload_n 2, 1) := by decide +kernel
theorem dX12_hopeFrom_82 : decode cX12_hopeFrom 82 = .ok (.invokevirtual 427, 3) := by decide +kernel
theorem dX12_hopeFrom_85 : decode cX12_hopeFrom 85 = .ok (.lstore 7, 2) := by decide +kernel
theorem dX12_hopeFrom_87 : decode cX12_hopeFrom 87 = .ok (.lload 7, 2) := by decide +kernel
theorem dX12_hopeFrom_89 : decode cX12_hopeFrom 89 = .ok (.lload 4, 2) := by decide +kernel
theorem dX12_hopeFrom_91 : decode cX12_hopeFrom 91 = .ok (.lcmp, 1) := by decide +kernel
theorem dX12_hopeFrom_92 : decode cX12_hopeFrom 92 = .ok (.ifCond .le 8, 3) := by decide +kernel
theorem dX12_hopeFrom_95 : decode cX12_hopeFrom 95 = .ok (.lload 7, 2) := by decide +kernel
theorem dX12_hopeFrom_97 : decode cX12_hopeFrom 97 = .ok (.goto 5, 3) := by decide +kernel
theorem dX12_hopeFrom_100 : decode cX12_hopeFrom 100 = .ok (.lload 4, 2) := by decide +kernel
theorem dX12_hopeFrom_102 : decode cX12_hopeFrom 102 = .ok (.lstore 4, 2) := by decide +kernel
theorem dX12_hopeFrom_104 : decode cX12_hopeFrom 104 = .ok (.iinc 6 1, 3) := by decide +kernel
theorem dX12_hopeFrom_107 : decode cX12_hopeFrom 107 = .ok (.goto (-49), 3) := by decide +kernel
theorem dX12_hopeFrom_110 : decode cX12_hopeFrom 110 = .ok (.aload_n 0, 1) := by decide +kernel
theorem dX12_hopeFrom_111 : decode cX12_hopeFrom 111 = .ok (.getfield 62, 3) := by decide +kernel
theorem dX12_hopeFrom_114 : decode cX12_hopeFrom 114 = .ok (.iload_n 3, 1) := by decide +kernel
theorem dX12_hopeFrom_115 : decode cX12_hopeFrom 115 = .ok (.lload 4, 2) := by decide +kernel
theorem dX12_hopeFrom_117 : decode cX12_hopeFrom 117 = .ok (.lastore, 1) := by decide +kernel
theorem dX12_hopeFrom_118 : decode cX12_hopeFrom 118 = .ok (.lload 4, 2) := by decide +kernel
theorem dX12_hopeFrom_120 : decode cX12_hopeFrom 120 = .ok (.lreturn, 1) := by decide +kernel
set_option maxRecDepth 20000 in
theorem ggX12_beginsHope_X12_begins : GoodIn wsX12_beginsHope wsX12_begins := goodIn_r _ [8, 9, 10, 11, 12, 13, 14, 15, 16, 17, 18, 19, 20, 21, 22, 23, 24, 25, 26, 27, 28, 29, 30, 31, 32, 33, 34, 35, 36, 37, 38, 39, 40, 41, 42, 43, 44, 45, 46, 47, 48] (by decide +kernel) (by decide +kernel)
set_option maxRecDepth 20000 in
theorem gX12_beginsHope_X12_begins : GoodIn wsX12_beginsHope (wsV RX12 373 RX12 yX12_begins wsX12_begins) := goodIn_app (goodIn_of _ (by decide +kernel)) ggX12_beginsHope_X12_begins
theorem dX12_beginsHope_0 : decode cX12_beginsHope 0 = .ok (.aload_n 0, 1) := by decide +kernel
theorem dX12_beginsHope_1 : decode cX12_beginsHope 1 = .ok (.iload_n 1, 1) := by decide +kernel
theorem dX12_beginsHope_2 : decode cX12_beginsHope 2 = .ok (.invokevirtual 373, 3) := by decide +kernel
theorem dX12_beginsHope_5 : decode cX12_beginsHope 5 = .ok (.iconst 0, 1) := by decide +kernel
theorem dX12_beginsHope_6 : decode cX12_beginsHope 6 = .ok (.istore_n 2, 1) := by decide +kernel
theorem dX12_beginsHope_7 : decode cX12_beginsHope 7 = .ok (.iload_n 2, 1) := by decide +kernel
theorem dX12_beginsHope_8 : decode cX12_beginsHope 8 = .ok (.ldc 61, 2) := by decide +kernel
theorem dX12_beginsHope_10 : decode cX12_beginsHope 10 = .ok (.if_icmp .ge 18, 3) := by decide +kernel
theorem dX12_beginsHope_13 : decode cX12_beginsHope 13 = .ok (.aload_n 0, 1) := by decide +kernel
theorem dX12_beginsHope_14 : decode cX12_beginsHope 14 = .ok (.getfield 62, 3) := by decide +kernel
theorem dX12_beginsHope_17 : decode cX12_beginsHope 17 = .ok (.iload_n 2, 1) := by decide +kernel
theorem dX12_beginsHope_18 : decode cX12_beginsHope 18 = .ok (.ldc2_w 431, 3) := by decide +kernel
theorem dX12_beginsHope_21 : decode cX12_beginsHope 21 = .ok (.lastore, 1) := by decide +kernel
theorem dX12_beginsHope_22 : decode cX12_beginsHope 22 = .ok (.iinc 2 1, 3) := by decide +kernel
theorem dX12_beginsHope_25 : decode cX12_beginsHope 25 = .ok (.goto (-18), 3) := by decide +kernel
theorem dX12_beginsHope_28 : decode cX12_beginsHope 28 = .ok (.return_, 1) := by decide +kernel
set_option maxRecDepth 20000 in
theorem ggX12_hope_X12_isPerson : GoodIn wsX12_hope wsX12_isPerson := goodIn_r _ [9, 10, 11, 12, 8, 13, 108, 109, 110, 111, 112, 113, 114, 115, 116, 117, 118, 119, 120, 121, 122, 123, 124, 125, 126, 127, 128, 129, 130, 131, 132, 133, 134, 135, 136, 137, 138, 139, 140, 141, 142, 143] (by decide +kernel) (by decide +kernel)
set_option maxRecDepth 20000 in
theorem gX12_hope_X12_isPerson : GoodIn wsX12_hope (wsV RX12 245 RX12 yX12_isPerson wsX12_isPerson) := goodIn_app (goodIn_of _ (by decide +kernel)) ggX12_hope_X12_isPerson
set_option maxRecDepth 20000 in
theorem ggX12_hope_X12_within : GoodIn wsX12_hope wsX12_within := goodIn_r _ [13] (by decide +kernel) (by decide +kernel)
set_option maxRecDepth 20000 in
theorem gX12_hope_X12_within : GoodIn wsX12_hope (va_wsS RX12 144 yX12_within wsX12_within) := goodIn_app (goodIn_of _ (by decide +kernel)) ggX12_hope_X12_within
set_option maxRecDepth 20000 in
theorem ggX12_hope_X12_beginsHope : GoodIn wsX12_hope wsX12_beginsHope := goodIn_r _ [17, 18, 19, 20, 21, 22, 23, 8, 24, 10, 25, 26, 27, 108, 109, 110, 111, 112, 113, 114, 115, 116, 117, 118, 119, 120, 121, 122, 123, 124, 125, 126, 127, 128, 129, 130, 131, 132, 133, 134, 135, 136, 137, 138, 139, 140, 141, 142, 143] (by decide +kernel) (by decide +kernel)
set_option maxRecDepth 20000 in
theorem gX12_hope_X12_beginsHope : GoodIn wsX12_hope (wsV RX12 437 RX12 yX12_beginsHope wsX12_beginsHope) := goodIn_app (goodIn_of _ (by decide +kernel)) ggX12_hope_X12_beginsHope
set_option maxRecDepth 20000 in
theorem ggX12_hope_X12_standNow : GoodIn wsX12_hope wsX12_standNow := goodIn_r _ [31, 10, 32, 33, 8, 34, 108, 109, 110, 111, 112, 113, 114, 115, 116, 117, 118, 119, 120, 121, 122, 123, 124, 125, 126, 127, 128, 129, 130, 131, 132, 133, 134, 135, 136, 137, 138, 139, 140, 141, 142, 143] (by decide +kernel) (by decide +kernel)
set_option maxRecDepth 20000 in
theorem gX12_hope_X12_standNow : GoodIn wsX12_hope (wsV RX12 253 RX12 yX12_standNow wsX12_standNow) := goodIn_app (goodIn_of _ (by decide +kernel)) ggX12_hope_X12_standNow
set_option maxRecDepth 20000 in
theorem ggX12_hope_X12_hopeFrom : GoodIn wsX12_hope wsX12_hopeFrom := goodIn_r _ [38, 39, 19, 10, 40, 41, 42, 8, 43, 44, 45, 46, 47, 48, 49, 50, 26, 51, 52, 53, 54, 55, 56, 57, 58, 59, 60, 61, 62, 63, 64, 25, 65, 66, 67, 68, 69, 70, 71, 72, 73, 74, 75, 76, 77, 78, 79, 80, 81, 82, 83, 32, 33, 34, 35, 36, 37, 84, 85, 86, 87, 88, 89, 90, 91, 92, 93, 94, 95, 96, 97, 98, 99, 100, 101, 108, 109, 110, 111, 112, 113, 114, 115, 116, 117, 118, 119, 120, 121, 122, 123, 124, 125, 126, 127, 128, 129, 130, 131, 132, 133, 134, 135, 136, 137, 138, 139, 140, 141, 142, 143] (by decide +kernel) (by decide +kernel)
set_option maxRecDepth 20000 in
theorem gX12_hope_X12_hopeFrom : GoodIn wsX12_hope (wsV RX12 418 RX12 yX12_hopeFrom wsX12_hopeFrom) := goodIn_app (goodIn_of _ (by decide +kernel)) ggX12_hope_X12_hopeFrom
set_option maxRecDepth 20000 in
theorem ggX12_hope_X12_part : GoodIn wsX12_hope wsX12_part := goodIn_r _ [104, 39, 105, 106, 8, 107] (by decide +kernel) (by decide +kernel)
set_option maxRecDepth 20000 in
theorem gX12_hope_X12_part : GoodIn wsX12_hope (va_wsS RX12 414 yX12_part wsX12_part) := goodIn_app (goodIn_of _ (by decide +kernel)) ggX12_hope_X12_part
theorem dX12_hope_0 : decode cX12_hope 0 = .ok (.aload_n 0, 1) := by decide +kernel
theorem dX12_hope_1 : decode cX12_hope 1 = .ok (.iconst 0, 1) := by decide +kernel
theorem dX12_hope_2 : decode cX12_hope 2 = .ok (.putfield 1, 3) := by decide +kernel
theorem dX12_hope_5 : decode cX12_hope 5 = .ok (.aload_n 0, 1) := by decide +kernel
theorem dX12_hope_6 : decode cX12_hope 6 = .ok (.iload_n 1, 1) := by decide +kernel
theorem dX12_hope_7 : decode cX12_hope 7 = .ok (.i2l, 1) := by decide +kernel
theorem dX12_hope_8 : decode cX12_hope 8 = .ok (.invokevirtual 245, 3) := by decide +kernel
theorem dX12_hope_11 : decode cX12_hope 11 = .ok (.ifCond .eq 13, 3) := by decide +kernel
theorem dX12_hope_14 : decode cX12_hope 14 = .ok (.iload_n 3, 1) := by decide +kernel
theorem dX12_hope_15 : decode cX12_hope 15 = .ok (.i2l, 1) := by decide +kernel
theorem dX12_hope_16 : decode cX12_hope 16 = .ok (.lconst 0, 1) := by decide +kernel
theorem dX12_hope_17 : decode cX12_hope 17 = .ok (.lconst 1, 1) := by decide +kernel
theorem dX12_hope_18 : decode cX12_hope 18 = .ok (.invokestatic 144, 3) := by decide +kernel
theorem dX12_hope_21 : decode cX12_hope 21 = .ok (.ifCond .ne 7, 3) := by decide +kernel
theorem dX12_hope_24 : decode cX12_hope 24 = .ok (.ldc2_w 389, 3) := by decide +kernel
theorem dX12_hope_27 : decode cX12_hope 27 = .ok (.lreturn, 1) := by decide +kernel
theorem dX12_hope_28 : decode cX12_hope 28 = .ok (.iload_n 2, 1) := by decide +kernel
theorem dX12_hope_29 : decode cX12_hope 29 = .ok (.i2l, 1) := by decide +kernel
theorem dX12_hope_30 : decode cX12_hope 30 = .ok (.lconst 0, 1) := by decide +kernel
theorem dX12_hope_31 : decode cX12_hope 31 = .ok (.ldc2_w 433, 3) := by decide +kernel
theorem dX12_hope_34 : decode cX12_hope 34 = .ok (.invokestatic 144, 3) := by decide +kernel
theorem dX12_hope_37 : decode cX12_hope 37 = .ok (.ifCond .ne 7, 3) := by decide +kernel
theorem dX12_hope_40 : decode cX12_hope 40 = .ok (.ldc2_w 435, 3) := by decide +kernel
theorem dX12_hope_43 : decode cX12_hope 43 = .ok (.lreturn, 1) := by decide +kernel
theorem dX12_hope_44 : decode cX12_hope 44 = .ok (.aload_n 0, 1) := by decide +kernel
theorem dX12_hope_45 : decode cX12_hope 45 = .ok (.iload_n 1, 1) := by decide +kernel
theorem dX12_hope_46 : decode cX12_hope 46 = .ok (.invokevirtual 437, 3) := by decide +kernel
theorem dX12_hope_49 : decode cX12_hope 49 = .ok (.aload_n 0, 1) := by decide +kernel
theorem dX12_hope_50 : decode cX12_hope 50 = .ok (.aload_n 0, 1) := by decide +kernel
theorem dX12_hope_51 : decode cX12_hope 51 = .ok (.iload_n 1, 1) := by decide +kernel
theorem dX12_hope_52 : decode cX12_hope 52 = .ok (.invokevirtual 253, 3) := by decide +kernel
theorem dX12_hope_55 : decode cX12_hope 55 = .ok (.iload_n 2, 1) := by decide +kernel
theorem dX12_hope_56 : decode cX12_hope 56 = .ok (.invokevirtual 418, 3) := by decide +kernel
theorem dX12_hope_59 : decode cX12_hope 59 = .ok (.iload_n 3, 1) := by decide +kernel
theorem dX12_hope_60 : decode cX12_hope 60 = .ok (.invokestatic 414, 3) := by decide +kernel
theorem dX12_hope_63 : decode cX12_hope 63 = .ok (.lreturn, 1) := by decide +kernel
set_option maxRecDepth 20000 in
theorem ggX12_hoping_X12_isPerson : GoodIn wsX12_hoping wsX12_isPerson := goodIn_r _ [10, 5, 11, 12, 9, 13, 102, 103, 104, 105, 106, 107, 108, 109, 110, 111, 112, 113, 114, 115, 116, 117, 118, 119, 120, 121, 122, 123, 124, 125, 126, 127, 128, 129, 130, 131, 132, 133, 134, 135, 136, 137] (by decide +kernel) (by decide +kernel)
set_option maxRecDepth 20000 in
theorem gX12_hoping_X12_isPerson : GoodIn wsX12_hoping (wsV RX12 245 RX12 yX12_isPerson wsX12_isPerson) := goodIn_app (goodIn_of _ (by decide +kernel)) ggX12_hoping_X12_isPerson
set_option maxRecDepth 20000 in
theorem ggX12_hoping_X12_within : GoodIn wsX12_hoping wsX12_within := goodIn_r _ [13] (by decide +kernel) (by decide +kernel)
set_option maxRecDepth 20000 in
theorem gX12_hoping_X12_within : GoodIn wsX12_hoping (va_wsS RX12 144 yX12_within wsX12_within) := goodIn_app (goodIn_of _ (by decide +kernel)) ggX12_hoping_X12_within
set_option maxRecDepth 20000 in
theorem ggX12_hoping_X12_beginsHope : GoodIn wsX12_hoping wsX12_beginsHope := goodIn_r _ [17, 18, 19, 20, 21, 22, 23, 9, 24, 5, 25, 26, 27, 102, 103, 104, 105, 106, 107, 108, 109, 110, 111, 112, 113, 114, 115, 116, 117, 118, 119, 120, 121, 122, 123, 124, 125, 126, 127, 128, 129, 130, 131, 132, 133, 134, 135, 136, 137] (by decide +kernel) (by decide +kernel)
set_option maxRecDepth 20000 in
theorem gX12_hoping_X12_beginsHope : GoodIn wsX12_hoping (wsV RX12 437 RX12 yX12_beginsHope wsX12_beginsHope) := goodIn_app (goodIn_of _ (by decide +kernel)) ggX12_hoping_X12_beginsHope
set_option maxRecDepth 20000 in
theorem ggX12_hoping_X12_standNow : GoodIn wsX12_hoping wsX12_standNow := goodIn_r _ [31, 5, 32, 33, 9, 34, 102, 103, 104, 105, 106, 107, 108, 109, 110, 111, 112, 113, 114, 115, 116, 117, 118, 119, 120, 121, 122, 123, 124, 125, 126, 127, 128, 129, 130, 131, 132, 133, 134, 135, 136, 137] (by decide +kernel) (by decide +kernel)
set_option maxRecDepth 20000 in
theorem gX12_hoping_X12_standNow : GoodIn wsX12_hoping (wsV RX12 253 RX12 yX12_standNow wsX12_standNow) := goodIn_app (goodIn_of _ (by decide +kernel)) ggX12_hoping_X12_standNow
set_option maxRecDepth 20000 in
theorem ggX12_hoping_X12_hopeFrom : GoodIn wsX12_hoping wsX12_hopeFrom := goodIn_r _ [38, 39, 19, 5, 40, 41, 42, 9, 43, 44, 45, 46, 47, 48, 49, 50, 26, 51, 52, 53, 54, 55, 56, 57, 58, 59, 60, 61, 62, 63, 64, 25, 65, 66, 67, 68, 69, 70, 71, 72, 73, 74, 75, 76, 77, 78, 79, 80, 81, 82, 83, 32, 33, 34, 35, 36, 37, 84, 85, 86, 87, 88, 89, 90, 91, 92, 93, 94, 95, 96, 97, 98, 99, 100, 101, 102, 103, 104, 105, 106, 107, 108, 109, 110, 111, 112, 113, 114, 115, 116, 117, 118, 119, 120, 121, 122, 123, 124, 125, 126, 127, 128, 129, 130, 131, 132, 133, 134, 135, 136, 137] (by decide +kernel) (by decide +kernel)
set_option maxRecDepth 20000 in
theorem gX12_hoping_X12_hopeFrom : GoodIn wsX12_hoping (wsV RX12 418 RX12 yX12_hopeFrom wsX12_hopeFrom) := goodIn_app (goodIn_of _ (by decide +kernel)) ggX12_hoping_X12_hopeFrom
set_option maxRecDepth 20000 in
theorem ggX12_hoping_X12_isOver : GoodIn wsX12_hoping wsX12_isOver := goodIn_r _ [60, 5, 44, 45, 9, 46, 102, 103, 104, 105, 106, 107, 108, 109, 110, 111, 112, 113, 114, 115, 116, 117, 118, 119, 120, 121, 122, 123, 124, 125, 126, 127, 128, 129, 130, 131, 132, 133, 134, 135, 136, 137] (by decide +kernel) (by decide +kernel)
set_option maxRecDepth 20000 in
theorem gX12_hoping_X12_isOver : GoodIn wsX12_hoping (wsV RX12 256 RX12 yX12_isOver wsX12_isOver) := goodIn_app (goodIn_of _ (by decide +kernel)) ggX12_hoping_X12_isOver
set_option maxRecDepth 20000 in
theorem ggX12_hoping_X12_livedHope : GoodIn wsX12_hoping wsX12_livedHope := goodIn_r _ [84, 25, 85, 5, 86, 87, 9, 88, 51, 52, 53, 89, 90, 91, 44, 45, 46, 92, 93, 94, 95, 96, 97, 32, 33, 34, 98, 99, 100, 101, 73, 74, 75, 76, 77, 78, 79, 80, 81, 82, 83, 35, 36, 37, 54, 55, 56, 64, 47, 48, 49, 50, 26, 65, 66, 67, 68, 69, 70, 71, 72, 38, 39, 19, 40, 41, 42, 43, 57, 58, 59, 60, 61, 62, 63, 102, 103, 104, 105, 106, 107, 108, 109, 110, 111, 112, 113, 114, 115, 116, 117, 118, 119, 120, 121, 122, 123, 124, 125, 126, 127, 128, 129, 130, 131, 132, 133, 134, 135, 136, 137] (by decide +kernel) (by decide +kernel)
set_option maxRecDepth 20000 in
theorem gX12_hoping_X12_livedHope : GoodIn wsX12_hoping (wsV RX12 427 RX12 yX12_livedHope wsX12_livedHope) := goodIn_app (goodIn_of _ (by decide +kernel)) ggX12_hoping_X12_livedHope
theorem dX12_hoping_0 : decode cX12_hoping 0 = .ok (.aload_n 0, 1) := by decide +kernel
theorem dX12_hoping_1 : decode cX12_hoping 1 = .ok (.iconst 0, 1) := by decide +kernel
theorem dX12_hoping_2 : decode cX12_hoping 2 = .ok (.putfield 1, 3) := by decide +kernel
theorem dX12_hoping_5 : decode cX12_hoping 5 = .ok (.aload_n 0, 1) := by decide +kernel
theorem dX12_hoping_6 : decode cX12_hoping 6 = .ok (.iload_n 1, 1) := by decide +kernel
theorem dX12_hoping_7 : decode cX12_hoping 7 = .ok (.i2l, 1) := by decide +kernel
theorem dX12_hoping_8 : decode cX12_hoping 8 = .ok (.invokevirtual 245, 3) := by decide +kernel
theorem dX12_hoping_11 : decode cX12_hoping 11 = .ok (.ifCond .ne 6, 3) := by decide +kernel
theorem dX12_hoping_14 : decode cX12_hoping 14 = .ok (.ldc 249, 2) := by decide +kernel
theorem dX12_hoping_16 : decode cX12_hoping 16 = .ok (.ireturn, 1) := by decide +kernel
theorem dX12_hoping_17 : decode cX12_hoping 17 = .ok (.iload_n 2, 1) := by decide +kernel
theorem dX12_hoping_18 : decode cX12_hoping 18 = .ok (.i2l, 1) := by decide +kernel
theorem dX12_hoping_19 : decode cX12_hoping 19 = .ok (.lconst 0, 1) := by decide +kernel
theorem dX12_hoping_20 : decode cX12_hoping 20 = .ok (.ldc2_w 433, 3) := by decide +kernel
theorem dX12_hoping_23 : decode cX12_hoping 23 = .ok (.invokestatic 144, 3) := by decide +kernel
theorem dX12_hoping_26 : decode cX12_hoping 26 = .ok (.ifCond .ne 6, 3) := by decide +kernel
theorem dX12_hoping_29 : decode cX12_hoping 29 = .ok (.ldc 201, 2) := by decide +kernel
theorem dX12_hoping_31 : decode cX12_hoping 31 = .ok (.ireturn, 1) := by decide +kernel
theorem dX12_hoping_32 : decode cX12_hoping 32 = .ok (.aload_n 0, 1) := by decide +kernel
theorem dX12_hoping_33 : decode cX12_hoping 33 = .ok (.iload_n 1, 1) := by decide +kernel
theorem dX12_hoping_34 : decode cX12_hoping 34 = .ok (.invokevirtual 437, 3) := by decide +kernel
theorem dX12_hoping_37 : decode cX12_hoping 37 = .ok (.aload_n 0, 1) := by decide +kernel
theorem dX12_hoping_38 : decode cX12_hoping 38 = .ok (.iload_n 1, 1) := by decide +kernel
theorem dX12_hoping_39 : decode cX12_hoping 39 = .ok (.invokevirtual 253, 3) := by decide +kernel
theorem dX12_hoping_42 : decode cX12_hoping 42 = .ok (.istore_n 3, 1) := by decide +kernel
theorem dX12_hoping_43 : decode cX12_hoping 43 = .ok (.aload_n 0, 1) := by decide +kernel
theorem dX12_hoping_44 : decode cX12_hoping 44 = .ok (.iload_n 3, 1) := by decide +kernel
theorem dX12_hoping_45 : decode cX12_hoping 45 = .ok (.iload_n 2, 1) := by decide +kernel
theorem dX12_hoping_46 : decode cX12_hoping 46 = .ok (.invokevirtual 418, 3) := by decide +kernel
theorem dX12_hoping_49 : decode cX12_hoping 49 = .ok (.lstore 4, 2) := by decide +kernel
theorem dX12_hoping_51 : decode cX12_hoping 51 = .ok (.iload_n 2, 1) := by decide +kernel
theorem dX12_hoping_52 : decode cX12_hoping 52 = .ok (.ifCond .eq 10, 3) := by decide +kernel
theorem dX12_hoping_55 : decode cX12_hoping 55 = .ok (.lload 4, 2) := by decide +kernel
theorem dX12_hoping_57 : decode cX12_hoping 57 = .ok (.lconst 0, 1) := by decide +kernel
theorem dX12_hoping_58 : decode cX12_hoping 58 = .ok (.lcmp, 1) := by decide +kernel
theorem dX12_hoping_59 : decode cX12_hoping 59 = .ok (.ifCond .ne 5, 3) := by decide +kernel
theorem dX12_hoping_62 : decode cX12_hoping 62 = .ok (.iconst (-1), 1) := by decide +kernel
theorem dX12_hoping_63 : decode cX12_hoping 63 = .ok (.ireturn, 1) := by decide +kernel
theorem dX12_hoping_64 : decode cX12_hoping 64 = .ok (.iconst 0, 1) := by decide +kernel
theorem dX12_hoping_65 : decode cX12_hoping 65 = .ok (.istore 6, 2) := by decide +kernel
theorem dX12_hoping_67 : decode cX12_hoping 67 = .ok (.iload 6, 2) := by decide +kernel
theorem dX12_hoping_69 : decode cX12_hoping 69 = .ok (.aload_n 0, 1) := by decide +kernel
theorem dX12_hoping_70 : decode cX12_hoping 70 = .ok (.getfield 13, 3) := by decide +kernel
theorem dX12_hoping_73 : decode cX12_hoping 73 = .ok (.iconst 2, 1) := by decide +kernel
theorem dX12_hoping_74 : decode cX12_hoping 74 = .ok (.iaload, 1) := by decide +kernel
theorem dX12_hoping_75 : decode cX12_hoping 75 = .ok (.if_icmp .ge 34, 3) := by decide +kernel
theorem dX12_hoping_78 : decode cX12_hoping 78 = .ok (.aload_n 0, 1) := by decide +kernel
theorem dX12_hoping_79 : decode cX12_hoping 79 = .ok (.iload_n 3, 1) := by decide +kernel
theorem dX12_hoping_80 : decode cX12_hoping 80 = .ok (.invokevirtual 256, 3) := by decide +kernel
theorem dX12_hoping_83 : decode cX12_hoping 83 = .ok (.ifCond .ne 26, 3) := by decide +kernel
theorem dX12_hoping_86 : decode cX12_hoping 86 = .ok (.aload_n 0, 1) := by decide +kernel
theorem dX12_hoping_87 : decode cX12_hoping 87 = .ok (.iload_n 3, 1) := by decide +kernel
theorem dX12_hoping_88 : decode cX12_hoping 88 = .ok (.iload 6, 2) := by decide +kernel
theorem dX12_hoping_90 : decode cX12_hoping 90 = .ok (.iload_n 2, 1) := by decide +kernel
theorem dX12_hoping_91 : decode cX12_hoping 91 = .ok (.invokevirtual 427, 3) := by decide +kernel
theorem dX12_hoping_94 : decode cX12_hoping 94 = .ok (.lload 4, 2) := by decide +kernel
theorem dX12_hoping_96 : decode cX12_hoping 96 = .ok (.lcmp, 1) := by decide +kernel
theorem dX12_hoping_97 : decode cX12_hoping 97 = .ok (.ifCond .ne 6, 3) := by decide +kernel
theorem dX12_hoping_100 : decode cX12_hoping 100 = .ok (.iload 6, 2) := by decide +kernel
theorem dX12_hoping_102 : decode cX12_hoping 102 = .ok (.ireturn, 1) := by decide +kernel
theorem dX12_hoping_103 : decode cX12_hoping 103 = .ok (.iinc 6 1, 3) := by decide +kernel
theorem dX12_hoping_106 : decode cX12_hoping 106 = .ok (.goto (-39), 3) := by decide +kernel
theorem dX12_hoping_109 : decode cX12_hoping 109 = .ok (.bipush 9, 2) := by decide +kernel
theorem dX12_hoping_111 : decode cX12_hoping 111 = .ok (.ireturn, 1) := by decide +kernel
set_option maxRecDepth 20000 in
theorem ggX12_noLived_X12_within : GoodIn wsX12_noLived wsX12_within := goodIn_r _ [12] (by decide +kernel) (by decide +kernel)
set_option maxRecDepth 20000 in
theorem gX12_noLived_X12_within : GoodIn wsX12_noLived (va_wsS RX12 144 yX12_within wsX12_within) := goodIn_app (goodIn_of _ (by decide +kernel)) ggX12_noLived_X12_within
set_option maxRecDepth 20000 in
theorem ggX12_noLived_X12_isPerson : GoodIn wsX12_noLived wsX12_isPerson := goodIn_r _ [16, 5, 9, 10, 11, 12, 27, 28, 29, 30, 31, 32, 33, 34, 35, 36, 37, 38, 39, 40, 41, 42, 43, 44, 45, 46, 47, 48, 49, 50, 51, 52, 53, 54, 55, 56, 57, 58, 59, 60, 61, 62] (by decide +kernel) (by decide +kernel)
set_option maxRecDepth 20000 in
theorem gX12_noLived_X12_isPerson : GoodIn wsX12_noLived (wsV RX12 245 RX12 yX12_isPerson wsX12_isPerson) := goodIn_app (goodIn_of _ (by decide +kernel)) ggX12_noLived_X12_isPerson
set_option maxRecDepth 20000 in
theorem ggX12_noLived_X12_noTray : GoodIn wsX12_noLived wsX12_noTray := goodIn_r _ [20, 1, 2, 21, 22, 9, 10, 11, 12, 27, 28, 29, 30, 31, 32, 33, 34, 35, 36, 37, 38, 39, 40, 41, 42, 43, 44, 45, 46, 47, 48, 49, 50, 51, 52, 53, 54, 55, 56, 57, 58, 59, 60, 61, 62] (by decide +kernel) (by decide +kernel)
set_option maxRecDepth 20000 in
theorem gX12_noLived_X12_noTray : GoodIn wsX12_noLived (wsV RX12 333 RX12 yX12_noTray wsX12_noTray) := goodIn_app (goodIn_of _ (by decide +kernel)) ggX12_noLived_X12_noTray
set_option maxRecDepth 20000 in
theorem ggX12_noLived_X12_isTrade : GoodIn wsX12_noLived wsX12_isTrade := goodIn_r _ [26, 5, 9, 10, 11, 12, 27, 28, 29, 30, 31, 32, 33, 34, 35, 36, 37, 38, 39, 40, 41, 42, 43, 44, 45, 46, 47, 48, 49, 50, 51, 52, 53, 54, 55, 56, 57, 58, 59, 60, 61, 62] (by decide +kernel) (by decide +kernel)
set_option maxRecDepth 20000 in
theorem gX12_noLived_X12_isTrade : GoodIn wsX12_noLived (wsV RX12 250 RX12 yX12_isTrade wsX12_isTrade) := goodIn_app (goodIn_of _ (by decide +kernel)) ggX12_noLived_X12_isTrade
theorem dX12_noLived_0 : decode cX12_noLived 0 = .ok (.iload_n 1, 1) := by decide +kernel
theorem dX12_noLived_1 : decode cX12_noLived 1 = .ok (.i2l, 1) := by decide +kernel
theorem dX12_noLived_2 : decode cX12_noLived 2 = .ok (.lconst 0, 1) := by decide +kernel
theorem dX12_noLived_3 : decode cX12_noLived 3 = .ok (.ldc2_w 330, 3) := by decide +kernel
theorem dX12_noLived_6 : decode cX12_noLived 6 = .ok (.invokestatic 144, 3) := by decide +kernel
theorem dX12_noLived_9 : decode cX12_noLived 9 = .ok (.ifCond .eq 12, 3) := by decide +kernel
theorem dX12_noLived_12 : decode cX12_noLived 12 = .ok (.aload_n 0, 1) := by decide +kernel
theorem dX12_noLived_13 : decode cX12_noLived 13 = .ok (.iload_n 2, 1) := by decide +kernel
theorem dX12_noLived_14 : decode cX12_noLived 14 = .ok (.i2l, 1) := by decide +kernel
theorem dX12_noLived_15 : decode cX12_noLived 15 = .ok (.invokevirtual 245, 3) := by decide +kernel
theorem dX12_noLived_18 : decode cX12_noLived 18 = .ok (.ifCond .ne 6, 3) := by decide +kernel
theorem dX12_noLived_21 : decode cX12_noLived 21 = .ok (.ldc 249, 2) := by decide +kernel
theorem dX12_noLived_23 : decode cX12_noLived 23 = .ok (.ireturn, 1) := by decide +kernel
theorem dX12_noLived_24 : decode cX12_noLived 24 = .ok (.aload_n 0, 1) := by decide +kernel
theorem dX12_noLived_25 : decode cX12_noLived 25 = .ok (.iload_n 1, 1) := by decide +kernel
theorem dX12_noLived_26 : decode cX12_noLived 26 = .ok (.invokevirtual 333, 3) := by decide +kernel
theorem dX12_noLived_29 : decode cX12_noLived 29 = .ok (.istore_n 3, 1) := by decide +kernel
theorem dX12_noLived_30 : decode cX12_noLived 30 = .ok (.iload_n 3, 1) := by decide +kernel
theorem dX12_noLived_31 : decode cX12_noLived 31 = .ok (.ifCond .eq 5, 3) := by decide +kernel
theorem dX12_noLived_34 : decode cX12_noLived 34 = .ok (.iload_n 3, 1) := by decide +kernel
theorem dX12_noLived_35 : decode cX12_noLived 35 = .ok (.ireturn, 1) := by decide +kernel
theorem dX12_noLived_36 : decode cX12_noLived 36 = .ok (.aload_n 0, 1) := by decide +kernel
theorem dX12_noLived_37 : decode cX12_noLived 37 = .ok (.getfield 71, 3) := by decide +kernel
theorem dX12_noLived_40 : decode cX12_noLived 40 = .ok (.iload_n 1, 1) := by decide +kernel
theorem dX12_noLived_41 : decode cX12_noLived 41 = .ok (.iaload, 1) := by decide +kernel
theorem dX12_noLived_42 : decode cX12_noLived 42 = .ok (.i2l, 1) := by decide +kernel
theorem dX12_noLived_43 : decode cX12_noLived 43 = .ok (.lconst 1, 1) := by decide +kernel
theorem dX12_noLived_44 : decode cX12_noLived 44 = .ok (.ldc2_w 440, 3) := by decide +kernel
theorem dX12_noLived_47 : decode cX12_noLived 47 = .ok (.invokestatic 144, 3) := by decide +kernel
theorem dX12_noLived_50 : decode cX12_noLived 50 = .ok (.ifCond .eq 28, 3) := by decide +kernel
theorem dX12_noLived_53 : decode cX12_noLived 53 = .ok (.aload_n 0, 1) := by decide +kernel
theorem dX12_noLived_54 : decode cX12_noLived 54 = .ok (.getfield 71, 3) := by decide +kernel
theorem dX12_noLived_57 : decode cX12_noLived 57 = .ok (.iload_n 1, 1) := by decide +kernel
theorem dX12_noLived_58 : decode cX12_noLived 58 = .ok (.iaload, 1) := by decide +kernel
theorem dX12_noLived_59 : decode cX12_noLived 59 = .ok (.aload_n 0, 1) := by decide +kernel
theorem dX12_noLived_60 : decode cX12_noLived 60 = .ok (.getfield 13, 3) := by decide +kernel
theorem dX12_noLived_63 : decode cX12_noLived 63 = .ok (.iconst 1, 1) := by decide +kernel
theorem dX12_noLived_64 : decode cX12_noLived 64 = .ok (.iaload, 1) := by decide +kernel
theorem dX12_noLived_65 : decode cX12_noLived 65 = .ok (.aload_n 0, 1) := by decide +kernel
theorem dX12_noLived_66 : decode cX12_noLived 66 = .ok (.getfield 13, 3) := by decide +kernel
theorem dX12_noLived_69 : decode cX12_noLived 69 = .ok (.bipush 18, 2) := by decide +kernel
theorem dX12_noLived_71 : decode cX12_noLived 71 = .ok (.iload_n 2, 1) := by decide +kernel
theorem dX12_noLived_72 : decode cX12_noLived 72 = .ok (.iadd, 1) := by decide +kernel
theorem dX12_noLived_73 : decode cX12_noLived 73 = .ok (.iaload, 1) := by decide +kernel
theorem dX12_noLived_74 : decode cX12_noLived 74 = .ok (.isub, 1) := by decide +kernel
theorem dX12_noLived_75 : decode cX12_noLived 75 = .ok (.if_icmp .le 7, 3) := by decide +kernel
theorem dX12_noLived_78 : decode cX12_noLived 78 = .ok (.ldc_w 442, 3) := by decide +kernel
theorem dX12_noLived_81 : decode cX12_noLived 81 = .ok (.ireturn, 1) := by decide +kernel
theorem dX12_noLived_82 : decode cX12_noLived 82 = .ok (.iconst 0, 1) := by decide +kernel
theorem dX12_noLived_83 : decode cX12_noLived 83 = .ok (.istore 4, 2) := by decide +kernel
theorem dX12_noLived_85 : decode cX12_noLived 85 = .ok (.iload 4, 2) := by decide +kernel
theorem dX12_noLived_87 : decode cX12_noLived 87 = .ok (.aload_n 0, 1) := by decide +kernel
theorem dX12_noLived_88 : decode cX12_noLived 88 = .ok (.getfield 71, 3) := by decide +kernel
theorem dX12_noLived_91 : decode cX12_noLived 91 = .ok (.iload_n 1, 1) := by decide +kernel
theorem dX12_noLived_92 : decode cX12_noLived 92 = .ok (.iaload, 1) := by decide +kernel
theorem dX12_noLived_93 : decode cX12_noLived 93 = .ok (.if_icmp .ge 31, 3) := by decide +kernel
theorem dX12_noLived_96 : decode cX12_noLived 96 = .ok (.aload_n 0, 1) := by decide +kernel
theorem dX12_noLived_97 : decode cX12_noLived 97 = .ok (.aload_n 0, 1) := by decide +kernel
theorem dX12_noLived_98 : decode cX12_noLived 98 = .ok (.getfield 74, 3) := by decide +kernel
theorem dX12_noLived_101 : decode cX12_noLived 101 = .ok (.bipush 40, 2) := by decide +kernel
theorem dX12_noLived_103 : decode cX12_noLived 103 = .ok (.iload_n 1, 1) := by decide +kernel
theorem dX12_noLived_104 : decode cX12_noLived 104 = .ok (.imul, 1) := by decide +kernel
theorem dX12_noLived_105 : decode cX12_noLived 105 = .ok (.iload 4, 2) := by decide +kernel
theorem dX12_noLived_107 : decode cX12_noLived 107 = .ok (.iadd, 1) := by decide +kernel
theorem dX12_noLived_108 : decode cX12_noLived 108 = .ok (.laload, 1) := by decide +kernel
theorem dX12_noLived_109 : decode cX12_noLived 109 = .ok (.invokevirtual 250, 3) := by decide +kernel
theorem dX12_noLived_112 : decode cX12_noLived 112 = .ok (.ifCond .ne 6, 3) := by decide +kernel
theorem dX12_noLived_115 : decode cX12_noLived 115 = .ok (.ldc 201, 2) := by decide +kernel
theorem dX12_noLived_117 : decode cX12_noLived 117 = .ok (.ireturn, 1) := by decide +kernel
theorem dX12_noLived_118 : decode cX12_noLived 118 = .ok (.iinc 4 1, 3) := by decide +kernel
theorem dX12_noLived_121 : decode cX12_noLived 121 = .ok (.goto (-36), 3) := by decide +kernel
theorem dX12_noLived_124 : decode cX12_noLived 124 = .ok (.iconst 0, 1) := by decide +kernel
theorem dX12_noLived_125 : decode cX12_noLived 125 = .ok (.ireturn, 1) := by decide +kernel
set_option maxRecDepth 20000 in
theorem ggX12_talentsOf_X12_standNow : GoodIn wsX12_talentsOf wsX12_standNow := goodIn_r _ [7, 8, 9, 10, 6, 11, 45, 46, 47, 48, 49, 50, 51, 52, 53, 54, 55, 56, 57, 58, 59, 60, 61, 62, 63, 64, 65, 66, 67, 68, 69, 70, 71, 72, 73, 74, 75, 76, 77, 78, 79, 80] (by decide +kernel) (by decide +kernel)
set_option maxRecDepth 20000 in
theorem gX12_talentsOf_X12_standNow : GoodIn wsX12_talentsOf (wsV RX12 253 RX12 yX12_standNow wsX12_standNow) := goodIn_app (goodIn_of _ (by decide +kernel)) ggX12_talentsOf_X12_standNow
set_option maxRecDepth 20000 in
theorem ggX12_talentsOf_X12_worthOf : GoodIn wsX12_talentsOf wsX12_worthOf := goodIn_r _ [15, 8, 16, 17, 18, 6, 19, 20, 21, 22, 23, 24, 25, 26, 27, 28, 29, 30, 31, 32, 33, 34, 35, 36, 37, 38, 39, 40, 41, 45, 46, 47, 48, 49, 50, 51, 52, 53, 54, 55, 56, 57, 58, 59, 60, 61, 62, 63, 64, 65, 66, 67, 68, 69, 70, 71, 72, 73, 74, 75, 76, 77, 78, 79, 80] (by decide +kernel) (by decide +kernel)
set_option maxRecDepth 20000 in
theorem gX12_talentsOf_X12_worthOf : GoodIn wsX12_talentsOf (wsV RX12 259 RX12 yX12_worthOf wsX12_worthOf) := goodIn_app (goodIn_of _ (by decide +kernel)) ggX12_talentsOf_X12_worthOf
set_option maxRecDepth 20000 in
theorem ggX12_talentsOf_X12_livedTo : GoodIn wsX12_talentsOf wsX12_livedTo := goodIn_r _ [44, 26, 27, 6, 28, 29, 30, 31, 17, 18, 19, 20, 21, 22, 23, 24, 25, 9, 10, 11] (by decide +kernel) (by decide +kernel)
set_option maxRecDepth 20000 in
theorem gX12_talentsOf_X12_livedTo : GoodIn wsX12_talentsOf (va_wsS RX12 268 yX12_livedTo wsX12_livedTo) := goodIn_app (goodIn_of _ (by decide +kernel)) ggX12_talentsOf_X12_livedTo
theorem dX12_talentsOf_0 : decode cX12_talentsOf 0 = .ok (.iconst 0, 1) := by decide +kernel
theorem dX12_talentsOf_1 : decode cX12_talentsOf 1 = .ok (.istore 4, 2) := by decide +kernel
theorem dX12_talentsOf_3 : decode cX12_talentsOf 3 = .ok (.iconst 0, 1) := by decide +kernel
theorem dX12_talentsOf_4 : decode cX12_talentsOf 4 = .ok (.istore 5, 2) := by decide +kernel
theorem dX12_talentsOf_6 : decode cX12_talentsOf 6 = .ok (.iload 5, 2) := by decide +kernel
theorem dX12_talentsOf_8 : decode cX12_talentsOf 8 = .ok (.bipush 10, 2) := by decide +kernel
theorem dX12_talentsOf_10 : decode cX12_talentsOf 10 = .ok (.if_icmp .ge 97, 3) := by decide +kernel
theorem dX12_talentsOf_13 : decode cX12_talentsOf 13 = .ok (.aload_n 0, 1) := by decide +kernel
theorem dX12_talentsOf_14 : decode cX12_talentsOf 14 = .ok (.iload_n 2, 1) := by decide +kernel
theorem dX12_talentsOf_15 : decode cX12_talentsOf 15 = .ok (.invokevirtual 253, 3) := by decide +kernel
theorem dX12_talentsOf_18 : decode cX12_talentsOf 18 = .ok (.istore 6, 2) := by decide +kernel
theorem dX12_talentsOf_20 : decode cX12_talentsOf 20 = .ok (.iconst 0, 1) := by decide +kernel
theorem dX12_talentsOf_21 : decode cX12_talentsOf 21 = .ok (.istore 7, 2) := by decide +kernel
theorem dX12_talentsOf_23 : decode cX12_talentsOf 23 = .ok (.iconst 0, 1) := by decide +kernel
theorem dX12_talentsOf_24 : decode cX12_talentsOf 24 = .ok (.istore 8, 2) := by decide +kernel
theorem dX12_talentsOf_26 : decode cX12_talentsOf 26 = .ok (.iload 8, 2) := by decide +kernel
theorem dX12_talentsOf_28 : decode cX12_talentsOf 28 = .ok (.aload_n 0, 1) := by decide +kernel
theorem dX12_talentsOf_29 : decode cX12_talentsOf 29 = .ok (.getfield 71, 3) := by decide +kernel
theorem dX12_talentsOf_32 : decode cX12_talentsOf 32 = .ok (.iload_n 1, 1) := by decide +kernel
theorem dX12_talentsOf_33 : decode cX12_talentsOf 33 = .ok (.iaload, 1) := by decide +kernel
theorem dX12_talentsOf_34 : decode cX12_talentsOf 34 = .ok (.if_icmp .ge 48, 3) := by decide +kernel
theorem dX12_talentsOf_37 : decode cX12_talentsOf 37 = .ok (.aload_n 0, 1) := by decide +kernel
theorem dX12_talentsOf_38 : decode cX12_talentsOf 38 = .ok (.getfield 74, 3) := by decide +kernel
theorem dX12_talentsOf_41 : decode cX12_talentsOf 41 = .ok (.bipush 40, 2) := by decide +kernel
theorem dX12_talentsOf_43 : decode cX12_talentsOf 43 = .ok (.iload_n 1, 1) := by decide +kernel
theorem dX12_talentsOf_44 : decode cX12_talentsOf 44 = .ok (.imul, 1) := by decide +kernel
theorem dX12_talentsOf_45 : decode cX12_talentsOf 45 = .ok (.iload 8, 2) := by decide +kernel
theorem dX12_talentsOf_47 : decode cX12_talentsOf 47 = .ok (.iadd, 1) := by decide +kernel
theorem dX12_talentsOf_48 : decode cX12_talentsOf 48 = .ok (.laload, 1) := by decide +kernel
theorem dX12_talentsOf_49 : decode cX12_talentsOf 49 = .ok (.l2i, 1) := by decide +kernel
theorem dX12_talentsOf_50 : decode cX12_talentsOf 50 = .ok (.istore 9, 2) := by decide +kernel
theorem dX12_talentsOf_52 : decode cX12_talentsOf 52 = .ok (.iload 7, 2) := by decide +kernel
theorem dX12_talentsOf_54 : decode cX12_talentsOf 54 = .ok (.aload_n 0, 1) := by decide +kernel
theorem dX12_talentsOf_55 : decode cX12_talentsOf 55 = .ok (.iload 5, 2) := by decide +kernel
theorem dX12_talentsOf_57 : decode cX12_talentsOf 57 = .ok (.iload 6, 2) := by decide +kernel
theorem dX12_talentsOf_59 : decode cX12_talentsOf 59 = .ok (.iload 9, 2) := by decide +kernel
theorem dX12_talentsOf_61 : decode cX12_talentsOf 61 = .ok (.invokevirtual 259, 3) := by decide +kernel
theorem dX12_talentsOf_64 : decode cX12_talentsOf 64 = .ok (.iadd, 1) := by decide +kernel
theorem dX12_talentsOf_65 : decode cX12_talentsOf 65 = .ok (.istore 7, 2) := by decide +kernel
theorem dX12_talentsOf_67 : decode cX12_talentsOf 67 = .ok (.iload 6, 2) := by decide +kernel
theorem dX12_talentsOf_69 : decode cX12_talentsOf 69 = .ok (.iload 9, 2) := by decide +kernel
theorem dX12_talentsOf_71 : decode cX12_talentsOf 71 = .ok (.invokestatic 268, 3) := by decide +kernel
theorem dX12_talentsOf_74 : decode cX12_talentsOf 74 = .ok (.istore 6, 2) := by decide +kernel
theorem dX12_talentsOf_76 : decode cX12_talentsOf 76 = .ok (.iinc 8 1, 3) := by decide +kernel
theorem dX12_talentsOf_79 : decode cX12_talentsOf 79 = .ok (.goto (-53), 3) := by decide +kernel
theorem dX12_talentsOf_82 : decode cX12_talentsOf 82 = .ok (.iload 4, 2) := by decide +kernel
theorem dX12_talentsOf_84 : decode cX12_talentsOf 84 = .ok (.iload 7, 2) := by decide +kernel
theorem dX12_talentsOf_86 : decode cX12_talentsOf 86 = .ok (.iload_n 3, 1) := by decide +kernel
theorem dX12_talentsOf_87 : decode cX12_talentsOf 87 = .ok (.if_icmp .ne 10, 3) := by decide +kernel
theorem dX12_talentsOf_90 : decode cX12_talentsOf 90 = .ok (.iconst 1, 1) := by decide +kernel
theorem dX12_talentsOf_91 : decode cX12_talentsOf 91 = .ok (.iload 5, 2) := by decide +kernel
theorem dX12_talentsOf_93 : decode cX12_talentsOf 93 = .ok (.ishl, 1) := by decide +kernel
theorem dX12_talentsOf_94 : decode cX12_talentsOf 94 = .ok (.goto 4, 3) := by decide +kernel
theorem dX12_talentsOf_97 : decode cX12_talentsOf 97 = .ok (.iconst 0, 1) := by decide +kernel
theorem dX12_talentsOf_98 : decode cX12_talentsOf 98 = .ok (.ior, 1) := by decide +kernel
theorem dX12_talentsOf_99 : decode cX12_talentsOf 99 = .ok (.istore 4, 2) := by decide +kernel
theorem dX12_talentsOf_101 : decode cX12_talentsOf 101 = .ok (.iinc 5 1, 3) := by decide +kernel
theorem dX12_talentsOf_104 : decode cX12_talentsOf 104 = .ok (.goto (-98), 3) := by decide +kernel
theorem dX12_talentsOf_107 : decode cX12_talentsOf 107 = .ok (.iload 4, 2) := by decide +kernel
theorem dX12_talentsOf_109 : decode cX12_talentsOf 109 = .ok (.ireturn, 1) := by decide +kernel
set_option maxRecDepth 20000 in
theorem ggX12_talents_X12_noLived : GoodIn wsX12_talents wsX12_noLived := goodIn_r _ [6, 7, 8, 9, 10, 11, 12, 13, 14, 15, 16, 5, 17, 18, 19, 20, 21, 22, 23, 24, 25, 26, 27, 28, 29, 30, 31, 76, 77, 78, 79, 80, 81, 82, 83, 84, 85, 86, 87, 88, 89, 90, 91, 92, 93, 94, 95, 96, 97, 98, 99, 100, 101, 102, 103, 104, 105, 106, 107, 108, 109, 110, 111] (by decide +kernel) (by decide +kernel)
set_option maxRecDepth 20000 in
theorem gX12_talents_X12_noLived : GoodIn wsX12_talents (wsV RX12 443 RX12 yX12_noLived wsX12_noLived) := goodIn_app (goodIn_of _ (by decide +kernel)) ggX12_talents_X12_noLived
set_option maxRecDepth 20000 in
theorem ggX12_talents_X12_talentsOf : GoodIn wsX12_talents wsX12_talentsOf := goodIn_r _ [35, 9, 13, 36, 37, 38, 5, 39, 11, 40, 41, 42, 43, 44, 45, 46, 47, 48, 49, 50, 51, 52, 53, 54, 55, 56, 57, 58, 59, 60, 61, 62, 63, 64, 65, 66, 67, 68, 69, 70, 71, 72, 73, 74, 75, 76, 77, 78, 79, 80, 81, 82, 83, 84, 85, 86, 87, 88, 89, 90, 91, 92, 93, 94, 95, 96, 97, 98, 99, 100, 101, 102, 103, 104, 105, 106, 107, 108, 109, 110, 111] (by decide +kernel) (by decide +kernel)
set_option maxRecDepth 20000 in
theorem gX12_talents_X12_talentsOf : GoodIn wsX12_talents (wsV RX12 446 RX12 yX12_talentsOf wsX12_talentsOf) := goodIn_app (goodIn_of _ (by decide +kernel)) ggX12_talents_X12_talentsOf
theorem dX12_talents_0 : decode cX12_talents 0 = .ok (.aload_n 0, 1) := by decide +kernel
theorem dX12_talents_1 : decode cX12_talents 1 = .ok (.iconst 0, 1) := by decide +kernel
theorem dX12_talents_2 : decode cX12_talents 2 = .ok (.putfield 1, 3) := by decide +kernel
theorem dX12_talents_5 : decode cX12_talents 5 = .ok (.aload_n 0, 1) := by decide +kernel
theorem dX12_talents_6 : decode cX12_talents 6 = .ok (.iload_n 1, 1) := by decide +kernel
theorem dX12_talents_7 : decode cX12_talents 7 = .ok (.iload_n 2, 1) := by decide +kernel
theorem dX12_talents_8 : decode cX12_talents 8 = .ok (.invokevirtual 443, 3) := by decide +kernel
theorem dX12_talents_11 : decode cX12_talents 11 = .ok (.istore 4, 2) := by decide +kernel
theorem dX12_talents_13 : decode cX12_talents 13 = .ok (.iload 4, 2) := by decide +kernel
theorem dX12_talents_15 : decode cX12_talents 15 = .ok (.ifCond .eq 8, 3) := by decide +kernel
theorem dX12_talents_18 : decode cX12_talents 18 = .ok (.iload 4, 2) := by decide +kernel
theorem dX12_talents_20 : decode cX12_talents 20 = .ok (.goto 10, 3) := by decide +kernel
theorem dX12_talents_23 : decode cX12_talents 23 = .ok (.aload_n 0, 1) := by decide +kernel
theorem dX12_talents_24 : decode cX12_talents 24 = .ok (.iload_n 1, 1) := by decide +kernel
theorem dX12_talents_25 : decode cX12_talents 25 = .ok (.iload_n 2, 1) := by decide +kernel
theorem dX12_talents_26 : decode cX12_talents 26 = .ok (.iload_n 3, 1) := by decide +kernel
theorem dX12_talents_27 : decode cX12_talents 27 = .ok (.invokevirtual 446, 3) := by decide +kernel
theorem dX12_talents_30 : decode cX12_talents 30 = .ok (.ireturn, 1) := by decide +kernel
set_option maxRecDepth 20000 in
theorem ggX12_mostOften_X12_isIn : GoodIn wsX12_mostOften wsX12_isIn := goodIn_r _ [5] (by decide +kernel) (by decide +kernel)
set_option maxRecDepth 20000 in
theorem gX12_mostOften_X12_isIn : GoodIn wsX12_mostOften (va_wsS RX12 449 yX12_isIn wsX12_isIn) := goodIn_app (goodIn_of _ (by decide +kernel)) ggX12_mostOften_X12_isIn
set_option maxRecDepth 20000 in
theorem ggX12_mostOften_X12_standNow : GoodIn wsX12_mostOften wsX12_standNow := goodIn_r _ [9, 10, 11, 12, 4, 13, 44, 45, 46, 47, 48, 49, 50, 51, 52, 53, 54, 55, 56, 57, 58, 59, 60, 61, 62, 63, 64, 65, 66, 67, 68, 69, 70, 71, 72, 73, 74, 75, 76, 77, 78, 79] (by decide +kernel) (by decide +kernel)
set_option maxRecDepth 20000 in
theorem gX12_mostOften_X12_standNow : GoodIn wsX12_mostOften (wsV RX12 253 RX12 yX12_standNow wsX12_standNow) := goodIn_app (goodIn_of _ (by decide +kernel)) ggX12_mostOften_X12_standNow
set_option maxRecDepth 20000 in
theorem ggX12_mostOften_X12_worthOf : GoodIn wsX12_mostOften wsX12_worthOf := goodIn_r _ [17, 10, 18, 19, 20, 4, 21, 22, 23, 24, 25, 26, 27, 28, 29, 30, 31, 32, 33, 34, 35, 36, 37, 38, 39, 40, 41, 42, 43, 44, 45, 46, 47, 48, 49, 50, 51, 52, 53, 54, 55, 56, 57, 58, 59, 60, 61, 62, 63, 64, 65, 66, 67, 68, 69, 70, 71, 72, 73, 74, 75, 76, 77, 78, 79] (by decide +kernel) (by decide +kernel)
set_option maxRecDepth 20000 in
theorem gX12_mostOften_X12_worthOf : GoodIn wsX12_mostOften (wsV RX12 259 RX12 yX12_worthOf wsX12_worthOf) := goodIn_app (goodIn_of _ (by decide +kernel)) ggX12_mostOften_X12_worthOf
theorem dX12_mostOften_0 : decode cX12_mostOften 0 = .ok (.iconst 0, 1) := by decide +kernel
theorem dX12_mostOften_1 : decode cX12_mostOften 1 = .ok (.istore 4, 2) := by decide +kernel
theorem dX12_mostOften_3 : decode cX12_mostOften 3 = .ok (.iconst 0, 1) := by decide +kernel
theorem dX12_mostOften_4 : decode cX12_mostOften 4 = .ok (.istore 5, 2) := by decide +kernel
theorem dX12_mostOften_6 : decode cX12_mostOften 6 = .ok (.iload 5, 2) := by decide +kernel
theorem dX12_mostOften_8 : decode cX12_mostOften 8 = .ok (.bipush 19, 2) := by decide +kernel
theorem dX12_mostOften_10 : decode cX12_mostOften 10 = .ok (.if_icmp .ge 17, 3) := by decide +kernel
theorem dX12_mostOften_13 : decode cX12_mostOften 13 = .ok (.aload_n 0, 1) := by decide +kernel
theorem dX12_mostOften_14 : decode cX12_mostOften 14 = .ok (.getfield 65, 3) := by decide +kernel
theorem dX12_mostOften_17 : decode cX12_mostOften 17 = .ok (.iload 5, 2) := by decide +kernel
theorem dX12_mostOften_19 : decode cX12_mostOften 19 = .ok (.iconst 0, 1) := by decide +kernel
theorem dX12_mostOften_20 : decode cX12_mostOften 20 = .ok (.iastore, 1) := by decide +kernel
theorem dX12_mostOften_21 : decode cX12_mostOften 21 = .ok (.iinc 5 1, 3) := by decide +kernel
theorem dX12_mostOften_24 : decode cX12_mostOften 24 = .ok (.goto (-18), 3) := by decide +kernel
theorem dX12_mostOften_27 : decode cX12_mostOften 27 = .ok (.iconst 0, 1) := by decide +kernel
theorem dX12_mostOften_28 : decode cX12_mostOften 28 = .ok (.istore 5, 2) := by decide +kernel
theorem dX12_mostOften_30 : decode cX12_mostOften 30 = .ok (.iload 5, 2) := by decide +kernel
theorem dX12_mostOften_32 : decode cX12_mostOften 32 = .ok (.bipush 10, 2) := by decide +kernel
theorem dX12_mostOften_34 : decode cX12_mostOften 34 = .ok (.if_icmp .ge 76, 3) := by decide +kernel
theorem dX12_mostOften_37 : decode cX12_mostOften 37 = .ok (.iload_n 3, 1) := by decide +kernel
theorem dX12_mostOften_38 : decode cX12_mostOften 38 = .ok (.i2l, 1) := by decide +kernel
theorem dX12_mostOften_39 : decode cX12_mostOften 39 = .ok (.iload 5, 2) := by decide +kernel
theorem dX12_mostOften_41 : decode cX12_mostOften 41 = .ok (.invokestatic 449, 3) := by decide +kernel
theorem dX12_mostOften_44 : decode cX12_mostOften 44 = .ok (.ifCond .ne 6, 3) := by decide +kernel
theorem dX12_mostOften_47 : decode cX12_mostOften 47 = .ok (.goto 57, 3) := by decide +kernel
theorem dX12_mostOften_50 : decode cX12_mostOften 50 = .ok (.bipush 9, 2) := by decide +kernel
theorem dX12_mostOften_52 : decode cX12_mostOften 52 = .ok (.aload_n 0, 1) := by decide +kernel
theorem dX12_mostOften_53 : decode cX12_mostOften 53 = .ok (.iload 5, 2) := by decide +kernel
theorem dX12_mostOften_55 : decode cX12_mostOften 55 = .ok (.aload_n 0, 1) := by decide +kernel
theorem dX12_mostOften_56 : decode cX12_mostOften 56 = .ok (.iload_n 1, 1) := by decide +kernel
theorem dX12_mostOften_57 : decode cX12_mostOften 57 = .ok (.invokevirtual 253, 3) := by decide +kernel
theorem dX12_mostOften_60 : decode cX12_mostOften 60 = .ok (.iload_n 2, 1) := by decide +kernel
theorem dX12_mostOften_61 : decode cX12_mostOften 61 = .ok (.invokevirtual 259, 3) := by decide +kernel
theorem dX12_mostOften_64 : decode cX12_mostOften 64 = .ok (.iadd, 1) := by decide +kernel
theorem dX12_mostOften_65 : decode cX12_mostOften 65 = .ok (.istore 6, 2) := by decide +kernel
theorem dX12_mostOften_67 : decode cX12_mostOften 67 = .ok (.aload_n 0, 1) := by decide +kernel
theorem dX12_mostOften_68 : decode cX12_mostOften 68 = .ok (.getfield 65, 3) := by decide +kernel
theorem dX12_mostOften_71 : decode cX12_mostOften 71 = .ok (.iload 6, 2) := by decide +kernel
theorem dX12_mostOften_73 : decode cX12_mostOften 73 = .ok (.dup2, 1) := by decide +kernel
theorem dX12_mostOften_74 : decode cX12_mostOften 74 = .ok (.iaload, 1) := by decide +kernel
theorem dX12_mostOften_75 : decode cX12_mostOften 75 = .ok (.iconst 1, 1) := by decide +kernel
theorem dX12_mostOften_76 : decode cX12_mostOften 76 = .ok (.iadd, 1) := by decide +kernel
theorem dX12_mostOften_77 : decode cX12_mostOften 77 = .ok (.iastore, 1) := by decide +kernel
theorem dX12_mostOften_78 : decode cX12_mostOften 78 = .ok (.aload_n 0, 1) := by decide +kernel
theorem dX12_mostOften_79 : decode cX12_mostOften 79 = .ok (.getfield 65, 3) := by decide +kernel
theorem dX12_mostOften_82 : decode cX12_mostOften 82 = .ok (.iload 6, 2) := by decide +kernel
theorem dX12_mostOften_84 : decode cX12_mostOften 84 = .ok (.iaload, 1) := by decide +kernel
theorem dX12_mostOften_85 : decode cX12_mostOften 85 = .ok (.iload 4, 2) := by decide +kernel
theorem dX12_mostOften_87 : decode cX12_mostOften 87 = .ok (.if_icmp .le 13, 3) := by decide +kernel
theorem dX12_mostOften_90 : decode cX12_mostOften 90 = .ok (.aload_n 0, 1) := by decide +kernel
theorem dX12_mostOften_91 : decode cX12_mostOften 91 = .ok (.getfield 65, 3) := by decide +kernel
theorem dX12_mostOften_94 : decode cX12_mostOften 94 = .ok (.iload 6, 2) := by decide +kernel
theorem dX12_mostOften_96 : decode cX12_mostOften 96 = .ok (.iaload, 1) := by decide +kernel
theorem dX12_mostOften_97 : decode cX12_mostOften 97 = .ok (.goto 5, 3) := by decide +kernel
theorem dX12_mostOften_100 : decode cX12_mostOften 100 = .ok (.iload 4, 2) := by decide +kernel
theorem dX12_mostOften_102 : decode cX12_mostOften 102 = .ok (.istore 4, 2) := by decide +kernel
theorem dX12_mostOften_104 : decode cX12_mostOften 104 = .ok (.iinc 5 1, 3) := by decide +kernel
theorem dX12_mostOften_107 : decode cX12_mostOften 107 = .ok (.goto (-77), 3) := by decide +kernel
theorem dX12_mostOften_110 : decode cX12_mostOften 110 = .ok (.iload 4, 2) := by decide +kernel
theorem dX12_mostOften_112 : decode cX12_mostOften 112 = .ok (.ireturn, 1) := by decide +kernel
set_option maxRecDepth 20000 in
theorem ggX12_attempt_X12_noLived : GoodIn wsX12_attempt wsX12_noLived := goodIn_r _ [7, 8, 9, 10, 11, 2, 12, 13, 14, 15, 16, 6, 17, 18, 19, 20, 21, 22, 23, 24, 25, 26, 27, 28, 29, 30, 31, 84, 85, 86, 87, 88, 89, 90, 91, 92, 93, 94, 95, 96, 97, 98, 99, 100, 101, 102, 103, 104, 105, 106, 107, 108, 109, 110, 111, 112, 113, 114, 115, 116, 117, 118, 119] (by decide +kernel) (by decide +kernel)
set_option maxRecDepth 20000 in
theorem gX12_attempt_X12_noLived : GoodIn wsX12_attempt (wsV RX12 443 RX12 yX12_noLived wsX12_noLived) := goodIn_app (goodIn_of _ (by decide +kernel)) ggX12_attempt_X12_noLived
set_option maxRecDepth 20000 in
theorem ggX12_attempt_X12_talentsOf : GoodIn wsX12_attempt wsX12_talentsOf := goodIn_r _ [35, 10, 13, 36, 37, 38, 6, 39, 2, 40, 41, 42, 43, 44, 45, 46, 47, 48, 49, 50, 51, 52, 53, 54, 55, 56, 57, 58, 59, 60, 61, 62, 63, 64, 65, 66, 67, 68, 69, 70, 71, 72, 73, 74, 75, 84, 85, 86, 87, 88, 89, 90, 91, 92, 93, 94, 95, 96, 97, 98, 99, 100, 101, 102, 103, 104, 105, 106, 107, 108, 109, 110, 111, 112, 113, 114, 115, 116, 117, 118, 119] (by decide +kernel) (by decide +kernel)
set_option maxRecDepth 20000 in
theorem gX12_attempt_X12_talentsOf : GoodIn wsX12_attempt (wsV RX12 446 RX12 yX12_talentsOf wsX12_talentsOf) := goodIn_app (goodIn_of _ (by decide +kernel)) ggX12_attempt_X12_talentsOf
set_option maxRecDepth 20000 in
theorem ggX12_attempt_X12_mostOften : GoodIn wsX12_attempt wsX12_mostOften := goodIn_r _ [79, 80, 81, 82, 6, 83, 36, 37, 38, 39, 2, 40, 41, 42, 43, 44, 45, 46, 47, 48, 49, 50, 51, 52, 53, 54, 55, 56, 57, 58, 59, 60, 61, 62, 63, 64, 65, 66, 67, 68, 69, 70, 71, 72, 84, 85, 86, 87, 88, 89, 90, 91, 92, 93, 94, 95, 96, 97, 98, 99, 100, 101, 102, 103, 104, 105, 106, 107, 108, 109, 110, 111, 112, 113, 114, 115, 116, 117, 118, 119] (by decide +kernel) (by decide +kernel)
set_option maxRecDepth 20000 in
theorem gX12_attempt_X12_mostOften : GoodIn wsX12_attempt (wsV RX12 453 RX12 yX12_mostOften wsX12_mostOften) := goodIn_app (goodIn_of _ (by decide +kernel)) ggX12_attempt_X12_mostOften
theorem dX12_attempt_0 : decode cX12_attempt 0 = .ok (.aload_n 0, 1) := by decide +kernel
theorem dX12_attempt_1 : decode cX12_attempt 1 = .ok (.iconst 0, 1) := by decide +kernel
theorem dX12_attempt_2 : decode cX12_attempt 2 = .ok (.putfield 1, 3) := by decide +kernel
theorem dX12_attempt_5 : decode cX12_attempt 5 = .ok (.aload_n 0, 1) := by decide +kernel
theorem dX12_attempt_6 : decode cX12_attempt 6 = .ok (.iload_n 1, 1) := by decide +kernel
theorem dX12_attempt_7 : decode cX12_attempt 7 = .ok (.iload_n 2, 1) := by decide +kernel
theorem dX12_attempt_8 : decode cX12_attempt 8 = .ok (.invokevirtual 443, 3) := by decide +kernel
theorem dX12_attempt_11 : decode cX12_attempt 11 = .ok (.istore 4, 2) := by decide +kernel
theorem dX12_attempt_13 : decode cX12_attempt 13 = .ok (.iload 4, 2) := by decide +kernel
theorem dX12_attempt_15 : decode cX12_attempt 15 = .ok (.ifCond .eq 6, 3) := by decide +kernel
theorem dX12_attempt_18 : decode cX12_attempt 18 = .ok (.iload 4, 2) := by decide +kernel
theorem dX12_attempt_20 : decode cX12_attempt 20 = .ok (.ireturn, 1) := by decide +kernel
theorem dX12_attempt_21 : decode cX12_attempt 21 = .ok (.aload_n 0, 1) := by decide +kernel
theorem dX12_attempt_22 : decode cX12_attempt 22 = .ok (.iload_n 1, 1) := by decide +kernel
theorem dX12_attempt_23 : decode cX12_attempt 23 = .ok (.iload_n 2, 1) := by decide +kernel
theorem dX12_attempt_24 : decode cX12_attempt 24 = .ok (.iload_n 3, 1) := by decide +kernel
theorem dX12_attempt_25 : decode cX12_attempt 25 = .ok (.invokevirtual 446, 3) := by decide +kernel
theorem dX12_attempt_28 : decode cX12_attempt 28 = .ok (.istore 5, 2) := by decide +kernel
theorem dX12_attempt_30 : decode cX12_attempt 30 = .ok (.iconst (-1), 1) := by decide +kernel
theorem dX12_attempt_31 : decode cX12_attempt 31 = .ok (.istore 6, 2) := by decide +kernel
theorem dX12_attempt_33 : decode cX12_attempt 33 = .ok (.bipush 11, 2) := by decide +kernel
theorem dX12_attempt_35 : decode cX12_attempt 35 = .ok (.istore 7, 2) := by decide +kernel
theorem dX12_attempt_37 : decode cX12_attempt 37 = .ok (.iconst 0, 1) := by decide +kernel
theorem dX12_attempt_38 : decode cX12_attempt 38 = .ok (.istore 8, 2) := by decide +kernel
theorem dX12_attempt_40 : decode cX12_attempt 40 = .ok (.iload 8, 2) := by decide +kernel
theorem dX12_attempt_42 : decode cX12_attempt 42 = .ok (.aload_n 0, 1) := by decide +kernel
theorem dX12_attempt_43 : decode cX12_attempt 43 = .ok (.getfield 13, 3) := by decide +kernel
theorem dX12_attempt_46 : decode cX12_attempt 46 = .ok (.iconst 2, 1) := by decide +kernel
theorem dX12_attempt_47 : decode cX12_attempt 47 = .ok (.iaload, 1) := by decide +kernel
theorem dX12_attempt_48 : decode cX12_attempt 48 = .ok (.if_icmp .ge 43, 3) := by decide +kernel
theorem dX12_attempt_51 : decode cX12_attempt 51 = .ok (.iload 5, 2) := by decide +kernel
theorem dX12_attempt_53 : decode cX12_attempt 53 = .ok (.ifCond .eq 38, 3) := by decide +kernel
theorem dX12_attempt_56 : decode cX12_attempt 56 = .ok (.aload_n 0, 1) := by decide +kernel
theorem dX12_attempt_57 : decode cX12_attempt 57 = .ok (.iload_n 2, 1) := by decide +kernel
theorem dX12_attempt_58 : decode cX12_attempt 58 = .ok (.iload 8, 2) := by decide +kernel
theorem dX12_attempt_60 : decode cX12_attempt 60 = .ok (.iload 5, 2) := by decide +kernel
theorem dX12_attempt_62 : decode cX12_attempt 62 = .ok (.invokevirtual 453, 3) := by decide +kernel
theorem dX12_attempt_65 : decode cX12_attempt 65 = .ok (.istore 9, 2) := by decide +kernel
theorem dX12_attempt_67 : decode cX12_attempt 67 = .ok (.iload 9, 2) := by decide +kernel
theorem dX12_attempt_69 : decode cX12_attempt 69 = .ok (.iload 7, 2) := by decide +kernel
theorem dX12_attempt_71 : decode cX12_attempt 71 = .ok (.if_icmp .lt 6, 3) := by decide +kernel
theorem dX12_attempt_74 : decode cX12_attempt 74 = .ok (.goto 11, 3) := by decide +kernel
theorem dX12_attempt_77 : decode cX12_attempt 77 = .ok (.iload 8, 2) := by decide +kernel
theorem dX12_attempt_79 : decode cX12_attempt 79 = .ok (.istore 6, 2) := by decide +kernel
theorem dX12_attempt_81 : decode cX12_attempt 81 = .ok (.iload 9, 2) := by decide +kernel
theorem dX12_attempt_83 : decode cX12_attempt 83 = .ok (.istore 7, 2) := by decide +kernel
theorem dX12_attempt_85 : decode cX12_attempt 85 = .ok (.iinc 8 1, 3) := by decide +kernel
theorem dX12_attempt_88 : decode cX12_attempt 88 = .ok (.goto (-48), 3) := by decide +kernel
theorem dX12_attempt_91 : decode cX12_attempt 91 = .ok (.iload 6, 2) := by decide +kernel
theorem dX12_attempt_93 : decode cX12_attempt 93 = .ok (.ireturn, 1) := by decide +kernel
theorem dX12_isSet_0 : decode cX12_isSet 0 = .ok (.iload_n 1, 1) := by decide +kernel
theorem dX12_isSet_1 : decode cX12_isSet 1 = .ok (.ifCond .lt 19, 3) := by decide +kernel
theorem dX12_isSet_4 : decode cX12_isSet 4 = .ok (.iload_n 1, 1) := by decide +kernel
theorem dX12_isSet_5 : decode cX12_isSet 5 = .ok (.iconst 1, 1) := by decide +kernel
theorem dX12_isSet_6 : decode cX12_isSet 6 = .ok (.aload_n 0, 1) := by decide +kernel
theorem dX12_isSet_7 : decode cX12_isSet 7 = .ok (.getfield 13, 3) := by decide +kernel
theorem dX12_isSet_10 : decode cX12_isSet 10 = .ok (.iconst 3, 1) := by decide +kernel
theorem dX12_isSet_11 : decode cX12_isSet 11 = .ok (.iaload, 1) := by decide +kernel
theorem dX12_isSet_12 : decode cX12_isSet 12 = .ok (.ishl, 1) := by decide +kernel
theorem dX12_isSet_13 : decode cX12_isSet 13 = .ok (.if_icmp .ge 7, 3) := by decide +kernel
theorem dX12_isSet_16 : decode cX12_isSet 16 = .ok (.iconst 1, 1) := by decide +kernel
theorem dX12_isSet_17 : decode cX12_isSet 17 = .ok (.goto 4, 3) := by decide +kernel
theorem dX12_isSet_20 : decode cX12_isSet 20 = .ok (.iconst 0, 1) := by decide +kernel
theorem dX12_isSet_21 : decode cX12_isSet 21 = .ok (.ireturn, 1) := by decide +kernel
set_option maxRecDepth 20000 in
theorem ggX12_joins_X12_isIn : GoodIn wsX12_joins wsX12_isIn := goodIn_r _ [5] (by decide +kernel) (by decide +kernel)
set_option maxRecDepth 20000 in
theorem gX12_joins_X12_isIn : GoodIn wsX12_joins (va_wsS RX12 449 yX12_isIn wsX12_isIn) := goodIn_app (goodIn_of _ (by decide +kernel)) ggX12_joins_X12_isIn
set_option maxRecDepth 20000 in
theorem ggX12_joins_X12_bitsOf : GoodIn wsX12_joins wsX12_bitsOf := goodIn_r _ [8] (by decide +kernel) (by decide +kernel)
set_option maxRecDepth 20000 in
theorem gX12_joins_X12_bitsOf : GoodIn wsX12_joins (va_wsS RX12 456 yX12_bitsOf wsX12_bitsOf) := goodIn_app (goodIn_of _ (by decide +kernel)) ggX12_joins_X12_bitsOf
theorem dX12_joins_0 : decode cX12_joins 0 = .ok (.iload_n 1, 1) := by decide +kernel
theorem dX12_joins_1 : decode cX12_joins 1 = .ok (.istore_n 3, 1) := by decide +kernel
theorem dX12_joins_2 : decode cX12_joins 2 = .ok (.iconst 0, 1) := by decide +kernel
theorem dX12_joins_3 : decode cX12_joins 3 = .ok (.istore 4, 2) := by decide +kernel
theorem dX12_joins_5 : decode cX12_joins 5 = .ok (.iload 4, 2) := by decide +kernel
theorem dX12_joins_7 : decode cX12_joins 7 = .ok (.aload_n 0, 1) := by decide +kernel
theorem dX12_joins_8 : decode cX12_joins 8 = .ok (.getfield 13, 3) := by decide +kernel
theorem dX12_joins_11 : decode cX12_joins 11 = .ok (.iconst 3, 1) := by decide +kernel
theorem dX12_joins_12 : decode cX12_joins 12 = .ok (.iaload, 1) := by decide +kernel
theorem dX12_joins_13 : decode cX12_joins 13 = .ok (.if_icmp .ge 47, 3) := by decide +kernel
theorem dX12_joins_16 : decode cX12_joins 16 = .ok (.iload_n 3, 1) := by decide +kernel
theorem dX12_joins_17 : decode cX12_joins 17 = .ok (.iload_n 2, 1) := by decide +kernel
theorem dX12_joins_18 : decode cX12_joins 18 = .ok (.i2l, 1) := by decide +kernel
theorem dX12_joins_19 : decode cX12_joins 19 = .ok (.iload 4, 2) := by decide +kernel
theorem dX12_joins_21 : decode cX12_joins 21 = .ok (.invokestatic 449, 3) := by decide +kernel
theorem dX12_joins_24 : decode cX12_joins 24 = .ok (.ifCond .ne 27, 3) := by decide +kernel
theorem dX12_joins_27 : decode cX12_joins 27 = .ok (.iload_n 1, 1) := by decide +kernel
theorem dX12_joins_28 : decode cX12_joins 28 = .ok (.invokestatic 456, 3) := by decide +kernel
theorem dX12_joins_31 : decode cX12_joins 31 = .ok (.aload_n 0, 1) := by decide +kernel
theorem dX12_joins_32 : decode cX12_joins 32 = .ok (.getfield 13, 3) := by decide +kernel
theorem dX12_joins_35 : decode cX12_joins 35 = .ok (.bipush 11, 2) := by decide +kernel
theorem dX12_joins_37 : decode cX12_joins 37 = .ok (.iload 4, 2) := by decide +kernel
theorem dX12_joins_39 : decode cX12_joins 39 = .ok (.iadd, 1) := by decide +kernel
theorem dX12_joins_40 : decode cX12_joins 40 = .ok (.iaload, 1) := by decide +kernel
theorem dX12_joins_41 : decode cX12_joins 41 = .ok (.if_icmp .lt 10, 3) := by decide +kernel
theorem dX12_joins_44 : decode cX12_joins 44 = .ok (.iconst 1, 1) := by decide +kernel
theorem dX12_joins_45 : decode cX12_joins 45 = .ok (.iload 4, 2) := by decide +kernel
theorem dX12_joins_47 : decode cX12_joins 47 = .ok (.ishl, 1) := by decide +kernel
theorem dX12_joins_48 : decode cX12_joins 48 = .ok (.goto 4, 3) := by decide +kernel
theorem dX12_joins_51 : decode cX12_joins 51 = .ok (.iconst 0, 1) := by decide +kernel
theorem dX12_joins_52 : decode cX12_joins 52 = .ok (.ior, 1) := by decide +kernel
theorem dX12_joins_53 : decode cX12_joins 53 = .ok (.istore_n 3, 1) := by decide +kernel
theorem dX12_joins_54 : decode cX12_joins 54 = .ok (.iinc 4 1, 3) := by decide +kernel
theorem dX12_joins_57 : decode cX12_joins 57 = .ok (.goto (-52), 3) := by decide +kernel
theorem dX12_joins_60 : decode cX12_joins 60 = .ok (.iload_n 3, 1) := by decide +kernel
theorem dX12_joins_61 : decode cX12_joins 61 = .ok (.ireturn, 1) := by decide +kernel
set_option maxRecDepth 20000 in
theorem ggX12_runOf_X12_joins : GoodIn wsX12_runOf wsX12_joins := goodIn_r _ [6, 7, 8, 9, 5, 10, 11, 12, 13, 14, 15, 16, 17, 18, 19, 20, 21, 22, 23, 24, 25, 26, 27, 28, 29, 30, 31, 32, 33, 34, 35, 36, 37, 38, 39, 40, 41, 42, 43, 44, 45, 46, 47, 48, 49] (by decide +kernel) (by decide +kernel)
set_option maxRecDepth 20000 in
theorem gX12_runOf_X12_joins : GoodIn wsX12_runOf (wsV RX12 462 RX12 yX12_joins wsX12_joins) := goodIn_app (goodIn_of _ (by decide +kernel)) ggX12_runOf_X12_joins
theorem dX12_runOf_0 : decode cX12_runOf 0 = .ok (.iload_n 1, 1) := by decide +kernel
theorem dX12_runOf_1 : decode cX12_runOf 1 = .ok (.istore_n 3, 1) := by decide +kernel
theorem dX12_runOf_2 : decode cX12_runOf 2 = .ok (.aload_n 0, 1) := by decide +kernel
theorem dX12_runOf_3 : decode cX12_runOf 3 = .ok (.iconst 0, 1) := by decide +kernel
theorem dX12_runOf_4 : decode cX12_runOf 4 = .ok (.putfield 459, 3) := by decide +kernel
theorem dX12_runOf_7 : decode cX12_runOf 7 = .ok (.aload_n 0, 1) := by decide +kernel
theorem dX12_runOf_8 : decode cX12_runOf 8 = .ok (.iload_n 3, 1) := by decide +kernel
theorem dX12_runOf_9 : decode cX12_runOf 9 = .ok (.iload_n 2, 1) := by decide +kernel
theorem dX12_runOf_10 : decode cX12_runOf 10 = .ok (.invokevirtual 462, 3) := by decide +kernel
theorem dX12_runOf_13 : decode cX12_runOf 13 = .ok (.iload_n 3, 1) := by decide +kernel
theorem dX12_runOf_14 : decode cX12_runOf 14 = .ok (.if_icmp .eq 23, 3) := by decide +kernel
theorem dX12_runOf_17 : decode cX12_runOf 17 = .ok (.aload_n 0, 1) := by decide +kernel
theorem dX12_runOf_18 : decode cX12_runOf 18 = .ok (.iload_n 3, 1) := by decide +kernel
theorem dX12_runOf_19 : decode cX12_runOf 19 = .ok (.iload_n 2, 1) := by decide +kernel
theorem dX12_runOf_20 : decode cX12_runOf 20 = .ok (.invokevirtual 462, 3) := by decide +kernel
theorem dX12_runOf_23 : decode cX12_runOf 23 = .ok (.istore_n 3, 1) := by decide +kernel
theorem dX12_runOf_24 : decode cX12_runOf 24 = .ok (.aload_n 0, 1) := by decide +kernel
theorem dX12_runOf_25 : decode cX12_runOf 25 = .ok (.dup, 1) := by decide +kernel
theorem dX12_runOf_26 : decode cX12_runOf 26 = .ok (.getfield 459, 3) := by decide +kernel
theorem dX12_runOf_29 : decode cX12_runOf 29 = .ok (.iconst 1, 1) := by decide +kernel
theorem dX12_runOf_30 : decode cX12_runOf 30 = .ok (.iadd, 1) := by decide +kernel
theorem dX12_runOf_31 : decode cX12_runOf 31 = .ok (.putfield 459, 3) := by decide +kernel
theorem dX12_runOf_34 : decode cX12_runOf 34 = .ok (.goto (-27), 3) := by decide +kernel
theorem dX12_runOf_37 : decode cX12_runOf 37 = .ok (.iload_n 3, 1) := by decide +kernel
theorem dX12_runOf_38 : decode cX12_runOf 38 = .ok (.ireturn, 1) := by decide +kernel
set_option maxRecDepth 20000 in
theorem ggX12_run_X12_isSet : GoodIn wsX12_run wsX12_isSet := goodIn_r _ [7, 8, 24, 25, 26, 27, 28, 29, 30, 31, 32, 33, 34, 35, 36, 37, 38, 39, 40, 41, 42, 43, 44, 45, 46, 47, 48, 49, 50, 51, 52, 53, 54, 55, 56, 57, 58, 59] (by decide +kernel) (by decide +kernel)
set_option maxRecDepth 20000 in
theorem gX12_run_X12_isSet : GoodIn wsX12_run (wsV RX12 465 RX12 yX12_isSet wsX12_isSet) := goodIn_app (goodIn_of _ (by decide +kernel)) ggX12_run_X12_isSet
set_option maxRecDepth 20000 in
theorem ggX12_run_X12_runOf : GoodIn wsX12_run wsX12_runOf := goodIn_r _ [12, 13, 14, 15, 16, 6, 17, 8, 18, 19, 20, 21, 22, 23, 24, 25, 26, 27, 28, 29, 30, 31, 32, 33, 34, 35, 36, 37, 38, 39, 40, 41, 42, 43, 44, 45, 46, 47, 48, 49, 50, 51, 52, 53, 54, 55, 56, 57, 58, 59] (by decide +kernel) (by decide +kernel)
set_option maxRecDepth 20000 in
theorem gX12_run_X12_runOf : GoodIn wsX12_run (wsV RX12 468 RX12 yX12_runOf wsX12_runOf) := goodIn_app (goodIn_of _ (by decide +kernel)) ggX12_run_X12_runOf
theorem dX12_run_0 : decode cX12_run 0 = .ok (.aload_n 0, 1) := by decide +kernel
theorem dX12_run_1 : decode cX12_run 1 = .ok (.iconst 0, 1) := by decide +kernel
theorem dX12_run_2 : decode cX12_run 2 = .ok (.putfield 1, 3) := by decide +kernel
theorem dX12_run_5 : decode cX12_run 5 = .ok (.aload_n 0, 1) := by decide +kernel
theorem dX12_run_6 : decode cX12_run 6 = .ok (.iload_n 1, 1) := by decide +kernel
theorem dX12_run_7 : decode cX12_run 7 = .ok (.invokevirtual 465, 3) := by decide +kernel
theorem dX12_run_10 : decode cX12_run 10 = .ok (.ifCond .eq 12, 3) := by decide +kernel
theorem dX12_run_13 : decode cX12_run 13 = .ok (.aload_n 0, 1) := by decide +kernel
theorem dX12_run_14 : decode cX12_run 14 = .ok (.iload_n 1, 1) := by decide +kernel
theorem dX12_run_15 : decode cX12_run 15 = .ok (.iconst 0, 1) := by decide +kernel
theorem dX12_run_16 : decode cX12_run 16 = .ok (.invokevirtual 468, 3) := by decide +kernel
theorem dX12_run_19 : decode cX12_run 19 = .ok (.goto 5, 3) := by decide +kernel
theorem dX12_run_22 : decode cX12_run 22 = .ok (.ldc 201, 2) := by decide +kernel
theorem dX12_run_24 : decode cX12_run 24 = .ok (.ireturn, 1) := by decide +kernel
set_option maxRecDepth 20000 in
theorem ggX12_rounds_X12_isSet : GoodIn wsX12_rounds wsX12_isSet := goodIn_r _ [8, 9, 24, 25, 26, 27, 28, 29, 30, 31, 32, 33, 34, 35, 36, 37, 38, 39, 40, 41, 42, 43, 44, 45, 46, 47, 48, 49, 50, 51, 52, 53, 54, 55, 56, 57, 58, 59] (by decide +kernel) (by decide +kernel)
set_option maxRecDepth 20000 in
theorem gX12_rounds_X12_isSet : GoodIn wsX12_rounds (wsV RX12 465 RX12 yX12_isSet wsX12_isSet) := goodIn_app (goodIn_of _ (by decide +kernel)) ggX12_rounds_X12_isSet
set_option maxRecDepth 20000 in
theorem ggX12_rounds_X12_runOf : GoodIn wsX12_rounds wsX12_runOf := goodIn_r _ [13, 3, 14, 15, 16, 7, 17, 9, 18, 19, 20, 21, 22, 23, 24, 25, 26, 27, 28, 29, 30, 31, 32, 33, 34, 35, 36, 37, 38, 39, 40, 41, 42, 43, 44, 45, 46, 47, 48, 49, 50, 51, 52, 53, 54, 55, 56, 57, 58, 59] (by decide +kernel) (by decide +kernel)
set_option maxRecDepth 20000 in
theorem gX12_rounds_X12_runOf : GoodIn wsX12_rounds (wsV RX12 468 RX12 yX12_runOf wsX12_runOf) := goodIn_app (goodIn_of _ (by decide +kernel)) ggX12_rounds_X12_runOf
theorem dX12_rounds_0 : decode cX12_rounds 0 = .ok (.aload_n 0, 1) := by decide +kernel
theorem dX12_rounds_1 : decode cX12_rounds 1 = .ok (.iconst 0, 1) := by decide +kernel
theorem dX12_rounds_2 : decode cX12_rounds 2 = .ok (.putfield 1, 3) := by decide +kernel
theorem dX12_rounds_5 : decode cX12_rounds 5 = .ok (.aload_n 0, 1) := by decide +kernel
theorem dX12_rounds_6 : decode cX12_rounds 6 = .ok (.iload_n 1, 1) := by decide +kernel
theorem dX12_rounds_7 : decode cX12_rounds 7 = .ok (.invokevirtual 465, 3) := by decide +kernel
theorem dX12_rounds_10 : decode cX12_rounds 10 = .ok (.ifCond .ne 6, 3) := by decide +kernel
theorem dX12_rounds_13 : decode cX12_rounds 13 = .ok (.ldc 201, 2) := by decide +kernel
theorem dX12_rounds_15 : decode cX12_rounds 15 = .ok (.ireturn, 1) := by decide +kernel
theorem dX12_rounds_16 : decode cX12_rounds 16 = .ok (.aload_n 0, 1) := by decide +kernel
theorem dX12_rounds_17 : decode cX12_rounds 17 = .ok (.iload_n 1, 1) := by decide +kernel
theorem dX12_rounds_18 : decode cX12_rounds 18 = .ok (.iconst 0, 1) := by decide +kernel
theorem dX12_rounds_19 : decode cX12_rounds 19 = .ok (.invokevirtual 468, 3) := by decide +kernel
theorem dX12_rounds_22 : decode cX12_rounds 22 = .ok (.pop, 1) := by decide +kernel
theorem dX12_rounds_23 : decode cX12_rounds 23 = .ok (.aload_n 0, 1) := by decide +kernel
theorem dX12_rounds_24 : decode cX12_rounds 24 = .ok (.getfield 459, 3) := by decide +kernel
theorem dX12_rounds_27 : decode cX12_rounds 27 = .ok (.ireturn, 1) := by decide +kernel
set_option maxRecDepth 20000 in
theorem ggX12_spark_X12_within : GoodIn wsX12_spark wsX12_within := goodIn_r _ [8] (by decide +kernel) (by decide +kernel)
set_option maxRecDepth 20000 in
theorem gX12_spark_X12_within : GoodIn wsX12_spark (va_wsS RX12 144 yX12_within wsX12_within) := goodIn_app (goodIn_of _ (by decide +kernel)) ggX12_spark_X12_within
set_option maxRecDepth 20000 in
theorem ggX12_spark_X12_bitsOf : GoodIn wsX12_spark wsX12_bitsOf := goodIn_r _ [11] (by decide +kernel) (by decide +kernel)
set_option maxRecDepth 20000 in
theorem gX12_spark_X12_bitsOf : GoodIn wsX12_spark (va_wsS RX12 456 yX12_bitsOf wsX12_bitsOf) := goodIn_app (goodIn_of _ (by decide +kernel)) ggX12_spark_X12_bitsOf
set_option maxRecDepth 20000 in
theorem ggX12_spark_X12_runOf : GoodIn wsX12_spark wsX12_runOf := goodIn_r _ [15, 16, 17, 18, 19, 7, 20, 4, 21, 22, 23, 9, 10, 11, 24, 25, 26, 27, 28, 29, 30, 31, 32, 33, 34, 35, 36, 37, 38, 39, 40, 41, 42, 43, 44, 45, 46, 47, 48, 49, 50, 51, 52, 53, 54, 55, 56, 57, 58, 59] (by decide +kernel) (by decide +kernel)
set_option maxRecDepth 20000 in
theorem gX12_spark_X12_runOf : GoodIn wsX12_spark (wsV RX12 468 RX12 yX12_runOf wsX12_runOf) := goodIn_app (goodIn_of _ (by decide +kernel)) ggX12_spark_X12_runOf
theorem dX12_spark_0 : decode cX12_spark 0 = .ok (.aload_n 0, 1) := by decide +kernel
theorem dX12_spark_1 : decode cX12_spark 1 = .ok (.iconst 0, 1) := by decide +kernel
theorem dX12_spark_2 : decode cX12_spark 2 = .ok (.putfield 1, 3) := by decide +kernel
theorem dX12_spark_5 : decode cX12_spark 5 = .ok (.iload_n 1, 1) := by decide +kernel
theorem dX12_spark_6 : decode cX12_spark 6 = .ok (.i2l, 1) := by decide +kernel
theorem dX12_spark_7 : decode cX12_spark 7 = .ok (.lconst 1, 1) := by decide +kernel
theorem dX12_spark_8 : decode cX12_spark 8 = .ok (.ldc2_w 471, 3) := by decide +kernel
theorem dX12_spark_11 : decode cX12_spark 11 = .ok (.invokestatic 144, 3) := by decide +kernel
theorem dX12_spark_14 : decode cX12_spark 14 = .ok (.ifCond .ne 6, 3) := by decide +kernel
theorem dX12_spark_17 : decode cX12_spark 17 = .ok (.ldc 201, 2) := by decide +kernel
theorem dX12_spark_19 : decode cX12_spark 19 = .ok (.ireturn, 1) := by decide +kernel
theorem dX12_spark_20 : decode cX12_spark 20 = .ok (.iconst (-1), 1) := by decide +kernel
theorem dX12_spark_21 : decode cX12_spark 21 = .ok (.istore_n 2, 1) := by decide +kernel
theorem dX12_spark_22 : decode cX12_spark 22 = .ok (.iconst 0, 1) := by decide +kernel
theorem dX12_spark_23 : decode cX12_spark 23 = .ok (.istore_n 3, 1) := by decide +kernel
theorem dX12_spark_24 : decode cX12_spark 24 = .ok (.iload_n 3, 1) := by decide +kernel
theorem dX12_spark_25 : decode cX12_spark 25 = .ok (.iconst 1, 1) := by decide +kernel
theorem dX12_spark_26 : decode cX12_spark 26 = .ok (.aload_n 0, 1) := by decide +kernel
theorem dX12_spark_27 : decode cX12_spark 27 = .ok (.getfield 13, 3) := by decide +kernel
theorem dX12_spark_30 : decode cX12_spark 30 = .ok (.iconst 3, 1) := by decide +kernel
theorem dX12_spark_31 : decode cX12_spark 31 = .ok (.iaload, 1) := by decide +kernel
theorem dX12_spark_32 : decode cX12_spark 32 = .ok (.ishl, 1) := by decide +kernel
theorem dX12_spark_33 : decode cX12_spark 33 = .ok (.if_icmp .ge 40, 3) := by decide +kernel
theorem dX12_spark_36 : decode cX12_spark 36 = .ok (.iload_n 2, 1) := by decide +kernel
theorem dX12_spark_37 : decode cX12_spark 37 = .ok (.iconst (-1), 1) := by decide +kernel
theorem dX12_spark_38 : decode cX12_spark 38 = .ok (.if_icmp .eq 14, 3) := by decide +kernel
theorem dX12_spark_41 : decode cX12_spark 41 = .ok (.iload_n 3, 1) := by decide +kernel
theorem dX12_spark_42 : decode cX12_spark 42 = .ok (.invokestatic 456, 3) := by decide +kernel
theorem dX12_spark_45 : decode cX12_spark 45 = .ok (.iload_n 2, 1) := by decide +kernel
theorem dX12_spark_46 : decode cX12_spark 46 = .ok (.invokestatic 456, 3) := by decide +kernel
theorem dX12_spark_49 : decode cX12_spark 49 = .ok (.if_icmp .ge 18, 3) := by decide +kernel
theorem dX12_spark_52 : decode cX12_spark 52 = .ok (.aload_n 0, 1) := by decide +kernel
theorem dX12_spark_53 : decode cX12_spark 53 = .ok (.iload_n 3, 1) := by decide +kernel
theorem dX12_spark_54 : decode cX12_spark 54 = .ok (.iconst 0, 1) := by decide +kernel
theorem dX12_spark_55 : decode cX12_spark 55 = .ok (.invokevirtual 468, 3) := by decide +kernel
theorem dX12_spark_58 : decode cX12_spark 58 = .ok (.invokestatic 456, 3) := by decide +kernel
theorem dX12_spark_61 : decode cX12_spark 61 = .ok (.iload_n 1, 1) := by decide +kernel
theorem dX12_spark_62 : decode cX12_spark 62 = .ok (.if_icmp .lt 5, 3) := by decide +kernel
theorem dX12_spark_65 : decode cX12_spark 65 = .ok (.iload_n 3, 1) := by decide +kernel
theorem dX12_spark_66 : decode cX12_spark 66 = .ok (.istore_n 2, 1) := by decide +kernel
theorem dX12_spark_67 : decode cX12_spark 67 = .ok (.iinc 3 1, 3) := by decide +kernel
theorem dX12_spark_70 : decode cX12_spark 70 = .ok (.goto (-46), 3) := by decide +kernel
theorem dX12_spark_73 : decode cX12_spark 73 = .ok (.iload_n 2, 1) := by decide +kernel
theorem dX12_spark_74 : decode cX12_spark 74 = .ok (.ireturn, 1) := by decide +kernel
set_option maxRecDepth 20000 in
theorem ggX12_calm_X12_isSet : GoodIn wsX12_calm wsX12_isSet := goodIn_r _ [9, 4, 28, 29, 30, 31, 32, 33, 34, 35, 36, 37, 38, 39, 40, 41, 42, 43, 44, 45, 46, 47, 48, 49, 50, 51, 52, 53, 54, 55, 56, 57, 58, 59, 60, 61, 62, 63] (by decide +kernel) (by decide +kernel)
set_option maxRecDepth 20000 in
theorem gX12_calm_X12_isSet : GoodIn wsX12_calm (wsV RX12 465 RX12 yX12_isSet wsX12_isSet) := goodIn_app (goodIn_of _ (by decide +kernel)) ggX12_calm_X12_isSet
set_option maxRecDepth 20000 in
theorem ggX12_calm_X12_within : GoodIn wsX12_calm wsX12_within := goodIn_r _ [12] (by decide +kernel) (by decide +kernel)
set_option maxRecDepth 20000 in
theorem gX12_calm_X12_within : GoodIn wsX12_calm (va_wsS RX12 144 yX12_within wsX12_within) := goodIn_app (goodIn_of _ (by decide +kernel)) ggX12_calm_X12_within
set_option maxRecDepth 20000 in
theorem ggX12_calm_X12_bitsOf : GoodIn wsX12_calm wsX12_bitsOf := goodIn_r _ [15] (by decide +kernel) (by decide +kernel)
set_option maxRecDepth 20000 in
theorem gX12_calm_X12_bitsOf : GoodIn wsX12_calm (va_wsS RX12 456 yX12_bitsOf wsX12_bitsOf) := goodIn_app (goodIn_of _ (by decide +kernel)) ggX12_calm_X12_bitsOf
set_option maxRecDepth 20000 in
theorem ggX12_calm_X12_runOf : GoodIn wsX12_calm wsX12_runOf := goodIn_r _ [19, 20, 21, 22, 23, 8, 24, 4, 25, 26, 27, 13, 14, 15, 28, 29, 30, 31, 32, 33, 34, 35, 36, 37, 38, 39, 40, 41, 42, 43, 44, 45, 46, 47, 48, 49, 50, 51, 52, 53, 54, 55, 56, 57, 58, 59, 60, 61, 62, 63] (by decide +kernel) (by decide +kernel)
set_option maxRecDepth 20000 in
theorem gX12_calm_X12_runOf : GoodIn wsX12_calm (wsV RX12 468 RX12 yX12_runOf wsX12_runOf) := goodIn_app (goodIn_of _ (by decide +kernel)) ggX12_calm_X12_runOf
theorem dX12_calm_0 : decode cX12_calm 0 = .ok (.aload_n 0, 1) := by decide +kernel
theorem dX12_calm_1 : decode cX12_calm 1 = .ok (.iconst 0, 1) := by decide +kernel
theorem dX12_calm_2 : decode cX12_calm 2 = .ok (.putfield 1, 3) := by decide +kernel
theorem dX12_calm_5 : decode cX12_calm 5 = .ok (.aload_n 0, 1) := by decide +kernel
theorem dX12_calm_6 : decode cX12_calm 6 = .ok (.iload_n 1, 1) := by decide +kernel
theorem dX12_calm_7 : decode cX12_calm 7 = .ok (.invokevirtual 465, 3) := by decide +kernel
theorem dX12_calm_10 : decode cX12_calm 10 = .ok (.ifCond .eq 15, 3) := by decide +kernel
theorem dX12_calm_13 : decode cX12_calm 13 = .ok (.iload_n 2, 1) := by decide +kernel
theorem dX12_calm_14 : decode cX12_calm 14 = .ok (.i2l, 1) := by decide +kernel
theorem dX12_calm_15 : decode cX12_calm 15 = .ok (.lconst 0, 1) := by decide +kernel
theorem dX12_calm_16 : decode cX12_calm 16 = .ok (.ldc2_w 471, 3) := by decide +kernel
theorem dX12_calm_19 : decode cX12_calm 19 = .ok (.invokestatic 144, 3) := by decide +kernel
theorem dX12_calm_22 : decode cX12_calm 22 = .ok (.ifCond .ne 6, 3) := by decide +kernel
theorem dX12_calm_25 : decode cX12_calm 25 = .ok (.ldc 201, 2) := by decide +kernel
theorem dX12_calm_27 : decode cX12_calm 27 = .ok (.ireturn, 1) := by decide +kernel
theorem dX12_calm_28 : decode cX12_calm 28 = .ok (.iconst (-1), 1) := by decide +kernel
theorem dX12_calm_29 : decode cX12_calm 29 = .ok (.istore_n 3, 1) := by decide +kernel
theorem dX12_calm_30 : decode cX12_calm 30 = .ok (.iconst 0, 1) := by decide +kernel
theorem dX12_calm_31 : decode cX12_calm 31 = .ok (.istore 4, 2) := by decide +kernel
theorem dX12_calm_33 : decode cX12_calm 33 = .ok (.iload 4, 2) := by decide +kernel
theorem dX12_calm_35 : decode cX12_calm 35 = .ok (.iconst 1, 1) := by decide +kernel
theorem dX12_calm_36 : decode cX12_calm 36 = .ok (.aload_n 0, 1) := by decide +kernel
theorem dX12_calm_37 : decode cX12_calm 37 = .ok (.getfield 13, 3) := by decide +kernel
theorem dX12_calm_40 : decode cX12_calm 40 = .ok (.iconst 3, 1) := by decide +kernel
theorem dX12_calm_41 : decode cX12_calm 41 = .ok (.iaload, 1) := by decide +kernel
theorem dX12_calm_42 : decode cX12_calm 42 = .ok (.ishl, 1) := by decide +kernel
theorem dX12_calm_43 : decode cX12_calm 43 = .ok (.if_icmp .ge 53, 3) := by decide +kernel
theorem dX12_calm_46 : decode cX12_calm 46 = .ok (.iload 4, 2) := by decide +kernel
theorem dX12_calm_48 : decode cX12_calm 48 = .ok (.iload_n 1, 1) := by decide +kernel
theorem dX12_calm_49 : decode cX12_calm 49 = .ok (.iand, 1) := by decide +kernel
theorem dX12_calm_50 : decode cX12_calm 50 = .ok (.ifCond .ne 40, 3) := by decide +kernel
theorem dX12_calm_53 : decode cX12_calm 53 = .ok (.iload_n 3, 1) := by decide +kernel
theorem dX12_calm_54 : decode cX12_calm 54 = .ok (.iconst (-1), 1) := by decide +kernel
theorem dX12_calm_55 : decode cX12_calm 55 = .ok (.if_icmp .eq 18, 3) := by decide +kernel
theorem dX12_calm_58 : decode cX12_calm 58 = .ok (.iload 4, 2) := by decide +kernel
theorem dX12_calm_60 : decode cX12_calm 60 = .ok (.invokestatic 456, 3) := by decide +kernel
theorem dX12_calm_63 : decode cX12_calm 63 = .ok (.iload_n 3, 1) := by decide +kernel
theorem dX12_calm_64 : decode cX12_calm 64 = .ok (.invokestatic 456, 3) := by decide +kernel
theorem dX12_calm_67 : decode cX12_calm 67 = .ok (.if_icmp .lt 6, 3) := by decide +kernel
theorem dX12_calm_70 : decode cX12_calm 70 = .ok (.goto 20, 3) := by decide +kernel
theorem dX12_calm_73 : decode cX12_calm 73 = .ok (.aload_n 0, 1) := by decide +kernel
theorem dX12_calm_74 : decode cX12_calm 74 = .ok (.iload_n 1, 1) := by decide +kernel
theorem dX12_calm_75 : decode cX12_calm 75 = .ok (.iload 4, 2) := by decide +kernel
theorem dX12_calm_77 : decode cX12_calm 77 = .ok (.invokevirtual 468, 3) := by decide +kernel
theorem dX12_calm_80 : decode cX12_calm 80 = .ok (.invokestatic 456, 3) := by decide +kernel
theorem dX12_calm_83 : decode cX12_calm 83 = .ok (.iload_n 2, 1) := by decide +kernel
theorem dX12_calm_84 : decode cX12_calm 84 = .ok (.if_icmp .gt 6, 3) := by decide +kernel
theorem dX12_calm_87 : decode cX12_calm 87 = .ok (.iload 4, 2) := by decide +kernel
theorem dX12_calm_89 : decode cX12_calm 89 = .ok (.istore_n 3, 1) := by decide +kernel
theorem dX12_calm_90 : decode cX12_calm 90 = .ok (.iinc 4 1, 3) := by decide +kernel
theorem dX12_calm_93 : decode cX12_calm 93 = .ok (.goto (-60), 3) := by decide +kernel
theorem dX12_calm_96 : decode cX12_calm 96 = .ok (.iload_n 3, 1) := by decide +kernel
theorem dX12_calm_97 : decode cX12_calm 97 = .ok (.ireturn, 1) := by decide +kernel
set_option maxRecDepth 20000 in
theorem ggX12_isRest_X12_isIn : GoodIn wsX12_isRest wsX12_isIn := goodIn_r _ [5] (by decide +kernel) (by decide +kernel)
set_option maxRecDepth 20000 in
theorem gX12_isRest_X12_isIn : GoodIn wsX12_isRest (va_wsS RX12 449 yX12_isIn wsX12_isIn) := goodIn_app (goodIn_of _ (by decide +kernel)) ggX12_isRest_X12_isIn
set_option maxRecDepth 20000 in
theorem ggX12_isRest_X12_bitsOf : GoodIn wsX12_isRest wsX12_bitsOf := goodIn_r _ [8] (by decide +kernel) (by decide +kernel)
set_option maxRecDepth 20000 in
theorem gX12_isRest_X12_bitsOf : GoodIn wsX12_isRest (va_wsS RX12 456 yX12_bitsOf wsX12_bitsOf) := goodIn_app (goodIn_of _ (by decide +kernel)) ggX12_isRest_X12_bitsOf
theorem dX12_isRest_0 : decode cX12_isRest 0 = .ok (.iconst 1, 1) := by decide +kernel
theorem dX12_isRest_1 : decode cX12_isRest 1 = .ok (.istore_n 2, 1) := by decide +kernel
theorem dX12_isRest_2 : decode cX12_isRest 2 = .ok (.iconst 0, 1) := by decide +kernel
theorem dX12_isRest_3 : decode cX12_isRest 3 = .ok (.istore_n 3, 1) := by decide +kernel
theorem dX12_isRest_4 : decode cX12_isRest 4 = .ok (.iload_n 3, 1) := by decide +kernel
theorem dX12_isRest_5 : decode cX12_isRest 5 = .ok (.aload_n 0, 1) := by decide +kernel
theorem dX12_isRest_6 : decode cX12_isRest 6 = .ok (.getfield 13, 3) := by decide +kernel
theorem dX12_isRest_9 : decode cX12_isRest 9 = .ok (.iconst 3, 1) := by decide +kernel
theorem dX12_isRest_10 : decode cX12_isRest 10 = .ok (.iaload, 1) := by decide +kernel
theorem dX12_isRest_11 : decode cX12_isRest 11 = .ok (.if_icmp .ge 68, 3) := by decide +kernel
theorem dX12_isRest_14 : decode cX12_isRest 14 = .ok (.iload_n 2, 1) := by decide +kernel
theorem dX12_isRest_15 : decode cX12_isRest 15 = .ok (.iload_n 1, 1) := by decide +kernel
theorem dX12_isRest_16 : decode cX12_isRest 16 = .ok (.i2l, 1) := by decide +kernel
theorem dX12_isRest_17 : decode cX12_isRest 17 = .ok (.iload_n 3, 1) := by decide +kernel
theorem dX12_isRest_18 : decode cX12_isRest 18 = .ok (.invokestatic 449, 3) := by decide +kernel
theorem dX12_isRest_21 : decode cX12_isRest 21 = .ok (.ifCond .eq 29, 3) := by decide +kernel
theorem dX12_isRest_24 : decode cX12_isRest 24 = .ok (.iload_n 1, 1) := by decide +kernel
theorem dX12_isRest_25 : decode cX12_isRest 25 = .ok (.invokestatic 456, 3) := by decide +kernel
theorem dX12_isRest_28 : decode cX12_isRest 28 = .ok (.iconst 1, 1) := by decide +kernel
theorem dX12_isRest_29 : decode cX12_isRest 29 = .ok (.isub, 1) := by decide +kernel
theorem dX12_isRest_30 : decode cX12_isRest 30 = .ok (.aload_n 0, 1) := by decide +kernel
theorem dX12_isRest_31 : decode cX12_isRest 31 = .ok (.getfield 13, 3) := by decide +kernel
theorem dX12_isRest_34 : decode cX12_isRest 34 = .ok (.bipush 11, 2) := by decide +kernel
theorem dX12_isRest_36 : decode cX12_isRest 36 = .ok (.iload_n 3, 1) := by decide +kernel
theorem dX12_isRest_37 : decode cX12_isRest 37 = .ok (.iadd, 1) := by decide +kernel
theorem dX12_isRest_38 : decode cX12_isRest 38 = .ok (.iaload, 1) := by decide +kernel
theorem dX12_isRest_39 : decode cX12_isRest 39 = .ok (.if_icmp .lt 7, 3) := by decide +kernel
theorem dX12_isRest_42 : decode cX12_isRest 42 = .ok (.iconst 1, 1) := by decide +kernel
theorem dX12_isRest_43 : decode cX12_isRest 43 = .ok (.goto 28, 3) := by decide +kernel
theorem dX12_isRest_46 : decode cX12_isRest 46 = .ok (.iconst 0, 1) := by decide +kernel
theorem dX12_isRest_47 : decode cX12_isRest 47 = .ok (.goto 24, 3) := by decide +kernel
theorem dX12_isRest_50 : decode cX12_isRest 50 = .ok (.iload_n 1, 1) := by decide +kernel
theorem dX12_isRest_51 : decode cX12_isRest 51 = .ok (.invokestatic 456, 3) := by decide +kernel
theorem dX12_isRest_54 : decode cX12_isRest 54 = .ok (.aload_n 0, 1) := by decide +kernel
theorem dX12_isRest_55 : decode cX12_isRest 55 = .ok (.getfield 13, 3) := by decide +kernel
theorem dX12_isRest_58 : decode cX12_isRest 58 = .ok (.bipush 11, 2) := by decide +kernel
theorem dX12_isRest_60 : decode cX12_isRest 60 = .ok (.iload_n 3, 1) := by decide +kernel
theorem dX12_isRest_61 : decode cX12_isRest 61 = .ok (.iadd, 1) := by decide +kernel
theorem dX12_isRest_62 : decode cX12_isRest 62 = .ok (.iaload, 1) := by decide +kernel
theorem dX12_isRest_63 : decode cX12_isRest 63 = .ok (.if_icmp .ge 7, 3) := by decide +kernel
theorem dX12_isRest_66 : decode cX12_isRest 66 = .ok (.iconst 1, 1) := by decide +kernel
theorem dX12_isRest_67 : decode cX12_isRest 67 = .ok (.goto 4, 3) := by decide +kernel
theorem dX12_isRest_70 : decode cX12_isRest 70 = .ok (.iconst 0, 1) := by decide +kernel
theorem dX12_isRest_71 : decode cX12_isRest 71 = .ok (.iand, 1) := by decide +kernel
theorem dX12_isRest_72 : decode cX12_isRest 72 = .ok (.istore_n 2, 1) := by decide +kernel
theorem dX12_isRest_73 : decode cX12_isRest 73 = .ok (.iinc 3 1, 3) := by decide +kernel
theorem dX12_isRest_76 : decode cX12_isRest 76 = .ok (.goto (-72), 3) := by decide +kernel
theorem dX12_isRest_79 : decode cX12_isRest 79 = .ok (.iload_n 2, 1) := by decide +kernel
theorem dX12_isRest_80 : decode cX12_isRest 80 = .ok (.ireturn, 1) := by decide +kernel
set_option maxRecDepth 20000 in
theorem ggX12_rests_X12_isRest : GoodIn wsX12_rests wsX12_isRest := goodIn_r _ [7, 2, 8, 9, 6, 10, 11, 12, 13, 14, 15, 16, 17, 18, 19, 20, 21, 22, 23, 24, 25, 26, 27, 28, 29, 30, 31, 32, 33, 34, 35, 36, 37, 38, 39, 40, 41, 42, 43, 44, 45, 46, 47, 48, 49] (by decide +kernel) (by decide +kernel)
set_option maxRecDepth 20000 in
theorem gX12_rests_X12_isRest : GoodIn wsX12_rests (wsV RX12 473 RX12 yX12_isRest wsX12_isRest) := goodIn_app (goodIn_of _ (by decide +kernel)) ggX12_rests_X12_isRest
theorem dX12_rests_0 : decode cX12_rests 0 = .ok (.aload_n 0, 1) := by decide +kernel
theorem dX12_rests_1 : decode cX12_rests 1 = .ok (.iconst 0, 1) := by decide +kernel
theorem dX12_rests_2 : decode cX12_rests 2 = .ok (.putfield 1, 3) := by decide +kernel
theorem dX12_rests_5 : decode cX12_rests 5 = .ok (.iconst 0, 1) := by decide +kernel
theorem dX12_rests_6 : decode cX12_rests 6 = .ok (.istore_n 1, 1) := by decide +kernel
theorem dX12_rests_7 : decode cX12_rests 7 = .ok (.iconst 0, 1) := by decide +kernel
theorem dX12_rests_8 : decode cX12_rests 8 = .ok (.istore_n 2, 1) := by decide +kernel
theorem dX12_rests_9 : decode cX12_rests 9 = .ok (.iload_n 2, 1) := by decide +kernel
theorem dX12_rests_10 : decode cX12_rests 10 = .ok (.iconst 1, 1) := by decide +kernel
theorem dX12_rests_11 : decode cX12_rests 11 = .ok (.aload_n 0, 1) := by decide +kernel
theorem dX12_rests_12 : decode cX12_rests 12 = .ok (.getfield 13, 3) := by decide +kernel
theorem dX12_rests_15 : decode cX12_rests 15 = .ok (.iconst 3, 1) := by decide +kernel
theorem dX12_rests_16 : decode cX12_rests 16 = .ok (.iaload, 1) := by decide +kernel
theorem dX12_rests_17 : decode cX12_rests 17 = .ok (.ishl, 1) := by decide +kernel
theorem dX12_rests_18 : decode cX12_rests 18 = .ok (.if_icmp .ge 25, 3) := by decide +kernel
theorem dX12_rests_21 : decode cX12_rests 21 = .ok (.iload_n 1, 1) := by decide +kernel
theorem dX12_rests_22 : decode cX12_rests 22 = .ok (.aload_n 0, 1) := by decide +kernel
theorem dX12_rests_23 : decode cX12_rests 23 = .ok (.iload_n 2, 1) := by decide +kernel
theorem dX12_rests_24 : decode cX12_rests 24 = .ok (.invokevirtual 473, 3) := by decide +kernel
theorem dX12_rests_27 : decode cX12_rests 27 = .ok (.ifCond .eq 7, 3) := by decide +kernel
theorem dX12_rests_30 : decode cX12_rests 30 = .ok (.iconst 1, 1) := by decide +kernel
theorem dX12_rests_31 : decode cX12_rests 31 = .ok (.goto 4, 3) := by decide +kernel
theorem dX12_rests_34 : decode cX12_rests 34 = .ok (.iconst 0, 1) := by decide +kernel
theorem dX12_rests_35 : decode cX12_rests 35 = .ok (.iadd, 1) := by decide +kernel
theorem dX12_rests_36 : decode cX12_rests 36 = .ok (.istore_n 1, 1) := by decide +kernel
theorem dX12_rests_37 : decode cX12_rests 37 = .ok (.iinc 2 1, 3) := by decide +kernel
theorem dX12_rests_40 : decode cX12_rests 40 = .ok (.goto (-31), 3) := by decide +kernel
theorem dX12_rests_43 : decode cX12_rests 43 = .ok (.iload_n 1, 1) := by decide +kernel
theorem dX12_rests_44 : decode cX12_rests 44 = .ok (.ireturn, 1) := by decide +kernel
set_option maxRecDepth 20000 in
theorem ggX12_rest_X12_isRest : GoodIn wsX12_rest wsX12_isRest := goodIn_r _ [8, 3, 9, 10, 7, 11, 12, 13, 14, 15, 16, 17, 18, 19, 20, 21, 22, 23, 24, 25, 26, 27, 28, 29, 30, 31, 32, 33, 34, 35, 36, 37, 38, 39, 40, 41, 42, 43, 44, 45, 46, 47, 48, 49, 50] (by decide +kernel) (by decide +kernel)
set_option maxRecDepth 20000 in
theorem gX12_rest_X12_isRest : GoodIn wsX12_rest (wsV RX12 473 RX12 yX12_isRest wsX12_isRest) := goodIn_app (goodIn_of _ (by decide +kernel)) ggX12_rest_X12_isRest
theorem dX12_rest_0 : decode cX12_rest 0 = .ok (.aload_n 0, 1) := by decide +kernel
theorem dX12_rest_1 : decode cX12_rest 1 = .ok (.iconst 0, 1) := by decide +kernel
theorem dX12_rest_2 : decode cX12_rest 2 = .ok (.putfield 1, 3) := by decide +kernel
theorem dX12_rest_5 : decode cX12_rest 5 = .ok (.iload_n 1, 1) := by decide +kernel
theorem dX12_rest_6 : decode cX12_rest 6 = .ok (.ifCond .ge 6, 3) := by decide +kernel
theorem dX12_rest_9 : decode cX12_rest 9 = .ok (.ldc 201, 2) := by decide +kernel
theorem dX12_rest_11 : decode cX12_rest 11 = .ok (.ireturn, 1) := by decide +kernel
theorem dX12_rest_12 : decode cX12_rest 12 = .ok (.iconst 0, 1) := by decide +kernel
theorem dX12_rest_13 : decode cX12_rest 13 = .ok (.istore_n 2, 1) := by decide +kernel
theorem dX12_rest_14 : decode cX12_rest 14 = .ok (.iconst 0, 1) := by decide +kernel
theorem dX12_rest_15 : decode cX12_rest 15 = .ok (.istore_n 3, 1) := by decide +kernel
theorem dX12_rest_16 : decode cX12_rest 16 = .ok (.iload_n 3, 1) := by decide +kernel
theorem dX12_rest_17 : decode cX12_rest 17 = .ok (.iconst 1, 1) := by decide +kernel
theorem dX12_rest_18 : decode cX12_rest 18 = .ok (.aload_n 0, 1) := by decide +kernel
theorem dX12_rest_19 : decode cX12_rest 19 = .ok (.getfield 13, 3) := by decide +kernel
theorem dX12_rest_22 : decode cX12_rest 22 = .ok (.iconst 3, 1) := by decide +kernel
theorem dX12_rest_23 : decode cX12_rest 23 = .ok (.iaload, 1) := by decide +kernel
theorem dX12_rest_24 : decode cX12_rest 24 = .ok (.ishl, 1) := by decide +kernel
theorem dX12_rest_25 : decode cX12_rest 25 = .ok (.if_icmp .ge 30, 3) := by decide +kernel
theorem dX12_rest_28 : decode cX12_rest 28 = .ok (.aload_n 0, 1) := by decide +kernel
theorem dX12_rest_29 : decode cX12_rest 29 = .ok (.iload_n 3, 1) := by decide +kernel
theorem dX12_rest_30 : decode cX12_rest 30 = .ok (.invokevirtual 473, 3) := by decide +kernel
theorem dX12_rest_33 : decode cX12_rest 33 = .ok (.ifCond .ne 6, 3) := by decide +kernel
theorem dX12_rest_36 : decode cX12_rest 36 = .ok (.goto 13, 3) := by decide +kernel
theorem dX12_rest_39 : decode cX12_rest 39 = .ok (.iload_n 2, 1) := by decide +kernel
theorem dX12_rest_40 : decode cX12_rest 40 = .ok (.iload_n 1, 1) := by decide +kernel
theorem dX12_rest_41 : decode cX12_rest 41 = .ok (.if_icmp .ne 5, 3) := by decide +kernel
theorem dX12_rest_44 : decode cX12_rest 44 = .ok (.iload_n 3, 1) := by decide +kernel
theorem dX12_rest_45 : decode cX12_rest 45 = .ok (.ireturn, 1) := by decide +kernel
theorem dX12_rest_46 : decode cX12_rest 46 = .ok (.iinc 2 1, 3) := by decide +kernel
theorem dX12_rest_49 : decode cX12_rest 49 = .ok (.iinc 3 1, 3) := by decide +kernel
theorem dX12_rest_52 : decode cX12_rest 52 = .ok (.goto (-36), 3) := by decide +kernel
theorem dX12_rest_55 : decode cX12_rest 55 = .ok (.iconst (-1), 1) := by decide +kernel
theorem dX12_rest_56 : decode cX12_rest 56 = .ok (.ireturn, 1) := by decide +kernel
theorem dX12_cut_0 : decode cX12_cut 0 = .ok (.iload_n 2, 1) := by decide +kernel
theorem dX12_cut_1 : decode cX12_cut 1 = .ok (.ifCond .ne 10, 3) := by decide +kernel
theorem dX12_cut_4 : decode cX12_cut 4 = .ok (.lload_n 0, 1) := by decide +kernel
theorem dX12_cut_5 : decode cX12_cut 5 = .ok (.l2i, 1) := by decide +kernel
theorem dX12_cut_6 : decode cX12_cut 6 = .ok (.i2b, 1) := by decide +kernel
theorem dX12_cut_7 : decode cX12_cut 7 = .ok (.i2l, 1) := by decide +kernel
theorem dX12_cut_8 : decode cX12_cut 8 = .ok (.goto 27, 3) := by decide +kernel
theorem dX12_cut_11 : decode cX12_cut 11 = .ok (.iload_n 2, 1) := by decide +kernel
theorem dX12_cut_12 : decode cX12_cut 12 = .ok (.iconst 1, 1) := by decide +kernel
theorem dX12_cut_13 : decode cX12_cut 13 = .ok (.if_icmp .ne 10, 3) := by decide +kernel
theorem dX12_cut_16 : decode cX12_cut 16 = .ok (.lload_n 0, 1) := by decide +kernel
theorem dX12_cut_17 : decode cX12_cut 17 = .ok (.l2i, 1) := by decide +kernel
theorem dX12_cut_18 : decode cX12_cut 18 = .ok (.i2s, 1) := by decide +kernel
theorem dX12_cut_19 : decode cX12_cut 19 = .ok (.i2l, 1) := by decide +kernel
theorem dX12_cut_20 : decode cX12_cut 20 = .ok (.goto 15, 3) := by decide +kernel
theorem dX12_cut_23 : decode cX12_cut 23 = .ok (.iload_n 2, 1) := by decide +kernel
theorem dX12_cut_24 : decode cX12_cut 24 = .ok (.iconst 2, 1) := by decide +kernel
theorem dX12_cut_25 : decode cX12_cut 25 = .ok (.if_icmp .ne 9, 3) := by decide +kernel
theorem dX12_cut_28 : decode cX12_cut 28 = .ok (.lload_n 0, 1) := by decide +kernel
theorem dX12_cut_29 : decode cX12_cut 29 = .ok (.l2i, 1) := by decide +kernel
theorem dX12_cut_30 : decode cX12_cut 30 = .ok (.i2l, 1) := by decide +kernel
theorem dX12_cut_31 : decode cX12_cut 31 = .ok (.goto 4, 3) := by decide +kernel
theorem dX12_cut_34 : decode cX12_cut 34 = .ok (.lload_n 0, 1) := by decide +kernel
theorem dX12_cut_35 : decode cX12_cut 35 = .ok (.lreturn, 1) := by decide +kernel
set_option maxRecDepth 20000 in
theorem ggX12_numbers_X12_within : GoodIn wsX12_numbers wsX12_within := goodIn_r _ [12] (by decide +kernel) (by decide +kernel)
set_option maxRecDepth 20000 in
theorem gX12_numbers_X12_within : GoodIn wsX12_numbers (va_wsS RX12 144 yX12_within wsX12_within) := goodIn_app (goodIn_of _ (by decide +kernel)) ggX12_numbers_X12_within
theorem dX12_numbers_0 : decode cX12_numbers 0 = .ok (.aload_n 0, 1) := by decide +kernel
theorem dX12_numbers_1 : decode cX12_numbers 1 = .ok (.iconst 0, 1) := by decide +kernel
theorem dX12_numbers_2 : decode cX12_numbers 2 = .ok (.putfield 1, 3) := by decide +kernel
theorem dX12_numbers_5 : decode cX12_numbers 5 = .ok (.iload_n 1, 1) := by decide +kernel
theorem dX12_numbers_6 : decode cX12_numbers 6 = .ok (.i2l, 1) := by decide +kernel
theorem dX12_numbers_7 : decode cX12_numbers 7 = .ok (.lconst 0, 1) := by decide +kernel
theorem dX12_numbers_8 : decode cX12_numbers 8 = .ok (.ldc2_w 330, 3) := by decide +kernel
theorem dX12_numbers_11 : decode cX12_numbers 11 = .ok (.invokestatic 144, 3) := by decide +kernel
theorem dX12_numbers_14 : decode cX12_numbers 14 = .ok (.ifCond .eq 15, 3) := by decide +kernel
theorem dX12_numbers_17 : decode cX12_numbers 17 = .ok (.iload_n 2, 1) := by decide +kernel
theorem dX12_numbers_18 : decode cX12_numbers 18 = .ok (.i2l, 1) := by decide +kernel
theorem dX12_numbers_19 : decode cX12_numbers 19 = .ok (.lconst 0, 1) := by decide +kernel
theorem dX12_numbers_20 : decode cX12_numbers 20 = .ok (.ldc2_w 330, 3) := by decide +kernel
theorem dX12_numbers_23 : decode cX12_numbers 23 = .ok (.invokestatic 144, 3) := by decide +kernel
theorem dX12_numbers_26 : decode cX12_numbers 26 = .ok (.ifCond .ne 6, 3) := by decide +kernel
theorem dX12_numbers_29 : decode cX12_numbers 29 = .ok (.ldc 249, 2) := by decide +kernel
theorem dX12_numbers_31 : decode cX12_numbers 31 = .ok (.ireturn, 1) := by decide +kernel
theorem dX12_numbers_32 : decode cX12_numbers 32 = .ok (.iload_n 3, 1) := by decide +kernel
theorem dX12_numbers_33 : decode cX12_numbers 33 = .ok (.i2l, 1) := by decide +kernel
theorem dX12_numbers_34 : decode cX12_numbers 34 = .ok (.lconst 0, 1) := by decide +kernel
theorem dX12_numbers_35 : decode cX12_numbers 35 = .ok (.ldc2_w 355, 3) := by decide +kernel
theorem dX12_numbers_38 : decode cX12_numbers 38 = .ok (.invokestatic 144, 3) := by decide +kernel
theorem dX12_numbers_41 : decode cX12_numbers 41 = .ok (.ifCond .ne 6, 3) := by decide +kernel
theorem dX12_numbers_44 : decode cX12_numbers 44 = .ok (.ldc 201, 2) := by decide +kernel
theorem dX12_numbers_46 : decode cX12_numbers 46 = .ok (.ireturn, 1) := by decide +kernel
theorem dX12_numbers_47 : decode cX12_numbers 47 = .ok (.aload_n 0, 1) := by decide +kernel
theorem dX12_numbers_48 : decode cX12_numbers 48 = .ok (.getfield 68, 3) := by decide +kernel
theorem dX12_numbers_51 : decode cX12_numbers 51 = .ok (.iload_n 1, 1) := by decide +kernel
theorem dX12_numbers_52 : decode cX12_numbers 52 = .ok (.iload_n 2, 1) := by decide +kernel
theorem dX12_numbers_53 : decode cX12_numbers 53 = .ok (.iastore, 1) := by decide +kernel
theorem dX12_numbers_54 : decode cX12_numbers 54 = .ok (.aload_n 0, 1) := by decide +kernel
theorem dX12_numbers_55 : decode cX12_numbers 55 = .ok (.getfield 71, 3) := by decide +kernel
theorem dX12_numbers_58 : decode cX12_numbers 58 = .ok (.iload_n 1, 1) := by decide +kernel
theorem dX12_numbers_59 : decode cX12_numbers 59 = .ok (.iload_n 3, 1) := by decide +kernel
theorem dX12_numbers_60 : decode cX12_numbers 60 = .ok (.iastore, 1) := by decide +kernel
theorem dX12_numbers_61 : decode cX12_numbers 61 = .ok (.iconst 0, 1) := by decide +kernel
theorem dX12_numbers_62 : decode cX12_numbers 62 = .ok (.istore 4, 2) := by decide +kernel
theorem dX12_numbers_64 : decode cX12_numbers 64 = .ok (.iload 4, 2) := by decide +kernel
theorem dX12_numbers_66 : decode cX12_numbers 66 = .ok (.iload_n 3, 1) := by decide +kernel
theorem dX12_numbers_67 : decode cX12_numbers 67 = .ok (.if_icmp .ge 22, 3) := by decide +kernel
theorem dX12_numbers_70 : decode cX12_numbers 70 = .ok (.aload_n 0, 1) := by decide +kernel
theorem dX12_numbers_71 : decode cX12_numbers 71 = .ok (.getfield 74, 3) := by decide +kernel
theorem dX12_numbers_74 : decode cX12_numbers 74 = .ok (.bipush 40, 2) := by decide +kernel
theorem dX12_numbers_76 : decode cX12_numbers 76 = .ok (.iload_n 1, 1) := by decide +kernel
theorem dX12_numbers_77 : decode cX12_numbers 77 = .ok (.imul, 1) := by decide +kernel
theorem dX12_numbers_78 : decode cX12_numbers 78 = .ok (.iload 4, 2) := by decide +kernel
theorem dX12_numbers_80 : decode cX12_numbers 80 = .ok (.iadd, 1) := by decide +kernel
theorem dX12_numbers_81 : decode cX12_numbers 81 = .ok (.lconst 0, 1) := by decide +kernel
theorem dX12_numbers_82 : decode cX12_numbers 82 = .ok (.lastore, 1) := by decide +kernel
theorem dX12_numbers_83 : decode cX12_numbers 83 = .ok (.iinc 4 1, 3) := by decide +kernel
theorem dX12_numbers_86 : decode cX12_numbers 86 = .ok (.goto (-22), 3) := by decide +kernel
theorem dX12_numbers_89 : decode cX12_numbers 89 = .ok (.iconst 0, 1) := by decide +kernel
theorem dX12_numbers_90 : decode cX12_numbers 90 = .ok (.ireturn, 1) := by decide +kernel
set_option maxRecDepth 20000 in
theorem ggX12_write_X12_noTray : GoodIn wsX12_write wsX12_noTray := goodIn_r _ [10, 11, 12, 5, 13, 14, 15, 9, 16, 20, 21, 22, 23, 24, 25, 26, 27, 28, 29, 30, 31, 32, 33, 34, 35, 36, 37, 38, 39, 40, 41, 42, 43, 44, 45, 46, 47, 48, 49, 50, 51, 52, 53, 54, 55] (by decide +kernel) (by decide +kernel)
set_option maxRecDepth 20000 in
theorem gX12_write_X12_noTray : GoodIn wsX12_write (wsV RX12 333 RX12 yX12_noTray wsX12_noTray) := goodIn_app (goodIn_of _ (by decide +kernel)) ggX12_write_X12_noTray
set_option maxRecDepth 20000 in
theorem ggX12_write_X12_within : GoodIn wsX12_write wsX12_within := goodIn_r _ [16] (by decide +kernel) (by decide +kernel)
set_option maxRecDepth 20000 in
theorem gX12_write_X12_within : GoodIn wsX12_write (va_wsS RX12 144 yX12_within wsX12_within) := goodIn_app (goodIn_of _ (by decide +kernel)) ggX12_write_X12_within
set_option maxRecDepth 20000 in
theorem ggX12_write_X12_cut : GoodIn wsX12_write wsX12_cut := goodIn_r _ [19] (by decide +kernel) (by decide +kernel)
set_option maxRecDepth 20000 in
theorem gX12_write_X12_cut : GoodIn wsX12_write (va_wsS RX12 478 yX12_cut wsX12_cut) := goodIn_app (goodIn_of _ (by decide +kernel)) ggX12_write_X12_cut
theorem dX12_write_0 : decode cX12_write 0 = .ok (.aload_n 0, 1) := by decide +kernel
theorem dX12_write_1 : decode cX12_write 1 = .ok (.iconst 0, 1) := by decide +kernel
theorem dX12_write_2 : decode cX12_write 2 = .ok (.putfield 1, 3) := by decide +kernel
theorem dX12_write_5 : decode cX12_write 5 = .ok (.aload_n 0, 1) := by decide +kernel
theorem dX12_write_6 : decode cX12_write 6 = .ok (.iload_n 1, 1) := by decide +kernel
theorem dX12_write_7 : decode cX12_write 7 = .ok (.invokevirtual 333, 3) := by decide +kernel
theorem dX12_write_10 : decode cX12_write 10 = .ok (.istore 5, 2) := by decide +kernel
theorem dX12_write_12 : decode cX12_write 12 = .ok (.iload 5, 2) := by decide +kernel
theorem dX12_write_14 : decode cX12_write 14 = .ok (.ifCond .eq 7, 3) := by decide +kernel
theorem dX12_write_17 : decode cX12_write 17 = .ok (.iload 5, 2) := by decide +kernel
theorem dX12_write_19 : decode cX12_write 19 = .ok (.i2l, 1) := by decide +kernel
theorem dX12_write_20 : decode cX12_write 20 = .ok (.lreturn, 1) := by decide +kernel
theorem dX12_write_21 : decode cX12_write 21 = .ok (.iload_n 2, 1) := by decide +kernel
theorem dX12_write_22 : decode cX12_write 22 = .ok (.i2l, 1) := by decide +kernel
theorem dX12_write_23 : decode cX12_write 23 = .ok (.lconst 0, 1) := by decide +kernel
theorem dX12_write_24 : decode cX12_write 24 = .ok (.aload_n 0, 1) := by decide +kernel
theorem dX12_write_25 : decode cX12_write 25 = .ok (.getfield 71, 3) := by decide +kernel
theorem dX12_write_28 : decode cX12_write 28 = .ok (.iload_n 1, 1) := by decide +kernel
theorem dX12_write_29 : decode cX12_write 29 = .ok (.iaload, 1) := by decide +kernel
theorem dX12_write_30 : decode cX12_write 30 = .ok (.iconst 1, 1) := by decide +kernel
theorem dX12_write_31 : decode cX12_write 31 = .ok (.isub, 1) := by decide +kernel
theorem dX12_write_32 : decode cX12_write 32 = .ok (.i2l, 1) := by decide +kernel
theorem dX12_write_33 : decode cX12_write 33 = .ok (.invokestatic 144, 3) := by decide +kernel
theorem dX12_write_36 : decode cX12_write 36 = .ok (.ifCond .ne 7, 3) := by decide +kernel
theorem dX12_write_39 : decode cX12_write 39 = .ok (.ldc2_w 476, 3) := by decide +kernel
theorem dX12_write_42 : decode cX12_write 42 = .ok (.lreturn, 1) := by decide +kernel
theorem dX12_write_43 : decode cX12_write 43 = .ok (.aload_n 0, 1) := by decide +kernel
theorem dX12_write_44 : decode cX12_write 44 = .ok (.getfield 74, 3) := by decide +kernel
theorem dX12_write_47 : decode cX12_write 47 = .ok (.bipush 40, 2) := by decide +kernel
theorem dX12_write_49 : decode cX12_write 49 = .ok (.iload_n 1, 1) := by decide +kernel
theorem dX12_write_50 : decode cX12_write 50 = .ok (.imul, 1) := by decide +kernel
theorem dX12_write_51 : decode cX12_write 51 = .ok (.iload_n 2, 1) := by decide +kernel
theorem dX12_write_52 : decode cX12_write 52 = .ok (.iadd, 1) := by decide +kernel
theorem dX12_write_53 : decode cX12_write 53 = .ok (.lload_n 3, 1) := by decide +kernel
theorem dX12_write_54 : decode cX12_write 54 = .ok (.aload_n 0, 1) := by decide +kernel
theorem dX12_write_55 : decode cX12_write 55 = .ok (.getfield 68, 3) := by decide +kernel
theorem dX12_write_58 : decode cX12_write 58 = .ok (.iload_n 1, 1) := by decide +kernel
theorem dX12_write_59 : decode cX12_write 59 = .ok (.iaload, 1) := by decide +kernel
theorem dX12_write_60 : decode cX12_write 60 = .ok (.invokestatic 478, 3) := by decide +kernel
theorem dX12_write_63 : decode cX12_write 63 = .ok (.lastore, 1) := by decide +kernel
theorem dX12_write_64 : decode cX12_write 64 = .ok (.aload_n 0, 1) := by decide +kernel
theorem dX12_write_65 : decode cX12_write 65 = .ok (.getfield 74, 3) := by decide +kernel
theorem dX12_write_68 : decode cX12_write 68 = .ok (.bipush 40, 2) := by decide +kernel
theorem dX12_write_70 : decode cX12_write 70 = .ok (.iload_n 1, 1) := by decide +kernel
theorem dX12_write_71 : decode cX12_write 71 = .ok (.imul, 1) := by decide +kernel
theorem dX12_write_72 : decode cX12_write 72 = .ok (.iload_n 2, 1) := by decide +kernel
theorem dX12_write_73 : decode cX12_write 73 = .ok (.iadd, 1) := by decide +kernel
theorem dX12_write_74 : decode cX12_write 74 = .ok (.laload, 1) := by decide +kernel
theorem dX12_write_75 : decode cX12_write 75 = .ok (.lreturn, 1) := by decide +kernel
set_option maxRecDepth 20000 in
theorem ggX12_lists_X12_within : GoodIn wsX12_lists wsX12_within := goodIn_r _ [10] (by decide +kernel) (by decide +kernel)
set_option maxRecDepth 20000 in
theorem gX12_lists_X12_within : GoodIn wsX12_lists (va_wsS RX12 144 yX12_within wsX12_within) := goodIn_app (goodIn_of _ (by decide +kernel)) ggX12_lists_X12_within
set_option maxRecDepth 20000 in
theorem ggX12_lists_X12_isPerson : GoodIn wsX12_lists wsX12_isPerson := goodIn_r _ [14, 15, 7, 8, 9, 10, 105, 106, 107, 108, 109, 110, 111, 112, 113, 114, 115, 116, 117, 118, 119, 120, 121, 122, 123, 124, 125, 126, 127, 128, 129, 130, 131, 132, 133, 134, 135, 136, 137, 138, 139, 140] (by decide +kernel) (by decide +kernel)
set_option maxRecDepth 20000 in
theorem gX12_lists_X12_isPerson : GoodIn wsX12_lists (wsV RX12 245 RX12 yX12_isPerson wsX12_isPerson) := goodIn_app (goodIn_of _ (by decide +kernel)) ggX12_lists_X12_isPerson
set_option maxRecDepth 20000 in
theorem ggX12_lists_X12_noTray : GoodIn wsX12_lists wsX12_noTray := goodIn_r _ [19, 2, 3, 6, 20, 7, 8, 9, 10, 105, 106, 107, 108, 109, 110, 111, 112, 113, 114, 115, 116, 117, 118, 119, 120, 121, 122, 123, 124, 125, 126, 127, 128, 129, 130, 131, 132, 133, 134, 135, 136, 137, 138, 139, 140] (by decide +kernel) (by decide +kernel)
set_option maxRecDepth 20000 in
theorem gX12_lists_X12_noTray : GoodIn wsX12_lists (wsV RX12 333 RX12 yX12_noTray wsX12_noTray) := goodIn_app (goodIn_of _ (by decide +kernel)) ggX12_lists_X12_noTray
set_option maxRecDepth 20000 in
theorem ggX12_lists_X12_courseAt : GoodIn wsX12_lists wsX12_courseAt := goodIn_r _ [24, 25, 26, 27, 28, 9, 29, 15, 30, 31, 32, 33, 34, 35, 36, 37, 38, 39, 40, 41, 42, 43, 44, 45, 46, 47, 48, 49, 50, 51, 52, 53, 54, 55, 56, 57, 58, 59, 60, 61, 62, 63, 64, 65, 66, 67, 68, 69, 70, 71, 72, 73, 74, 75, 76, 77, 78, 79, 80, 81, 82, 83, 84, 85, 86, 87, 88, 89, 90, 91, 92, 93, 94, 95, 96, 97, 98, 99, 100, 101, 105, 106, 107, 108, 109, 110, 111, 112, 113, 114, 115, 116, 117, 118, 119, 120, 121, 122, 123, 124, 125, 126, 127, 128, 129, 130, 131, 132, 133, 134, 135, 136, 137, 138, 139, 140] (by decide +kernel) (by decide +kernel)
set_option maxRecDepth 20000 in
theorem gX12_lists_X12_courseAt : GoodIn wsX12_lists (wsV RX12 382 RX12 yX12_courseAt wsX12_courseAt) := goodIn_app (goodIn_of _ (by decide +kernel)) ggX12_lists_X12_courseAt
set_option maxRecDepth 20000 in
theorem ggX12_lists_X12_cut : GoodIn wsX12_lists wsX12_cut := goodIn_r _ [104] (by decide +kernel) (by decide +kernel)
set_option maxRecDepth 20000 in
theorem gX12_lists_X12_cut : GoodIn wsX12_lists (va_wsS RX12 478 yX12_cut wsX12_cut) := goodIn_app (goodIn_of _ (by decide +kernel)) ggX12_lists_X12_cut
theorem dX12_lists_0 : decode cX12_lists 0 = .ok (.aload_n 0, 1) := by decide +kernel
theorem dX12_lists_1 : decode cX12_lists 1 = .ok (.iconst 0, 1) := by decide +kernel
theorem dX12_lists_2 : decode cX12_lists 2 = .ok (.putfield 1, 3) := by decide +kernel
theorem dX12_lists_5 : decode cX12_lists 5 = .ok (.iload_n 1, 1) := by decide +kernel
theorem dX12_lists_6 : decode cX12_lists 6 = .ok (.i2l, 1) := by decide +kernel
theorem dX12_lists_7 : decode cX12_lists 7 = .ok (.lconst 0, 1) := by decide +kernel
theorem dX12_lists_8 : decode cX12_lists 8 = .ok (.ldc2_w 330, 3) := by decide +kernel
theorem dX12_lists_11 : decode cX12_lists 11 = .ok (.invokestatic 144, 3) := by decide +kernel
theorem dX12_lists_14 : decode cX12_lists 14 = .ok (.ifCond .eq 12, 3) := by decide +kernel
theorem dX12_lists_17 : decode cX12_lists 17 = .ok (.aload_n 0, 1) := by decide +kernel
theorem dX12_lists_18 : decode cX12_lists 18 = .ok (.iload_n 2, 1) := by decide +kernel
theorem dX12_lists_19 : decode cX12_lists 19 = .ok (.i2l, 1) := by decide +kernel
theorem dX12_lists_20 : decode cX12_lists 20 = .ok (.invokevirtual 245, 3) := by decide +kernel
theorem dX12_lists_23 : decode cX12_lists 23 = .ok (.ifCond .ne 6, 3) := by decide +kernel
theorem dX12_lists_26 : decode cX12_lists 26 = .ok (.ldc 249, 2) := by decide +kernel
theorem dX12_lists_28 : decode cX12_lists 28 = .ok (.ireturn, 1) := by decide +kernel
theorem dX12_lists_29 : decode cX12_lists 29 = .ok (.aload_n 0, 1) := by decide +kernel
theorem dX12_lists_30 : decode cX12_lists 30 = .ok (.iload_n 1, 1) := by decide +kernel
theorem dX12_lists_31 : decode cX12_lists 31 = .ok (.invokevirtual 333, 3) := by decide +kernel
theorem dX12_lists_34 : decode cX12_lists 34 = .ok (.istore_n 3, 1) := by decide +kernel
theorem dX12_lists_35 : decode cX12_lists 35 = .ok (.iload_n 3, 1) := by decide +kernel
theorem dX12_lists_36 : decode cX12_lists 36 = .ok (.ifCond .eq 5, 3) := by decide +kernel
theorem dX12_lists_39 : decode cX12_lists 39 = .ok (.iload_n 3, 1) := by decide +kernel
theorem dX12_lists_40 : decode cX12_lists 40 = .ok (.ireturn, 1) := by decide +kernel
theorem dX12_lists_41 : decode cX12_lists 41 = .ok (.iconst 0, 1) := by decide +kernel
theorem dX12_lists_42 : decode cX12_lists 42 = .ok (.istore 4, 2) := by decide +kernel
theorem dX12_lists_44 : decode cX12_lists 44 = .ok (.iload 4, 2) := by decide +kernel
theorem dX12_lists_46 : decode cX12_lists 46 = .ok (.aload_n 0, 1) := by decide +kernel
theorem dX12_lists_47 : decode cX12_lists 47 = .ok (.getfield 71, 3) := by decide +kernel
theorem dX12_lists_50 : decode cX12_lists 50 = .ok (.iload_n 1, 1) := by decide +kernel
theorem dX12_lists_51 : decode cX12_lists 51 = .ok (.iaload, 1) := by decide +kernel
theorem dX12_lists_52 : decode cX12_lists 52 = .ok (.if_icmp .ge 73, 3) := by decide +kernel
theorem dX12_lists_55 : decode cX12_lists 55 = .ok (.aload_n 0, 1) := by decide +kernel
theorem dX12_lists_56 : decode cX12_lists 56 = .ok (.iload_n 2, 1) := by decide +kernel
theorem dX12_lists_57 : decode cX12_lists 57 = .ok (.iload 4, 2) := by decide +kernel
theorem dX12_lists_59 : decode cX12_lists 59 = .ok (.invokevirtual 382, 3) := by decide +kernel
theorem dX12_lists_62 : decode cX12_lists 62 = .ok (.iconst (-1), 1) := by decide +kernel
theorem dX12_lists_63 : decode cX12_lists 63 = .ok (.if_icmp .eq 62, 3) := by decide +kernel
theorem dX12_lists_66 : decode cX12_lists 66 = .ok (.aload_n 0, 1) := by decide +kernel
theorem dX12_lists_67 : decode cX12_lists 67 = .ok (.iload_n 2, 1) := by decide +kernel
theorem dX12_lists_68 : decode cX12_lists 68 = .ok (.iload 4, 2) := by decide +kernel
theorem dX12_lists_70 : decode cX12_lists 70 = .ok (.invokevirtual 382, 3) := by decide +kernel
theorem dX12_lists_73 : decode cX12_lists 73 = .ok (.istore 5, 2) := by decide +kernel
theorem dX12_lists_75 : decode cX12_lists 75 = .ok (.aload_n 0, 1) := by decide +kernel
theorem dX12_lists_76 : decode cX12_lists 76 = .ok (.getfield 74, 3) := by decide +kernel
theorem dX12_lists_79 : decode cX12_lists 79 = .ok (.bipush 40, 2) := by decide +kernel
theorem dX12_lists_81 : decode cX12_lists 81 = .ok (.iload_n 1, 1) := by decide +kernel
theorem dX12_lists_82 : decode cX12_lists 82 = .ok (.imul, 1) := by decide +kernel
theorem dX12_lists_83 : decode cX12_lists 83 = .ok (.iload 4, 2) := by decide +kernel
theorem dX12_lists_85 : decode cX12_lists 85 = .ok (.iadd, 1) := by decide +kernel
theorem dX12_lists_86 : decode cX12_lists 86 = .ok (.iload 5, 2) := by decide +kernel
theorem dX12_lists_88 : decode cX12_lists 88 = .ok (.bipush 9, 2) := by decide +kernel
theorem dX12_lists_90 : decode cX12_lists 90 = .ok (.if_icmp .ne 11, 3) := by decide +kernel
theorem dX12_lists_93 : decode cX12_lists 93 = .ok (.bipush 100, 2) := by decide +kernel
theorem dX12_lists_95 : decode cX12_lists 95 = .ok (.iload_n 2, 1) := by decide +kernel
theorem dX12_lists_96 : decode cX12_lists 96 = .ok (.iadd, 1) := by decide +kernel
theorem dX12_lists_97 : decode cX12_lists 97 = .ok (.i2l, 1) := by decide +kernel
theorem dX12_lists_98 : decode cX12_lists 98 = .ok (.goto 11, 3) := by decide +kernel
theorem dX12_lists_101 : decode cX12_lists 101 = .ok (.bipush 10, 2) := by decide +kernel
theorem dX12_lists_103 : decode cX12_lists 103 = .ok (.iload_n 2, 1) := by decide +kernel
theorem dX12_lists_104 : decode cX12_lists 104 = .ok (.imul, 1) := by decide +kernel
theorem dX12_lists_105 : decode cX12_lists 105 = .ok (.iload 5, 2) := by decide +kernel
theorem dX12_lists_107 : decode cX12_lists 107 = .ok (.iadd, 1) := by decide +kernel
theorem dX12_lists_108 : decode cX12_lists 108 = .ok (.i2l, 1) := by decide +kernel
theorem dX12_lists_109 : decode cX12_lists 109 = .ok (.aload_n 0, 1) := by decide +kernel
theorem dX12_lists_110 : decode cX12_lists 110 = .ok (.getfield 68, 3) := by decide +kernel
theorem dX12_lists_113 : decode cX12_lists 113 = .ok (.iload_n 1, 1) := by decide +kernel
theorem dX12_lists_114 : decode cX12_lists 114 = .ok (.iaload, 1) := by decide +kernel
theorem dX12_lists_115 : decode cX12_lists 115 = .ok (.invokestatic 478, 3) := by decide +kernel
theorem dX12_lists_118 : decode cX12_lists 118 = .ok (.lastore, 1) := by decide +kernel
theorem dX12_lists_119 : decode cX12_lists 119 = .ok (.iinc 4 1, 3) := by decide +kernel
theorem dX12_lists_122 : decode cX12_lists 122 = .ok (.goto (-78), 3) := by decide +kernel
theorem dX12_lists_125 : decode cX12_lists 125 = .ok (.iload 4, 2) := by decide +kernel
theorem dX12_lists_127 : decode cX12_lists 127 = .ok (.ireturn, 1) := by decide +kernel
set_option maxRecDepth 20000 in
theorem ggX12_image_X12_within : GoodIn wsX12_image wsX12_within := goodIn_r _ [8] (by decide +kernel) (by decide +kernel)
set_option maxRecDepth 20000 in
theorem gX12_image_X12_within : GoodIn wsX12_image (va_wsS RX12 144 yX12_within wsX12_within) := goodIn_app (goodIn_of _ (by decide +kernel)) ggX12_image_X12_within
theorem dX12_image_0 : decode cX12_image 0 = .ok (.aload_n 0, 1) := by decide +kernel
theorem dX12_image_1 : decode cX12_image 1 = .ok (.iconst 0, 1) := by decide +kernel
theorem dX12_image_2 : decode cX12_image 2 = .ok (.putfield 1, 3) := by decide +kernel
theorem dX12_image_5 : decode cX12_image 5 = .ok (.iload_n 1, 1) := by decide +kernel
theorem dX12_image_6 : decode cX12_image 6 = .ok (.i2l, 1) := by decide +kernel
theorem dX12_image_7 : decode cX12_image 7 = .ok (.lconst 0, 1) := by decide +kernel
theorem dX12_image_8 : decode cX12_image 8 = .ok (.lconst 1, 1) := by decide +kernel
theorem dX12_image_9 : decode cX12_image 9 = .ok (.invokestatic 144, 3) := by decide +kernel
theorem dX12_image_12 : decode cX12_image 12 = .ok (.ifCond .ne 6, 3) := by decide +kernel
theorem dX12_image_15 : decode cX12_image 15 = .ok (.ldc 249, 2) := by decide +kernel
theorem dX12_image_17 : decode cX12_image 17 = .ok (.ireturn, 1) := by decide +kernel
theorem dX12_image_18 : decode cX12_image 18 = .ok (.iconst 0, 1) := by decide +kernel
theorem dX12_image_19 : decode cX12_image 19 = .ok (.istore_n 2, 1) := by decide +kernel
theorem dX12_image_20 : decode cX12_image 20 = .ok (.iload_n 2, 1) := by decide +kernel
theorem dX12_image_21 : decode cX12_image 21 = .ok (.sipush 1458, 3) := by decide +kernel
theorem dX12_image_24 : decode cX12_image 24 = .ok (.if_icmp .ge 29, 3) := by decide +kernel
theorem dX12_image_27 : decode cX12_image 27 = .ok (.aload_n 0, 1) := by decide +kernel
theorem dX12_image_28 : decode cX12_image 28 = .ok (.getfield 13, 3) := by decide +kernel
theorem dX12_image_31 : decode cX12_image 31 = .ok (.sipush 1458, 3) := by decide +kernel
theorem dX12_image_34 : decode cX12_image 34 = .ok (.iload_n 1, 1) := by decide +kernel
theorem dX12_image_35 : decode cX12_image 35 = .ok (.iconst 1, 1) := by decide +kernel
theorem dX12_image_36 : decode cX12_image 36 = .ok (.iadd, 1) := by decide +kernel
theorem dX12_image_37 : decode cX12_image 37 = .ok (.imul, 1) := by decide +kernel
theorem dX12_image_38 : decode cX12_image 38 = .ok (.iload_n 2, 1) := by decide +kernel
theorem dX12_image_39 : decode cX12_image 39 = .ok (.iadd, 1) := by decide +kernel
theorem dX12_image_40 : decode cX12_image 40 = .ok (.aload_n 0, 1) := by decide +kernel
theorem dX12_image_41 : decode cX12_image 41 = .ok (.getfield 13, 3) := by decide +kernel
theorem dX12_image_44 : decode cX12_image 44 = .ok (.iload_n 2, 1) := by decide +kernel
theorem dX12_image_45 : decode cX12_image 45 = .ok (.iaload, 1) := by decide +kernel
theorem dX12_image_46 : decode cX12_image 46 = .ok (.iastore, 1) := by decide +kernel
theorem dX12_image_47 : decode cX12_image 47 = .ok (.iinc 2 1, 3) := by decide +kernel
theorem dX12_image_50 : decode cX12_image 50 = .ok (.goto (-30), 3) := by decide +kernel
theorem dX12_image_53 : decode cX12_image 53 = .ok (.aload_n 0, 1) := by decide +kernel
theorem dX12_image_54 : decode cX12_image 54 = .ok (.getfield 17, 3) := by decide +kernel
theorem dX12_image_57 : decode cX12_image 57 = .ok (.iload_n 1, 1) := by decide +kernel
theorem dX12_image_58 : decode cX12_image 58 = .ok (.iconst 1, 1) := by decide +kernel
theorem dX12_image_59 : decode cX12_image 59 = .ok (.bastore, 1) := by decide +kernel
theorem dX12_image_60 : decode cX12_image 60 = .ok (.iconst 0, 1) := by decide +kernel
theorem dX12_image_61 : decode cX12_image 61 = .ok (.ireturn, 1) := by decide +kernel
set_option maxRecDepth 20000 in
theorem ggX12_restore_X12_within : GoodIn wsX12_restore wsX12_within := goodIn_r _ [9] (by decide +kernel) (by decide +kernel)
set_option maxRecDepth 20000 in
theorem gX12_restore_X12_within : GoodIn wsX12_restore (va_wsS RX12 144 yX12_within wsX12_within) := goodIn_app (goodIn_of _ (by decide +kernel)) ggX12_restore_X12_within
theorem dX12_restore_0 : decode cX12_restore 0 = .ok (.aload_n 0, 1) := by decide +kernel
theorem dX12_restore_1 : decode cX12_restore 1 = .ok (.iconst 0, 1) := by decide +kernel
theorem dX12_restore_2 : decode cX12_restore 2 = .ok (.putfield 1, 3) := by decide +kernel
theorem dX12_restore_5 : decode cX12_restore 5 = .ok (.iload_n 1, 1) := by decide +kernel
theorem dX12_restore_6 : decode cX12_restore 6 = .ok (.i2l, 1) := by decide +kernel
theorem dX12_restore_7 : decode cX12_restore 7 = .ok (.lconst 0, 1) := by decide +kernel
theorem dX12_restore_8 : decode cX12_restore 8 = .ok (.lconst 1, 1) := by decide +kernel
theorem dX12_restore_9 : decode cX12_restore 9 = .ok (.invokestatic 144, 3) := by decide +kernel
theorem dX12_restore_12 : decode cX12_restore 12 = .ok (.ifCond .ne 6, 3) := by decide +kernel
theorem dX12_restore_15 : decode cX12_restore 15 = .ok (.ldc 249, 2) := by decide +kernel
theorem dX12_restore_17 : decode cX12_restore 17 = .ok (.ireturn, 1) := by decide +kernel
theorem dX12_restore_18 : decode cX12_restore 18 = .ok (.aload_n 0, 1) := by decide +kernel
theorem dX12_restore_19 : decode cX12_restore 19 = .ok (.getfield 17, 3) := by decide +kernel
theorem dX12_restore_22 : decode cX12_restore 22 = .ok (.iload_n 1, 1) := by decide +kernel
theorem dX12_restore_23 : decode cX12_restore 23 = .ok (.baload, 1) := by decide +kernel
theorem dX12_restore_24 : decode cX12_restore 24 = .ok (.ifCond .ne 6, 3) := by decide +kernel
theorem dX12_restore_27 : decode cX12_restore 27 = .ok (.ldc 84, 2) := by decide +kernel
theorem dX12_restore_29 : decode cX12_restore 29 = .ok (.ireturn, 1) := by decide +kernel
theorem dX12_restore_30 : decode cX12_restore 30 = .ok (.iconst 0, 1) := by decide +kernel
theorem dX12_restore_31 : decode cX12_restore 31 = .ok (.istore_n 2, 1) := by decide +kernel
theorem dX12_restore_32 : decode cX12_restore 32 = .ok (.iload_n 2, 1) := by decide +kernel
theorem dX12_restore_33 : decode cX12_restore 33 = .ok (.sipush 1458, 3) := by decide +kernel
theorem dX12_restore_36 : decode cX12_restore 36 = .ok (.if_icmp .ge 29, 3) := by decide +kernel
theorem dX12_restore_39 : decode cX12_restore 39 = .ok (.aload_n 0, 1) := by decide +kernel
theorem dX12_restore_40 : decode cX12_restore 40 = .ok (.getfield 13, 3) := by decide +kernel
theorem dX12_restore_43 : decode cX12_restore 43 = .ok (.iload_n 2, 1) := by decide +kernel
theorem dX12_restore_44 : decode cX12_restore 44 = .ok (.aload_n 0, 1) := by decide +kernel
theorem dX12_restore_45 : decode cX12_restore 45 = .ok (.getfield 13, 3) := by decide +kernel
theorem dX12_restore_48 : decode cX12_restore 48 = .ok (.sipush 1458, 3) := by decide +kernel
theorem dX12_restore_51 : decode cX12_restore 51 = .ok (.iload_n 1, 1) := by decide +kernel
theorem dX12_restore_52 : decode cX12_restore 52 = .ok (.iconst 1, 1) := by decide +kernel
theorem dX12_restore_53 : decode cX12_restore 53 = .ok (.iadd, 1) := by decide +kernel
theorem dX12_restore_54 : decode cX12_restore 54 = .ok (.imul, 1) := by decide +kernel
theorem dX12_restore_55 : decode cX12_restore 55 = .ok (.iload_n 2, 1) := by decide +kernel
theorem dX12_restore_56 : decode cX12_restore 56 = .ok (.iadd, 1) := by decide +kernel
theorem dX12_restore_57 : decode cX12_restore 57 = .ok (.iaload, 1) := by decide +kernel
theorem dX12_restore_58 : decode cX12_restore 58 = .ok (.iastore, 1) := by decide +kernel
theorem dX12_restore_59 : decode cX12_restore 59 = .ok (.iinc 2 1, 3) := by decide +kernel
theorem dX12_restore_62 : decode cX12_restore 62 = .ok (.goto (-30), 3) := by decide +kernel
theorem dX12_restore_65 : decode cX12_restore 65 = .ok (.aload_n 0, 1) := by decide +kernel
theorem dX12_restore_66 : decode cX12_restore 66 = .ok (.getfield 13, 3) := by decide +kernel
theorem dX12_restore_69 : decode cX12_restore 69 = .ok (.bipush 66, 2) := by decide +kernel
theorem dX12_restore_71 : decode cX12_restore 71 = .ok (.iconst 0, 1) := by decide +kernel
theorem dX12_restore_72 : decode cX12_restore 72 = .ok (.iastore, 1) := by decide +kernel
theorem dX12_restore_73 : decode cX12_restore 73 = .ok (.iconst 0, 1) := by decide +kernel
theorem dX12_restore_74 : decode cX12_restore 74 = .ok (.ireturn, 1) := by decide +kernel
theorem dX12_pledgedSet_0 : decode cX12_pledgedSet 0 = .ok (.iconst 0, 1) := by decide +kernel
theorem dX12_pledgedSet_1 : decode cX12_pledgedSet 1 = .ok (.istore_n 1, 1) := by decide +kernel
theorem dX12_pledgedSet_2 : decode cX12_pledgedSet 2 = .ok (.iconst 0, 1) := by decide +kernel
theorem dX12_pledgedSet_3 : decode cX12_pledgedSet 3 = .ok (.istore_n 2, 1) := by decide +kernel
theorem dX12_pledgedSet_4 : decode cX12_pledgedSet 4 = .ok (.iload_n 2, 1) := by decide +kernel
theorem dX12_pledgedSet_5 : decode cX12_pledgedSet 5 = .ok (.aload_n 0, 1) := by decide +kernel
theorem dX12_pledgedSet_6 : decode cX12_pledgedSet 6 = .ok (.getfield 13, 3) := by decide +kernel
theorem dX12_pledgedSet_9 : decode cX12_pledgedSet 9 = .ok (.iconst 3, 1) := by decide +kernel
theorem dX12_pledgedSet_10 : decode cX12_pledgedSet 10 = .ok (.iaload, 1) := by decide +kernel
theorem dX12_pledgedSet_11 : decode cX12_pledgedSet 11 = .ok (.if_icmp .ge 31, 3) := by decide +kernel
theorem dX12_pledgedSet_14 : decode cX12_pledgedSet 14 = .ok (.iload_n 1, 1) := by decide +kernel
theorem dX12_pledgedSet_15 : decode cX12_pledgedSet 15 = .ok (.aload_n 0, 1) := by decide +kernel
theorem dX12_pledgedSet_16 : decode cX12_pledgedSet 16 = .ok (.getfield 13, 3) := by decide +kernel
theorem dX12_pledgedSet_19 : decode cX12_pledgedSet 19 = .ok (.bipush 60, 2) := by decide +kernel
theorem dX12_pledgedSet_21 : decode cX12_pledgedSet 21 = .ok (.iload_n 2, 1) := by decide +kernel
theorem dX12_pledgedSet_22 : decode cX12_pledgedSet 22 = .ok (.iadd, 1) := by decide +kernel
theorem dX12_pledgedSet_23 : decode cX12_pledgedSet 23 = .ok (.iaload, 1) := by decide +kernel
theorem dX12_pledgedSet_24 : decode cX12_pledgedSet 24 = .ok (.ifCond .le 9, 3) := by decide +kernel
theorem dX12_pledgedSet_27 : decode cX12_pledgedSet 27 = .ok (.iconst 1, 1) := by decide +kernel
theorem dX12_pledgedSet_28 : decode cX12_pledgedSet 28 = .ok (.iload_n 2, 1) := by decide +kernel
theorem dX12_pledgedSet_29 : decode cX12_pledgedSet 29 = .ok (.ishl, 1) := by decide +kernel
theorem dX12_pledgedSet_30 : decode cX12_pledgedSet 30 = .ok (.goto 4, 3) := by decide +kernel
theorem dX12_pledgedSet_33 : decode cX12_pledgedSet 33 = .ok (.iconst 0, 1) := by decide +kernel
theorem dX12_pledgedSet_34 : decode cX12_pledgedSet 34 = .ok (.ior, 1) := by decide +kernel
theorem dX12_pledgedSet_35 : decode cX12_pledgedSet 35 = .ok (.istore_n 1, 1) := by decide +kernel
theorem dX12_pledgedSet_36 : decode cX12_pledgedSet 36 = .ok (.iinc 2 1, 3) := by decide +kernel
theorem dX12_pledgedSet_39 : decode cX12_pledgedSet 39 = .ok (.goto (-35), 3) := by decide +kernel
theorem dX12_pledgedSet_42 : decode cX12_pledgedSet 42 = .ok (.iload_n 1, 1) := by decide +kernel
theorem dX12_pledgedSet_43 : decode cX12_pledgedSet 43 = .ok (.ireturn, 1) := by decide +kernel
set_option maxRecDepth 20000 in
theorem ggX12_count_X12_hasAll : GoodIn wsX12_count wsX12_hasAll := goodIn_r _ [8, 2, 17, 18, 19, 20, 21, 22, 23, 24, 25, 26, 27, 28, 29, 30, 31, 32, 33, 34, 35, 36, 37, 38, 39, 40, 41, 42, 43, 44, 45, 46, 47, 48, 49, 50, 51, 52] (by decide +kernel) (by decide +kernel)
set_option maxRecDepth 20000 in
theorem gX12_count_X12_hasAll : GoodIn wsX12_count (wsV RX12 339 RX12 yX12_hasAll wsX12_hasAll) := goodIn_app (goodIn_of _ (by decide +kernel)) ggX12_count_X12_hasAll
set_option maxRecDepth 20000 in
theorem ggX12_count_X12_inSecond : GoodIn wsX12_count wsX12_inSecond := goodIn_r _ [12, 2, 17, 18, 19, 20, 21, 22, 23, 24, 25, 26, 27, 28, 29, 30, 31, 32, 33, 34, 35, 36, 37, 38, 39, 40, 41, 42, 43, 44, 45, 46, 47, 48, 49, 50, 51, 52] (by decide +kernel) (by decide +kernel)
set_option maxRecDepth 20000 in
theorem gX12_count_X12_inSecond : GoodIn wsX12_count (wsV RX12 342 RX12 yX12_inSecond wsX12_inSecond) := goodIn_app (goodIn_of _ (by decide +kernel)) ggX12_count_X12_inSecond
set_option maxRecDepth 20000 in
theorem ggX12_count_X12_pledgedSet : GoodIn wsX12_count wsX12_pledgedSet := goodIn_r _ [16, 2, 17, 18, 19, 20, 21, 22, 23, 24, 25, 26, 27, 28, 29, 30, 31, 32, 33, 34, 35, 36, 37, 38, 39, 40, 41, 42, 43, 44, 45, 46, 47, 48, 49, 50, 51, 52] (by decide +kernel) (by decide +kernel)
set_option maxRecDepth 20000 in
theorem gX12_count_X12_pledgedSet : GoodIn wsX12_count (wsV RX12 481 RX12 yX12_pledgedSet wsX12_pledgedSet) := goodIn_app (goodIn_of _ (by decide +kernel)) ggX12_count_X12_pledgedSet
theorem dX12_count_0 : decode cX12_count 0 = .ok (.aload_n 0, 1) := by decide +kernel
theorem dX12_count_1 : decode cX12_count 1 = .ok (.iconst 0, 1) := by decide +kernel
theorem dX12_count_2 : decode cX12_count 2 = .ok (.putfield 1, 3) := by decide +kernel
theorem dX12_count_5 : decode cX12_count 5 = .ok (.iload_n 1, 1) := by decide +kernel
theorem dX12_count_6 : decode cX12_count 6 = .ok (.tableswitch 118 0 9 #[54, 61, 68, 75, 83, 88, 93, 98, 106, 111], 54) := by decide +kernel
theorem dX12_count_60 : decode cX12_count 60 = .ok (.aload_n 0, 1) := by decide +kernel
theorem dX12_count_61 : decode cX12_count 61 = .ok (.getfield 13, 3) := by decide +kernel
theorem dX12_count_64 : decode cX12_count 64 = .ok (.iconst 1, 1) := by decide +kernel
theorem dX12_count_65 : decode cX12_count 65 = .ok (.iaload, 1) := by decide +kernel
theorem dX12_count_66 : decode cX12_count 66 = .ok (.ireturn, 1) := by decide +kernel
theorem dX12_count_67 : decode cX12_count 67 = .ok (.aload_n 0, 1) := by decide +kernel
theorem dX12_count_68 : decode cX12_count 68 = .ok (.getfield 13, 3) := by decide +kernel
theorem dX12_count_71 : decode cX12_count 71 = .ok (.iconst 2, 1) := by decide +kernel
theorem dX12_count_72 : decode cX12_count 72 = .ok (.iaload, 1) := by decide +kernel
theorem dX12_count_73 : decode cX12_count 73 = .ok (.ireturn, 1) := by decide +kernel
theorem dX12_count_74 : decode cX12_count 74 = .ok (.aload_n 0, 1) := by decide +kernel
theorem dX12_count_75 : decode cX12_count 75 = .ok (.getfield 13, 3) := by decide +kernel
theorem dX12_count_78 : decode cX12_count 78 = .ok (.iconst 3, 1) := by decide +kernel
theorem dX12_count_79 : decode cX12_count 79 = .ok (.iaload, 1) := by decide +kernel
theorem dX12_count_80 : decode cX12_count 80 = .ok (.ireturn, 1) := by decide +kernel
theorem dX12_count_81 : decode cX12_count 81 = .ok (.aload_n 0, 1) := by decide +kernel
theorem dX12_count_82 : decode cX12_count 82 = .ok (.getfield 13, 3) := by decide +kernel
theorem dX12_count_85 : decode cX12_count 85 = .ok (.bipush 17, 2) := by decide +kernel
theorem dX12_count_87 : decode cX12_count 87 = .ok (.iaload, 1) := by decide +kernel
theorem dX12_count_88 : decode cX12_count 88 = .ok (.ireturn, 1) := by decide +kernel
theorem dX12_count_89 : decode cX12_count 89 = .ok (.aload_n 0, 1) := by decide +kernel
theorem dX12_count_90 : decode cX12_count 90 = .ok (.invokevirtual 339, 3) := by decide +kernel
theorem dX12_count_93 : decode cX12_count 93 = .ok (.ireturn, 1) := by decide +kernel
theorem dX12_count_94 : decode cX12_count 94 = .ok (.aload_n 0, 1) := by decide +kernel
theorem dX12_count_95 : decode cX12_count 95 = .ok (.invokevirtual 342, 3) := by decide +kernel
theorem dX12_count_98 : decode cX12_count 98 = .ok (.ireturn, 1) := by decide +kernel
theorem dX12_count_99 : decode cX12_count 99 = .ok (.aload_n 0, 1) := by decide +kernel
theorem dX12_count_100 : decode cX12_count 100 = .ok (.invokevirtual 481, 3) := by decide +kernel
theorem dX12_count_103 : decode cX12_count 103 = .ok (.ireturn, 1) := by decide +kernel
theorem dX12_count_104 : decode cX12_count 104 = .ok (.aload_n 0, 1) := by decide +kernel
theorem dX12_count_105 : decode cX12_count 105 = .ok (.getfield 13, 3) := by decide +kernel
theorem dX12_count_108 : decode cX12_count 108 = .ok (.bipush 66, 2) := by decide +kernel
theorem dX12_count_110 : decode cX12_count 110 = .ok (.iaload, 1) := by decide +kernel
theorem dX12_count_111 : decode cX12_count 111 = .ok (.ireturn, 1) := by decide +kernel
theorem dX12_count_112 : decode cX12_count 112 = .ok (.aload_n 0, 1) := by decide +kernel
theorem dX12_count_113 : decode cX12_count 113 = .ok (.getfield 81, 3) := by decide +kernel
theorem dX12_count_116 : decode cX12_count 116 = .ok (.ireturn, 1) := by decide +kernel
theorem dX12_count_117 : decode cX12_count 117 = .ok (.aload_n 0, 1) := by decide +kernel
theorem dX12_count_118 : decode cX12_count 118 = .ok (.getfield 13, 3) := by decide +kernel
theorem dX12_count_121 : decode cX12_count 121 = .ok (.iconst 0, 1) := by decide +kernel
theorem dX12_count_122 : decode cX12_count 122 = .ok (.iaload, 1) := by decide +kernel
theorem dX12_count_123 : decode cX12_count 123 = .ok (.ireturn, 1) := by decide +kernel
theorem dX12_count_124 : decode cX12_count 124 = .ok (.iconst (-1), 1) := by decide +kernel
theorem dX12_count_125 : decode cX12_count 125 = .ok (.ireturn, 1) := by decide +kernel
theorem dJ11_isValidCodePoint_9a6ad_0 : decode cJ11_isValidCodePoint_9a6ad 0 = .ok (.iload_n 0, 1) := by decide +kernel
theorem dJ11_isValidCodePoint_9a6ad_1 : decode cJ11_isValidCodePoint_9a6ad 1 = .ok (.bipush 16, 2) := by decide +kernel
theorem dJ11_isValidCodePoint_9a6ad_3 : decode cJ11_isValidCodePoint_9a6ad 3 = .ok (.iushr, 1) := by decide +kernel
theorem dJ11_isValidCodePoint_9a6ad_4 : decode cJ11_isValidCodePoint_9a6ad 4 = .ok (.istore_n 1, 1) := by decide +kernel
theorem dJ11_isValidCodePoint_9a6ad_5 : decode cJ11_isValidCodePoint_9a6ad 5 = .ok (.iload_n 1, 1) := by decide +kernel
theorem dJ11_isValidCodePoint_9a6ad_6 : decode cJ11_isValidCodePoint_9a6ad 6 = .ok (.bipush 17, 2) := by decide +kernel
theorem dJ11_isValidCodePoint_9a6ad_8 : decode cJ11_isValidCodePoint_9a6ad 8 = .ok (.if_icmp .ge 7, 3) := by decide +kernel
theorem dJ11_isValidCodePoint_9a6ad_11 : decode cJ11_isValidCodePoint_9a6ad 11 = .ok (.iconst 1, 1) := by decide +kernel
theorem dJ11_isValidCodePoint_9a6ad_12 : decode cJ11_isValidCodePoint_9a6ad 12 = .ok (.goto 4, 3) := by decide +kernel
theorem dJ11_isValidCodePoint_9a6ad_15 : decode cJ11_isValidCodePoint_9a6ad 15 = .ok (.iconst 0, 1) := by decide +kernel
theorem dJ11_isValidCodePoint_9a6ad_16 : decode cJ11_isValidCodePoint_9a6ad 16 = .ok (.ireturn, 1) := by decide +kernel
theorem dJ11_highSurrogate_5068e_0 : decode cJ11_highSurrogate_5068e 0 = .ok (.iload_n 0, 1) := by decide +kernel
theorem dJ11_highSurrogate_5068e_1 : decode cJ11_highSurrogate_5068e 1 = .ok (.bipush 10, 2) := by decide +kernel
theorem dJ11_highSurrogate_5068e_3 : decode cJ11_highSurrogate_5068e 3 = .ok (.iushr, 1) := by decide +kernel
theorem dJ11_highSurrogate_5068e_4 : decode cJ11_highSurrogate_5068e 4 = .ok (.ldc 110, 2) := by decide +kernel
theorem dJ11_highSurrogate_5068e_6 : decode cJ11_highSurrogate_5068e 6 = .ok (.iadd, 1) := by decide +kernel
theorem dJ11_highSurrogate_5068e_7 : decode cJ11_highSurrogate_5068e 7 = .ok (.i2c, 1) := by decide +kernel
theorem dJ11_highSurrogate_5068e_8 : decode cJ11_highSurrogate_5068e 8 = .ok (.ireturn, 1) := by decide +kernel
theorem dJ11_lowSurrogate_5068e_0 : decode cJ11_lowSurrogate_5068e 0 = .ok (.iload_n 0, 1) := by decide +kernel
theorem dJ11_lowSurrogate_5068e_1 : decode cJ11_lowSurrogate_5068e 1 = .ok (.sipush 1023, 3) := by decide +kernel
theorem dJ11_lowSurrogate_5068e_4 : decode cJ11_lowSurrogate_5068e 4 = .ok (.iand, 1) := by decide +kernel
theorem dJ11_lowSurrogate_5068e_5 : decode cJ11_lowSurrogate_5068e 5 = .ok (.ldc 76, 2) := by decide +kernel
theorem dJ11_lowSurrogate_5068e_7 : decode cJ11_lowSurrogate_5068e 7 = .ok (.iadd, 1) := by decide +kernel
theorem dJ11_lowSurrogate_5068e_8 : decode cJ11_lowSurrogate_5068e 8 = .ok (.i2c, 1) := by decide +kernel
theorem dJ11_lowSurrogate_5068e_9 : decode cJ11_lowSurrogate_5068e 9 = .ok (.ireturn, 1) := by decide +kernel
theorem dJ6_bitCount_0f7a4_0 : decode cJ6_bitCount_0f7a4 0 = .ok (.iload_n 0, 1) := by decide +kernel
theorem dJ6_bitCount_0f7a4_1 : decode cJ6_bitCount_0f7a4 1 = .ok (.iload_n 0, 1) := by decide +kernel
theorem dJ6_bitCount_0f7a4_2 : decode cJ6_bitCount_0f7a4 2 = .ok (.iconst 1, 1) := by decide +kernel
theorem dJ6_bitCount_0f7a4_3 : decode cJ6_bitCount_0f7a4 3 = .ok (.iushr, 1) := by decide +kernel
theorem dJ6_bitCount_0f7a4_4 : decode cJ6_bitCount_0f7a4 4 = .ok (.ldc_w 265, 3) := by decide +kernel
theorem dJ6_bitCount_0f7a4_7 : decode cJ6_bitCount_0f7a4 7 = .ok (.iand, 1) := by decide +kernel
theorem dJ6_bitCount_0f7a4_8 : decode cJ6_bitCount_0f7a4 8 = .ok (.isub, 1) := by decide +kernel
theorem dJ6_bitCount_0f7a4_9 : decode cJ6_bitCount_0f7a4 9 = .ok (.istore_n 0, 1) := by decide +kernel
theorem dJ6_bitCount_0f7a4_10 : decode cJ6_bitCount_0f7a4 10 = .ok (.iload_n 0, 1) := by decide +kernel
theorem dJ6_bitCount_0f7a4_11 : decode cJ6_bitCount_0f7a4 11 = .ok (.ldc_w 266, 3) := by decide +kernel
theorem dJ6_bitCount_0f7a4_14 : decode cJ6_bitCount_0f7a4 14 = .ok (.iand, 1) := by decide +kernel
theorem dJ6_bitCount_0f7a4_15 : decode cJ6_bitCount_0f7a4 15 = .ok (.iload_n 0, 1) := by decide +kernel
theorem dJ6_bitCount_0f7a4_16 : decode cJ6_bitCount_0f7a4 16 = .ok (.iconst 2, 1) := by decide +kernel
theorem dJ6_bitCount_0f7a4_17 : decode cJ6_bitCount_0f7a4 17 = .ok (.iushr, 1) := by decide +kernel
theorem dJ6_bitCount_0f7a4_18 : decode cJ6_bitCount_0f7a4 18 = .ok (.ldc_w 266, 3) := by decide +kernel
theorem dJ6_bitCount_0f7a4_21 : decode cJ6_bitCount_0f7a4 21 = .ok (.iand, 1) := by decide +kernel
theorem dJ6_bitCount_0f7a4_22 : decode cJ6_bitCount_0f7a4 22 = .ok (.iadd, 1) := by decide +kernel
theorem dJ6_bitCount_0f7a4_23 : decode cJ6_bitCount_0f7a4 23 = .ok (.istore_n 0, 1) := by decide +kernel
theorem dJ6_bitCount_0f7a4_24 : decode cJ6_bitCount_0f7a4 24 = .ok (.iload_n 0, 1) := by decide +kernel
theorem dJ6_bitCount_0f7a4_25 : decode cJ6_bitCount_0f7a4 25 = .ok (.iload_n 0, 1) := by decide +kernel
theorem dJ6_bitCount_0f7a4_26 : decode cJ6_bitCount_0f7a4 26 = .ok (.iconst 4, 1) := by decide +kernel
theorem dJ6_bitCount_0f7a4_27 : decode cJ6_bitCount_0f7a4 27 = .ok (.iushr, 1) := by decide +kernel
theorem dJ6_bitCount_0f7a4_28 : decode cJ6_bitCount_0f7a4 28 = .ok (.iadd, 1) := by decide +kernel
theorem dJ6_bitCount_0f7a4_29 : decode cJ6_bitCount_0f7a4 29 = .ok (.ldc_w 267, 3) := by decide +kernel
theorem dJ6_bitCount_0f7a4_32 : decode cJ6_bitCount_0f7a4 32 = .ok (.iand, 1) := by decide +kernel
theorem dJ6_bitCount_0f7a4_33 : decode cJ6_bitCount_0f7a4 33 = .ok (.istore_n 0, 1) := by decide +kernel
theorem dJ6_bitCount_0f7a4_34 : decode cJ6_bitCount_0f7a4 34 = .ok (.iload_n 0, 1) := by decide +kernel
theorem dJ6_bitCount_0f7a4_35 : decode cJ6_bitCount_0f7a4 35 = .ok (.iload_n 0, 1) := by decide +kernel
theorem dJ6_bitCount_0f7a4_36 : decode cJ6_bitCount_0f7a4 36 = .ok (.bipush 8, 2) := by decide +kernel
theorem dJ6_bitCount_0f7a4_38 : decode cJ6_bitCount_0f7a4 38 = .ok (.iushr, 1) := by decide +kernel
theorem dJ6_bitCount_0f7a4_39 : decode cJ6_bitCount_0f7a4 39 = .ok (.iadd, 1) := by decide +kernel
theorem dJ6_bitCount_0f7a4_40 : decode cJ6_bitCount_0f7a4 40 = .ok (.istore_n 0, 1) := by decide +kernel
theorem dJ6_bitCount_0f7a4_41 : decode cJ6_bitCount_0f7a4 41 = .ok (.iload_n 0, 1) := by decide +kernel
theorem dJ6_bitCount_0f7a4_42 : decode cJ6_bitCount_0f7a4 42 = .ok (.iload_n 0, 1) := by decide +kernel
theorem dJ6_bitCount_0f7a4_43 : decode cJ6_bitCount_0f7a4 43 = .ok (.bipush 16, 2) := by decide +kernel
theorem dJ6_bitCount_0f7a4_45 : decode cJ6_bitCount_0f7a4 45 = .ok (.iushr, 1) := by decide +kernel
theorem dJ6_bitCount_0f7a4_46 : decode cJ6_bitCount_0f7a4 46 = .ok (.iadd, 1) := by decide +kernel
theorem dJ6_bitCount_0f7a4_47 : decode cJ6_bitCount_0f7a4 47 = .ok (.istore_n 0, 1) := by decide +kernel
theorem dJ6_bitCount_0f7a4_48 : decode cJ6_bitCount_0f7a4 48 = .ok (.iload_n 0, 1) := by decide +kernel
theorem dJ6_bitCount_0f7a4_49 : decode cJ6_bitCount_0f7a4 49 = .ok (.bipush 63, 2) := by decide +kernel
theorem dJ6_bitCount_0f7a4_51 : decode cJ6_bitCount_0f7a4 51 = .ok (.iand, 1) := by decide +kernel
theorem dJ6_bitCount_0f7a4_52 : decode cJ6_bitCount_0f7a4 52 = .ok (.ireturn, 1) := by decide +kernel
theorem dJ9_floorMod_7cf53_0 : decode cJ9_floorMod_7cf53 0 = .ok (.iload_n 0, 1) := by decide +kernel
theorem dJ9_floorMod_7cf53_1 : decode cJ9_floorMod_7cf53 1 = .ok (.iload_n 1, 1) := by decide +kernel
theorem dJ9_floorMod_7cf53_2 : decode cJ9_floorMod_7cf53 2 = .ok (.irem, 1) := by decide +kernel
theorem dJ9_floorMod_7cf53_3 : decode cJ9_floorMod_7cf53 3 = .ok (.istore_n 2, 1) := by decide +kernel
theorem dJ9_floorMod_7cf53_4 : decode cJ9_floorMod_7cf53 4 = .ok (.iload_n 0, 1) := by decide +kernel
theorem dJ9_floorMod_7cf53_5 : decode cJ9_floorMod_7cf53 5 = .ok (.iload_n 1, 1) := by decide +kernel
theorem dJ9_floorMod_7cf53_6 : decode cJ9_floorMod_7cf53 6 = .ok (.ixor, 1) := by decide +kernel
theorem dJ9_floorMod_7cf53_7 : decode cJ9_floorMod_7cf53 7 = .ok (.ifCond .ge 11, 3) := by decide +kernel
theorem dJ9_floorMod_7cf53_10 : decode cJ9_floorMod_7cf53 10 = .ok (.iload_n 2, 1) := by decide +kernel
theorem dJ9_floorMod_7cf53_11 : decode cJ9_floorMod_7cf53 11 = .ok (.ifCond .eq 7, 3) := by decide +kernel
theorem dJ9_floorMod_7cf53_14 : decode cJ9_floorMod_7cf53 14 = .ok (.iload_n 2, 1) := by decide +kernel
theorem dJ9_floorMod_7cf53_15 : decode cJ9_floorMod_7cf53 15 = .ok (.iload_n 1, 1) := by decide +kernel
theorem dJ9_floorMod_7cf53_16 : decode cJ9_floorMod_7cf53 16 = .ok (.iadd, 1) := by decide +kernel
theorem dJ9_floorMod_7cf53_17 : decode cJ9_floorMod_7cf53 17 = .ok (.ireturn, 1) := by decide +kernel
theorem dJ9_floorMod_7cf53_18 : decode cJ9_floorMod_7cf53 18 = .ok (.iload_n 2, 1) := by decide +kernel
theorem dJ9_floorMod_7cf53_19 : decode cJ9_floorMod_7cf53 19 = .ok (.ireturn, 1) := by decide +kernel
theorem dJ9_max_7cf53_0 : decode cJ9_max_7cf53 0 = .ok (.iload_n 0, 1) := by decide +kernel
theorem dJ9_max_7cf53_1 : decode cJ9_max_7cf53 1 = .ok (.iload_n 1, 1) := by decide +kernel
theorem dJ9_max_7cf53_2 : decode cJ9_max_7cf53 2 = .ok (.if_icmp .lt 7, 3) := by decide +kernel
theorem dJ9_max_7cf53_5 : decode cJ9_max_7cf53 5 = .ok (.iload_n 0, 1) := by decide +kernel
theorem dJ9_max_7cf53_6 : decode cJ9_max_7cf53 6 = .ok (.goto 4, 3) := by decide +kernel
theorem dJ9_max_7cf53_9 : decode cJ9_max_7cf53 9 = .ok (.iload_n 1, 1) := by decide +kernel
theorem dJ9_max_7cf53_10 : decode cJ9_max_7cf53 10 = .ok (.ireturn, 1) := by decide +kernel
theorem dJ9_max_f86c9_0 : decode cJ9_max_f86c9 0 = .ok (.lload_n 0, 1) := by decide +kernel
theorem dJ9_max_f86c9_1 : decode cJ9_max_f86c9 1 = .ok (.lload_n 2, 1) := by decide +kernel
theorem dJ9_max_f86c9_2 : decode cJ9_max_f86c9 2 = .ok (.lcmp, 1) := by decide +kernel
theorem dJ9_max_f86c9_3 : decode cJ9_max_f86c9 3 = .ok (.ifCond .lt 7, 3) := by decide +kernel
theorem dJ9_max_f86c9_6 : decode cJ9_max_f86c9 6 = .ok (.lload_n 0, 1) := by decide +kernel
theorem dJ9_max_f86c9_7 : decode cJ9_max_f86c9 7 = .ok (.goto 4, 3) := by decide +kernel
theorem dJ9_max_f86c9_10 : decode cJ9_max_f86c9 10 = .ok (.lload_n 2, 1) := by decide +kernel
theorem dJ9_max_f86c9_11 : decode cJ9_max_f86c9 11 = .ok (.lreturn, 1) := by decide +kernel
theorem dJ9_min_7cf53_0 : decode cJ9_min_7cf53 0 = .ok (.iload_n 0, 1) := by decide +kernel
theorem dJ9_min_7cf53_1 : decode cJ9_min_7cf53 1 = .ok (.iload_n 1, 1) := by decide +kernel
theorem dJ9_min_7cf53_2 : decode cJ9_min_7cf53 2 = .ok (.if_icmp .gt 7, 3) := by decide +kernel
theorem dJ9_min_7cf53_5 : decode cJ9_min_7cf53 5 = .ok (.iload_n 0, 1) := by decide +kernel
theorem dJ9_min_7cf53_6 : decode cJ9_min_7cf53 6 = .ok (.goto 4, 3) := by decide +kernel
theorem dJ9_min_7cf53_9 : decode cJ9_min_7cf53 9 = .ok (.iload_n 1, 1) := by decide +kernel
theorem dJ9_min_7cf53_10 : decode cJ9_min_7cf53 10 = .ok (.ireturn, 1) := by decide +kernel
set_option maxRecDepth 20000 in
theorem ggJ0_length_8abf5_J0_coder_7d493 : GoodIn wsJ0_length_8abf5 wsJ0_coder_7d493 := goodIn_r _ [6, 7, 8] (by decide +kernel) (by decide +kernel)
set_option maxRecDepth 20000 in
theorem gJ0_length_8abf5_J0_coder_7d493 : GoodIn wsJ0_length_8abf5 (wsV RJ0 335 RJ0 yJ0_coder_7d493 wsJ0_coder_7d493) := goodIn_app (goodIn_of _ (by decide +kernel)) ggJ0_length_8abf5_J0_coder_7d493
theorem dJ0_length_8abf5_0 : decode cJ0_length_8abf5 0 = .ok (.aload_n 0, 1) := by decide +kernel
theorem dJ0_length_8abf5_1 : decode cJ0_length_8abf5 1 = .ok (.getfield 9, 3) := by decide +kernel
theorem dJ0_length_8abf5_4 : decode cJ0_length_8abf5 4 = .ok (.arraylength, 1) := by decide +kernel
theorem dJ0_length_8abf5_5 : decode cJ0_length_8abf5 5 = .ok (.aload_n 0, 1) := by decide +kernel
theorem dJ0_length_8abf5_6 : decode cJ0_length_8abf5 6 = .ok (.invokevirtual 335, 3) := by decide +kernel
theorem dJ0_length_8abf5_9 : decode cJ0_length_8abf5 9 = .ok (.ishr, 1) := by decide +kernel
theorem dJ0_length_8abf5_10 : decode cJ0_length_8abf5 10 = .ok (.ireturn, 1) := by decide +kernel
set_option maxRecDepth 20000 in
theorem ggJ0_charAt_5068e_J0_isLatin1_aae02 : GoodIn wsJ0_charAt_5068e wsJ0_isLatin1_aae02 := goodIn_r _ [6, 7, 8] (by decide +kernel) (by decide +kernel)
set_option maxRecDepth 20000 in
theorem gJ0_charAt_5068e_J0_isLatin1_aae02 : GoodIn wsJ0_charAt_5068e (wsV RJ0 492 RJ0 yJ0_isLatin1_aae02 wsJ0_isLatin1_aae02) := goodIn_app (goodIn_of _ (by decide +kernel)) ggJ0_charAt_5068e_J0_isLatin1_aae02
set_option maxRecDepth 20000 in
theorem ggJ0_charAt_5068e_J1_charAt_3b067 : GoodIn wsJ0_charAt_5068e wsJ1_charAt_3b067 := goodIn_r _ [12, 13, 14, 5, 15, 16, 17, 18, 19, 20] (by decide +kernel) (by decide +kernel)
set_option maxRecDepth 20000 in
theorem gJ0_charAt_5068e_J1_charAt_3b067 : GoodIn wsJ0_charAt_5068e (va_wsS RJ0 495 yJ1_charAt_3b067 wsJ1_charAt_3b067) := goodIn_app (goodIn_of _ (by decide +kernel)) ggJ0_charAt_5068e_J1_charAt_3b067
set_option maxRecDepth 20000 in
theorem ggJ0_charAt_5068e_J2_charAt_3b067 : GoodIn wsJ0_charAt_5068e wsJ2_charAt_3b067 := goodIn_r _ [24, 25, 26, 23, 27, 28, 29, 30, 31, 14, 5, 15, 16, 17, 18, 19, 20, 32, 33, 34, 35, 36, 37] (by decide +kernel) (by decide +kernel)
set_option maxRecDepth 20000 in
theorem gJ0_charAt_5068e_J2_charAt_3b067 : GoodIn wsJ0_charAt_5068e (va_wsS RJ0 498 yJ2_charAt_3b067 wsJ2_charAt_3b067) := goodIn_app (goodIn_of _ (by decide +kernel)) ggJ0_charAt_5068e_J2_charAt_3b067
theorem dJ0_charAt_5068e_0 : decode cJ0_charAt_5068e 0 = .ok (.aload_n 0, 1) := by decide +kernel
theorem dJ0_charAt_5068e_1 : decode cJ0_charAt_5068e 1 = .ok (.invokevirtual 492, 3) := by decide +kernel
theorem dJ0_charAt_5068e_4 : decode cJ0_charAt_5068e 4 = .ok (.ifCond .eq 12, 3) := by decide +kernel
theorem dJ0_charAt_5068e_7 : decode cJ0_charAt_5068e 7 = .ok (.aload_n 0, 1) := by decide +kernel
theorem dJ0_charAt_5068e_8 : decode cJ0_charAt_5068e 8 = .ok (.getfield 9, 3) := by decide +kernel
theorem dJ0_charAt_5068e_11 : decode cJ0_charAt_5068e 11 = .ok (.iload_n 1, 1) := by decide +kernel
theorem dJ0_charAt_5068e_12 : decode cJ0_charAt_5068e 12 = .ok (.invokestatic 495, 3) := by decide +kernel
theorem dJ0_charAt_5068e_15 : decode cJ0_charAt_5068e 15 = .ok (.ireturn, 1) := by decide +kernel
theorem dJ0_charAt_5068e_16 : decode cJ0_charAt_5068e 16 = .ok (.aload_n 0, 1) := by decide +kernel
theorem dJ0_charAt_5068e_17 : decode cJ0_charAt_5068e 17 = .ok (.getfield 9, 3) := by decide +kernel
theorem dJ0_charAt_5068e_20 : decode cJ0_charAt_5068e 20 = .ok (.iload_n 1, 1) := by decide +kernel
theorem dJ0_charAt_5068e_21 : decode cJ0_charAt_5068e 21 = .ok (.invokestatic 498, 3) := by decide +kernel
theorem dJ0_charAt_5068e_24 : decode cJ0_charAt_5068e 24 = .ok (.ireturn, 1) := by decide +kernel
set_option maxRecDepth 20000 in
theorem ggJ0_indexOf_0f7a4_J0_indexOf_7cf53 : GoodIn wsJ0_indexOf_0f7a4 wsJ0_indexOf_7cf53 := goodIn_r _ [5, 6, 7, 8, 9, 4, 10, 11, 12, 13, 14, 15, 16, 17, 18, 19, 20, 21, 22, 23, 24, 25, 26, 27, 28, 29, 30, 31, 32, 33, 34, 35, 36, 37, 38, 39, 40, 41, 42, 43, 44, 45, 46, 47, 48, 49, 50, 51, 52, 53, 54, 55, 56, 57, 58, 59, 60, 61, 62, 63, 64, 65, 66, 67, 68, 69, 70, 71, 72, 73, 74, 75, 76, 77, 78, 79, 80, 81, 82, 83, 84, 85] (by decide +kernel) (by decide +kernel)
set_option maxRecDepth 20000 in
theorem gJ0_indexOf_0f7a4_J0_indexOf_7cf53 : GoodIn wsJ0_indexOf_0f7a4 (wsV RJ0 633 RJ0 yJ0_indexOf_7cf53 wsJ0_indexOf_7cf53) := goodIn_app (goodIn_of _ (by decide +kernel)) ggJ0_indexOf_0f7a4_J0_indexOf_7cf53
theorem dJ0_indexOf_0f7a4_0 : decode cJ0_indexOf_0f7a4 0 = .ok (.aload_n 0, 1) := by decide +kernel
theorem dJ0_indexOf_0f7a4_1 : decode cJ0_indexOf_0f7a4 1 = .ok (.iload_n 1, 1) := by decide +kernel
theorem dJ0_indexOf_0f7a4_2 : decode cJ0_indexOf_0f7a4 2 = .ok (.iconst 0, 1) := by decide +kernel
theorem dJ0_indexOf_0f7a4_3 : decode cJ0_indexOf_0f7a4 3 = .ok (.invokevirtual 633, 3) := by decide +kernel
theorem dJ0_indexOf_0f7a4_6 : decode cJ0_indexOf_0f7a4 6 = .ok (.ireturn, 1) := by decide +kernel
set_option maxRecDepth 20000 in
theorem ggJ0_indexOf_7cf53_J0_isLatin1_aae02 : GoodIn wsJ0_indexOf_7cf53 wsJ0_isLatin1_aae02 := goodIn_r _ [6, 7, 8] (by decide +kernel) (by decide +kernel)
set_option maxRecDepth 20000 in
theorem gJ0_indexOf_7cf53_J0_isLatin1_aae02 : GoodIn wsJ0_indexOf_7cf53 (wsV RJ0 492 RJ0 yJ0_isLatin1_aae02 wsJ0_isLatin1_aae02) := goodIn_app (goodIn_of _ (by decide +kernel)) ggJ0_indexOf_7cf53_J0_isLatin1_aae02
set_option maxRecDepth 20000 in
theorem ggJ0_indexOf_7cf53_J0_length_8abf5 : GoodIn wsJ0_indexOf_7cf53 wsJ0_length_8abf5 := goodIn_r _ [12, 1, 13, 14, 15, 5, 16, 7, 8] (by decide +kernel) (by decide +kernel)
set_option maxRecDepth 20000 in
theorem gJ0_indexOf_7cf53_J0_length_8abf5 : GoodIn wsJ0_indexOf_7cf53 (wsV RJ0 505 RJ0 yJ0_length_8abf5 wsJ0_length_8abf5) := goodIn_app (goodIn_of _ (by decide +kernel)) ggJ0_indexOf_7cf53_J0_length_8abf5
set_option maxRecDepth 20000 in
theorem ggJ0_indexOf_7cf53_J1_indexOf_4cfef : GoodIn wsJ0_indexOf_7cf53 wsJ1_indexOf_4cfef := goodIn_r _ [20, 21, 22, 23, 24, 25, 26, 27, 28, 29, 19, 30, 31, 32, 33] (by decide +kernel) (by decide +kernel)
set_option maxRecDepth 20000 in
theorem gJ0_indexOf_7cf53_J1_indexOf_4cfef : GoodIn wsJ0_indexOf_7cf53 (va_wsS RJ0 637 yJ1_indexOf_4cfef wsJ1_indexOf_4cfef) := goodIn_app (goodIn_of _ (by decide +kernel)) ggJ0_indexOf_7cf53_J1_indexOf_4cfef
set_option maxRecDepth 20000 in
theorem ggJ0_indexOf_7cf53_J2_indexOf_4cfef : GoodIn wsJ0_indexOf_7cf53 wsJ2_indexOf_4cfef := goodIn_r _ [37, 38, 22, 23, 24, 39, 26, 27, 40, 41, 42, 36, 43, 44, 45, 46, 47, 48, 49, 50, 51, 5, 52, 53, 54, 55, 56, 57, 58, 59, 60, 61, 62, 63, 64, 65, 66, 67, 68, 69, 70, 71, 72, 73, 74, 75, 76, 77, 78, 79, 80, 81] (by decide +kernel) (by decide +kernel)
set_option maxRecDepth 20000 in
theorem gJ0_indexOf_7cf53_J2_indexOf_4cfef : GoodIn wsJ0_indexOf_7cf53 (va_wsS RJ0 640 yJ2_indexOf_4cfef wsJ2_indexOf_4cfef) := goodIn_app (goodIn_of _ (by decide +kernel)) ggJ0_indexOf_7cf53_J2_indexOf_4cfef
theorem dJ0_indexOf_7cf53_0 : decode cJ0_indexOf_7cf53 0 = .ok (.aload_n 0, 1) := by decide +kernel
theorem dJ0_indexOf_7cf53_1 : decode cJ0_indexOf_7cf53 1 = .ok (.invokevirtual 492, 3) := by decide +kernel
theorem dJ0_indexOf_7cf53_4 : decode cJ0_indexOf_7cf53 4 = .ok (.ifCond .eq 19, 3) := by decide +kernel
theorem dJ0_indexOf_7cf53_7 : decode cJ0_indexOf_7cf53 7 = .ok (.aload_n 0, 1) := by decide +kernel
theorem dJ0_indexOf_7cf53_8 : decode cJ0_indexOf_7cf53 8 = .ok (.getfield 9, 3) := by decide +kernel
theorem dJ0_indexOf_7cf53_11 : decode cJ0_indexOf_7cf53 11 = .ok (.iload_n 1, 1) := by decide +kernel
theorem dJ0_indexOf_7cf53_12 : decode cJ0_indexOf_7cf53 12 = .ok (.iload_n 2, 1) := by decide +kernel
theorem dJ0_indexOf_7cf53_13 : decode cJ0_indexOf_7cf53 13 = .ok (.aload_n 0, 1) := by decide +kernel
theorem dJ0_indexOf_7cf53_14 : decode cJ0_indexOf_7cf53 14 = .ok (.invokevirtual 505, 3) := by decide +kernel
theorem dJ0_indexOf_7cf53_17 : decode cJ0_indexOf_7cf53 17 = .ok (.invokestatic 637, 3) := by decide +kernel
theorem dJ0_indexOf_7cf53_20 : decode cJ0_indexOf_7cf53 20 = .ok (.goto 16, 3) := by decide +kernel
theorem dJ0_indexOf_7cf53_23 : decode cJ0_indexOf_7cf53 23 = .ok (.aload_n 0, 1) := by decide +kernel
theorem dJ0_indexOf_7cf53_24 : decode cJ0_indexOf_7cf53 24 = .ok (.getfield 9, 3) := by decide +kernel
theorem dJ0_indexOf_7cf53_27 : decode cJ0_indexOf_7cf53 27 = .ok (.iload_n 1, 1) := by decide +kernel
theorem dJ0_indexOf_7cf53_28 : decode cJ0_indexOf_7cf53 28 = .ok (.iload_n 2, 1) := by decide +kernel
theorem dJ0_indexOf_7cf53_29 : decode cJ0_indexOf_7cf53 29 = .ok (.aload_n 0, 1) := by decide +kernel
theorem dJ0_indexOf_7cf53_30 : decode cJ0_indexOf_7cf53 30 = .ok (.invokevirtual 505, 3) := by decide +kernel
theorem dJ0_indexOf_7cf53_33 : decode cJ0_indexOf_7cf53 33 = .ok (.invokestatic 640, 3) := by decide +kernel
theorem dJ0_indexOf_7cf53_36 : decode cJ0_indexOf_7cf53 36 = .ok (.ireturn, 1) := by decide +kernel
theorem dJ0_coder_7d493_0 : decode cJ0_coder_7d493 0 = .ok (.getstatic 38, 3) := by decide +kernel
theorem dJ0_coder_7d493_3 : decode cJ0_coder_7d493 3 = .ok (.ifCond .eq 10, 3) := by decide +kernel
theorem dJ0_coder_7d493_6 : decode cJ0_coder_7d493 6 = .ok (.aload_n 0, 1) := by decide +kernel
theorem dJ0_coder_7d493_7 : decode cJ0_coder_7d493 7 = .ok (.getfield 15, 3) := by decide +kernel
theorem dJ0_coder_7d493_10 : decode cJ0_coder_7d493 10 = .ok (.goto 4, 3) := by decide +kernel
theorem dJ0_coder_7d493_13 : decode cJ0_coder_7d493 13 = .ok (.iconst 1, 1) := by decide +kernel
theorem dJ0_coder_7d493_14 : decode cJ0_coder_7d493 14 = .ok (.ireturn, 1) := by decide +kernel
theorem dJ0_isLatin1_aae02_0 : decode cJ0_isLatin1_aae02 0 = .ok (.getstatic 38, 3) := by decide +kernel
theorem dJ0_isLatin1_aae02_3 : decode cJ0_isLatin1_aae02 3 = .ok (.ifCond .eq 14, 3) := by decide +kernel
theorem dJ0_isLatin1_aae02_6 : decode cJ0_isLatin1_aae02 6 = .ok (.aload_n 0, 1) := by decide +kernel
theorem dJ0_isLatin1_aae02_7 : decode cJ0_isLatin1_aae02 7 = .ok (.getfield 15, 3) := by decide +kernel
theorem dJ0_isLatin1_aae02_10 : decode cJ0_isLatin1_aae02 10 = .ok (.ifCond .ne 7, 3) := by decide +kernel
theorem dJ0_isLatin1_aae02_13 : decode cJ0_isLatin1_aae02 13 = .ok (.iconst 1, 1) := by decide +kernel
theorem dJ0_isLatin1_aae02_14 : decode cJ0_isLatin1_aae02 14 = .ok (.goto 4, 3) := by decide +kernel
theorem dJ0_isLatin1_aae02_17 : decode cJ0_isLatin1_aae02 17 = .ok (.iconst 0, 1) := by decide +kernel
theorem dJ0_isLatin1_aae02_18 : decode cJ0_isLatin1_aae02 18 = .ok (.ireturn, 1) := by decide +kernel
set_option maxRecDepth 20000 in
theorem ggJ0_checkIndex_df160_J3_checkIndex_8e157 : GoodIn wsJ0_checkIndex_df160 wsJ3_checkIndex_8e157 := goodIn_r _ [5] (by decide +kernel) (by decide +kernel)
set_option maxRecDepth 20000 in
theorem gJ0_checkIndex_df160_J3_checkIndex_8e157 : GoodIn wsJ0_checkIndex_df160 (va_wsS RJ0 1059 yJ3_checkIndex_8e157 wsJ3_checkIndex_8e157) := goodIn_app (goodIn_of _ (by decide +kernel)) ggJ0_checkIndex_df160_J3_checkIndex_8e157
theorem dJ0_checkIndex_df160_0 : decode cJ0_checkIndex_df160 0 = .ok (.iload_n 0, 1) := by decide +kernel
theorem dJ0_checkIndex_df160_1 : decode cJ0_checkIndex_df160 1 = .ok (.iload_n 1, 1) := by decide +kernel
theorem dJ0_checkIndex_df160_2 : decode cJ0_checkIndex_df160 2 = .ok (.getstatic 1053, 3) := by decide +kernel
theorem dJ0_checkIndex_df160_5 : decode cJ0_checkIndex_df160 5 = .ok (.invokestatic 1059, 3) := by decide +kernel
theorem dJ0_checkIndex_df160_8 : decode cJ0_checkIndex_df160 8 = .ok (.pop, 1) := by decide +kernel
theorem dJ0_checkIndex_df160_9 : decode cJ0_checkIndex_df160 9 = .ok (.return_, 1) := by decide +kernel
set_option maxRecDepth 20000 in
theorem ggJ0_checkBoundsBeginEnd_23922_J3_checkFromToIndex_8c36e : GoodIn wsJ0_checkBoundsBeginEnd_23922 wsJ3_checkFromToIndex_8c36e := goodIn_r _ [5] (by decide +kernel) (by decide +kernel)
set_option maxRecDepth 20000 in
theorem gJ0_checkBoundsBeginEnd_23922_J3_checkFromToIndex_8c36e : GoodIn wsJ0_checkBoundsBeginEnd_23922 (va_wsS RJ0 1062 yJ3_checkFromToIndex_8c36e wsJ3_checkFromToIndex_8c36e) := goodIn_app (goodIn_of _ (by decide +kernel)) ggJ0_checkBoundsBeginEnd_23922_J3_checkFromToIndex_8c36e
theorem dJ0_checkBoundsBeginEnd_23922_0 : decode cJ0_checkBoundsBeginEnd_23922 0 = .ok (.iload_n 0, 1) := by decide +kernel
theorem dJ0_checkBoundsBeginEnd_23922_1 : decode cJ0_checkBoundsBeginEnd_23922 1 = .ok (.iload_n 1, 1) := by decide +kernel
theorem dJ0_checkBoundsBeginEnd_23922_2 : decode cJ0_checkBoundsBeginEnd_23922 2 = .ok (.iload_n 2, 1) := by decide +kernel
theorem dJ0_checkBoundsBeginEnd_23922_3 : decode cJ0_checkBoundsBeginEnd_23922 3 = .ok (.getstatic 1053, 3) := by decide +kernel
theorem dJ0_checkBoundsBeginEnd_23922_6 : decode cJ0_checkBoundsBeginEnd_23922 6 = .ok (.invokestatic 1062, 3) := by decide +kernel
theorem dJ0_checkBoundsBeginEnd_23922_9 : decode cJ0_checkBoundsBeginEnd_23922 9 = .ok (.pop, 1) := by decide +kernel
theorem dJ0_checkBoundsBeginEnd_23922_10 : decode cJ0_checkBoundsBeginEnd_23922 10 = .ok (.return_, 1) := by decide +kernel
set_option maxRecDepth 20000 in
theorem ggJ1_charAt_3b067_J0_checkIndex_df160 : GoodIn wsJ1_charAt_3b067 wsJ0_checkIndex_df160 := goodIn_r _ [4, 5, 6, 7, 8, 9] (by decide +kernel) (by decide +kernel)
set_option maxRecDepth 20000 in
theorem gJ1_charAt_3b067_J0_checkIndex_df160 : GoodIn wsJ1_charAt_3b067 (va_wsS RJ1 9 yJ0_checkIndex_df160 wsJ0_checkIndex_df160) := goodIn_app (goodIn_of _ (by decide +kernel)) ggJ1_charAt_3b067_J0_checkIndex_df160
theorem dJ1_charAt_3b067_0 : decode cJ1_charAt_3b067 0 = .ok (.iload_n 1, 1) := by decide +kernel
theorem dJ1_charAt_3b067_1 : decode cJ1_charAt_3b067 1 = .ok (.aload_n 0, 1) := by decide +kernel
theorem dJ1_charAt_3b067_2 : decode cJ1_charAt_3b067 2 = .ok (.arraylength, 1) := by decide +kernel
theorem dJ1_charAt_3b067_3 : decode cJ1_charAt_3b067 3 = .ok (.invokestatic 9, 3) := by decide +kernel
theorem dJ1_charAt_3b067_6 : decode cJ1_charAt_3b067 6 = .ok (.aload_n 0, 1) := by decide +kernel
theorem dJ1_charAt_3b067_7 : decode cJ1_charAt_3b067 7 = .ok (.iload_n 1, 1) := by decide +kernel
theorem dJ1_charAt_3b067_8 : decode cJ1_charAt_3b067 8 = .ok (.baload, 1) := by decide +kernel
theorem dJ1_charAt_3b067_9 : decode cJ1_charAt_3b067 9 = .ok (.sipush 255, 3) := by decide +kernel
theorem dJ1_charAt_3b067_12 : decode cJ1_charAt_3b067 12 = .ok (.iand, 1) := by decide +kernel
theorem dJ1_charAt_3b067_13 : decode cJ1_charAt_3b067 13 = .ok (.i2c, 1) := by decide +kernel
theorem dJ1_charAt_3b067_14 : decode cJ1_charAt_3b067 14 = .ok (.ireturn, 1) := by decide +kernel
theorem dJ1_canEncode_9a6ad_0 : decode cJ1_canEncode_9a6ad 0 = .ok (.iload_n 0, 1) := by decide +kernel
theorem dJ1_canEncode_9a6ad_1 : decode cJ1_canEncode_9a6ad 1 = .ok (.ifCond .lt 14, 3) := by decide +kernel
theorem dJ1_canEncode_9a6ad_4 : decode cJ1_canEncode_9a6ad 4 = .ok (.iload_n 0, 1) := by decide +kernel
theorem dJ1_canEncode_9a6ad_5 : decode cJ1_canEncode_9a6ad 5 = .ok (.sipush 255, 3) := by decide +kernel
theorem dJ1_canEncode_9a6ad_8 : decode cJ1_canEncode_9a6ad 8 = .ok (.if_icmp .gt 7, 3) := by decide +kernel
theorem dJ1_canEncode_9a6ad_11 : decode cJ1_canEncode_9a6ad 11 = .ok (.iconst 1, 1) := by decide +kernel
theorem dJ1_canEncode_9a6ad_12 : decode cJ1_canEncode_9a6ad 12 = .ok (.goto 4, 3) := by decide +kernel
theorem dJ1_canEncode_9a6ad_15 : decode cJ1_canEncode_9a6ad 15 = .ok (.iconst 0, 1) := by decide +kernel
theorem dJ1_canEncode_9a6ad_16 : decode cJ1_canEncode_9a6ad 16 = .ok (.ireturn, 1) := by decide +kernel
set_option maxRecDepth 20000 in
theorem ggJ1_indexOf_4cfef_J1_canEncode_9a6ad : GoodIn wsJ1_indexOf_4cfef wsJ1_canEncode_9a6ad := goodIn_r _ [11] (by decide +kernel) (by decide +kernel)
set_option maxRecDepth 20000 in
theorem gJ1_indexOf_4cfef_J1_canEncode_9a6ad : GoodIn wsJ1_indexOf_4cfef (va_wsS RJ1 88 yJ1_canEncode_9a6ad wsJ1_canEncode_9a6ad) := goodIn_app (goodIn_of _ (by decide +kernel)) ggJ1_indexOf_4cfef_J1_canEncode_9a6ad
set_option maxRecDepth 20000 in
theorem ggJ1_indexOf_4cfef_J1_indexOfChar_4cfef : GoodIn wsJ1_indexOf_4cfef wsJ1_indexOfChar_4cfef := goodIn_r _ [14] (by decide +kernel) (by decide +kernel)
set_option maxRecDepth 20000 in
theorem gJ1_indexOf_4cfef_J1_indexOfChar_4cfef : GoodIn wsJ1_indexOf_4cfef (va_wsS RJ1 95 yJ1_indexOfChar_4cfef wsJ1_indexOfChar_4cfef) := goodIn_app (goodIn_of _ (by decide +kernel)) ggJ1_indexOf_4cfef_J1_indexOfChar_4cfef
theorem dJ1_indexOf_4cfef_0 : decode cJ1_indexOf_4cfef 0 = .ok (.iload_n 1, 1) := by decide +kernel
theorem dJ1_indexOf_4cfef_1 : decode cJ1_indexOf_4cfef 1 = .ok (.invokestatic 88, 3) := by decide +kernel
theorem dJ1_indexOf_4cfef_4 : decode cJ1_indexOf_4cfef 4 = .ok (.ifCond .ne 5, 3) := by decide +kernel
theorem dJ1_indexOf_4cfef_7 : decode cJ1_indexOf_4cfef 7 = .ok (.iconst (-1), 1) := by decide +kernel
theorem dJ1_indexOf_4cfef_8 : decode cJ1_indexOf_4cfef 8 = .ok (.ireturn, 1) := by decide +kernel
theorem dJ1_indexOf_4cfef_9 : decode cJ1_indexOf_4cfef 9 = .ok (.iload_n 2, 1) := by decide +kernel
theorem dJ1_indexOf_4cfef_10 : decode cJ1_indexOf_4cfef 10 = .ok (.iconst 0, 1) := by decide +kernel
theorem dJ1_indexOf_4cfef_11 : decode cJ1_indexOf_4cfef 11 = .ok (.invokestatic 92, 3) := by decide +kernel
theorem dJ1_indexOf_4cfef_14 : decode cJ1_indexOf_4cfef 14 = .ok (.istore_n 2, 1) := by decide +kernel
theorem dJ1_indexOf_4cfef_15 : decode cJ1_indexOf_4cfef 15 = .ok (.iload_n 3, 1) := by decide +kernel
theorem dJ1_indexOf_4cfef_16 : decode cJ1_indexOf_4cfef 16 = .ok (.aload_n 0, 1) := by decide +kernel
theorem dJ1_indexOf_4cfef_17 : decode cJ1_indexOf_4cfef 17 = .ok (.arraylength, 1) := by decide +kernel
theorem dJ1_indexOf_4cfef_18 : decode cJ1_indexOf_4cfef 18 = .ok (.invokestatic 38, 3) := by decide +kernel
theorem dJ1_indexOf_4cfef_21 : decode cJ1_indexOf_4cfef 21 = .ok (.istore_n 3, 1) := by decide +kernel
theorem dJ1_indexOf_4cfef_22 : decode cJ1_indexOf_4cfef 22 = .ok (.iload_n 2, 1) := by decide +kernel
theorem dJ1_indexOf_4cfef_23 : decode cJ1_indexOf_4cfef 23 = .ok (.iload_n 3, 1) := by decide +kernel
theorem dJ1_indexOf_4cfef_24 : decode cJ1_indexOf_4cfef 24 = .ok (.if_icmp .lt 5, 3) := by decide +kernel
theorem dJ1_indexOf_4cfef_27 : decode cJ1_indexOf_4cfef 27 = .ok (.iconst (-1), 1) := by decide +kernel
theorem dJ1_indexOf_4cfef_28 : decode cJ1_indexOf_4cfef 28 = .ok (.ireturn, 1) := by decide +kernel
theorem dJ1_indexOf_4cfef_29 : decode cJ1_indexOf_4cfef 29 = .ok (.aload_n 0, 1) := by decide +kernel
theorem dJ1_indexOf_4cfef_30 : decode cJ1_indexOf_4cfef 30 = .ok (.iload_n 1, 1) := by decide +kernel
theorem dJ1_indexOf_4cfef_31 : decode cJ1_indexOf_4cfef 31 = .ok (.iload_n 2, 1) := by decide +kernel
theorem dJ1_indexOf_4cfef_32 : decode cJ1_indexOf_4cfef 32 = .ok (.iload_n 3, 1) := by decide +kernel
