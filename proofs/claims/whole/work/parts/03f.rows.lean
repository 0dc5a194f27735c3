theorem dX12_readLine_95 : decode cX12_readLine 95 = .ok (.getfield 110, 3) := by decide +kernel
theorem dX12_readLine_98 : decode cX12_readLine 98 = .ok (.bipush 8, 2) := by decide +kernel
theorem dX12_readLine_100 : decode cX12_readLine 100 = .ok (.isub, 1) := by decide +kernel
theorem dX12_readLine_101 : decode cX12_readLine 101 = .ok (.invokevirtual 198, 3) := by decide +kernel
theorem dX12_readLine_104 : decode cX12_readLine 104 = .ok (.goto 8, 3) := by decide +kernel
theorem dX12_readLine_107 : decode cX12_readLine 107 = .ok (.aload_n 0, 1) := by decide +kernel
theorem dX12_readLine_108 : decode cX12_readLine 108 = .ok (.iconst 2, 1) := by decide +kernel
theorem dX12_readLine_109 : decode cX12_readLine 109 = .ok (.invokevirtual 140, 3) := by decide +kernel
theorem dX12_readLine_112 : decode cX12_readLine 112 = .ok (.return_, 1) := by decide +kernel
set_option maxRecDepth 20000 in
theorem ggX12_ends_X12_eats : GoodIn wsX12_ends wsX12_eats := goodIn_r _ [6, 7, 8, 9, 5, 10, 11, 12, 13, 14, 15, 16, 17, 18, 19, 20, 21, 22, 23, 24, 25, 26, 27, 28, 29, 30, 31, 32, 33, 34, 35, 36, 37, 38, 39, 40, 41, 42, 43, 44, 45, 46, 47, 48, 49, 50, 51, 52, 53, 54, 55, 56, 57, 58, 59, 60, 61, 62, 63, 64, 65, 66, 67, 68, 69, 70, 71, 72, 73, 74, 75, 76, 77, 78, 79, 80, 81, 82, 83, 84, 90, 91, 92, 93, 94, 95, 96, 97, 98, 99, 100, 101, 102, 103, 104, 105, 106, 107, 108, 109, 110, 111, 112, 113, 114, 115, 116, 117, 118, 119, 120, 121, 122, 123, 124, 125] (by decide +kernel) (by decide +kernel)
set_option maxRecDepth 20000 in
theorem gX12_ends_X12_eats : GoodIn wsX12_ends (wsV RX12 167 RX12 yX12_eats wsX12_eats) := goodIn_app (goodIn_of _ (by decide +kernel)) ggX12_ends_X12_eats
set_option maxRecDepth 20000 in
theorem ggX12_ends_X12_fails : GoodIn wsX12_ends wsX12_fails := goodIn_r _ [88, 11, 12, 18, 89, 90, 91, 92, 93, 94, 95, 96, 97, 98, 99, 100, 101, 102, 103, 104, 105, 106, 107, 108, 109, 110, 111, 112, 113, 114, 115, 116, 117, 118, 119, 120, 121, 122, 123, 124, 125] (by decide +kernel) (by decide +kernel)
set_option maxRecDepth 20000 in
theorem gX12_ends_X12_fails : GoodIn wsX12_ends (wsV RX12 140 RX12 yX12_fails wsX12_fails) := goodIn_app (goodIn_of _ (by decide +kernel)) ggX12_ends_X12_fails
theorem dX12_ends_0 : decode cX12_ends 0 = .ok (.aload_n 0, 1) := by decide +kernel
theorem dX12_ends_1 : decode cX12_ends 1 = .ok (.bipush 30, 2) := by decide +kernel
theorem dX12_ends_3 : decode cX12_ends 3 = .ok (.invokevirtual 167, 3) := by decide +kernel
theorem dX12_ends_6 : decode cX12_ends 6 = .ok (.ifCond .ne 8, 3) := by decide +kernel
theorem dX12_ends_9 : decode cX12_ends 9 = .ok (.aload_n 0, 1) := by decide +kernel
theorem dX12_ends_10 : decode cX12_ends 10 = .ok (.iconst 2, 1) := by decide +kernel
theorem dX12_ends_11 : decode cX12_ends 11 = .ok (.invokevirtual 140, 3) := by decide +kernel
theorem dX12_ends_14 : decode cX12_ends 14 = .ok (.aload_n 0, 1) := by decide +kernel
theorem dX12_ends_15 : decode cX12_ends 15 = .ok (.getfield 24, 3) := by decide +kernel
theorem dX12_ends_18 : decode cX12_ends 18 = .ok (.iconst 0, 1) := by decide +kernel
theorem dX12_ends_19 : decode cX12_ends 19 = .ok (.dup2, 1) := by decide +kernel
theorem dX12_ends_20 : decode cX12_ends 20 = .ok (.iaload, 1) := by decide +kernel
theorem dX12_ends_21 : decode cX12_ends 21 = .ok (.iconst 1, 1) := by decide +kernel
theorem dX12_ends_22 : decode cX12_ends 22 = .ok (.iadd, 1) := by decide +kernel
theorem dX12_ends_23 : decode cX12_ends 23 = .ok (.iastore, 1) := by decide +kernel
theorem dX12_ends_24 : decode cX12_ends 24 = .ok (.return_, 1) := by decide +kernel
set_option maxRecDepth 20000 in
theorem ggX12_town_X12_within : GoodIn wsX12_town wsX12_within := goodIn_r _ [17] (by decide +kernel) (by decide +kernel)
set_option maxRecDepth 20000 in
theorem gX12_town_X12_within : GoodIn wsX12_town (va_wsS RX12 144 yX12_within wsX12_within) := goodIn_app (goodIn_of _ (by decide +kernel)) ggX12_town_X12_within
set_option maxRecDepth 20000 in
theorem ggX12_town_X12_plain : GoodIn wsX12_town wsX12_plain := goodIn_r _ [20] (by decide +kernel) (by decide +kernel)
set_option maxRecDepth 20000 in
theorem gX12_town_X12_plain : GoodIn wsX12_town (va_wsS RX12 77 yX12_plain wsX12_plain) := goodIn_app (goodIn_of _ (by decide +kernel)) ggX12_town_X12_plain
set_option maxRecDepth 20000 in
theorem ggX12_town_X12_next : GoodIn wsX12_town wsX12_next := goodIn_r _ [24, 5, 25, 4, 8, 26, 27, 28, 29, 16, 30, 31, 32, 33, 34, 35, 36, 37, 38, 39, 40, 41, 42, 43, 44, 45, 46, 47, 48, 49, 50, 51, 52, 53, 54, 55, 56, 57, 58, 59, 60, 61, 62, 63, 64, 65, 66, 67, 68, 69, 70, 71, 72, 73, 74, 75, 76, 77, 78, 79, 80, 81, 82, 83, 84, 85, 86, 87, 88, 89, 90, 170, 171, 172, 173, 174, 175, 176, 177, 178, 179, 180, 181, 182, 183, 184, 185, 186, 187, 188, 189, 190, 191, 192, 193, 194, 195, 196, 197, 198, 199, 200, 201, 202, 203, 204, 205] (by decide +kernel) (by decide +kernel)
set_option maxRecDepth 20000 in
theorem gX12_town_X12_next : GoodIn wsX12_town (wsV RX12 137 RX12 yX12_next wsX12_next) := goodIn_app (goodIn_of _ (by decide +kernel)) ggX12_town_X12_next
set_option maxRecDepth 20000 in
theorem ggX12_town_X12_eats : GoodIn wsX12_town wsX12_eats := goodIn_r _ [94, 95, 96, 97, 16, 98, 6, 8, 21, 22, 23, 24, 5, 25, 4, 26, 27, 28, 29, 30, 31, 32, 33, 34, 35, 36, 37, 38, 39, 40, 41, 42, 43, 44, 45, 46, 47, 48, 49, 50, 51, 52, 53, 54, 55, 56, 57, 58, 59, 60, 61, 62, 63, 64, 65, 66, 67, 68, 69, 70, 71, 72, 73, 74, 75, 76, 77, 78, 79, 80, 81, 82, 83, 84, 85, 86, 87, 88, 89, 90, 170, 171, 172, 173, 174, 175, 176, 177, 178, 179, 180, 181, 182, 183, 184, 185, 186, 187, 188, 189, 190, 191, 192, 193, 194, 195, 196, 197, 198, 199, 200, 201, 202, 203, 204, 205] (by decide +kernel) (by decide +kernel)
set_option maxRecDepth 20000 in
theorem gX12_town_X12_eats : GoodIn wsX12_town (wsV RX12 167 RX12 yX12_eats wsX12_eats) := goodIn_app (goodIn_of _ (by decide +kernel)) ggX12_town_X12_eats
set_option maxRecDepth 20000 in
theorem ggX12_town_X12_fails : GoodIn wsX12_town wsX12_fails := goodIn_r _ [102, 6, 8, 25, 10, 170, 171, 172, 173, 174, 175, 176, 177, 178, 179, 180, 181, 182, 183, 184, 185, 186, 187, 188, 189, 190, 191, 192, 193, 194, 195, 196, 197, 198, 199, 200, 201, 202, 203, 204, 205] (by decide +kernel) (by decide +kernel)
set_option maxRecDepth 20000 in
theorem gX12_town_X12_fails : GoodIn wsX12_town (wsV RX12 140 RX12 yX12_fails wsX12_fails) := goodIn_app (goodIn_of _ (by decide +kernel)) ggX12_town_X12_fails
set_option maxRecDepth 20000 in
theorem ggX12_town_X12_takes : GoodIn wsX12_town wsX12_takes := goodIn_r _ [106, 26, 6, 95, 96, 97, 16, 98, 8, 99, 100, 101, 102, 25, 10, 14, 15, 17, 21, 22, 23, 24, 5, 4, 27, 28, 29, 30, 31, 32, 33, 34, 35, 36, 37, 38, 39, 40, 41, 42, 43, 44, 45, 46, 47, 48, 49, 50, 51, 52, 53, 54, 55, 56, 57, 58, 59, 60, 61, 62, 63, 64, 65, 66, 67, 68, 69, 70, 71, 72, 73, 74, 75, 76, 77, 78, 79, 80, 81, 82, 83, 84, 85, 86, 87, 88, 89, 90, 170, 171, 172, 173, 174, 175, 176, 177, 178, 179, 180, 181, 182, 183, 184, 185, 186, 187, 188, 189, 190, 191, 192, 193, 194, 195, 196, 197, 198, 199, 200, 201, 202, 203, 204, 205] (by decide +kernel) (by decide +kernel)
set_option maxRecDepth 20000 in
theorem gX12_town_X12_takes : GoodIn wsX12_town (wsV RX12 188 RX12 yX12_takes wsX12_takes) := goodIn_app (goodIn_of _ (by decide +kernel)) ggX12_town_X12_takes
set_option maxRecDepth 20000 in
theorem ggX12_town_X12_ends : GoodIn wsX12_town wsX12_ends := goodIn_r _ [110, 7, 91, 92, 93, 16, 94, 95, 96, 97, 98, 6, 8, 21, 22, 23, 24, 5, 25, 4, 26, 27, 28, 29, 30, 31, 32, 33, 34, 35, 36, 37, 38, 39, 40, 41, 42, 43, 44, 45, 46, 47, 48, 49, 50, 51, 52, 53, 54, 55, 56, 57, 58, 59, 60, 61, 62, 63, 64, 65, 66, 67, 68, 69, 70, 71, 72, 73, 74, 75, 76, 77, 78, 79, 80, 81, 82, 83, 84, 85, 86, 87, 88, 89, 90, 99, 100, 101, 102, 10, 170, 171, 172, 173, 174, 175, 176, 177, 178, 179, 180, 181, 182, 183, 184, 185, 186, 187, 188, 189, 190, 191, 192, 193, 194, 195, 196, 197, 198, 199, 200, 201, 202, 203, 204, 205] (by decide +kernel) (by decide +kernel)
set_option maxRecDepth 20000 in
theorem gX12_town_X12_ends : GoodIn wsX12_town (wsV RX12 202 RX12 yX12_ends wsX12_ends) := goodIn_app (goodIn_of _ (by decide +kernel)) ggX12_town_X12_ends
set_option maxRecDepth 20000 in
theorem ggX12_town_X12_readLine : GoodIn wsX12_town wsX12_readLine := goodIn_r _ [114, 6, 7, 8, 95, 96, 97, 16, 98, 115, 116, 117, 118, 99, 100, 101, 102, 25, 10, 21, 22, 23, 24, 5, 4, 26, 27, 28, 29, 30, 31, 32, 33, 34, 35, 36, 37, 38, 39, 40, 41, 42, 43, 44, 45, 46, 47, 48, 49, 50, 51, 52, 53, 54, 55, 56, 57, 58, 59, 60, 61, 62, 63, 64, 65, 66, 67, 68, 69, 70, 71, 72, 73, 74, 75, 76, 77, 78, 79, 80, 81, 82, 83, 84, 85, 86, 87, 88, 89, 90, 119, 120, 121, 122, 91, 92, 93, 94, 103, 104, 105, 106, 14, 15, 17, 123, 124, 125, 126, 127, 128, 129, 130, 131, 132, 133, 134, 135, 136, 137, 138, 139, 140, 141, 142, 143, 144, 145, 146, 147, 148, 149, 150, 151, 152, 153, 154, 155, 156, 157, 158, 159, 160, 161, 162, 163, 164, 165, 166, 167, 168, 169, 170, 171, 172, 173, 174, 175, 176, 177, 178, 179, 180, 181, 182, 183, 184, 185, 186, 187, 188, 189, 190, 191, 192, 193, 194, 195, 196, 197, 198, 199, 200, 201, 202, 203, 204, 205] (by decide +kernel) (by decide +kernel)
set_option maxRecDepth 20000 in
theorem gX12_town_X12_readLine : GoodIn wsX12_town (wsV RX12 205 RX12 yX12_readLine wsX12_readLine) := goodIn_app (goodIn_of _ (by decide +kernel)) ggX12_town_X12_readLine
theorem dX12_town_0 : decode cX12_town 0 = .ok (.aload_n 0, 1) := by decide +kernel
theorem dX12_town_1 : decode cX12_town 1 = .ok (.iconst 0, 1) := by decide +kernel
theorem dX12_town_2 : decode cX12_town 2 = .ok (.putfield 1, 3) := by decide +kernel
theorem dX12_town_5 : decode cX12_town 5 = .ok (.iload_n 1, 1) := by decide +kernel
theorem dX12_town_6 : decode cX12_town 6 = .ok (.i2l, 1) := by decide +kernel
theorem dX12_town_7 : decode cX12_town 7 = .ok (.lconst 0, 1) := by decide +kernel
theorem dX12_town_8 : decode cX12_town 8 = .ok (.aload_n 0, 1) := by decide +kernel
theorem dX12_town_9 : decode cX12_town 9 = .ok (.getfield 81, 3) := by decide +kernel
theorem dX12_town_12 : decode cX12_town 12 = .ok (.i2l, 1) := by decide +kernel
theorem dX12_town_13 : decode cX12_town 13 = .ok (.invokestatic 144, 3) := by decide +kernel
theorem dX12_town_16 : decode cX12_town 16 = .ok (.ifCond .ne 6, 3) := by decide +kernel
theorem dX12_town_19 : decode cX12_town 19 = .ok (.ldc 201, 2) := by decide +kernel
theorem dX12_town_21 : decode cX12_town 21 = .ok (.ireturn, 1) := by decide +kernel
theorem dX12_town_22 : decode cX12_town 22 = .ok (.aload_n 0, 1) := by decide +kernel
theorem dX12_town_23 : decode cX12_town 23 = .ok (.iload_n 1, 1) := by decide +kernel
theorem dX12_town_24 : decode cX12_town 24 = .ok (.putfield 85, 3) := by decide +kernel
theorem dX12_town_27 : decode cX12_town 27 = .ok (.aload_n 0, 1) := by decide +kernel
theorem dX12_town_28 : decode cX12_town 28 = .ok (.iconst 0, 1) := by decide +kernel
theorem dX12_town_29 : decode cX12_town 29 = .ok (.putfield 81, 3) := by decide +kernel
theorem dX12_town_32 : decode cX12_town 32 = .ok (.aload_n 0, 1) := by decide +kernel
theorem dX12_town_33 : decode cX12_town 33 = .ok (.iconst 0, 1) := by decide +kernel
theorem dX12_town_34 : decode cX12_town 34 = .ok (.putfield 103, 3) := by decide +kernel
theorem dX12_town_37 : decode cX12_town 37 = .ok (.aload_n 0, 1) := by decide +kernel
theorem dX12_town_38 : decode cX12_town 38 = .ok (.iconst 0, 1) := by decide +kernel
theorem dX12_town_39 : decode cX12_town 39 = .ok (.putfield 128, 3) := by decide +kernel
theorem dX12_town_42 : decode cX12_town 42 = .ok (.aload_n 0, 1) := by decide +kernel
theorem dX12_town_43 : decode cX12_town 43 = .ok (.getfield 24, 3) := by decide +kernel
theorem dX12_town_46 : decode cX12_town 46 = .ok (.invokestatic 77, 3) := by decide +kernel
theorem dX12_town_49 : decode cX12_town 49 = .ok (.aload_n 0, 1) := by decide +kernel
theorem dX12_town_50 : decode cX12_town 50 = .ok (.invokevirtual 137, 3) := by decide +kernel
theorem dX12_town_53 : decode cX12_town 53 = .ok (.aload_n 0, 1) := by decide +kernel
theorem dX12_town_54 : decode cX12_town 54 = .ok (.iconst 0, 1) := by decide +kernel
theorem dX12_town_55 : decode cX12_town 55 = .ok (.invokevirtual 167, 3) := by decide +kernel
theorem dX12_town_58 : decode cX12_town 58 = .ok (.ifCond .eq 11, 3) := by decide +kernel
theorem dX12_town_61 : decode cX12_town 61 = .ok (.aload_n 0, 1) := by decide +kernel
theorem dX12_town_62 : decode cX12_town 62 = .ok (.iconst 1, 1) := by decide +kernel
theorem dX12_town_63 : decode cX12_town 63 = .ok (.invokevirtual 167, 3) := by decide +kernel
theorem dX12_town_66 : decode cX12_town 66 = .ok (.ifCond .ne 8, 3) := by decide +kernel
theorem dX12_town_69 : decode cX12_town 69 = .ok (.aload_n 0, 1) := by decide +kernel
theorem dX12_town_70 : decode cX12_town 70 = .ok (.iconst 2, 1) := by decide +kernel
theorem dX12_town_71 : decode cX12_town 71 = .ok (.invokevirtual 140, 3) := by decide +kernel
theorem dX12_town_74 : decode cX12_town 74 = .ok (.aload_n 0, 1) := by decide +kernel
theorem dX12_town_75 : decode cX12_town 75 = .ok (.getfield 24, 3) := by decide +kernel
theorem dX12_town_78 : decode cX12_town 78 = .ok (.iconst 1, 1) := by decide +kernel
theorem dX12_town_79 : decode cX12_town 79 = .ok (.aload_n 0, 1) := by decide +kernel
theorem dX12_town_80 : decode cX12_town 80 = .ok (.iconst 1, 1) := by decide +kernel
theorem dX12_town_81 : decode cX12_town 81 = .ok (.bipush 6, 2) := by decide +kernel
theorem dX12_town_83 : decode cX12_town 83 = .ok (.invokevirtual 188, 3) := by decide +kernel
theorem dX12_town_86 : decode cX12_town 86 = .ok (.iastore, 1) := by decide +kernel
theorem dX12_town_87 : decode cX12_town 87 = .ok (.aload_n 0, 1) := by decide +kernel
theorem dX12_town_88 : decode cX12_town 88 = .ok (.iconst 2, 1) := by decide +kernel
theorem dX12_town_89 : decode cX12_town 89 = .ok (.invokevirtual 167, 3) := by decide +kernel
theorem dX12_town_92 : decode cX12_town 92 = .ok (.ifCond .ne 8, 3) := by decide +kernel
theorem dX12_town_95 : decode cX12_town 95 = .ok (.aload_n 0, 1) := by decide +kernel
theorem dX12_town_96 : decode cX12_town 96 = .ok (.iconst 2, 1) := by decide +kernel
theorem dX12_town_97 : decode cX12_town 97 = .ok (.invokevirtual 140, 3) := by decide +kernel
theorem dX12_town_100 : decode cX12_town 100 = .ok (.aload_n 0, 1) := by decide +kernel
theorem dX12_town_101 : decode cX12_town 101 = .ok (.getfield 24, 3) := by decide +kernel
theorem dX12_town_104 : decode cX12_town 104 = .ok (.iconst 2, 1) := by decide +kernel
theorem dX12_town_105 : decode cX12_town 105 = .ok (.aload_n 0, 1) := by decide +kernel
theorem dX12_town_106 : decode cX12_town 106 = .ok (.iconst 1, 1) := by decide +kernel
theorem dX12_town_107 : decode cX12_town 107 = .ok (.iconst 4, 1) := by decide +kernel
theorem dX12_town_108 : decode cX12_town 108 = .ok (.invokevirtual 188, 3) := by decide +kernel
theorem dX12_town_111 : decode cX12_town 111 = .ok (.iastore, 1) := by decide +kernel
theorem dX12_town_112 : decode cX12_town 112 = .ok (.aload_n 0, 1) := by decide +kernel
theorem dX12_town_113 : decode cX12_town 113 = .ok (.invokevirtual 202, 3) := by decide +kernel
theorem dX12_town_116 : decode cX12_town 116 = .ok (.aload_n 0, 1) := by decide +kernel
theorem dX12_town_117 : decode cX12_town 117 = .ok (.getfield 128, 3) := by decide +kernel
theorem dX12_town_120 : decode cX12_town 120 = .ok (.ifCond .ne 23, 3) := by decide +kernel
theorem dX12_town_123 : decode cX12_town 123 = .ok (.aload_n 0, 1) := by decide +kernel
theorem dX12_town_124 : decode cX12_town 124 = .ok (.getfield 110, 3) := by decide +kernel
theorem dX12_town_127 : decode cX12_town 127 = .ok (.bipush 25, 2) := by decide +kernel
theorem dX12_town_129 : decode cX12_town 129 = .ok (.if_icmp .eq 14, 3) := by decide +kernel
theorem dX12_town_132 : decode cX12_town 132 = .ok (.aload_n 0, 1) := by decide +kernel
theorem dX12_town_133 : decode cX12_town 133 = .ok (.invokevirtual 205, 3) := by decide +kernel
theorem dX12_town_136 : decode cX12_town 136 = .ok (.aload_n 0, 1) := by decide +kernel
theorem dX12_town_137 : decode cX12_town 137 = .ok (.invokevirtual 202, 3) := by decide +kernel
theorem dX12_town_140 : decode cX12_town 140 = .ok (.goto (-24), 3) := by decide +kernel
theorem dX12_town_143 : decode cX12_town 143 = .ok (.aload_n 0, 1) := by decide +kernel
theorem dX12_town_144 : decode cX12_town 144 = .ok (.aload_n 0, 1) := by decide +kernel
theorem dX12_town_145 : decode cX12_town 145 = .ok (.getfield 128, 3) := by decide +kernel
theorem dX12_town_148 : decode cX12_town 148 = .ok (.putfield 208, 3) := by decide +kernel
theorem dX12_town_151 : decode cX12_town 151 = .ok (.aload_n 0, 1) := by decide +kernel
theorem dX12_town_152 : decode cX12_town 152 = .ok (.aload_n 0, 1) := by decide +kernel
theorem dX12_town_153 : decode cX12_town 153 = .ok (.getfield 128, 3) := by decide +kernel
theorem dX12_town_156 : decode cX12_town 156 = .ok (.ifCond .ne 7, 3) := by decide +kernel
theorem dX12_town_159 : decode cX12_town 159 = .ok (.iconst (-1), 1) := by decide +kernel
theorem dX12_town_160 : decode cX12_town 160 = .ok (.goto 7, 3) := by decide +kernel
theorem dX12_town_163 : decode cX12_town 163 = .ok (.aload_n 0, 1) := by decide +kernel
theorem dX12_town_164 : decode cX12_town 164 = .ok (.getfield 131, 3) := by decide +kernel
theorem dX12_town_167 : decode cX12_town 167 = .ok (.putfield 27, 3) := by decide +kernel
theorem dX12_town_170 : decode cX12_town 170 = .ok (.aload_n 0, 1) := by decide +kernel
theorem dX12_town_171 : decode cX12_town 171 = .ok (.getfield 128, 3) := by decide +kernel
theorem dX12_town_174 : decode cX12_town 174 = .ok (.ifCond .eq 11, 3) := by decide +kernel
theorem dX12_town_177 : decode cX12_town 177 = .ok (.ldc 211, 2) := by decide +kernel
theorem dX12_town_179 : decode cX12_town 179 = .ok (.aload_n 0, 1) := by decide +kernel
theorem dX12_town_180 : decode cX12_town 180 = .ok (.getfield 128, 3) := by decide +kernel
theorem dX12_town_183 : decode cX12_town 183 = .ok (.isub, 1) := by decide +kernel
theorem dX12_town_184 : decode cX12_town 184 = .ok (.ireturn, 1) := by decide +kernel
theorem dX12_town_185 : decode cX12_town 185 = .ok (.iconst 0, 1) := by decide +kernel
theorem dX12_town_186 : decode cX12_town 186 = .ok (.istore_n 2, 1) := by decide +kernel
theorem dX12_town_187 : decode cX12_town 187 = .ok (.iload_n 2, 1) := by decide +kernel
theorem dX12_town_188 : decode cX12_town 188 = .ok (.sipush 1458, 3) := by decide +kernel
theorem dX12_town_191 : decode cX12_town 191 = .ok (.if_icmp .ge 21, 3) := by decide +kernel
theorem dX12_town_194 : decode cX12_town 194 = .ok (.aload_n 0, 1) := by decide +kernel
theorem dX12_town_195 : decode cX12_town 195 = .ok (.getfield 13, 3) := by decide +kernel
theorem dX12_town_198 : decode cX12_town 198 = .ok (.iload_n 2, 1) := by decide +kernel
theorem dX12_town_199 : decode cX12_town 199 = .ok (.aload_n 0, 1) := by decide +kernel
theorem dX12_town_200 : decode cX12_town 200 = .ok (.getfield 24, 3) := by decide +kernel
theorem dX12_town_203 : decode cX12_town 203 = .ok (.iload_n 2, 1) := by decide +kernel
theorem dX12_town_204 : decode cX12_town 204 = .ok (.iaload, 1) := by decide +kernel
theorem dX12_town_205 : decode cX12_town 205 = .ok (.iastore, 1) := by decide +kernel
theorem dX12_town_206 : decode cX12_town 206 = .ok (.iinc 2 1, 3) := by decide +kernel
theorem dX12_town_209 : decode cX12_town 209 = .ok (.goto (-22), 3) := by decide +kernel
theorem dX12_town_212 : decode cX12_town 212 = .ok (.aload_n 0, 1) := by decide +kernel
theorem dX12_town_213 : decode cX12_town 213 = .ok (.getfield 13, 3) := by decide +kernel
theorem dX12_town_216 : decode cX12_town 216 = .ok (.iconst 0, 1) := by decide +kernel
theorem dX12_town_217 : decode cX12_town 217 = .ok (.iaload, 1) := by decide +kernel
theorem dX12_town_218 : decode cX12_town 218 = .ok (.ireturn, 1) := by decide +kernel
theorem dX12_fault_0 : decode cX12_fault 0 = .ok (.aload_n 0, 1) := by decide +kernel
theorem dX12_fault_1 : decode cX12_fault 1 = .ok (.iconst 0, 1) := by decide +kernel
theorem dX12_fault_2 : decode cX12_fault 2 = .ok (.putfield 1, 3) := by decide +kernel
theorem dX12_fault_5 : decode cX12_fault 5 = .ok (.iload_n 1, 1) := by decide +kernel
theorem dX12_fault_6 : decode cX12_fault 6 = .ok (.ifCond .ne 10, 3) := by decide +kernel
theorem dX12_fault_9 : decode cX12_fault 9 = .ok (.aload_n 0, 1) := by decide +kernel
theorem dX12_fault_10 : decode cX12_fault 10 = .ok (.getfield 208, 3) := by decide +kernel
theorem dX12_fault_13 : decode cX12_fault 13 = .ok (.goto 16, 3) := by decide +kernel
theorem dX12_fault_16 : decode cX12_fault 16 = .ok (.iload_n 1, 1) := by decide +kernel
theorem dX12_fault_17 : decode cX12_fault 17 = .ok (.iconst 1, 1) := by decide +kernel
theorem dX12_fault_18 : decode cX12_fault 18 = .ok (.if_icmp .ne 10, 3) := by decide +kernel
theorem dX12_fault_21 : decode cX12_fault 21 = .ok (.aload_n 0, 1) := by decide +kernel
theorem dX12_fault_22 : decode cX12_fault 22 = .ok (.getfield 27, 3) := by decide +kernel
theorem dX12_fault_25 : decode cX12_fault 25 = .ok (.goto 4, 3) := by decide +kernel
theorem dX12_fault_28 : decode cX12_fault 28 = .ok (.iconst (-1), 1) := by decide +kernel
theorem dX12_fault_29 : decode cX12_fault 29 = .ok (.ireturn, 1) := by decide +kernel
set_option maxRecDepth 20000 in
theorem ggX12_isPerson_X12_within : GoodIn wsX12_isPerson wsX12_within := goodIn_r _ [5] (by decide +kernel) (by decide +kernel)
set_option maxRecDepth 20000 in
theorem gX12_isPerson_X12_within : GoodIn wsX12_isPerson (va_wsS RX12 144 yX12_within wsX12_within) := goodIn_app (goodIn_of _ (by decide +kernel)) ggX12_isPerson_X12_within
theorem dX12_isPerson_0 : decode cX12_isPerson 0 = .ok (.lload_n 1, 1) := by decide +kernel
theorem dX12_isPerson_1 : decode cX12_isPerson 1 = .ok (.lconst 0, 1) := by decide +kernel
theorem dX12_isPerson_2 : decode cX12_isPerson 2 = .ok (.aload_n 0, 1) := by decide +kernel
theorem dX12_isPerson_3 : decode cX12_isPerson 3 = .ok (.getfield 13, 3) := by decide +kernel
theorem dX12_isPerson_6 : decode cX12_isPerson 6 = .ok (.iconst 3, 1) := by decide +kernel
theorem dX12_isPerson_7 : decode cX12_isPerson 7 = .ok (.iaload, 1) := by decide +kernel
theorem dX12_isPerson_8 : decode cX12_isPerson 8 = .ok (.iconst 1, 1) := by decide +kernel
theorem dX12_isPerson_9 : decode cX12_isPerson 9 = .ok (.isub, 1) := by decide +kernel
theorem dX12_isPerson_10 : decode cX12_isPerson 10 = .ok (.i2l, 1) := by decide +kernel
theorem dX12_isPerson_11 : decode cX12_isPerson 11 = .ok (.invokestatic 144, 3) := by decide +kernel
theorem dX12_isPerson_14 : decode cX12_isPerson 14 = .ok (.ireturn, 1) := by decide +kernel
set_option maxRecDepth 20000 in
theorem ggX12_isTrade_X12_within : GoodIn wsX12_isTrade wsX12_within := goodIn_r _ [5] (by decide +kernel) (by decide +kernel)
set_option maxRecDepth 20000 in
theorem gX12_isTrade_X12_within : GoodIn wsX12_isTrade (va_wsS RX12 144 yX12_within wsX12_within) := goodIn_app (goodIn_of _ (by decide +kernel)) ggX12_isTrade_X12_within
theorem dX12_isTrade_0 : decode cX12_isTrade 0 = .ok (.lload_n 1, 1) := by decide +kernel
theorem dX12_isTrade_1 : decode cX12_isTrade 1 = .ok (.lconst 0, 1) := by decide +kernel
theorem dX12_isTrade_2 : decode cX12_isTrade 2 = .ok (.aload_n 0, 1) := by decide +kernel
theorem dX12_isTrade_3 : decode cX12_isTrade 3 = .ok (.getfield 13, 3) := by decide +kernel
theorem dX12_isTrade_6 : decode cX12_isTrade 6 = .ok (.iconst 2, 1) := by decide +kernel
theorem dX12_isTrade_7 : decode cX12_isTrade 7 = .ok (.iaload, 1) := by decide +kernel
theorem dX12_isTrade_8 : decode cX12_isTrade 8 = .ok (.iconst 1, 1) := by decide +kernel
theorem dX12_isTrade_9 : decode cX12_isTrade 9 = .ok (.isub, 1) := by decide +kernel
theorem dX12_isTrade_10 : decode cX12_isTrade 10 = .ok (.i2l, 1) := by decide +kernel
theorem dX12_isTrade_11 : decode cX12_isTrade 11 = .ok (.invokestatic 144, 3) := by decide +kernel
theorem dX12_isTrade_14 : decode cX12_isTrade 14 = .ok (.ireturn, 1) := by decide +kernel
theorem dX12_bitsOf_0 : decode cX12_bitsOf 0 = .ok (.iconst 0, 1) := by decide +kernel
theorem dX12_bitsOf_1 : decode cX12_bitsOf 1 = .ok (.istore_n 1, 1) := by decide +kernel
theorem dX12_bitsOf_2 : decode cX12_bitsOf 2 = .ok (.iconst 0, 1) := by decide +kernel
theorem dX12_bitsOf_3 : decode cX12_bitsOf 3 = .ok (.istore_n 2, 1) := by decide +kernel
theorem dX12_bitsOf_4 : decode cX12_bitsOf 4 = .ok (.iload_n 2, 1) := by decide +kernel
theorem dX12_bitsOf_5 : decode cX12_bitsOf 5 = .ok (.bipush 10, 2) := by decide +kernel
theorem dX12_bitsOf_7 : decode cX12_bitsOf 7 = .ok (.if_icmp .ge 17, 3) := by decide +kernel
theorem dX12_bitsOf_10 : decode cX12_bitsOf 10 = .ok (.iload_n 1, 1) := by decide +kernel
theorem dX12_bitsOf_11 : decode cX12_bitsOf 11 = .ok (.iload_n 0, 1) := by decide +kernel
theorem dX12_bitsOf_12 : decode cX12_bitsOf 12 = .ok (.iload_n 2, 1) := by decide +kernel
theorem dX12_bitsOf_13 : decode cX12_bitsOf 13 = .ok (.ishr, 1) := by decide +kernel
theorem dX12_bitsOf_14 : decode cX12_bitsOf 14 = .ok (.iconst 1, 1) := by decide +kernel
theorem dX12_bitsOf_15 : decode cX12_bitsOf 15 = .ok (.iand, 1) := by decide +kernel
theorem dX12_bitsOf_16 : decode cX12_bitsOf 16 = .ok (.iadd, 1) := by decide +kernel
theorem dX12_bitsOf_17 : decode cX12_bitsOf 17 = .ok (.istore_n 1, 1) := by decide +kernel
theorem dX12_bitsOf_18 : decode cX12_bitsOf 18 = .ok (.iinc 2 1, 3) := by decide +kernel
theorem dX12_bitsOf_21 : decode cX12_bitsOf 21 = .ok (.goto (-17), 3) := by decide +kernel
theorem dX12_bitsOf_24 : decode cX12_bitsOf 24 = .ok (.iload_n 1, 1) := by decide +kernel
theorem dX12_bitsOf_25 : decode cX12_bitsOf 25 = .ok (.ireturn, 1) := by decide +kernel
theorem dX12_between_0 : decode cX12_between 0 = .ok (.iload_n 0, 1) := by decide +kernel
theorem dX12_between_1 : decode cX12_between 1 = .ok (.tableswitch 80 3003 3008 #[39, 50, 61, 80, 72, 76], 39) := by decide +kernel
theorem dX12_between_40 : decode cX12_between 40 = .ok (.iload_n 1, 1) := by decide +kernel
theorem dX12_between_41 : decode cX12_between 41 = .ok (.iload_n 2, 1) := by decide +kernel
theorem dX12_between_42 : decode cX12_between 42 = .ok (.if_icmp .ne 7, 3) := by decide +kernel
theorem dX12_between_45 : decode cX12_between 45 = .ok (.iconst 1, 1) := by decide +kernel
theorem dX12_between_46 : decode cX12_between 46 = .ok (.goto 4, 3) := by decide +kernel
theorem dX12_between_49 : decode cX12_between 49 = .ok (.iconst 0, 1) := by decide +kernel
theorem dX12_between_50 : decode cX12_between 50 = .ok (.ireturn, 1) := by decide +kernel
theorem dX12_between_51 : decode cX12_between 51 = .ok (.iload_n 1, 1) := by decide +kernel
theorem dX12_between_52 : decode cX12_between 52 = .ok (.iload_n 2, 1) := by decide +kernel
theorem dX12_between_53 : decode cX12_between 53 = .ok (.if_icmp .ge 7, 3) := by decide +kernel
theorem dX12_between_56 : decode cX12_between 56 = .ok (.iconst 1, 1) := by decide +kernel
theorem dX12_between_57 : decode cX12_between 57 = .ok (.goto 4, 3) := by decide +kernel
theorem dX12_between_60 : decode cX12_between 60 = .ok (.iconst 0, 1) := by decide +kernel
theorem dX12_between_61 : decode cX12_between 61 = .ok (.ireturn, 1) := by decide +kernel
theorem dX12_between_62 : decode cX12_between 62 = .ok (.iload_n 1, 1) := by decide +kernel
theorem dX12_between_63 : decode cX12_between 63 = .ok (.iload_n 2, 1) := by decide +kernel
theorem dX12_between_64 : decode cX12_between 64 = .ok (.if_icmp .le 7, 3) := by decide +kernel
theorem dX12_between_67 : decode cX12_between 67 = .ok (.iconst 1, 1) := by decide +kernel
theorem dX12_between_68 : decode cX12_between 68 = .ok (.goto 4, 3) := by decide +kernel
theorem dX12_between_71 : decode cX12_between 71 = .ok (.iconst 0, 1) := by decide +kernel
theorem dX12_between_72 : decode cX12_between 72 = .ok (.ireturn, 1) := by decide +kernel
theorem dX12_between_73 : decode cX12_between 73 = .ok (.iload_n 1, 1) := by decide +kernel
theorem dX12_between_74 : decode cX12_between 74 = .ok (.iload_n 2, 1) := by decide +kernel
theorem dX12_between_75 : decode cX12_between 75 = .ok (.iand, 1) := by decide +kernel
theorem dX12_between_76 : decode cX12_between 76 = .ok (.ireturn, 1) := by decide +kernel
theorem dX12_between_77 : decode cX12_between 77 = .ok (.iload_n 1, 1) := by decide +kernel
theorem dX12_between_78 : decode cX12_between 78 = .ok (.iload_n 2, 1) := by decide +kernel
theorem dX12_between_79 : decode cX12_between 79 = .ok (.ior, 1) := by decide +kernel
theorem dX12_between_80 : decode cX12_between 80 = .ok (.ireturn, 1) := by decide +kernel
theorem dX12_between_81 : decode cX12_between 81 = .ok (.iload_n 0, 1) := by decide +kernel
theorem dX12_between_82 : decode cX12_between 82 = .ok (.sipush 3000, 3) := by decide +kernel
theorem dX12_between_85 : decode cX12_between 85 = .ok (.if_icmp .ne 11, 3) := by decide +kernel
theorem dX12_between_88 : decode cX12_between 88 = .ok (.iload_n 1, 1) := by decide +kernel
theorem dX12_between_89 : decode cX12_between 89 = .ok (.i2l, 1) := by decide +kernel
theorem dX12_between_90 : decode cX12_between 90 = .ok (.iload_n 2, 1) := by decide +kernel
theorem dX12_between_91 : decode cX12_between 91 = .ok (.i2l, 1) := by decide +kernel
theorem dX12_between_92 : decode cX12_between 92 = .ok (.ladd, 1) := by decide +kernel
theorem dX12_between_93 : decode cX12_between 93 = .ok (.goto 23, 3) := by decide +kernel
theorem dX12_between_96 : decode cX12_between 96 = .ok (.iload_n 0, 1) := by decide +kernel
theorem dX12_between_97 : decode cX12_between 97 = .ok (.sipush 3001, 3) := by decide +kernel
theorem dX12_between_100 : decode cX12_between 100 = .ok (.if_icmp .ne 11, 3) := by decide +kernel
theorem dX12_between_103 : decode cX12_between 103 = .ok (.iload_n 1, 1) := by decide +kernel
theorem dX12_between_104 : decode cX12_between 104 = .ok (.i2l, 1) := by decide +kernel
theorem dX12_between_105 : decode cX12_between 105 = .ok (.iload_n 2, 1) := by decide +kernel
theorem dX12_between_106 : decode cX12_between 106 = .ok (.i2l, 1) := by decide +kernel
theorem dX12_between_107 : decode cX12_between 107 = .ok (.lsub, 1) := by decide +kernel
theorem dX12_between_108 : decode cX12_between 108 = .ok (.goto 8, 3) := by decide +kernel
theorem dX12_between_111 : decode cX12_between 111 = .ok (.iload_n 1, 1) := by decide +kernel
theorem dX12_between_112 : decode cX12_between 112 = .ok (.i2l, 1) := by decide +kernel
theorem dX12_between_113 : decode cX12_between 113 = .ok (.iload_n 2, 1) := by decide +kernel
theorem dX12_between_114 : decode cX12_between 114 = .ok (.i2l, 1) := by decide +kernel
theorem dX12_between_115 : decode cX12_between 115 = .ok (.lmul, 1) := by decide +kernel
theorem dX12_between_116 : decode cX12_between 116 = .ok (.lstore_n 3, 1) := by decide +kernel
theorem dX12_between_117 : decode cX12_between 117 = .ok (.lload_n 3, 1) := by decide +kernel
theorem dX12_between_118 : decode cX12_between 118 = .ok (.ldc2_w 212, 3) := by decide +kernel
theorem dX12_between_121 : decode cX12_between 121 = .ok (.lcmp, 1) := by decide +kernel
theorem dX12_between_122 : decode cX12_between 122 = .ok (.ifCond .le 9, 3) := by decide +kernel
theorem dX12_between_125 : decode cX12_between 125 = .ok (.ldc2_w 212, 3) := by decide +kernel
theorem dX12_between_128 : decode cX12_between 128 = .ok (.goto 18, 3) := by decide +kernel
theorem dX12_between_131 : decode cX12_between 131 = .ok (.lload_n 3, 1) := by decide +kernel
theorem dX12_between_132 : decode cX12_between 132 = .ok (.ldc2_w 214, 3) := by decide +kernel
theorem dX12_between_135 : decode cX12_between 135 = .ok (.lcmp, 1) := by decide +kernel
theorem dX12_between_136 : decode cX12_between 136 = .ok (.ifCond .ge 9, 3) := by decide +kernel
theorem dX12_between_139 : decode cX12_between 139 = .ok (.ldc2_w 214, 3) := by decide +kernel
theorem dX12_between_142 : decode cX12_between 142 = .ok (.goto 4, 3) := by decide +kernel
theorem dX12_between_145 : decode cX12_between 145 = .ok (.lload_n 3, 1) := by decide +kernel
theorem dX12_between_146 : decode cX12_between 146 = .ok (.l2i, 1) := by decide +kernel
theorem dX12_between_147 : decode cX12_between 147 = .ok (.ireturn, 1) := by decide +kernel
set_option maxRecDepth 20000 in
theorem ggX12_reckons_X12_between : GoodIn wsX12_reckons wsX12_between := goodIn_r _ [7, 8, 9] (by decide +kernel) (by decide +kernel)
set_option maxRecDepth 20000 in
theorem gX12_reckons_X12_between : GoodIn wsX12_reckons (va_wsS RX12 216 yX12_between wsX12_between) := goodIn_app (goodIn_of _ (by decide +kernel)) ggX12_reckons_X12_between
theorem dX12_reckons_0 : decode cX12_reckons 0 = .ok (.iconst 0, 1) := by decide +kernel
theorem dX12_reckons_1 : decode cX12_reckons 1 = .ok (.istore_n 2, 1) := by decide +kernel
theorem dX12_reckons_2 : decode cX12_reckons 2 = .ok (.iconst 0, 1) := by decide +kernel
theorem dX12_reckons_3 : decode cX12_reckons 3 = .ok (.istore_n 3, 1) := by decide +kernel
theorem dX12_reckons_4 : decode cX12_reckons 4 = .ok (.iload_n 3, 1) := by decide +kernel
theorem dX12_reckons_5 : decode cX12_reckons 5 = .ok (.aload_n 0, 1) := by decide +kernel
theorem dX12_reckons_6 : decode cX12_reckons 6 = .ok (.getfield 13, 3) := by decide +kernel
theorem dX12_reckons_9 : decode cX12_reckons 9 = .ok (.bipush 9, 2) := by decide +kernel
theorem dX12_reckons_11 : decode cX12_reckons 11 = .ok (.iload_n 1, 1) := by decide +kernel
theorem dX12_reckons_12 : decode cX12_reckons 12 = .ok (.iadd, 1) := by decide +kernel
theorem dX12_reckons_13 : decode cX12_reckons 13 = .ok (.iaload, 1) := by decide +kernel
theorem dX12_reckons_14 : decode cX12_reckons 14 = .ok (.if_icmp .ge 185, 3) := by decide +kernel
theorem dX12_reckons_17 : decode cX12_reckons 17 = .ok (.aload_n 0, 1) := by decide +kernel
theorem dX12_reckons_18 : decode cX12_reckons 18 = .ok (.getfield 13, 3) := by decide +kernel
theorem dX12_reckons_21 : decode cX12_reckons 21 = .ok (.sipush 558, 3) := by decide +kernel
theorem dX12_reckons_24 : decode cX12_reckons 24 = .ok (.aload_n 0, 1) := by decide +kernel
theorem dX12_reckons_25 : decode cX12_reckons 25 = .ok (.getfield 13, 3) := by decide +kernel
theorem dX12_reckons_28 : decode cX12_reckons 28 = .ok (.bipush 7, 2) := by decide +kernel
theorem dX12_reckons_30 : decode cX12_reckons 30 = .ok (.iload_n 1, 1) := by decide +kernel
theorem dX12_reckons_31 : decode cX12_reckons 31 = .ok (.iadd, 1) := by decide +kernel
theorem dX12_reckons_32 : decode cX12_reckons 32 = .ok (.iaload, 1) := by decide +kernel
theorem dX12_reckons_33 : decode cX12_reckons 33 = .ok (.iadd, 1) := by decide +kernel
theorem dX12_reckons_34 : decode cX12_reckons 34 = .ok (.iload_n 3, 1) := by decide +kernel
theorem dX12_reckons_35 : decode cX12_reckons 35 = .ok (.iadd, 1) := by decide +kernel
theorem dX12_reckons_36 : decode cX12_reckons 36 = .ok (.iaload, 1) := by decide +kernel
theorem dX12_reckons_37 : decode cX12_reckons 37 = .ok (.istore 4, 2) := by decide +kernel
theorem dX12_reckons_39 : decode cX12_reckons 39 = .ok (.iload 4, 2) := by decide +kernel
theorem dX12_reckons_41 : decode cX12_reckons 41 = .ok (.sipush 3000, 3) := by decide +kernel
theorem dX12_reckons_44 : decode cX12_reckons 44 = .ok (.if_icmp .ge 39, 3) := by decide +kernel
theorem dX12_reckons_47 : decode cX12_reckons 47 = .ok (.aload_n 0, 1) := by decide +kernel
theorem dX12_reckons_48 : decode cX12_reckons 48 = .ok (.getfield 30, 3) := by decide +kernel
theorem dX12_reckons_51 : decode cX12_reckons 51 = .ok (.iload_n 2, 1) := by decide +kernel
theorem dX12_reckons_52 : decode cX12_reckons 52 = .ok (.iload 4, 2) := by decide +kernel
theorem dX12_reckons_54 : decode cX12_reckons 54 = .ok (.sipush 1000, 3) := by decide +kernel
theorem dX12_reckons_57 : decode cX12_reckons 57 = .ok (.if_icmp .ge 8, 3) := by decide +kernel
theorem dX12_reckons_60 : decode cX12_reckons 60 = .ok (.iload 4, 2) := by decide +kernel
theorem dX12_reckons_62 : decode cX12_reckons 62 = .ok (.goto 14, 3) := by decide +kernel
theorem dX12_reckons_65 : decode cX12_reckons 65 = .ok (.aload_n 0, 1) := by decide +kernel
theorem dX12_reckons_66 : decode cX12_reckons 66 = .ok (.getfield 33, 3) := by decide +kernel
theorem dX12_reckons_69 : decode cX12_reckons 69 = .ok (.iload 4, 2) := by decide +kernel
theorem dX12_reckons_71 : decode cX12_reckons 71 = .ok (.sipush 1000, 3) := by decide +kernel
theorem dX12_reckons_74 : decode cX12_reckons 74 = .ok (.isub, 1) := by decide +kernel
theorem dX12_reckons_75 : decode cX12_reckons 75 = .ok (.iaload, 1) := by decide +kernel
theorem dX12_reckons_76 : decode cX12_reckons 76 = .ok (.iastore, 1) := by decide +kernel
theorem dX12_reckons_77 : decode cX12_reckons 77 = .ok (.iinc 2 1, 3) := by decide +kernel
theorem dX12_reckons_80 : decode cX12_reckons 80 = .ok (.goto 113, 3) := by decide +kernel
theorem dX12_reckons_83 : decode cX12_reckons 83 = .ok (.iload 4, 2) := by decide +kernel
theorem dX12_reckons_85 : decode cX12_reckons 85 = .ok (.sipush 3006, 3) := by decide +kernel
theorem dX12_reckons_88 : decode cX12_reckons 88 = .ok (.if_icmp .ne 24, 3) := by decide +kernel
theorem dX12_reckons_91 : decode cX12_reckons 91 = .ok (.aload_n 0, 1) := by decide +kernel
theorem dX12_reckons_92 : decode cX12_reckons 92 = .ok (.getfield 30, 3) := by decide +kernel
theorem dX12_reckons_95 : decode cX12_reckons 95 = .ok (.iload_n 2, 1) := by decide +kernel
theorem dX12_reckons_96 : decode cX12_reckons 96 = .ok (.iconst 1, 1) := by decide +kernel
theorem dX12_reckons_97 : decode cX12_reckons 97 = .ok (.isub, 1) := by decide +kernel
theorem dX12_reckons_98 : decode cX12_reckons 98 = .ok (.iconst 1, 1) := by decide +kernel
theorem dX12_reckons_99 : decode cX12_reckons 99 = .ok (.aload_n 0, 1) := by decide +kernel
theorem dX12_reckons_100 : decode cX12_reckons 100 = .ok (.getfield 30, 3) := by decide +kernel
theorem dX12_reckons_103 : decode cX12_reckons 103 = .ok (.iload_n 2, 1) := by decide +kernel
theorem dX12_reckons_104 : decode cX12_reckons 104 = .ok (.iconst 1, 1) := by decide +kernel
theorem dX12_reckons_105 : decode cX12_reckons 105 = .ok (.isub, 1) := by decide +kernel
theorem dX12_reckons_106 : decode cX12_reckons 106 = .ok (.iaload, 1) := by decide +kernel
theorem dX12_reckons_107 : decode cX12_reckons 107 = .ok (.isub, 1) := by decide +kernel
theorem dX12_reckons_108 : decode cX12_reckons 108 = .ok (.iastore, 1) := by decide +kernel
theorem dX12_reckons_109 : decode cX12_reckons 109 = .ok (.goto 84, 3) := by decide +kernel
theorem dX12_reckons_112 : decode cX12_reckons 112 = .ok (.iload 4, 2) := by decide +kernel
theorem dX12_reckons_114 : decode cX12_reckons 114 = .ok (.sipush 3009, 3) := by decide +kernel
theorem dX12_reckons_117 : decode cX12_reckons 117 = .ok (.if_icmp .ne 46, 3) := by decide +kernel
theorem dX12_reckons_120 : decode cX12_reckons 120 = .ok (.iinc 2 (-2), 3) := by decide +kernel
theorem dX12_reckons_123 : decode cX12_reckons 123 = .ok (.aload_n 0, 1) := by decide +kernel
theorem dX12_reckons_124 : decode cX12_reckons 124 = .ok (.getfield 30, 3) := by decide +kernel
theorem dX12_reckons_127 : decode cX12_reckons 127 = .ok (.iload_n 2, 1) := by decide +kernel
theorem dX12_reckons_128 : decode cX12_reckons 128 = .ok (.iconst 1, 1) := by decide +kernel
theorem dX12_reckons_129 : decode cX12_reckons 129 = .ok (.isub, 1) := by decide +kernel
theorem dX12_reckons_130 : decode cX12_reckons 130 = .ok (.aload_n 0, 1) := by decide +kernel
theorem dX12_reckons_131 : decode cX12_reckons 131 = .ok (.getfield 30, 3) := by decide +kernel
theorem dX12_reckons_134 : decode cX12_reckons 134 = .ok (.iload_n 2, 1) := by decide +kernel
theorem dX12_reckons_135 : decode cX12_reckons 135 = .ok (.iconst 1, 1) := by decide +kernel
theorem dX12_reckons_136 : decode cX12_reckons 136 = .ok (.isub, 1) := by decide +kernel
theorem dX12_reckons_137 : decode cX12_reckons 137 = .ok (.iaload, 1) := by decide +kernel
theorem dX12_reckons_138 : decode cX12_reckons 138 = .ok (.iconst 1, 1) := by decide +kernel
theorem dX12_reckons_139 : decode cX12_reckons 139 = .ok (.if_icmp .ne 12, 3) := by decide +kernel
theorem dX12_reckons_142 : decode cX12_reckons 142 = .ok (.aload_n 0, 1) := by decide +kernel
theorem dX12_reckons_143 : decode cX12_reckons 143 = .ok (.getfield 30, 3) := by decide +kernel
theorem dX12_reckons_146 : decode cX12_reckons 146 = .ok (.iload_n 2, 1) := by decide +kernel
theorem dX12_reckons_147 : decode cX12_reckons 147 = .ok (.iaload, 1) := by decide +kernel
theorem dX12_reckons_148 : decode cX12_reckons 148 = .ok (.goto 11, 3) := by decide +kernel
theorem dX12_reckons_151 : decode cX12_reckons 151 = .ok (.aload_n 0, 1) := by decide +kernel
theorem dX12_reckons_152 : decode cX12_reckons 152 = .ok (.getfield 30, 3) := by decide +kernel
theorem dX12_reckons_155 : decode cX12_reckons 155 = .ok (.iload_n 2, 1) := by decide +kernel
theorem dX12_reckons_156 : decode cX12_reckons 156 = .ok (.iconst 1, 1) := by decide +kernel
theorem dX12_reckons_157 : decode cX12_reckons 157 = .ok (.iadd, 1) := by decide +kernel
theorem dX12_reckons_158 : decode cX12_reckons 158 = .ok (.iaload, 1) := by decide +kernel
theorem dX12_reckons_159 : decode cX12_reckons 159 = .ok (.iastore, 1) := by decide +kernel
theorem dX12_reckons_160 : decode cX12_reckons 160 = .ok (.goto 33, 3) := by decide +kernel
theorem dX12_reckons_163 : decode cX12_reckons 163 = .ok (.iinc 2 (-1), 3) := by decide +kernel
theorem dX12_reckons_166 : decode cX12_reckons 166 = .ok (.aload_n 0, 1) := by decide +kernel
theorem dX12_reckons_167 : decode cX12_reckons 167 = .ok (.getfield 30, 3) := by decide +kernel
theorem dX12_reckons_170 : decode cX12_reckons 170 = .ok (.iload_n 2, 1) := by decide +kernel
theorem dX12_reckons_171 : decode cX12_reckons 171 = .ok (.iconst 1, 1) := by decide +kernel
theorem dX12_reckons_172 : decode cX12_reckons 172 = .ok (.isub, 1) := by decide +kernel
theorem dX12_reckons_173 : decode cX12_reckons 173 = .ok (.iload 4, 2) := by decide +kernel
theorem dX12_reckons_175 : decode cX12_reckons 175 = .ok (.aload_n 0, 1) := by decide +kernel
theorem dX12_reckons_176 : decode cX12_reckons 176 = .ok (.getfield 30, 3) := by decide +kernel
theorem dX12_reckons_179 : decode cX12_reckons 179 = .ok (.iload_n 2, 1) := by decide +kernel
theorem dX12_reckons_180 : decode cX12_reckons 180 = .ok (.iconst 1, 1) := by decide +kernel
theorem dX12_reckons_181 : decode cX12_reckons 181 = .ok (.isub, 1) := by decide +kernel
theorem dX12_reckons_182 : decode cX12_reckons 182 = .ok (.iaload, 1) := by decide +kernel
theorem dX12_reckons_183 : decode cX12_reckons 183 = .ok (.aload_n 0, 1) := by decide +kernel
theorem dX12_reckons_184 : decode cX12_reckons 184 = .ok (.getfield 30, 3) := by decide +kernel
theorem dX12_reckons_187 : decode cX12_reckons 187 = .ok (.iload_n 2, 1) := by decide +kernel
theorem dX12_reckons_188 : decode cX12_reckons 188 = .ok (.iaload, 1) := by decide +kernel
theorem dX12_reckons_189 : decode cX12_reckons 189 = .ok (.invokestatic 216, 3) := by decide +kernel
theorem dX12_reckons_192 : decode cX12_reckons 192 = .ok (.iastore, 1) := by decide +kernel
theorem dX12_reckons_193 : decode cX12_reckons 193 = .ok (.iinc 3 1, 3) := by decide +kernel
theorem dX12_reckons_196 : decode cX12_reckons 196 = .ok (.goto (-192), 3) := by decide +kernel
theorem dX12_reckons_199 : decode cX12_reckons 199 = .ok (.aload_n 0, 1) := by decide +kernel
theorem dX12_reckons_200 : decode cX12_reckons 200 = .ok (.getfield 30, 3) := by decide +kernel
theorem dX12_reckons_203 : decode cX12_reckons 203 = .ok (.iconst 0, 1) := by decide +kernel
theorem dX12_reckons_204 : decode cX12_reckons 204 = .ok (.iaload, 1) := by decide +kernel
theorem dX12_reckons_205 : decode cX12_reckons 205 = .ok (.ireturn, 1) := by decide +kernel
theorem dX12_standOf_0 : decode cX12_standOf 0 = .ok (.iload_n 0, 1) := by decide +kernel
theorem dX12_standOf_1 : decode cX12_standOf 1 = .ok (.iconst 1, 1) := by decide +kernel
theorem dX12_standOf_2 : decode cX12_standOf 2 = .ok (.isub, 1) := by decide +kernel
theorem dX12_standOf_3 : decode cX12_standOf 3 = .ok (.bipush 7, 2) := by decide +kernel
theorem dX12_standOf_5 : decode cX12_standOf 5 = .ok (.imul, 1) := by decide +kernel
theorem dX12_standOf_6 : decode cX12_standOf 6 = .ok (.iload_n 1, 1) := by decide +kernel
theorem dX12_standOf_7 : decode cX12_standOf 7 = .ok (.iadd, 1) := by decide +kernel
theorem dX12_standOf_8 : decode cX12_standOf 8 = .ok (.bipush 7, 2) := by decide +kernel
theorem dX12_standOf_10 : decode cX12_standOf 10 = .ok (.imul, 1) := by decide +kernel
theorem dX12_standOf_11 : decode cX12_standOf 11 = .ok (.iload_n 2, 1) := by decide +kernel
theorem dX12_standOf_12 : decode cX12_standOf 12 = .ok (.iadd, 1) := by decide +kernel
theorem dX12_standOf_13 : decode cX12_standOf 13 = .ok (.bipush 35, 2) := by decide +kernel
theorem dX12_standOf_15 : decode cX12_standOf 15 = .ok (.imul, 1) := by decide +kernel
theorem dX12_standOf_16 : decode cX12_standOf 16 = .ok (.iload_n 3, 1) := by decide +kernel
theorem dX12_standOf_17 : decode cX12_standOf 17 = .ok (.bipush 9, 2) := by decide +kernel
theorem dX12_standOf_19 : decode cX12_standOf 19 = .ok (.if_icmp .ne 7, 3) := by decide +kernel
theorem dX12_standOf_22 : decode cX12_standOf 22 = .ok (.iconst 4, 1) := by decide +kernel
theorem dX12_standOf_23 : decode cX12_standOf 23 = .ok (.goto 4, 3) := by decide +kernel
theorem dX12_standOf_26 : decode cX12_standOf 26 = .ok (.iload_n 3, 1) := by decide +kernel
theorem dX12_standOf_27 : decode cX12_standOf 27 = .ok (.bipush 7, 2) := by decide +kernel
theorem dX12_standOf_29 : decode cX12_standOf 29 = .ok (.imul, 1) := by decide +kernel
theorem dX12_standOf_30 : decode cX12_standOf 30 = .ok (.iadd, 1) := by decide +kernel
theorem dX12_standOf_31 : decode cX12_standOf 31 = .ok (.iload 4, 2) := by decide +kernel
theorem dX12_standOf_33 : decode cX12_standOf 33 = .ok (.iadd, 1) := by decide +kernel
theorem dX12_standOf_34 : decode cX12_standOf 34 = .ok (.ireturn, 1) := by decide +kernel
theorem dX12_lifeOf_0 : decode cX12_lifeOf 0 = .ok (.iconst 1, 1) := by decide +kernel
theorem dX12_lifeOf_1 : decode cX12_lifeOf 1 = .ok (.iload_n 0, 1) := by decide +kernel
theorem dX12_lifeOf_2 : decode cX12_lifeOf 2 = .ok (.sipush 1715, 3) := by decide +kernel
theorem dX12_lifeOf_5 : decode cX12_lifeOf 5 = .ok (.idiv, 1) := by decide +kernel
theorem dX12_lifeOf_6 : decode cX12_lifeOf 6 = .ok (.iadd, 1) := by decide +kernel
theorem dX12_lifeOf_7 : decode cX12_lifeOf 7 = .ok (.ireturn, 1) := by decide +kernel
theorem dX12_oldOf_0 : decode cX12_oldOf 0 = .ok (.iload_n 0, 1) := by decide +kernel
theorem dX12_oldOf_1 : decode cX12_oldOf 1 = .ok (.sipush 245, 3) := by decide +kernel
theorem dX12_oldOf_4 : decode cX12_oldOf 4 = .ok (.idiv, 1) := by decide +kernel
theorem dX12_oldOf_5 : decode cX12_oldOf 5 = .ok (.bipush 7, 2) := by decide +kernel
theorem dX12_oldOf_7 : decode cX12_oldOf 7 = .ok (.irem, 1) := by decide +kernel
theorem dX12_oldOf_8 : decode cX12_oldOf 8 = .ok (.ireturn, 1) := by decide +kernel
theorem dX12_yearOf_0 : decode cX12_yearOf 0 = .ok (.iload_n 0, 1) := by decide +kernel
theorem dX12_yearOf_1 : decode cX12_yearOf 1 = .ok (.bipush 35, 2) := by decide +kernel
theorem dX12_yearOf_3 : decode cX12_yearOf 3 = .ok (.idiv, 1) := by decide +kernel
theorem dX12_yearOf_4 : decode cX12_yearOf 4 = .ok (.bipush 7, 2) := by decide +kernel
theorem dX12_yearOf_6 : decode cX12_yearOf 6 = .ok (.irem, 1) := by decide +kernel
theorem dX12_yearOf_7 : decode cX12_yearOf 7 = .ok (.ireturn, 1) := by decide +kernel
theorem dX12_lastOf_0 : decode cX12_lastOf 0 = .ok (.iload_n 0, 1) := by decide +kernel
theorem dX12_lastOf_1 : decode cX12_lastOf 1 = .ok (.bipush 7, 2) := by decide +kernel
theorem dX12_lastOf_3 : decode cX12_lastOf 3 = .ok (.idiv, 1) := by decide +kernel
theorem dX12_lastOf_4 : decode cX12_lastOf 4 = .ok (.iconst 5, 1) := by decide +kernel
theorem dX12_lastOf_5 : decode cX12_lastOf 5 = .ok (.irem, 1) := by decide +kernel
theorem dX12_lastOf_6 : decode cX12_lastOf 6 = .ok (.istore_n 1, 1) := by decide +kernel
theorem dX12_lastOf_7 : decode cX12_lastOf 7 = .ok (.iload_n 1, 1) := by decide +kernel
theorem dX12_lastOf_8 : decode cX12_lastOf 8 = .ok (.iconst 4, 1) := by decide +kernel
theorem dX12_lastOf_9 : decode cX12_lastOf 9 = .ok (.if_icmp .ne 8, 3) := by decide +kernel
theorem dX12_lastOf_12 : decode cX12_lastOf 12 = .ok (.bipush 9, 2) := by decide +kernel
theorem dX12_lastOf_14 : decode cX12_lastOf 14 = .ok (.goto 4, 3) := by decide +kernel
theorem dX12_lastOf_17 : decode cX12_lastOf 17 = .ok (.iload_n 1, 1) := by decide +kernel
theorem dX12_lastOf_18 : decode cX12_lastOf 18 = .ok (.ireturn, 1) := by decide +kernel
theorem dX12_streakOf_0 : decode cX12_streakOf 0 = .ok (.iload_n 0, 1) := by decide +kernel
theorem dX12_streakOf_1 : decode cX12_streakOf 1 = .ok (.bipush 7, 2) := by decide +kernel
theorem dX12_streakOf_3 : decode cX12_streakOf 3 = .ok (.irem, 1) := by decide +kernel
theorem dX12_streakOf_4 : decode cX12_streakOf 4 = .ok (.ireturn, 1) := by decide +kernel
set_option maxRecDepth 20000 in
theorem ggX12_standNow_X12_standOf : GoodIn wsX12_standNow wsX12_standOf := goodIn_r _ [5] (by decide +kernel) (by decide +kernel)
set_option maxRecDepth 20000 in
theorem gX12_standNow_X12_standOf : GoodIn wsX12_standNow (va_wsS RX12 220 yX12_standOf wsX12_standOf) := goodIn_app (goodIn_of _ (by decide +kernel)) ggX12_standNow_X12_standOf
theorem dX12_standNow_0 : decode cX12_standNow 0 = .ok (.aload_n 0, 1) := by decide +kernel
theorem dX12_standNow_1 : decode cX12_standNow 1 = .ok (.getfield 13, 3) := by decide +kernel
theorem dX12_standNow_4 : decode cX12_standNow 4 = .ok (.bipush 24, 2) := by decide +kernel
theorem dX12_standNow_6 : decode cX12_standNow 6 = .ok (.iload_n 1, 1) := by decide +kernel
theorem dX12_standNow_7 : decode cX12_standNow 7 = .ok (.iadd, 1) := by decide +kernel
theorem dX12_standNow_8 : decode cX12_standNow 8 = .ok (.iaload, 1) := by decide +kernel
theorem dX12_standNow_9 : decode cX12_standNow 9 = .ok (.aload_n 0, 1) := by decide +kernel
theorem dX12_standNow_10 : decode cX12_standNow 10 = .ok (.getfield 13, 3) := by decide +kernel
theorem dX12_standNow_13 : decode cX12_standNow 13 = .ok (.bipush 48, 2) := by decide +kernel
theorem dX12_standNow_15 : decode cX12_standNow 15 = .ok (.iload_n 1, 1) := by decide +kernel
theorem dX12_standNow_16 : decode cX12_standNow 16 = .ok (.iadd, 1) := by decide +kernel
theorem dX12_standNow_17 : decode cX12_standNow 17 = .ok (.iaload, 1) := by decide +kernel
theorem dX12_standNow_18 : decode cX12_standNow 18 = .ok (.aload_n 0, 1) := by decide +kernel
theorem dX12_standNow_19 : decode cX12_standNow 19 = .ok (.getfield 13, 3) := by decide +kernel
theorem dX12_standNow_22 : decode cX12_standNow 22 = .ok (.bipush 18, 2) := by decide +kernel
theorem dX12_standNow_24 : decode cX12_standNow 24 = .ok (.iload_n 1, 1) := by decide +kernel
theorem dX12_standNow_25 : decode cX12_standNow 25 = .ok (.iadd, 1) := by decide +kernel
theorem dX12_standNow_26 : decode cX12_standNow 26 = .ok (.iaload, 1) := by decide +kernel
theorem dX12_standNow_27 : decode cX12_standNow 27 = .ok (.aload_n 0, 1) := by decide +kernel
theorem dX12_standNow_28 : decode cX12_standNow 28 = .ok (.getfield 13, 3) := by decide +kernel
theorem dX12_standNow_31 : decode cX12_standNow 31 = .ok (.bipush 36, 2) := by decide +kernel
theorem dX12_standNow_33 : decode cX12_standNow 33 = .ok (.iload_n 1, 1) := by decide +kernel
theorem dX12_standNow_34 : decode cX12_standNow 34 = .ok (.iadd, 1) := by decide +kernel
theorem dX12_standNow_35 : decode cX12_standNow 35 = .ok (.iaload, 1) := by decide +kernel
theorem dX12_standNow_36 : decode cX12_standNow 36 = .ok (.aload_n 0, 1) := by decide +kernel
theorem dX12_standNow_37 : decode cX12_standNow 37 = .ok (.getfield 13, 3) := by decide +kernel
theorem dX12_standNow_40 : decode cX12_standNow 40 = .ok (.bipush 42, 2) := by decide +kernel
theorem dX12_standNow_42 : decode cX12_standNow 42 = .ok (.iload_n 1, 1) := by decide +kernel
theorem dX12_standNow_43 : decode cX12_standNow 43 = .ok (.iadd, 1) := by decide +kernel
theorem dX12_standNow_44 : decode cX12_standNow 44 = .ok (.iaload, 1) := by decide +kernel
theorem dX12_standNow_45 : decode cX12_standNow 45 = .ok (.invokestatic 220, 3) := by decide +kernel
theorem dX12_standNow_48 : decode cX12_standNow 48 = .ok (.ireturn, 1) := by decide +kernel
set_option maxRecDepth 20000 in
theorem ggX12_worthOf_X12_yearOf : GoodIn wsX12_worthOf wsX12_yearOf := goodIn_r _ [6] (by decide +kernel) (by decide +kernel)
set_option maxRecDepth 20000 in
theorem gX12_worthOf_X12_yearOf : GoodIn wsX12_worthOf (va_wsS RX12 224 yX12_yearOf wsX12_yearOf) := goodIn_app (goodIn_of _ (by decide +kernel)) ggX12_worthOf_X12_yearOf
set_option maxRecDepth 20000 in
theorem ggX12_worthOf_X12_lastOf : GoodIn wsX12_worthOf wsX12_lastOf := goodIn_r _ [9] (by decide +kernel) (by decide +kernel)
set_option maxRecDepth 20000 in
theorem gX12_worthOf_X12_lastOf : GoodIn wsX12_worthOf (va_wsS RX12 227 yX12_lastOf wsX12_lastOf) := goodIn_app (goodIn_of _ (by decide +kernel)) ggX12_worthOf_X12_lastOf
set_option maxRecDepth 20000 in
theorem ggX12_worthOf_X12_streakOf : GoodIn wsX12_worthOf wsX12_streakOf := goodIn_r _ [12] (by decide +kernel) (by decide +kernel)
set_option maxRecDepth 20000 in
theorem gX12_worthOf_X12_streakOf : GoodIn wsX12_worthOf (va_wsS RX12 230 yX12_streakOf wsX12_streakOf) := goodIn_app (goodIn_of _ (by decide +kernel)) ggX12_worthOf_X12_streakOf
set_option maxRecDepth 20000 in
theorem ggX12_worthOf_X12_lifeOf : GoodIn wsX12_worthOf wsX12_lifeOf := goodIn_r _ [15] (by decide +kernel) (by decide +kernel)
set_option maxRecDepth 20000 in
theorem gX12_worthOf_X12_lifeOf : GoodIn wsX12_worthOf (va_wsS RX12 233 yX12_lifeOf wsX12_lifeOf) := goodIn_app (goodIn_of _ (by decide +kernel)) ggX12_worthOf_X12_lifeOf
set_option maxRecDepth 20000 in
theorem ggX12_worthOf_X12_oldOf : GoodIn wsX12_worthOf wsX12_oldOf := goodIn_r _ [18] (by decide +kernel) (by decide +kernel)
set_option maxRecDepth 20000 in
theorem gX12_worthOf_X12_oldOf : GoodIn wsX12_worthOf (va_wsS RX12 236 yX12_oldOf wsX12_oldOf) := goodIn_app (goodIn_of _ (by decide +kernel)) ggX12_worthOf_X12_oldOf
set_option maxRecDepth 20000 in
theorem ggX12_worthOf_X12_reckons : GoodIn wsX12_worthOf wsX12_reckons := goodIn_r _ [22, 1, 23, 2, 24, 25, 5, 26, 27, 28, 29, 30, 31, 32, 33, 34, 35, 36, 37, 38, 39, 40, 41, 42, 43, 44, 45, 46, 47, 48, 49, 50, 51, 52, 53, 54, 55, 56, 57, 58, 59, 60, 61, 62, 63, 64] (by decide +kernel) (by decide +kernel)
set_option maxRecDepth 20000 in
theorem gX12_worthOf_X12_reckons : GoodIn wsX12_worthOf (wsV RX12 239 RX12 yX12_reckons wsX12_reckons) := goodIn_app (goodIn_of _ (by decide +kernel)) ggX12_worthOf_X12_reckons
theorem dX12_worthOf_0 : decode cX12_worthOf 0 = .ok (.aload_n 0, 1) := by decide +kernel
theorem dX12_worthOf_1 : decode cX12_worthOf 1 = .ok (.getfield 13, 3) := by decide +kernel
theorem dX12_worthOf_4 : decode cX12_worthOf 4 = .ok (.iconst 5, 1) := by decide +kernel
theorem dX12_worthOf_5 : decode cX12_worthOf 5 = .ok (.iaload, 1) := by decide +kernel
theorem dX12_worthOf_6 : decode cX12_worthOf 6 = .ok (.ifCond .ne 5, 3) := by decide +kernel
theorem dX12_worthOf_9 : decode cX12_worthOf 9 = .ok (.iconst 1, 1) := by decide +kernel
theorem dX12_worthOf_10 : decode cX12_worthOf 10 = .ok (.ireturn, 1) := by decide +kernel
theorem dX12_worthOf_11 : decode cX12_worthOf 11 = .ok (.aload_n 0, 1) := by decide +kernel
theorem dX12_worthOf_12 : decode cX12_worthOf 12 = .ok (.getfield 33, 3) := by decide +kernel
theorem dX12_worthOf_15 : decode cX12_worthOf 15 = .ok (.iconst 0, 1) := by decide +kernel
theorem dX12_worthOf_16 : decode cX12_worthOf 16 = .ok (.iload_n 1, 1) := by decide +kernel
theorem dX12_worthOf_17 : decode cX12_worthOf 17 = .ok (.iastore, 1) := by decide +kernel
theorem dX12_worthOf_18 : decode cX12_worthOf 18 = .ok (.aload_n 0, 1) := by decide +kernel
theorem dX12_worthOf_19 : decode cX12_worthOf 19 = .ok (.getfield 33, 3) := by decide +kernel
theorem dX12_worthOf_22 : decode cX12_worthOf 22 = .ok (.iconst 1, 1) := by decide +kernel
theorem dX12_worthOf_23 : decode cX12_worthOf 23 = .ok (.iload_n 2, 1) := by decide +kernel
theorem dX12_worthOf_24 : decode cX12_worthOf 24 = .ok (.invokestatic 224, 3) := by decide +kernel
theorem dX12_worthOf_27 : decode cX12_worthOf 27 = .ok (.iastore, 1) := by decide +kernel
theorem dX12_worthOf_28 : decode cX12_worthOf 28 = .ok (.aload_n 0, 1) := by decide +kernel
theorem dX12_worthOf_29 : decode cX12_worthOf 29 = .ok (.getfield 33, 3) := by decide +kernel
theorem dX12_worthOf_32 : decode cX12_worthOf 32 = .ok (.iconst 2, 1) := by decide +kernel
theorem dX12_worthOf_33 : decode cX12_worthOf 33 = .ok (.iload_n 3, 1) := by decide +kernel
theorem dX12_worthOf_34 : decode cX12_worthOf 34 = .ok (.iastore, 1) := by decide +kernel
theorem dX12_worthOf_35 : decode cX12_worthOf 35 = .ok (.aload_n 0, 1) := by decide +kernel
theorem dX12_worthOf_36 : decode cX12_worthOf 36 = .ok (.getfield 33, 3) := by decide +kernel
theorem dX12_worthOf_39 : decode cX12_worthOf 39 = .ok (.iconst 3, 1) := by decide +kernel
theorem dX12_worthOf_40 : decode cX12_worthOf 40 = .ok (.iload_n 2, 1) := by decide +kernel
theorem dX12_worthOf_41 : decode cX12_worthOf 41 = .ok (.invokestatic 227, 3) := by decide +kernel
theorem dX12_worthOf_44 : decode cX12_worthOf 44 = .ok (.iastore, 1) := by decide +kernel
theorem dX12_worthOf_45 : decode cX12_worthOf 45 = .ok (.aload_n 0, 1) := by decide +kernel
theorem dX12_worthOf_46 : decode cX12_worthOf 46 = .ok (.getfield 33, 3) := by decide +kernel
theorem dX12_worthOf_49 : decode cX12_worthOf 49 = .ok (.iconst 4, 1) := by decide +kernel
theorem dX12_worthOf_50 : decode cX12_worthOf 50 = .ok (.iload_n 2, 1) := by decide +kernel
theorem dX12_worthOf_51 : decode cX12_worthOf 51 = .ok (.invokestatic 230, 3) := by decide +kernel
theorem dX12_worthOf_54 : decode cX12_worthOf 54 = .ok (.iastore, 1) := by decide +kernel
theorem dX12_worthOf_55 : decode cX12_worthOf 55 = .ok (.aload_n 0, 1) := by decide +kernel
theorem dX12_worthOf_56 : decode cX12_worthOf 56 = .ok (.getfield 33, 3) := by decide +kernel
theorem dX12_worthOf_59 : decode cX12_worthOf 59 = .ok (.iconst 5, 1) := by decide +kernel
theorem dX12_worthOf_60 : decode cX12_worthOf 60 = .ok (.iload_n 2, 1) := by decide +kernel
theorem dX12_worthOf_61 : decode cX12_worthOf 61 = .ok (.invokestatic 233, 3) := by decide +kernel
theorem dX12_worthOf_64 : decode cX12_worthOf 64 = .ok (.iastore, 1) := by decide +kernel
theorem dX12_worthOf_65 : decode cX12_worthOf 65 = .ok (.aload_n 0, 1) := by decide +kernel
theorem dX12_worthOf_66 : decode cX12_worthOf 66 = .ok (.getfield 33, 3) := by decide +kernel
theorem dX12_worthOf_69 : decode cX12_worthOf 69 = .ok (.bipush 6, 2) := by decide +kernel
theorem dX12_worthOf_71 : decode cX12_worthOf 71 = .ok (.iload_n 2, 1) := by decide +kernel
theorem dX12_worthOf_72 : decode cX12_worthOf 72 = .ok (.invokestatic 236, 3) := by decide +kernel
theorem dX12_worthOf_75 : decode cX12_worthOf 75 = .ok (.iastore, 1) := by decide +kernel
theorem dX12_worthOf_76 : decode cX12_worthOf 76 = .ok (.aload_n 0, 1) := by decide +kernel
theorem dX12_worthOf_77 : decode cX12_worthOf 77 = .ok (.iconst 0, 1) := by decide +kernel
theorem dX12_worthOf_78 : decode cX12_worthOf 78 = .ok (.invokevirtual 239, 3) := by decide +kernel
theorem dX12_worthOf_81 : decode cX12_worthOf 81 = .ok (.istore 4, 2) := by decide +kernel
theorem dX12_worthOf_83 : decode cX12_worthOf 83 = .ok (.iload 4, 2) := by decide +kernel
theorem dX12_worthOf_85 : decode cX12_worthOf 85 = .ok (.bipush (-9), 2) := by decide +kernel
theorem dX12_worthOf_87 : decode cX12_worthOf 87 = .ok (.if_icmp .ge 8, 3) := by decide +kernel
theorem dX12_worthOf_90 : decode cX12_worthOf 90 = .ok (.bipush (-9), 2) := by decide +kernel
theorem dX12_worthOf_92 : decode cX12_worthOf 92 = .ok (.goto 17, 3) := by decide +kernel
theorem dX12_worthOf_95 : decode cX12_worthOf 95 = .ok (.iload 4, 2) := by decide +kernel
theorem dX12_worthOf_97 : decode cX12_worthOf 97 = .ok (.bipush 9, 2) := by decide +kernel
theorem dX12_worthOf_99 : decode cX12_worthOf 99 = .ok (.if_icmp .le 8, 3) := by decide +kernel
theorem dX12_worthOf_102 : decode cX12_worthOf 102 = .ok (.bipush 9, 2) := by decide +kernel
theorem dX12_worthOf_104 : decode cX12_worthOf 104 = .ok (.goto 5, 3) := by decide +kernel
theorem dX12_worthOf_107 : decode cX12_worthOf 107 = .ok (.iload 4, 2) := by decide +kernel
theorem dX12_worthOf_109 : decode cX12_worthOf 109 = .ok (.ireturn, 1) := by decide +kernel
set_option maxRecDepth 20000 in
theorem ggX12_grownTo_X12_reckons : GoodIn wsX12_grownTo wsX12_reckons := goodIn_r _ [7, 1, 8, 2, 9, 10, 6, 11, 12, 13, 14, 15, 16, 17, 18, 19, 20, 21, 22, 23, 24, 25, 26, 27, 28, 29, 30, 31, 32, 33, 34, 35, 36, 37, 38, 39, 40, 41, 42, 43, 44, 45, 46, 47, 48, 49] (by decide +kernel) (by decide +kernel)
set_option maxRecDepth 20000 in
theorem gX12_grownTo_X12_reckons : GoodIn wsX12_grownTo (wsV RX12 239 RX12 yX12_reckons wsX12_reckons) := goodIn_app (goodIn_of _ (by decide +kernel)) ggX12_grownTo_X12_reckons
theorem dX12_grownTo_0 : decode cX12_grownTo 0 = .ok (.aload_n 0, 1) := by decide +kernel
theorem dX12_grownTo_1 : decode cX12_grownTo 1 = .ok (.getfield 13, 3) := by decide +kernel
theorem dX12_grownTo_4 : decode cX12_grownTo 4 = .ok (.bipush 6, 2) := by decide +kernel
theorem dX12_grownTo_6 : decode cX12_grownTo 6 = .ok (.iaload, 1) := by decide +kernel
theorem dX12_grownTo_7 : decode cX12_grownTo 7 = .ok (.ifCond .ne 5, 3) := by decide +kernel
theorem dX12_grownTo_10 : decode cX12_grownTo 10 = .ok (.iconst 0, 1) := by decide +kernel
theorem dX12_grownTo_11 : decode cX12_grownTo 11 = .ok (.ireturn, 1) := by decide +kernel
theorem dX12_grownTo_12 : decode cX12_grownTo 12 = .ok (.aload_n 0, 1) := by decide +kernel
theorem dX12_grownTo_13 : decode cX12_grownTo 13 = .ok (.getfield 33, 3) := by decide +kernel
theorem dX12_grownTo_16 : decode cX12_grownTo 16 = .ok (.iconst 0, 1) := by decide +kernel
theorem dX12_grownTo_17 : decode cX12_grownTo 17 = .ok (.iload_n 1, 1) := by decide +kernel
theorem dX12_grownTo_18 : decode cX12_grownTo 18 = .ok (.iastore, 1) := by decide +kernel
theorem dX12_grownTo_19 : decode cX12_grownTo 19 = .ok (.aload_n 0, 1) := by decide +kernel
theorem dX12_grownTo_20 : decode cX12_grownTo 20 = .ok (.getfield 33, 3) := by decide +kernel
theorem dX12_grownTo_23 : decode cX12_grownTo 23 = .ok (.iconst 1, 1) := by decide +kernel
theorem dX12_grownTo_24 : decode cX12_grownTo 24 = .ok (.iload_n 2, 1) := by decide +kernel
theorem dX12_grownTo_25 : decode cX12_grownTo 25 = .ok (.iastore, 1) := by decide +kernel
theorem dX12_grownTo_26 : decode cX12_grownTo 26 = .ok (.aload_n 0, 1) := by decide +kernel
theorem dX12_grownTo_27 : decode cX12_grownTo 27 = .ok (.iconst 1, 1) := by decide +kernel
theorem dX12_grownTo_28 : decode cX12_grownTo 28 = .ok (.invokevirtual 239, 3) := by decide +kernel
theorem dX12_grownTo_31 : decode cX12_grownTo 31 = .ok (.istore_n 3, 1) := by decide +kernel
theorem dX12_grownTo_32 : decode cX12_grownTo 32 = .ok (.iload_n 3, 1) := by decide +kernel
theorem dX12_grownTo_33 : decode cX12_grownTo 33 = .ok (.ifCond .ge 7, 3) := by decide +kernel
theorem dX12_grownTo_36 : decode cX12_grownTo 36 = .ok (.iconst 0, 1) := by decide +kernel
theorem dX12_grownTo_37 : decode cX12_grownTo 37 = .ok (.goto 23, 3) := by decide +kernel
theorem dX12_grownTo_40 : decode cX12_grownTo 40 = .ok (.iload_n 3, 1) := by decide +kernel
theorem dX12_grownTo_41 : decode cX12_grownTo 41 = .ok (.aload_n 0, 1) := by decide +kernel
theorem dX12_grownTo_42 : decode cX12_grownTo 42 = .ok (.getfield 13, 3) := by decide +kernel
theorem dX12_grownTo_45 : decode cX12_grownTo 45 = .ok (.iconst 1, 1) := by decide +kernel
theorem dX12_grownTo_46 : decode cX12_grownTo 46 = .ok (.iaload, 1) := by decide +kernel
theorem dX12_grownTo_47 : decode cX12_grownTo 47 = .ok (.if_icmp .le 12, 3) := by decide +kernel
theorem dX12_grownTo_50 : decode cX12_grownTo 50 = .ok (.aload_n 0, 1) := by decide +kernel
theorem dX12_grownTo_51 : decode cX12_grownTo 51 = .ok (.getfield 13, 3) := by decide +kernel
theorem dX12_grownTo_54 : decode cX12_grownTo 54 = .ok (.iconst 1, 1) := by decide +kernel
theorem dX12_grownTo_55 : decode cX12_grownTo 55 = .ok (.iaload, 1) := by decide +kernel
theorem dX12_grownTo_56 : decode cX12_grownTo 56 = .ok (.goto 4, 3) := by decide +kernel
theorem dX12_grownTo_59 : decode cX12_grownTo 59 = .ok (.iload_n 3, 1) := by decide +kernel
theorem dX12_grownTo_60 : decode cX12_grownTo 60 = .ok (.ireturn, 1) := by decide +kernel
set_option maxRecDepth 20000 in
theorem ggX12_isOver_X12_yearOf : GoodIn wsX12_isOver wsX12_yearOf := goodIn_r _ [5] (by decide +kernel) (by decide +kernel)
set_option maxRecDepth 20000 in
theorem gX12_isOver_X12_yearOf : GoodIn wsX12_isOver (va_wsS RX12 224 yX12_yearOf wsX12_yearOf) := goodIn_app (goodIn_of _ (by decide +kernel)) ggX12_isOver_X12_yearOf
theorem dX12_isOver_0 : decode cX12_isOver 0 = .ok (.iload_n 1, 1) := by decide +kernel
theorem dX12_isOver_1 : decode cX12_isOver 1 = .ok (.invokestatic 224, 3) := by decide +kernel
theorem dX12_isOver_4 : decode cX12_isOver 4 = .ok (.aload_n 0, 1) := by decide +kernel
theorem dX12_isOver_5 : decode cX12_isOver 5 = .ok (.getfield 13, 3) := by decide +kernel
theorem dX12_isOver_8 : decode cX12_isOver 8 = .ok (.iconst 1, 1) := by decide +kernel
theorem dX12_isOver_9 : decode cX12_isOver 9 = .ok (.iaload, 1) := by decide +kernel
theorem dX12_isOver_10 : decode cX12_isOver 10 = .ok (.if_icmp .lt 7, 3) := by decide +kernel
theorem dX12_isOver_13 : decode cX12_isOver 13 = .ok (.iconst 1, 1) := by decide +kernel
theorem dX12_isOver_14 : decode cX12_isOver 14 = .ok (.goto 4, 3) := by decide +kernel
theorem dX12_isOver_17 : decode cX12_isOver 17 = .ok (.iconst 0, 1) := by decide +kernel
theorem dX12_isOver_18 : decode cX12_isOver 18 = .ok (.ireturn, 1) := by decide +kernel
set_option maxRecDepth 20000 in
theorem ggX12_livedTo_X12_lifeOf : GoodIn wsX12_livedTo wsX12_lifeOf := goodIn_r _ [4] (by decide +kernel) (by decide +kernel)
set_option maxRecDepth 20000 in
theorem gX12_livedTo_X12_lifeOf : GoodIn wsX12_livedTo (va_wsS RX12 233 yX12_lifeOf wsX12_lifeOf) := goodIn_app (goodIn_of _ (by decide +kernel)) ggX12_livedTo_X12_lifeOf
set_option maxRecDepth 20000 in
theorem ggX12_livedTo_X12_oldOf : GoodIn wsX12_livedTo wsX12_oldOf := goodIn_r _ [7] (by decide +kernel) (by decide +kernel)
set_option maxRecDepth 20000 in
theorem gX12_livedTo_X12_oldOf : GoodIn wsX12_livedTo (va_wsS RX12 236 yX12_oldOf wsX12_oldOf) := goodIn_app (goodIn_of _ (by decide +kernel)) ggX12_livedTo_X12_oldOf
set_option maxRecDepth 20000 in
theorem ggX12_livedTo_X12_yearOf : GoodIn wsX12_livedTo wsX12_yearOf := goodIn_r _ [10] (by decide +kernel) (by decide +kernel)
set_option maxRecDepth 20000 in
theorem gX12_livedTo_X12_yearOf : GoodIn wsX12_livedTo (va_wsS RX12 224 yX12_yearOf wsX12_yearOf) := goodIn_app (goodIn_of _ (by decide +kernel)) ggX12_livedTo_X12_yearOf
set_option maxRecDepth 20000 in
theorem ggX12_livedTo_X12_lastOf : GoodIn wsX12_livedTo wsX12_lastOf := goodIn_r _ [13] (by decide +kernel) (by decide +kernel)
set_option maxRecDepth 20000 in
theorem gX12_livedTo_X12_lastOf : GoodIn wsX12_livedTo (va_wsS RX12 227 yX12_lastOf wsX12_lastOf) := goodIn_app (goodIn_of _ (by decide +kernel)) ggX12_livedTo_X12_lastOf
set_option maxRecDepth 20000 in
theorem ggX12_livedTo_X12_streakOf : GoodIn wsX12_livedTo wsX12_streakOf := goodIn_r _ [16] (by decide +kernel) (by decide +kernel)
set_option maxRecDepth 20000 in
theorem gX12_livedTo_X12_streakOf : GoodIn wsX12_livedTo (va_wsS RX12 230 yX12_streakOf wsX12_streakOf) := goodIn_app (goodIn_of _ (by decide +kernel)) ggX12_livedTo_X12_streakOf
set_option maxRecDepth 20000 in
theorem ggX12_livedTo_X12_standOf : GoodIn wsX12_livedTo wsX12_standOf := goodIn_r _ [19] (by decide +kernel) (by decide +kernel)
set_option maxRecDepth 20000 in
theorem gX12_livedTo_X12_standOf : GoodIn wsX12_livedTo (va_wsS RX12 220 yX12_standOf wsX12_standOf) := goodIn_app (goodIn_of _ (by decide +kernel)) ggX12_livedTo_X12_standOf
theorem dX12_livedTo_0 : decode cX12_livedTo 0 = .ok (.iload_n 0, 1) := by decide +kernel
theorem dX12_livedTo_1 : decode cX12_livedTo 1 = .ok (.invokestatic 233, 3) := by decide +kernel
theorem dX12_livedTo_4 : decode cX12_livedTo 4 = .ok (.iload_n 0, 1) := by decide +kernel
theorem dX12_livedTo_5 : decode cX12_livedTo 5 = .ok (.invokestatic 236, 3) := by decide +kernel
theorem dX12_livedTo_8 : decode cX12_livedTo 8 = .ok (.iload_n 0, 1) := by decide +kernel
theorem dX12_livedTo_9 : decode cX12_livedTo 9 = .ok (.invokestatic 224, 3) := by decide +kernel
theorem dX12_livedTo_12 : decode cX12_livedTo 12 = .ok (.iconst 1, 1) := by decide +kernel
theorem dX12_livedTo_13 : decode cX12_livedTo 13 = .ok (.iadd, 1) := by decide +kernel
theorem dX12_livedTo_14 : decode cX12_livedTo 14 = .ok (.iload_n 1, 1) := by decide +kernel
theorem dX12_livedTo_15 : decode cX12_livedTo 15 = .ok (.iload_n 0, 1) := by decide +kernel
theorem dX12_livedTo_16 : decode cX12_livedTo 16 = .ok (.invokestatic 227, 3) := by decide +kernel
theorem dX12_livedTo_19 : decode cX12_livedTo 19 = .ok (.iload_n 1, 1) := by decide +kernel
theorem dX12_livedTo_20 : decode cX12_livedTo 20 = .ok (.if_icmp .ne 12, 3) := by decide +kernel
theorem dX12_livedTo_23 : decode cX12_livedTo 23 = .ok (.iload_n 0, 1) := by decide +kernel
theorem dX12_livedTo_24 : decode cX12_livedTo 24 = .ok (.invokestatic 230, 3) := by decide +kernel
theorem dX12_livedTo_27 : decode cX12_livedTo 27 = .ok (.iconst 1, 1) := by decide +kernel
theorem dX12_livedTo_28 : decode cX12_livedTo 28 = .ok (.iadd, 1) := by decide +kernel
theorem dX12_livedTo_29 : decode cX12_livedTo 29 = .ok (.goto 4, 3) := by decide +kernel
theorem dX12_livedTo_32 : decode cX12_livedTo 32 = .ok (.iconst 1, 1) := by decide +kernel
theorem dX12_livedTo_33 : decode cX12_livedTo 33 = .ok (.invokestatic 220, 3) := by decide +kernel
theorem dX12_livedTo_36 : decode cX12_livedTo 36 = .ok (.ireturn, 1) := by decide +kernel
set_option maxRecDepth 20000 in
theorem ggX12_drawnTo_X12_yearOf : GoodIn wsX12_drawnTo wsX12_yearOf := goodIn_r _ [4] (by decide +kernel) (by decide +kernel)
set_option maxRecDepth 20000 in
theorem gX12_drawnTo_X12_yearOf : GoodIn wsX12_drawnTo (va_wsS RX12 224 yX12_yearOf wsX12_yearOf) := goodIn_app (goodIn_of _ (by decide +kernel)) ggX12_drawnTo_X12_yearOf
set_option maxRecDepth 20000 in
theorem ggX12_drawnTo_X12_grownTo : GoodIn wsX12_drawnTo wsX12_grownTo := goodIn_r _ [8, 9, 10, 11, 12, 13, 3, 14, 15, 16, 17, 18, 19, 20, 24, 25, 26, 27, 28, 29, 30, 31, 32, 33, 34, 35, 36, 37, 38, 39, 40, 41, 42, 43, 44, 45, 46, 47, 48, 49, 50, 51, 52, 53, 54, 55, 56, 57, 58, 59] (by decide +kernel) (by decide +kernel)
set_option maxRecDepth 20000 in
theorem gX12_drawnTo_X12_grownTo : GoodIn wsX12_drawnTo (wsV RX12 242 RX12 yX12_grownTo wsX12_grownTo) := goodIn_app (goodIn_of _ (by decide +kernel)) ggX12_drawnTo_X12_grownTo
set_option maxRecDepth 20000 in
theorem ggX12_drawnTo_X12_standOf : GoodIn wsX12_drawnTo wsX12_standOf := goodIn_r _ [23] (by decide +kernel) (by decide +kernel)
set_option maxRecDepth 20000 in
theorem gX12_drawnTo_X12_standOf : GoodIn wsX12_drawnTo (va_wsS RX12 220 yX12_standOf wsX12_standOf) := goodIn_app (goodIn_of _ (by decide +kernel)) ggX12_drawnTo_X12_standOf
theorem dX12_drawnTo_0 : decode cX12_drawnTo 0 = .ok (.iconst 2, 1) := by decide +kernel
theorem dX12_drawnTo_1 : decode cX12_drawnTo 1 = .ok (.iload_n 2, 1) := by decide +kernel
theorem dX12_drawnTo_2 : decode cX12_drawnTo 2 = .ok (.invokestatic 224, 3) := by decide +kernel
theorem dX12_drawnTo_5 : decode cX12_drawnTo 5 = .ok (.aload_n 0, 1) := by decide +kernel
theorem dX12_drawnTo_6 : decode cX12_drawnTo 6 = .ok (.iload_n 1, 1) := by decide +kernel
theorem dX12_drawnTo_7 : decode cX12_drawnTo 7 = .ok (.iload_n 2, 1) := by decide +kernel
theorem dX12_drawnTo_8 : decode cX12_drawnTo 8 = .ok (.invokestatic 224, 3) := by decide +kernel
theorem dX12_drawnTo_11 : decode cX12_drawnTo 11 = .ok (.invokevirtual 242, 3) := by decide +kernel
theorem dX12_drawnTo_14 : decode cX12_drawnTo 14 = .ok (.bipush 9, 2) := by decide +kernel
theorem dX12_drawnTo_16 : decode cX12_drawnTo 16 = .ok (.iconst 0, 1) := by decide +kernel
theorem dX12_drawnTo_17 : decode cX12_drawnTo 17 = .ok (.invokestatic 220, 3) := by decide +kernel
theorem dX12_drawnTo_20 : decode cX12_drawnTo 20 = .ok (.ireturn, 1) := by decide +kernel
set_option maxRecDepth 20000 in
theorem ggX12_person_X12_isPerson : GoodIn wsX12_person wsX12_isPerson := goodIn_r _ [8, 3, 9, 10, 7, 11, 12, 13, 14, 15, 16, 17, 18, 19, 20, 21, 22, 23, 24, 25, 26, 27, 28, 29, 30, 31, 32, 33, 34, 35, 36, 37, 38, 39, 40, 41, 42, 43, 44, 45, 46, 47] (by decide +kernel) (by decide +kernel)
set_option maxRecDepth 20000 in
theorem gX12_person_X12_isPerson : GoodIn wsX12_person (wsV RX12 245 RX12 yX12_isPerson wsX12_isPerson) := goodIn_app (goodIn_of _ (by decide +kernel)) ggX12_person_X12_isPerson
theorem dX12_person_0 : decode cX12_person 0 = .ok (.aload_n 0, 1) := by decide +kernel
theorem dX12_person_1 : decode cX12_person 1 = .ok (.iconst 0, 1) := by decide +kernel
theorem dX12_person_2 : decode cX12_person 2 = .ok (.putfield 1, 3) := by decide +kernel
theorem dX12_person_5 : decode cX12_person 5 = .ok (.aload_n 0, 1) := by decide +kernel
theorem dX12_person_6 : decode cX12_person 6 = .ok (.iload_n 1, 1) := by decide +kernel
theorem dX12_person_7 : decode cX12_person 7 = .ok (.i2l, 1) := by decide +kernel
theorem dX12_person_8 : decode cX12_person 8 = .ok (.invokevirtual 245, 3) := by decide +kernel
theorem dX12_person_11 : decode cX12_person 11 = .ok (.ifCond .ne 6, 3) := by decide +kernel
theorem dX12_person_14 : decode cX12_person 14 = .ok (.ldc 249, 2) := by decide +kernel
theorem dX12_person_16 : decode cX12_person 16 = .ok (.ireturn, 1) := by decide +kernel
theorem dX12_person_17 : decode cX12_person 17 = .ok (.iload_n 2, 1) := by decide +kernel
theorem dX12_person_18 : decode cX12_person 18 = .ok (.tableswitch 140 0 8 #[50, 60, 70, 80, 90, 100, 110, 120, 130], 50) := by decide +kernel
theorem dX12_person_68 : decode cX12_person 68 = .ok (.aload_n 0, 1) := by decide +kernel
theorem dX12_person_69 : decode cX12_person 69 = .ok (.getfield 13, 3) := by decide +kernel
theorem dX12_person_72 : decode cX12_person 72 = .ok (.bipush 18, 2) := by decide +kernel
theorem dX12_person_74 : decode cX12_person 74 = .ok (.iload_n 1, 1) := by decide +kernel
theorem dX12_person_75 : decode cX12_person 75 = .ok (.iadd, 1) := by decide +kernel
theorem dX12_person_76 : decode cX12_person 76 = .ok (.iaload, 1) := by decide +kernel
theorem dX12_person_77 : decode cX12_person 77 = .ok (.ireturn, 1) := by decide +kernel
theorem dX12_person_78 : decode cX12_person 78 = .ok (.aload_n 0, 1) := by decide +kernel
theorem dX12_person_79 : decode cX12_person 79 = .ok (.getfield 13, 3) := by decide +kernel
theorem dX12_person_82 : decode cX12_person 82 = .ok (.bipush 24, 2) := by decide +kernel
theorem dX12_person_84 : decode cX12_person 84 = .ok (.iload_n 1, 1) := by decide +kernel
theorem dX12_person_85 : decode cX12_person 85 = .ok (.iadd, 1) := by decide +kernel
theorem dX12_person_86 : decode cX12_person 86 = .ok (.iaload, 1) := by decide +kernel
theorem dX12_person_87 : decode cX12_person 87 = .ok (.ireturn, 1) := by decide +kernel
theorem dX12_person_88 : decode cX12_person 88 = .ok (.aload_n 0, 1) := by decide +kernel
theorem dX12_person_89 : decode cX12_person 89 = .ok (.getfield 13, 3) := by decide +kernel
theorem dX12_person_92 : decode cX12_person 92 = .ok (.bipush 30, 2) := by decide +kernel
theorem dX12_person_94 : decode cX12_person 94 = .ok (.iload_n 1, 1) := by decide +kernel
theorem dX12_person_95 : decode cX12_person 95 = .ok (.iadd, 1) := by decide +kernel
theorem dX12_person_96 : decode cX12_person 96 = .ok (.iaload, 1) := by decide +kernel
theorem dX12_person_97 : decode cX12_person 97 = .ok (.ireturn, 1) := by decide +kernel
theorem dX12_person_98 : decode cX12_person 98 = .ok (.aload_n 0, 1) := by decide +kernel
theorem dX12_person_99 : decode cX12_person 99 = .ok (.getfield 13, 3) := by decide +kernel
theorem dX12_person_102 : decode cX12_person 102 = .ok (.bipush 36, 2) := by decide +kernel
theorem dX12_person_104 : decode cX12_person 104 = .ok (.iload_n 1, 1) := by decide +kernel
theorem dX12_person_105 : decode cX12_person 105 = .ok (.iadd, 1) := by decide +kernel
theorem dX12_person_106 : decode cX12_person 106 = .ok (.iaload, 1) := by decide +kernel
theorem dX12_person_107 : decode cX12_person 107 = .ok (.ireturn, 1) := by decide +kernel
theorem dX12_person_108 : decode cX12_person 108 = .ok (.aload_n 0, 1) := by decide +kernel
theorem dX12_person_109 : decode cX12_person 109 = .ok (.getfield 13, 3) := by decide +kernel
theorem dX12_person_112 : decode cX12_person 112 = .ok (.bipush 42, 2) := by decide +kernel
theorem dX12_person_114 : decode cX12_person 114 = .ok (.iload_n 1, 1) := by decide +kernel
theorem dX12_person_115 : decode cX12_person 115 = .ok (.iadd, 1) := by decide +kernel
theorem dX12_person_116 : decode cX12_person 116 = .ok (.iaload, 1) := by decide +kernel
theorem dX12_person_117 : decode cX12_person 117 = .ok (.ireturn, 1) := by decide +kernel
theorem dX12_person_118 : decode cX12_person 118 = .ok (.aload_n 0, 1) := by decide +kernel
theorem dX12_person_119 : decode cX12_person 119 = .ok (.getfield 13, 3) := by decide +kernel
theorem dX12_person_122 : decode cX12_person 122 = .ok (.bipush 48, 2) := by decide +kernel
theorem dX12_person_124 : decode cX12_person 124 = .ok (.iload_n 1, 1) := by decide +kernel
theorem dX12_person_125 : decode cX12_person 125 = .ok (.iadd, 1) := by decide +kernel
theorem dX12_person_126 : decode cX12_person 126 = .ok (.iaload, 1) := by decide +kernel
theorem dX12_person_127 : decode cX12_person 127 = .ok (.ireturn, 1) := by decide +kernel
theorem dX12_person_128 : decode cX12_person 128 = .ok (.aload_n 0, 1) := by decide +kernel
theorem dX12_person_129 : decode cX12_person 129 = .ok (.getfield 13, 3) := by decide +kernel
theorem dX12_person_132 : decode cX12_person 132 = .ok (.bipush 54, 2) := by decide +kernel
theorem dX12_person_134 : decode cX12_person 134 = .ok (.iload_n 1, 1) := by decide +kernel
theorem dX12_person_135 : decode cX12_person 135 = .ok (.iadd, 1) := by decide +kernel
theorem dX12_person_136 : decode cX12_person 136 = .ok (.iaload, 1) := by decide +kernel
theorem dX12_person_137 : decode cX12_person 137 = .ok (.ireturn, 1) := by decide +kernel
theorem dX12_person_138 : decode cX12_person 138 = .ok (.aload_n 0, 1) := by decide +kernel
theorem dX12_person_139 : decode cX12_person 139 = .ok (.getfield 13, 3) := by decide +kernel
theorem dX12_person_142 : decode cX12_person 142 = .ok (.bipush 11, 2) := by decide +kernel
theorem dX12_person_144 : decode cX12_person 144 = .ok (.iload_n 1, 1) := by decide +kernel
theorem dX12_person_145 : decode cX12_person 145 = .ok (.iadd, 1) := by decide +kernel
theorem dX12_person_146 : decode cX12_person 146 = .ok (.iaload, 1) := by decide +kernel
theorem dX12_person_147 : decode cX12_person 147 = .ok (.ireturn, 1) := by decide +kernel
theorem dX12_person_148 : decode cX12_person 148 = .ok (.aload_n 0, 1) := by decide +kernel
theorem dX12_person_149 : decode cX12_person 149 = .ok (.getfield 13, 3) := by decide +kernel
theorem dX12_person_152 : decode cX12_person 152 = .ok (.bipush 60, 2) := by decide +kernel
theorem dX12_person_154 : decode cX12_person 154 = .ok (.iload_n 1, 1) := by decide +kernel
theorem dX12_person_155 : decode cX12_person 155 = .ok (.iadd, 1) := by decide +kernel
theorem dX12_person_156 : decode cX12_person 156 = .ok (.iaload, 1) := by decide +kernel
theorem dX12_person_157 : decode cX12_person 157 = .ok (.ireturn, 1) := by decide +kernel
theorem dX12_person_158 : decode cX12_person 158 = .ok (.ldc 249, 2) := by decide +kernel
theorem dX12_person_160 : decode cX12_person 160 = .ok (.ireturn, 1) := by decide +kernel
set_option maxRecDepth 20000 in
theorem ggX12_worth_X12_isPerson : GoodIn wsX12_worth wsX12_isPerson := goodIn_r _ [9, 4, 10, 11, 8, 12, 58, 59, 60, 61, 62, 63, 64, 65, 66, 67, 68, 69, 70, 71, 72, 73, 74, 75, 76, 77, 78, 79, 80, 81, 82, 83, 84, 85, 86, 87, 88, 89, 90, 91, 92, 93] (by decide +kernel) (by decide +kernel)
set_option maxRecDepth 20000 in
theorem gX12_worth_X12_isPerson : GoodIn wsX12_worth (wsV RX12 245 RX12 yX12_isPerson wsX12_isPerson) := goodIn_app (goodIn_of _ (by decide +kernel)) ggX12_worth_X12_isPerson
set_option maxRecDepth 20000 in
theorem ggX12_worth_X12_isTrade : GoodIn wsX12_worth wsX12_isTrade := goodIn_r _ [16, 4, 10, 11, 8, 12, 58, 59, 60, 61, 62, 63, 64, 65, 66, 67, 68, 69, 70, 71, 72, 73, 74, 75, 76, 77, 78, 79, 80, 81, 82, 83, 84, 85, 86, 87, 88, 89, 90, 91, 92, 93] (by decide +kernel) (by decide +kernel)
set_option maxRecDepth 20000 in
theorem gX12_worth_X12_isTrade : GoodIn wsX12_worth (wsV RX12 250 RX12 yX12_isTrade wsX12_isTrade) := goodIn_app (goodIn_of _ (by decide +kernel)) ggX12_worth_X12_isTrade
set_option maxRecDepth 20000 in
theorem ggX12_worth_X12_standNow : GoodIn wsX12_worth wsX12_standNow := goodIn_r _ [20, 4, 21, 22, 8, 23, 58, 59, 60, 61, 62, 63, 64, 65, 66, 67, 68, 69, 70, 71, 72, 73, 74, 75, 76, 77, 78, 79, 80, 81, 82, 83, 84, 85, 86, 87, 88, 89, 90, 91, 92, 93] (by decide +kernel) (by decide +kernel)
set_option maxRecDepth 20000 in
theorem gX12_worth_X12_standNow : GoodIn wsX12_worth (wsV RX12 253 RX12 yX12_standNow wsX12_standNow) := goodIn_app (goodIn_of _ (by decide +kernel)) ggX12_worth_X12_standNow
set_option maxRecDepth 20000 in
theorem ggX12_worth_X12_isOver : GoodIn wsX12_worth wsX12_isOver := goodIn_r _ [27, 4, 28, 29, 8, 30, 58, 59, 60, 61, 62, 63, 64, 65, 66, 67, 68, 69, 70, 71, 72, 73, 74, 75, 76, 77, 78, 79, 80, 81, 82, 83, 84, 85, 86, 87, 88, 89, 90, 91, 92, 93] (by decide +kernel) (by decide +kernel)
set_option maxRecDepth 20000 in
theorem gX12_worth_X12_isOver : GoodIn wsX12_worth (wsV RX12 256 RX12 yX12_isOver wsX12_isOver) := goodIn_app (goodIn_of _ (by decide +kernel)) ggX12_worth_X12_isOver
set_option maxRecDepth 20000 in
theorem ggX12_worth_X12_worthOf : GoodIn wsX12_worth wsX12_worthOf := goodIn_r _ [34, 4, 35, 28, 29, 8, 30, 36, 37, 38, 39, 40, 41, 42, 43, 44, 45, 46, 47, 48, 49, 50, 51, 52, 53, 54, 55, 56, 57, 58, 59, 60, 61, 62, 63, 64, 65, 66, 67, 68, 69, 70, 71, 72, 73, 74, 75, 76, 77, 78, 79, 80, 81, 82, 83, 84, 85, 86, 87, 88, 89, 90, 91, 92, 93] (by decide +kernel) (by decide +kernel)
set_option maxRecDepth 20000 in
theorem gX12_worth_X12_worthOf : GoodIn wsX12_worth (wsV RX12 259 RX12 yX12_worthOf wsX12_worthOf) := goodIn_app (goodIn_of _ (by decide +kernel)) ggX12_worth_X12_worthOf
theorem dX12_worth_0 : decode cX12_worth 0 = .ok (.aload_n 0, 1) := by decide +kernel
theorem dX12_worth_1 : decode cX12_worth 1 = .ok (.iconst 0, 1) := by decide +kernel
theorem dX12_worth_2 : decode cX12_worth 2 = .ok (.putfield 1, 3) := by decide +kernel
theorem dX12_worth_5 : decode cX12_worth 5 = .ok (.aload_n 0, 1) := by decide +kernel
theorem dX12_worth_6 : decode cX12_worth 6 = .ok (.iload_n 1, 1) := by decide +kernel
theorem dX12_worth_7 : decode cX12_worth 7 = .ok (.i2l, 1) := by decide +kernel
theorem dX12_worth_8 : decode cX12_worth 8 = .ok (.invokevirtual 245, 3) := by decide +kernel
theorem dX12_worth_11 : decode cX12_worth 11 = .ok (.ifCond .eq 12, 3) := by decide +kernel
theorem dX12_worth_14 : decode cX12_worth 14 = .ok (.aload_n 0, 1) := by decide +kernel
theorem dX12_worth_15 : decode cX12_worth 15 = .ok (.iload_n 2, 1) := by decide +kernel
theorem dX12_worth_16 : decode cX12_worth 16 = .ok (.i2l, 1) := by decide +kernel
theorem dX12_worth_17 : decode cX12_worth 17 = .ok (.invokevirtual 250, 3) := by decide +kernel
theorem dX12_worth_20 : decode cX12_worth 20 = .ok (.ifCond .ne 6, 3) := by decide +kernel
theorem dX12_worth_23 : decode cX12_worth 23 = .ok (.ldc 249, 2) := by decide +kernel
theorem dX12_worth_25 : decode cX12_worth 25 = .ok (.ireturn, 1) := by decide +kernel
theorem dX12_worth_26 : decode cX12_worth 26 = .ok (.aload_n 0, 1) := by decide +kernel
theorem dX12_worth_27 : decode cX12_worth 27 = .ok (.aload_n 0, 1) := by decide +kernel
theorem dX12_worth_28 : decode cX12_worth 28 = .ok (.iload_n 1, 1) := by decide +kernel
theorem dX12_worth_29 : decode cX12_worth 29 = .ok (.invokevirtual 253, 3) := by decide +kernel
theorem dX12_worth_32 : decode cX12_worth 32 = .ok (.invokevirtual 256, 3) := by decide +kernel
theorem dX12_worth_35 : decode cX12_worth 35 = .ok (.ifCond .eq 8, 3) := by decide +kernel
theorem dX12_worth_38 : decode cX12_worth 38 = .ok (.ldc 84, 2) := by decide +kernel
theorem dX12_worth_40 : decode cX12_worth 40 = .ok (.goto 22, 3) := by decide +kernel
theorem dX12_worth_43 : decode cX12_worth 43 = .ok (.aload_n 0, 1) := by decide +kernel
theorem dX12_worth_44 : decode cX12_worth 44 = .ok (.aload_n 0, 1) := by decide +kernel
theorem dX12_worth_45 : decode cX12_worth 45 = .ok (.getfield 13, 3) := by decide +kernel
theorem dX12_worth_48 : decode cX12_worth 48 = .ok (.bipush 54, 2) := by decide +kernel
theorem dX12_worth_50 : decode cX12_worth 50 = .ok (.iload_n 1, 1) := by decide +kernel
theorem dX12_worth_51 : decode cX12_worth 51 = .ok (.iadd, 1) := by decide +kernel
theorem dX12_worth_52 : decode cX12_worth 52 = .ok (.iaload, 1) := by decide +kernel
theorem dX12_worth_53 : decode cX12_worth 53 = .ok (.aload_n 0, 1) := by decide +kernel
theorem dX12_worth_54 : decode cX12_worth 54 = .ok (.iload_n 1, 1) := by decide +kernel
theorem dX12_worth_55 : decode cX12_worth 55 = .ok (.invokevirtual 253, 3) := by decide +kernel
theorem dX12_worth_58 : decode cX12_worth 58 = .ok (.iload_n 2, 1) := by decide +kernel
theorem dX12_worth_59 : decode cX12_worth 59 = .ok (.invokevirtual 259, 3) := by decide +kernel
theorem dX12_worth_62 : decode cX12_worth 62 = .ok (.ireturn, 1) := by decide +kernel
set_option maxRecDepth 20000 in
theorem ggX12_grown_X12_isPerson : GoodIn wsX12_grown wsX12_isPerson := goodIn_r _ [9, 3, 10, 11, 8, 12, 28, 29, 30, 31, 32, 33, 34, 35, 36, 37, 38, 39, 40, 41, 42, 43, 44, 45, 46, 47, 48, 49, 50, 51, 52, 53, 54, 55, 56, 57, 58, 59, 60, 61, 62, 63] (by decide +kernel) (by decide +kernel)
set_option maxRecDepth 20000 in
theorem gX12_grown_X12_isPerson : GoodIn wsX12_grown (wsV RX12 245 RX12 yX12_isPerson wsX12_isPerson) := goodIn_app (goodIn_of _ (by decide +kernel)) ggX12_grown_X12_isPerson
set_option maxRecDepth 20000 in
theorem ggX12_grown_X12_grownTo : GoodIn wsX12_grown wsX12_grownTo := goodIn_r _ [16, 3, 17, 18, 19, 20, 8, 21, 22, 23, 24, 25, 26, 27, 28, 29, 30, 31, 32, 33, 34, 35, 36, 37, 38, 39, 40, 41, 42, 43, 44, 45, 46, 47, 48, 49, 50, 51, 52, 53, 54, 55, 56, 57, 58, 59, 60, 61, 62, 63] (by decide +kernel) (by decide +kernel)
set_option maxRecDepth 20000 in
theorem gX12_grown_X12_grownTo : GoodIn wsX12_grown (wsV RX12 242 RX12 yX12_grownTo wsX12_grownTo) := goodIn_app (goodIn_of _ (by decide +kernel)) ggX12_grown_X12_grownTo
theorem dX12_grown_0 : decode cX12_grown 0 = .ok (.aload_n 0, 1) := by decide +kernel
theorem dX12_grown_1 : decode cX12_grown 1 = .ok (.iconst 0, 1) := by decide +kernel
theorem dX12_grown_2 : decode cX12_grown 2 = .ok (.putfield 1, 3) := by decide +kernel
theorem dX12_grown_5 : decode cX12_grown 5 = .ok (.aload_n 0, 1) := by decide +kernel
theorem dX12_grown_6 : decode cX12_grown 6 = .ok (.iload_n 1, 1) := by decide +kernel
theorem dX12_grown_7 : decode cX12_grown 7 = .ok (.i2l, 1) := by decide +kernel
theorem dX12_grown_8 : decode cX12_grown 8 = .ok (.invokevirtual 245, 3) := by decide +kernel
theorem dX12_grown_11 : decode cX12_grown 11 = .ok (.ifCond .ne 8, 3) := by decide +kernel
theorem dX12_grown_14 : decode cX12_grown 14 = .ok (.ldc 249, 2) := by decide +kernel
theorem dX12_grown_16 : decode cX12_grown 16 = .ok (.goto 43, 3) := by decide +kernel
theorem dX12_grown_19 : decode cX12_grown 19 = .ok (.aload_n 0, 1) := by decide +kernel
theorem dX12_grown_20 : decode cX12_grown 20 = .ok (.getfield 13, 3) := by decide +kernel
theorem dX12_grown_23 : decode cX12_grown 23 = .ok (.bipush 24, 2) := by decide +kernel
theorem dX12_grown_25 : decode cX12_grown 25 = .ok (.iload_n 1, 1) := by decide +kernel
theorem dX12_grown_26 : decode cX12_grown 26 = .ok (.iadd, 1) := by decide +kernel
theorem dX12_grown_27 : decode cX12_grown 27 = .ok (.iaload, 1) := by decide +kernel
theorem dX12_grown_28 : decode cX12_grown 28 = .ok (.iconst 2, 1) := by decide +kernel
theorem dX12_grown_29 : decode cX12_grown 29 = .ok (.if_icmp .ne 8, 3) := by decide +kernel
theorem dX12_grown_32 : decode cX12_grown 32 = .ok (.ldc 84, 2) := by decide +kernel
theorem dX12_grown_34 : decode cX12_grown 34 = .ok (.goto 25, 3) := by decide +kernel
theorem dX12_grown_37 : decode cX12_grown 37 = .ok (.aload_n 0, 1) := by decide +kernel
theorem dX12_grown_38 : decode cX12_grown 38 = .ok (.aload_n 0, 1) := by decide +kernel
theorem dX12_grown_39 : decode cX12_grown 39 = .ok (.getfield 13, 3) := by decide +kernel
theorem dX12_grown_42 : decode cX12_grown 42 = .ok (.bipush 54, 2) := by decide +kernel
theorem dX12_grown_44 : decode cX12_grown 44 = .ok (.iload_n 1, 1) := by decide +kernel
theorem dX12_grown_45 : decode cX12_grown 45 = .ok (.iadd, 1) := by decide +kernel
theorem dX12_grown_46 : decode cX12_grown 46 = .ok (.iaload, 1) := by decide +kernel
theorem dX12_grown_47 : decode cX12_grown 47 = .ok (.aload_n 0, 1) := by decide +kernel
theorem dX12_grown_48 : decode cX12_grown 48 = .ok (.getfield 13, 3) := by decide +kernel
theorem dX12_grown_51 : decode cX12_grown 51 = .ok (.bipush 18, 2) := by decide +kernel
theorem dX12_grown_53 : decode cX12_grown 53 = .ok (.iload_n 1, 1) := by decide +kernel
theorem dX12_grown_54 : decode cX12_grown 54 = .ok (.iadd, 1) := by decide +kernel
theorem dX12_grown_55 : decode cX12_grown 55 = .ok (.iaload, 1) := by decide +kernel
theorem dX12_grown_56 : decode cX12_grown 56 = .ok (.invokevirtual 242, 3) := by decide +kernel
theorem dX12_grown_59 : decode cX12_grown 59 = .ok (.ireturn, 1) := by decide +kernel
theorem dX12_keeps_0 : decode cX12_keeps 0 = .ok (.iconst 0, 1) := by decide +kernel
theorem dX12_keeps_1 : decode cX12_keeps 1 = .ok (.istore_n 1, 1) := by decide +kernel
theorem dX12_keeps_2 : decode cX12_keeps 2 = .ok (.iload_n 1, 1) := by decide +kernel
theorem dX12_keeps_3 : decode cX12_keeps 3 = .ok (.bipush 49, 2) := by decide +kernel
theorem dX12_keeps_5 : decode cX12_keeps 5 = .ok (.if_icmp .ge 24, 3) := by decide +kernel
theorem dX12_keeps_8 : decode cX12_keeps 8 = .ok (.aload_n 0, 1) := by decide +kernel
theorem dX12_keeps_9 : decode cX12_keeps 9 = .ok (.getfield 36, 3) := by decide +kernel
theorem dX12_keeps_12 : decode cX12_keeps 12 = .ok (.iload_n 1, 1) := by decide +kernel
theorem dX12_keeps_13 : decode cX12_keeps 13 = .ok (.aload_n 0, 1) := by decide +kernel
theorem dX12_keeps_14 : decode cX12_keeps 14 = .ok (.getfield 13, 3) := by decide +kernel
theorem dX12_keeps_17 : decode cX12_keeps 17 = .ok (.bipush 17, 2) := by decide +kernel
theorem dX12_keeps_19 : decode cX12_keeps 19 = .ok (.iload_n 1, 1) := by decide +kernel
theorem dX12_keeps_20 : decode cX12_keeps 20 = .ok (.iadd, 1) := by decide +kernel
theorem dX12_keeps_21 : decode cX12_keeps 21 = .ok (.iaload, 1) := by decide +kernel
theorem dX12_keeps_22 : decode cX12_keeps 22 = .ok (.iastore, 1) := by decide +kernel
theorem dX12_keeps_23 : decode cX12_keeps 23 = .ok (.iinc 1 1, 3) := by decide +kernel
theorem dX12_keeps_26 : decode cX12_keeps 26 = .ok (.goto (-24), 3) := by decide +kernel
theorem dX12_keeps_29 : decode cX12_keeps 29 = .ok (.return_, 1) := by decide +kernel
theorem dX12_isAgain_0 : decode cX12_isAgain 0 = .ok (.iconst 0, 1) := by decide +kernel
theorem dX12_isAgain_1 : decode cX12_isAgain 1 = .ok (.istore_n 1, 1) := by decide +kernel
theorem dX12_isAgain_2 : decode cX12_isAgain 2 = .ok (.iload_n 1, 1) := by decide +kernel
theorem dX12_isAgain_3 : decode cX12_isAgain 3 = .ok (.bipush 49, 2) := by decide +kernel
theorem dX12_isAgain_5 : decode cX12_isAgain 5 = .ok (.if_icmp .ge 24, 3) := by decide +kernel
theorem dX12_isAgain_8 : decode cX12_isAgain 8 = .ok (.aload_n 0, 1) := by decide +kernel
theorem dX12_isAgain_9 : decode cX12_isAgain 9 = .ok (.getfield 13, 3) := by decide +kernel
theorem dX12_isAgain_12 : decode cX12_isAgain 12 = .ok (.bipush 17, 2) := by decide +kernel
theorem dX12_isAgain_14 : decode cX12_isAgain 14 = .ok (.iload_n 1, 1) := by decide +kernel
theorem dX12_isAgain_15 : decode cX12_isAgain 15 = .ok (.iadd, 1) := by decide +kernel
theorem dX12_isAgain_16 : decode cX12_isAgain 16 = .ok (.aload_n 0, 1) := by decide +kernel
theorem dX12_isAgain_17 : decode cX12_isAgain 17 = .ok (.getfield 36, 3) := by decide +kernel
theorem dX12_isAgain_20 : decode cX12_isAgain 20 = .ok (.iload_n 1, 1) := by decide +kernel
theorem dX12_isAgain_21 : decode cX12_isAgain 21 = .ok (.iaload, 1) := by decide +kernel
theorem dX12_isAgain_22 : decode cX12_isAgain 22 = .ok (.iastore, 1) := by decide +kernel
theorem dX12_isAgain_23 : decode cX12_isAgain 23 = .ok (.iinc 1 1, 3) := by decide +kernel
theorem dX12_isAgain_26 : decode cX12_isAgain 26 = .ok (.goto (-24), 3) := by decide +kernel
theorem dX12_isAgain_29 : decode cX12_isAgain 29 = .ok (.return_, 1) := by decide +kernel
theorem dX12_notes_0 : decode cX12_notes 0 = .ok (.aload_n 0, 1) := by decide +kernel
theorem dX12_notes_1 : decode cX12_notes 1 = .ok (.getfield 13, 3) := by decide +kernel
theorem dX12_notes_4 : decode cX12_notes 4 = .ok (.bipush 66, 2) := by decide +kernel
theorem dX12_notes_6 : decode cX12_notes 6 = .ok (.iaload, 1) := by decide +kernel
theorem dX12_notes_7 : decode cX12_notes 7 = .ok (.bipush 10, 2) := by decide +kernel
theorem dX12_notes_9 : decode cX12_notes 9 = .ok (.if_icmp .ne 47, 3) := by decide +kernel
theorem dX12_notes_12 : decode cX12_notes 12 = .ok (.iconst 0, 1) := by decide +kernel
theorem dX12_notes_13 : decode cX12_notes 13 = .ok (.istore_n 1, 1) := by decide +kernel
theorem dX12_notes_14 : decode cX12_notes 14 = .ok (.iload_n 1, 1) := by decide +kernel
theorem dX12_notes_15 : decode cX12_notes 15 = .ok (.sipush 441, 3) := by decide +kernel
theorem dX12_notes_18 : decode cX12_notes 18 = .ok (.if_icmp .ge 27, 3) := by decide +kernel
theorem dX12_notes_21 : decode cX12_notes 21 = .ok (.aload_n 0, 1) := by decide +kernel
theorem dX12_notes_22 : decode cX12_notes 22 = .ok (.getfield 13, 3) := by decide +kernel
theorem dX12_notes_25 : decode cX12_notes 25 = .ok (.bipush 67, 2) := by decide +kernel
theorem dX12_notes_27 : decode cX12_notes 27 = .ok (.iload_n 1, 1) := by decide +kernel
theorem dX12_notes_28 : decode cX12_notes 28 = .ok (.iadd, 1) := by decide +kernel
theorem dX12_notes_29 : decode cX12_notes 29 = .ok (.aload_n 0, 1) := by decide +kernel
theorem dX12_notes_30 : decode cX12_notes 30 = .ok (.getfield 13, 3) := by decide +kernel
theorem dX12_notes_33 : decode cX12_notes 33 = .ok (.bipush 116, 2) := by decide +kernel
theorem dX12_notes_35 : decode cX12_notes 35 = .ok (.iload_n 1, 1) := by decide +kernel
theorem dX12_notes_36 : decode cX12_notes 36 = .ok (.iadd, 1) := by decide +kernel
theorem dX12_notes_37 : decode cX12_notes 37 = .ok (.iaload, 1) := by decide +kernel
theorem dX12_notes_38 : decode cX12_notes 38 = .ok (.iastore, 1) := by decide +kernel
theorem dX12_notes_39 : decode cX12_notes 39 = .ok (.iinc 1 1, 3) := by decide +kernel
theorem dX12_notes_42 : decode cX12_notes 42 = .ok (.goto (-28), 3) := by decide +kernel
theorem dX12_notes_45 : decode cX12_notes 45 = .ok (.aload_n 0, 1) := by decide +kernel
theorem dX12_notes_46 : decode cX12_notes 46 = .ok (.getfield 13, 3) := by decide +kernel
theorem dX12_notes_49 : decode cX12_notes 49 = .ok (.bipush 66, 2) := by decide +kernel
theorem dX12_notes_51 : decode cX12_notes 51 = .ok (.dup2, 1) := by decide +kernel
theorem dX12_notes_52 : decode cX12_notes 52 = .ok (.iaload, 1) := by decide +kernel
theorem dX12_notes_53 : decode cX12_notes 53 = .ok (.iconst 1, 1) := by decide +kernel
theorem dX12_notes_54 : decode cX12_notes 54 = .ok (.isub, 1) := by decide +kernel
theorem dX12_notes_55 : decode cX12_notes 55 = .ok (.iastore, 1) := by decide +kernel
theorem dX12_notes_56 : decode cX12_notes 56 = .ok (.iconst 0, 1) := by decide +kernel
theorem dX12_notes_57 : decode cX12_notes 57 = .ok (.istore_n 1, 1) := by decide +kernel
theorem dX12_notes_58 : decode cX12_notes 58 = .ok (.iload_n 1, 1) := by decide +kernel
theorem dX12_notes_59 : decode cX12_notes 59 = .ok (.bipush 49, 2) := by decide +kernel
theorem dX12_notes_61 : decode cX12_notes 61 = .ok (.if_icmp .ge 35, 3) := by decide +kernel
theorem dX12_notes_64 : decode cX12_notes 64 = .ok (.aload_n 0, 1) := by decide +kernel
theorem dX12_notes_65 : decode cX12_notes 65 = .ok (.getfield 13, 3) := by decide +kernel
theorem dX12_notes_68 : decode cX12_notes 68 = .ok (.bipush 67, 2) := by decide +kernel
theorem dX12_notes_70 : decode cX12_notes 70 = .ok (.bipush 49, 2) := by decide +kernel
theorem dX12_notes_72 : decode cX12_notes 72 = .ok (.aload_n 0, 1) := by decide +kernel
theorem dX12_notes_73 : decode cX12_notes 73 = .ok (.getfield 13, 3) := by decide +kernel
theorem dX12_notes_76 : decode cX12_notes 76 = .ok (.bipush 66, 2) := by decide +kernel
theorem dX12_notes_78 : decode cX12_notes 78 = .ok (.iaload, 1) := by decide +kernel
theorem dX12_notes_79 : decode cX12_notes 79 = .ok (.imul, 1) := by decide +kernel
theorem dX12_notes_80 : decode cX12_notes 80 = .ok (.iadd, 1) := by decide +kernel
theorem dX12_notes_81 : decode cX12_notes 81 = .ok (.iload_n 1, 1) := by decide +kernel
theorem dX12_notes_82 : decode cX12_notes 82 = .ok (.iadd, 1) := by decide +kernel
theorem dX12_notes_83 : decode cX12_notes 83 = .ok (.aload_n 0, 1) := by decide +kernel
theorem dX12_notes_84 : decode cX12_notes 84 = .ok (.getfield 36, 3) := by decide +kernel
theorem dX12_notes_87 : decode cX12_notes 87 = .ok (.iload_n 1, 1) := by decide +kernel
theorem dX12_notes_88 : decode cX12_notes 88 = .ok (.iaload, 1) := by decide +kernel
theorem dX12_notes_89 : decode cX12_notes 89 = .ok (.iastore, 1) := by decide +kernel
theorem dX12_notes_90 : decode cX12_notes 90 = .ok (.iinc 1 1, 3) := by decide +kernel
theorem dX12_notes_93 : decode cX12_notes 93 = .ok (.goto (-35), 3) := by decide +kernel
theorem dX12_notes_96 : decode cX12_notes 96 = .ok (.aload_n 0, 1) := by decide +kernel
theorem dX12_notes_97 : decode cX12_notes 97 = .ok (.getfield 13, 3) := by decide +kernel
theorem dX12_notes_100 : decode cX12_notes 100 = .ok (.bipush 66, 2) := by decide +kernel
theorem dX12_notes_102 : decode cX12_notes 102 = .ok (.dup2, 1) := by decide +kernel
theorem dX12_notes_103 : decode cX12_notes 103 = .ok (.iaload, 1) := by decide +kernel
theorem dX12_notes_104 : decode cX12_notes 104 = .ok (.iconst 1, 1) := by decide +kernel
theorem dX12_notes_105 : decode cX12_notes 105 = .ok (.iadd, 1) := by decide +kernel
theorem dX12_notes_106 : decode cX12_notes 106 = .ok (.iastore, 1) := by decide +kernel
theorem dX12_notes_107 : decode cX12_notes 107 = .ok (.return_, 1) := by decide +kernel
set_option maxRecDepth 20000 in
theorem ggX12_whyLive_X12_isPerson : GoodIn wsX12_whyLive wsX12_isPerson := goodIn_r _ [5, 6, 7, 8, 4, 9, 28, 29, 30, 31, 32, 33, 34, 35, 36, 37, 38, 39, 40, 41, 42, 43, 44, 45, 46, 47, 48, 49, 50, 51, 52, 53, 54, 55, 56, 57, 58, 59, 60, 61, 62, 63] (by decide +kernel) (by decide +kernel)
set_option maxRecDepth 20000 in
theorem gX12_whyLive_X12_isPerson : GoodIn wsX12_whyLive (wsV RX12 245 RX12 yX12_isPerson wsX12_isPerson) := goodIn_app (goodIn_of _ (by decide +kernel)) ggX12_whyLive_X12_isPerson
set_option maxRecDepth 20000 in
theorem ggX12_whyLive_X12_isTrade : GoodIn wsX12_whyLive wsX12_isTrade := goodIn_r _ [13, 6, 7, 8, 4, 9, 28, 29, 30, 31, 32, 33, 34, 35, 36, 37, 38, 39, 40, 41, 42, 43, 44, 45, 46, 47, 48, 49, 50, 51, 52, 53, 54, 55, 56, 57, 58, 59, 60, 61, 62, 63] (by decide +kernel) (by decide +kernel)
set_option maxRecDepth 20000 in
theorem gX12_whyLive_X12_isTrade : GoodIn wsX12_whyLive (wsV RX12 250 RX12 yX12_isTrade wsX12_isTrade) := goodIn_app (goodIn_of _ (by decide +kernel)) ggX12_whyLive_X12_isTrade
set_option maxRecDepth 20000 in
theorem ggX12_whyLive_X12_standNow : GoodIn wsX12_whyLive wsX12_standNow := goodIn_r _ [17, 6, 18, 19, 4, 20, 28, 29, 30, 31, 32, 33, 34, 35, 36, 37, 38, 39, 40, 41, 42, 43, 44, 45, 46, 47, 48, 49, 50, 51, 52, 53, 54, 55, 56, 57, 58, 59, 60, 61, 62, 63] (by decide +kernel) (by decide +kernel)
set_option maxRecDepth 20000 in
theorem gX12_whyLive_X12_standNow : GoodIn wsX12_whyLive (wsV RX12 253 RX12 yX12_standNow wsX12_standNow) := goodIn_app (goodIn_of _ (by decide +kernel)) ggX12_whyLive_X12_standNow
set_option maxRecDepth 20000 in
theorem ggX12_whyLive_X12_isOver : GoodIn wsX12_whyLive wsX12_isOver := goodIn_r _ [24, 6, 25, 26, 4, 27, 28, 29, 30, 31, 32, 33, 34, 35, 36, 37, 38, 39, 40, 41, 42, 43, 44, 45, 46, 47, 48, 49, 50, 51, 52, 53, 54, 55, 56, 57, 58, 59, 60, 61, 62, 63] (by decide +kernel) (by decide +kernel)
set_option maxRecDepth 20000 in
theorem gX12_whyLive_X12_isOver : GoodIn wsX12_whyLive (wsV RX12 256 RX12 yX12_isOver wsX12_isOver) := goodIn_app (goodIn_of _ (by decide +kernel)) ggX12_whyLive_X12_isOver
theorem dX12_whyLive_0 : decode cX12_whyLive 0 = .ok (.aload_n 0, 1) := by decide +kernel
theorem dX12_whyLive_1 : decode cX12_whyLive 1 = .ok (.lload_n 1, 1) := by decide +kernel
theorem dX12_whyLive_2 : decode cX12_whyLive 2 = .ok (.invokevirtual 245, 3) := by decide +kernel
theorem dX12_whyLive_5 : decode cX12_whyLive 5 = .ok (.ifCond .eq 11, 3) := by decide +kernel
theorem dX12_whyLive_8 : decode cX12_whyLive 8 = .ok (.aload_n 0, 1) := by decide +kernel
theorem dX12_whyLive_9 : decode cX12_whyLive 9 = .ok (.lload_n 3, 1) := by decide +kernel
theorem dX12_whyLive_10 : decode cX12_whyLive 10 = .ok (.invokevirtual 250, 3) := by decide +kernel
theorem dX12_whyLive_13 : decode cX12_whyLive 13 = .ok (.ifCond .ne 7, 3) := by decide +kernel
theorem dX12_whyLive_16 : decode cX12_whyLive 16 = .ok (.iconst 1, 1) := by decide +kernel
theorem dX12_whyLive_17 : decode cX12_whyLive 17 = .ok (.goto 21, 3) := by decide +kernel
theorem dX12_whyLive_20 : decode cX12_whyLive 20 = .ok (.aload_n 0, 1) := by decide +kernel
theorem dX12_whyLive_21 : decode cX12_whyLive 21 = .ok (.aload_n 0, 1) := by decide +kernel
theorem dX12_whyLive_22 : decode cX12_whyLive 22 = .ok (.lload_n 1, 1) := by decide +kernel
theorem dX12_whyLive_23 : decode cX12_whyLive 23 = .ok (.l2i, 1) := by decide +kernel
theorem dX12_whyLive_24 : decode cX12_whyLive 24 = .ok (.invokevirtual 253, 3) := by decide +kernel
theorem dX12_whyLive_27 : decode cX12_whyLive 27 = .ok (.invokevirtual 256, 3) := by decide +kernel
theorem dX12_whyLive_30 : decode cX12_whyLive 30 = .ok (.ifCond .eq 7, 3) := by decide +kernel
theorem dX12_whyLive_33 : decode cX12_whyLive 33 = .ok (.iconst 2, 1) := by decide +kernel
theorem dX12_whyLive_34 : decode cX12_whyLive 34 = .ok (.goto 4, 3) := by decide +kernel
theorem dX12_whyLive_37 : decode cX12_whyLive 37 = .ok (.iconst 0, 1) := by decide +kernel
theorem dX12_whyLive_38 : decode cX12_whyLive 38 = .ok (.ireturn, 1) := by decide +kernel
set_option maxRecDepth 20000 in
theorem ggX12_whyDraw_X12_isPerson : GoodIn wsX12_whyDraw wsX12_isPerson := goodIn_r _ [6, 1, 7, 8, 5, 9, 10, 11, 12, 13, 14, 15, 16, 17, 18, 19, 20, 21, 22, 23, 24, 25, 26, 27, 28, 29, 30, 31, 32, 33, 34, 35, 36, 37, 38, 39, 40, 41, 42, 43, 44, 45] (by decide +kernel) (by decide +kernel)
set_option maxRecDepth 20000 in
theorem gX12_whyDraw_X12_isPerson : GoodIn wsX12_whyDraw (wsV RX12 245 RX12 yX12_isPerson wsX12_isPerson) := goodIn_app (goodIn_of _ (by decide +kernel)) ggX12_whyDraw_X12_isPerson
theorem dX12_whyDraw_0 : decode cX12_whyDraw 0 = .ok (.aload_n 0, 1) := by decide +kernel
theorem dX12_whyDraw_1 : decode cX12_whyDraw 1 = .ok (.lload_n 1, 1) := by decide +kernel
theorem dX12_whyDraw_2 : decode cX12_whyDraw 2 = .ok (.invokevirtual 245, 3) := by decide +kernel
theorem dX12_whyDraw_5 : decode cX12_whyDraw 5 = .ok (.ifCond .ne 7, 3) := by decide +kernel
theorem dX12_whyDraw_8 : decode cX12_whyDraw 8 = .ok (.iconst 1, 1) := by decide +kernel
theorem dX12_whyDraw_9 : decode cX12_whyDraw 9 = .ok (.goto 39, 3) := by decide +kernel
theorem dX12_whyDraw_12 : decode cX12_whyDraw 12 = .ok (.aload_n 0, 1) := by decide +kernel
theorem dX12_whyDraw_13 : decode cX12_whyDraw 13 = .ok (.getfield 13, 3) := by decide +kernel
theorem dX12_whyDraw_16 : decode cX12_whyDraw 16 = .ok (.bipush 24, 2) := by decide +kernel
theorem dX12_whyDraw_18 : decode cX12_whyDraw 18 = .ok (.lload_n 1, 1) := by decide +kernel
theorem dX12_whyDraw_19 : decode cX12_whyDraw 19 = .ok (.l2i, 1) := by decide +kernel
theorem dX12_whyDraw_20 : decode cX12_whyDraw 20 = .ok (.iadd, 1) := by decide +kernel
theorem dX12_whyDraw_21 : decode cX12_whyDraw 21 = .ok (.iaload, 1) := by decide +kernel
theorem dX12_whyDraw_22 : decode cX12_whyDraw 22 = .ok (.iconst 2, 1) := by decide +kernel
theorem dX12_whyDraw_23 : decode cX12_whyDraw 23 = .ok (.if_icmp .ne 7, 3) := by decide +kernel
theorem dX12_whyDraw_26 : decode cX12_whyDraw 26 = .ok (.iconst 2, 1) := by decide +kernel
theorem dX12_whyDraw_27 : decode cX12_whyDraw 27 = .ok (.goto 21, 3) := by decide +kernel
theorem dX12_whyDraw_30 : decode cX12_whyDraw 30 = .ok (.aload_n 0, 1) := by decide +kernel
theorem dX12_whyDraw_31 : decode cX12_whyDraw 31 = .ok (.getfield 13, 3) := by decide +kernel
theorem dX12_whyDraw_34 : decode cX12_whyDraw 34 = .ok (.bipush 60, 2) := by decide +kernel
theorem dX12_whyDraw_36 : decode cX12_whyDraw 36 = .ok (.lload_n 1, 1) := by decide +kernel
theorem dX12_whyDraw_37 : decode cX12_whyDraw 37 = .ok (.l2i, 1) := by decide +kernel
theorem dX12_whyDraw_38 : decode cX12_whyDraw 38 = .ok (.iadd, 1) := by decide +kernel
theorem dX12_whyDraw_39 : decode cX12_whyDraw 39 = .ok (.iaload, 1) := by decide +kernel
theorem dX12_whyDraw_40 : decode cX12_whyDraw 40 = .ok (.ifCond .le 7, 3) := by decide +kernel
theorem dX12_whyDraw_43 : decode cX12_whyDraw 43 = .ok (.iconst 3, 1) := by decide +kernel
theorem dX12_whyDraw_44 : decode cX12_whyDraw 44 = .ok (.goto 4, 3) := by decide +kernel
theorem dX12_whyDraw_47 : decode cX12_whyDraw 47 = .ok (.iconst 0, 1) := by decide +kernel
theorem dX12_whyDraw_48 : decode cX12_whyDraw 48 = .ok (.ireturn, 1) := by decide +kernel
set_option maxRecDepth 20000 in
theorem ggX12_whyPledge_X12_within : GoodIn wsX12_whyPledge wsX12_within := goodIn_r _ [6] (by decide +kernel) (by decide +kernel)
set_option maxRecDepth 20000 in
theorem gX12_whyPledge_X12_within : GoodIn wsX12_whyPledge (va_wsS RX12 144 yX12_within wsX12_within) := goodIn_app (goodIn_of _ (by decide +kernel)) ggX12_whyPledge_X12_within
set_option maxRecDepth 20000 in
theorem ggX12_whyPledge_X12_whyDraw : GoodIn wsX12_whyPledge wsX12_whyDraw := goodIn_r _ [10, 2, 11, 12, 13, 5, 14, 3, 4, 6, 15, 16, 17, 18, 19, 20, 21, 22, 23, 24, 25, 26, 27, 28, 29, 30, 31, 32, 33, 34, 35, 36, 37, 38, 39, 40, 41, 42, 43, 44, 45, 46, 47, 48, 49, 50] (by decide +kernel) (by decide +kernel)
set_option maxRecDepth 20000 in
theorem gX12_whyPledge_X12_whyDraw : GoodIn wsX12_whyPledge (wsV RX12 264 RX12 yX12_whyDraw wsX12_whyDraw) := goodIn_app (goodIn_of _ (by decide +kernel)) ggX12_whyPledge_X12_whyDraw
theorem dX12_whyPledge_0 : decode cX12_whyPledge 0 = .ok (.lload_n 3, 1) := by decide +kernel
theorem dX12_whyPledge_1 : decode cX12_whyPledge 1 = .ok (.lconst 1, 1) := by decide +kernel
theorem dX12_whyPledge_2 : decode cX12_whyPledge 2 = .ok (.ldc2_w 262, 3) := by decide +kernel
theorem dX12_whyPledge_5 : decode cX12_whyPledge 5 = .ok (.invokestatic 144, 3) := by decide +kernel
theorem dX12_whyPledge_8 : decode cX12_whyPledge 8 = .ok (.ifCond .ne 5, 3) := by decide +kernel
theorem dX12_whyPledge_11 : decode cX12_whyPledge 11 = .ok (.iconst 1, 1) := by decide +kernel
theorem dX12_whyPledge_12 : decode cX12_whyPledge 12 = .ok (.ireturn, 1) := by decide +kernel
theorem dX12_whyPledge_13 : decode cX12_whyPledge 13 = .ok (.aload_n 0, 1) := by decide +kernel
theorem dX12_whyPledge_14 : decode cX12_whyPledge 14 = .ok (.lload_n 1, 1) := by decide +kernel
theorem dX12_whyPledge_15 : decode cX12_whyPledge 15 = .ok (.invokevirtual 264, 3) := by decide +kernel
theorem dX12_whyPledge_18 : decode cX12_whyPledge 18 = .ok (.istore 5, 2) := by decide +kernel
theorem dX12_whyPledge_20 : decode cX12_whyPledge 20 = .ok (.iload 5, 2) := by decide +kernel
theorem dX12_whyPledge_22 : decode cX12_whyPledge 22 = .ok (.ifCond .eq 8, 3) := by decide +kernel
theorem dX12_whyPledge_25 : decode cX12_whyPledge 25 = .ok (.iload 5, 2) := by decide +kernel
theorem dX12_whyPledge_27 : decode cX12_whyPledge 27 = .ok (.goto 21, 3) := by decide +kernel
theorem dX12_whyPledge_30 : decode cX12_whyPledge 30 = .ok (.aload_n 0, 1) := by decide +kernel
theorem dX12_whyPledge_31 : decode cX12_whyPledge 31 = .ok (.getfield 13, 3) := by decide +kernel
theorem dX12_whyPledge_34 : decode cX12_whyPledge 34 = .ok (.bipush 17, 2) := by decide +kernel
theorem dX12_whyPledge_36 : decode cX12_whyPledge 36 = .ok (.iaload, 1) := by decide +kernel
theorem dX12_whyPledge_37 : decode cX12_whyPledge 37 = .ok (.i2l, 1) := by decide +kernel
theorem dX12_whyPledge_38 : decode cX12_whyPledge 38 = .ok (.lload_n 3, 1) := by decide +kernel
theorem dX12_whyPledge_39 : decode cX12_whyPledge 39 = .ok (.lcmp, 1) := by decide +kernel
theorem dX12_whyPledge_40 : decode cX12_whyPledge 40 = .ok (.ifCond .ge 7, 3) := by decide +kernel
theorem dX12_whyPledge_43 : decode cX12_whyPledge 43 = .ok (.iconst 4, 1) := by decide +kernel
theorem dX12_whyPledge_44 : decode cX12_whyPledge 44 = .ok (.goto 4, 3) := by decide +kernel
theorem dX12_whyPledge_47 : decode cX12_whyPledge 47 = .ok (.iconst 0, 1) := by decide +kernel
theorem dX12_whyPledge_48 : decode cX12_whyPledge 48 = .ok (.ireturn, 1) := by decide +kernel
set_option maxRecDepth 20000 in
theorem ggX12_whyRedeem_X12_isPerson : GoodIn wsX12_whyRedeem wsX12_isPerson := goodIn_r _ [6, 1, 7, 8, 5, 9, 10, 11, 12, 13, 14, 15, 16, 17, 18, 19, 20, 21, 22, 23, 24, 25, 26, 27, 28, 29, 30, 31, 32, 33, 34, 35, 36, 37, 38, 39, 40, 41, 42, 43, 44, 45] (by decide +kernel) (by decide +kernel)
set_option maxRecDepth 20000 in
theorem gX12_whyRedeem_X12_isPerson : GoodIn wsX12_whyRedeem (wsV RX12 245 RX12 yX12_isPerson wsX12_isPerson) := goodIn_app (goodIn_of _ (by decide +kernel)) ggX12_whyRedeem_X12_isPerson
theorem dX12_whyRedeem_0 : decode cX12_whyRedeem 0 = .ok (.aload_n 0, 1) := by decide +kernel
theorem dX12_whyRedeem_1 : decode cX12_whyRedeem 1 = .ok (.lload_n 1, 1) := by decide +kernel
theorem dX12_whyRedeem_2 : decode cX12_whyRedeem 2 = .ok (.invokevirtual 245, 3) := by decide +kernel
theorem dX12_whyRedeem_5 : decode cX12_whyRedeem 5 = .ok (.ifCond .ne 7, 3) := by decide +kernel
theorem dX12_whyRedeem_8 : decode cX12_whyRedeem 8 = .ok (.iconst 1, 1) := by decide +kernel
theorem dX12_whyRedeem_9 : decode cX12_whyRedeem 9 = .ok (.goto 21, 3) := by decide +kernel
theorem dX12_whyRedeem_12 : decode cX12_whyRedeem 12 = .ok (.aload_n 0, 1) := by decide +kernel
theorem dX12_whyRedeem_13 : decode cX12_whyRedeem 13 = .ok (.getfield 13, 3) := by decide +kernel
theorem dX12_whyRedeem_16 : decode cX12_whyRedeem 16 = .ok (.bipush 60, 2) := by decide +kernel
theorem dX12_whyRedeem_18 : decode cX12_whyRedeem 18 = .ok (.lload_n 1, 1) := by decide +kernel
theorem dX12_whyRedeem_19 : decode cX12_whyRedeem 19 = .ok (.l2i, 1) := by decide +kernel
theorem dX12_whyRedeem_20 : decode cX12_whyRedeem 20 = .ok (.iadd, 1) := by decide +kernel
theorem dX12_whyRedeem_21 : decode cX12_whyRedeem 21 = .ok (.iaload, 1) := by decide +kernel
theorem dX12_whyRedeem_22 : decode cX12_whyRedeem 22 = .ok (.ifCond .ne 7, 3) := by decide +kernel
theorem dX12_whyRedeem_25 : decode cX12_whyRedeem 25 = .ok (.iconst 3, 1) := by decide +kernel
theorem dX12_whyRedeem_26 : decode cX12_whyRedeem 26 = .ok (.goto 4, 3) := by decide +kernel
theorem dX12_whyRedeem_29 : decode cX12_whyRedeem 29 = .ok (.iconst 0, 1) := by decide +kernel
theorem dX12_whyRedeem_30 : decode cX12_whyRedeem 30 = .ok (.ireturn, 1) := by decide +kernel
set_option maxRecDepth 20000 in
theorem ggX12_stands_X12_lifeOf : GoodIn wsX12_stands wsX12_lifeOf := goodIn_r _ [5] (by decide +kernel) (by decide +kernel)
set_option maxRecDepth 20000 in
theorem gX12_stands_X12_lifeOf : GoodIn wsX12_stands (va_wsS RX12 233 yX12_lifeOf wsX12_lifeOf) := goodIn_app (goodIn_of _ (by decide +kernel)) ggX12_stands_X12_lifeOf
set_option maxRecDepth 20000 in
theorem ggX12_stands_X12_oldOf : GoodIn wsX12_stands wsX12_oldOf := goodIn_r _ [8] (by decide +kernel) (by decide +kernel)
set_option maxRecDepth 20000 in
theorem gX12_stands_X12_oldOf : GoodIn wsX12_stands (va_wsS RX12 236 yX12_oldOf wsX12_oldOf) := goodIn_app (goodIn_of _ (by decide +kernel)) ggX12_stands_X12_oldOf
set_option maxRecDepth 20000 in
theorem ggX12_stands_X12_yearOf : GoodIn wsX12_stands wsX12_yearOf := goodIn_r _ [11] (by decide +kernel) (by decide +kernel)
set_option maxRecDepth 20000 in
theorem gX12_stands_X12_yearOf : GoodIn wsX12_stands (va_wsS RX12 224 yX12_yearOf wsX12_yearOf) := goodIn_app (goodIn_of _ (by decide +kernel)) ggX12_stands_X12_yearOf
set_option maxRecDepth 20000 in
theorem ggX12_stands_X12_lastOf : GoodIn wsX12_stands wsX12_lastOf := goodIn_r _ [14] (by decide +kernel) (by decide +kernel)
set_option maxRecDepth 20000 in
theorem gX12_stands_X12_lastOf : GoodIn wsX12_stands (va_wsS RX12 227 yX12_lastOf wsX12_lastOf) := goodIn_app (goodIn_of _ (by decide +kernel)) ggX12_stands_X12_lastOf
set_option maxRecDepth 20000 in
theorem ggX12_stands_X12_streakOf : GoodIn wsX12_stands wsX12_streakOf := goodIn_r _ [17] (by decide +kernel) (by decide +kernel)
set_option maxRecDepth 20000 in
theorem gX12_stands_X12_streakOf : GoodIn wsX12_stands (va_wsS RX12 230 yX12_streakOf wsX12_streakOf) := goodIn_app (goodIn_of _ (by decide +kernel)) ggX12_stands_X12_streakOf
theorem dX12_stands_0 : decode cX12_stands 0 = .ok (.aload_n 0, 1) := by decide +kernel
theorem dX12_stands_1 : decode cX12_stands 1 = .ok (.getfield 13, 3) := by decide +kernel
theorem dX12_stands_4 : decode cX12_stands 4 = .ok (.bipush 24, 2) := by decide +kernel
theorem dX12_stands_6 : decode cX12_stands 6 = .ok (.iload_n 1, 1) := by decide +kernel
theorem dX12_stands_7 : decode cX12_stands 7 = .ok (.iadd, 1) := by decide +kernel
theorem dX12_stands_8 : decode cX12_stands 8 = .ok (.iload_n 2, 1) := by decide +kernel
theorem dX12_stands_9 : decode cX12_stands 9 = .ok (.invokestatic 233, 3) := by decide +kernel
theorem dX12_stands_12 : decode cX12_stands 12 = .ok (.iastore, 1) := by decide +kernel
theorem dX12_stands_13 : decode cX12_stands 13 = .ok (.aload_n 0, 1) := by decide +kernel
theorem dX12_stands_14 : decode cX12_stands 14 = .ok (.getfield 13, 3) := by decide +kernel
theorem dX12_stands_17 : decode cX12_stands 17 = .ok (.bipush 48, 2) := by decide +kernel
theorem dX12_stands_19 : decode cX12_stands 19 = .ok (.iload_n 1, 1) := by decide +kernel
theorem dX12_stands_20 : decode cX12_stands 20 = .ok (.iadd, 1) := by decide +kernel
theorem dX12_stands_21 : decode cX12_stands 21 = .ok (.iload_n 2, 1) := by decide +kernel
theorem dX12_stands_22 : decode cX12_stands 22 = .ok (.invokestatic 236, 3) := by decide +kernel
theorem dX12_stands_25 : decode cX12_stands 25 = .ok (.iastore, 1) := by decide +kernel
theorem dX12_stands_26 : decode cX12_stands 26 = .ok (.aload_n 0, 1) := by decide +kernel
theorem dX12_stands_27 : decode cX12_stands 27 = .ok (.getfield 13, 3) := by decide +kernel
theorem dX12_stands_30 : decode cX12_stands 30 = .ok (.bipush 18, 2) := by decide +kernel
theorem dX12_stands_32 : decode cX12_stands 32 = .ok (.iload_n 1, 1) := by decide +kernel
theorem dX12_stands_33 : decode cX12_stands 33 = .ok (.iadd, 1) := by decide +kernel
theorem dX12_stands_34 : decode cX12_stands 34 = .ok (.iload_n 2, 1) := by decide +kernel
theorem dX12_stands_35 : decode cX12_stands 35 = .ok (.invokestatic 224, 3) := by decide +kernel
theorem dX12_stands_38 : decode cX12_stands 38 = .ok (.iastore, 1) := by decide +kernel
theorem dX12_stands_39 : decode cX12_stands 39 = .ok (.aload_n 0, 1) := by decide +kernel
theorem dX12_stands_40 : decode cX12_stands 40 = .ok (.getfield 13, 3) := by decide +kernel
theorem dX12_stands_43 : decode cX12_stands 43 = .ok (.bipush 36, 2) := by decide +kernel
theorem dX12_stands_45 : decode cX12_stands 45 = .ok (.iload_n 1, 1) := by decide +kernel
theorem dX12_stands_46 : decode cX12_stands 46 = .ok (.iadd, 1) := by decide +kernel
theorem dX12_stands_47 : decode cX12_stands 47 = .ok (.iload_n 2, 1) := by decide +kernel
theorem dX12_stands_48 : decode cX12_stands 48 = .ok (.invokestatic 227, 3) := by decide +kernel
theorem dX12_stands_51 : decode cX12_stands 51 = .ok (.iastore, 1) := by decide +kernel
theorem dX12_stands_52 : decode cX12_stands 52 = .ok (.aload_n 0, 1) := by decide +kernel
theorem dX12_stands_53 : decode cX12_stands 53 = .ok (.getfield 13, 3) := by decide +kernel
theorem dX12_stands_56 : decode cX12_stands 56 = .ok (.bipush 42, 2) := by decide +kernel
theorem dX12_stands_58 : decode cX12_stands 58 = .ok (.iload_n 1, 1) := by decide +kernel
theorem dX12_stands_59 : decode cX12_stands 59 = .ok (.iadd, 1) := by decide +kernel
theorem dX12_stands_60 : decode cX12_stands 60 = .ok (.iload_n 2, 1) := by decide +kernel
theorem dX12_stands_61 : decode cX12_stands 61 = .ok (.invokestatic 230, 3) := by decide +kernel
theorem dX12_stands_64 : decode cX12_stands 64 = .ok (.iastore, 1) := by decide +kernel
theorem dX12_stands_65 : decode cX12_stands 65 = .ok (.return_, 1) := by decide +kernel
set_option maxRecDepth 20000 in
theorem ggX12_lives_X12_standNow : GoodIn wsX12_lives wsX12_standNow := goodIn_r _ [6, 1, 7, 8, 5, 9, 47, 48, 49, 50, 51, 52, 53, 54, 55, 56, 57, 58, 59, 60, 61, 62, 63, 64, 65, 66, 67, 68, 69, 70, 71, 72, 73, 74, 75, 76, 77, 78, 79, 80, 81, 82] (by decide +kernel) (by decide +kernel)
set_option maxRecDepth 20000 in
theorem gX12_lives_X12_standNow : GoodIn wsX12_lives (wsV RX12 253 RX12 yX12_standNow wsX12_standNow) := goodIn_app (goodIn_of _ (by decide +kernel)) ggX12_lives_X12_standNow
set_option maxRecDepth 20000 in
theorem ggX12_lives_X12_worthOf : GoodIn wsX12_lives wsX12_worthOf := goodIn_r _ [13, 1, 14, 15, 16, 5, 17, 18, 19, 20, 21, 22, 23, 24, 25, 26, 27, 28, 29, 30, 31, 32, 33, 34, 35, 36, 37, 38, 39, 47, 48, 49, 50, 51, 52, 53, 54, 55, 56, 57, 58, 59, 60, 61, 62, 63, 64, 65, 66, 67, 68, 69, 70, 71, 72, 73, 74, 75, 76, 77, 78, 79, 80, 81, 82] (by decide +kernel) (by decide +kernel)
set_option maxRecDepth 20000 in
theorem gX12_lives_X12_worthOf : GoodIn wsX12_lives (wsV RX12 259 RX12 yX12_worthOf wsX12_worthOf) := goodIn_app (goodIn_of _ (by decide +kernel)) ggX12_lives_X12_worthOf
set_option maxRecDepth 20000 in
theorem ggX12_lives_X12_livedTo : GoodIn wsX12_lives wsX12_livedTo := goodIn_r _ [42, 24, 25, 5, 26, 27, 28, 29, 15, 16, 17, 18, 19, 20, 21, 22, 23, 7, 8, 9] (by decide +kernel) (by decide +kernel)
set_option maxRecDepth 20000 in
theorem gX12_lives_X12_livedTo : GoodIn wsX12_lives (va_wsS RX12 268 yX12_livedTo wsX12_livedTo) := goodIn_app (goodIn_of _ (by decide +kernel)) ggX12_lives_X12_livedTo
set_option maxRecDepth 20000 in
theorem ggX12_lives_X12_stands : GoodIn wsX12_lives wsX12_stands := goodIn_r _ [46, 1, 24, 25, 5, 26, 27, 28, 29, 15, 16, 17, 18, 19, 20, 21, 22, 23, 47, 48, 49, 50, 51, 52, 53, 54, 55, 56, 57, 58, 59, 60, 61, 62, 63, 64, 65, 66, 67, 68, 69, 70, 71, 72, 73, 74, 75, 76, 77, 78, 79, 80, 81, 82] (by decide +kernel) (by decide +kernel)
set_option maxRecDepth 20000 in
theorem gX12_lives_X12_stands : GoodIn wsX12_lives (wsV RX12 271 RX12 yX12_stands wsX12_stands) := goodIn_app (goodIn_of _ (by decide +kernel)) ggX12_lives_X12_stands
theorem dX12_lives_0 : decode cX12_lives 0 = .ok (.aload_n 0, 1) := by decide +kernel
theorem dX12_lives_1 : decode cX12_lives 1 = .ok (.iload_n 1, 1) := by decide +kernel
theorem dX12_lives_2 : decode cX12_lives 2 = .ok (.invokevirtual 253, 3) := by decide +kernel
theorem dX12_lives_5 : decode cX12_lives 5 = .ok (.istore_n 3, 1) := by decide +kernel
theorem dX12_lives_6 : decode cX12_lives 6 = .ok (.aload_n 0, 1) := by decide +kernel
theorem dX12_lives_7 : decode cX12_lives 7 = .ok (.aload_n 0, 1) := by decide +kernel
theorem dX12_lives_8 : decode cX12_lives 8 = .ok (.getfield 13, 3) := by decide +kernel
theorem dX12_lives_11 : decode cX12_lives 11 = .ok (.bipush 54, 2) := by decide +kernel
theorem dX12_lives_13 : decode cX12_lives 13 = .ok (.iload_n 1, 1) := by decide +kernel
theorem dX12_lives_14 : decode cX12_lives 14 = .ok (.iadd, 1) := by decide +kernel
theorem dX12_lives_15 : decode cX12_lives 15 = .ok (.iaload, 1) := by decide +kernel
theorem dX12_lives_16 : decode cX12_lives 16 = .ok (.iload_n 3, 1) := by decide +kernel
theorem dX12_lives_17 : decode cX12_lives 17 = .ok (.iload_n 2, 1) := by decide +kernel
theorem dX12_lives_18 : decode cX12_lives 18 = .ok (.invokevirtual 259, 3) := by decide +kernel
theorem dX12_lives_21 : decode cX12_lives 21 = .ok (.istore 4, 2) := by decide +kernel
theorem dX12_lives_23 : decode cX12_lives 23 = .ok (.aload_n 0, 1) := by decide +kernel
theorem dX12_lives_24 : decode cX12_lives 24 = .ok (.getfield 13, 3) := by decide +kernel
theorem dX12_lives_27 : decode cX12_lives 27 = .ok (.bipush 30, 2) := by decide +kernel
theorem dX12_lives_29 : decode cX12_lives 29 = .ok (.iload_n 1, 1) := by decide +kernel
theorem dX12_lives_30 : decode cX12_lives 30 = .ok (.iadd, 1) := by decide +kernel
theorem dX12_lives_31 : decode cX12_lives 31 = .ok (.dup2, 1) := by decide +kernel
theorem dX12_lives_32 : decode cX12_lives 32 = .ok (.iaload, 1) := by decide +kernel
theorem dX12_lives_33 : decode cX12_lives 33 = .ok (.iload 4, 2) := by decide +kernel
theorem dX12_lives_35 : decode cX12_lives 35 = .ok (.iadd, 1) := by decide +kernel
theorem dX12_lives_36 : decode cX12_lives 36 = .ok (.iastore, 1) := by decide +kernel
theorem dX12_lives_37 : decode cX12_lives 37 = .ok (.aload_n 0, 1) := by decide +kernel
theorem dX12_lives_38 : decode cX12_lives 38 = .ok (.iload_n 1, 1) := by decide +kernel
theorem dX12_lives_39 : decode cX12_lives 39 = .ok (.iload_n 3, 1) := by decide +kernel
theorem dX12_lives_40 : decode cX12_lives 40 = .ok (.iload_n 2, 1) := by decide +kernel
theorem dX12_lives_41 : decode cX12_lives 41 = .ok (.invokestatic 268, 3) := by decide +kernel
theorem dX12_lives_44 : decode cX12_lives 44 = .ok (.invokevirtual 271, 3) := by decide +kernel
theorem dX12_lives_47 : decode cX12_lives 47 = .ok (.iload 4, 2) := by decide +kernel
theorem dX12_lives_49 : decode cX12_lives 49 = .ok (.ireturn, 1) := by decide +kernel
set_option maxRecDepth 20000 in
theorem ggX12_drawsIt_X12_standNow : GoodIn wsX12_drawsIt wsX12_standNow := goodIn_r _ [6, 1, 7, 8, 5, 9, 48, 49, 50, 51, 52, 53, 54, 55, 56, 57, 58, 59, 60, 61, 62, 63, 64, 65, 66, 67, 68, 69, 70, 71, 72, 73, 74, 75, 76, 77, 78, 79, 80, 81, 82, 83] (by decide +kernel) (by decide +kernel)
set_option maxRecDepth 20000 in
theorem gX12_drawsIt_X12_standNow : GoodIn wsX12_drawsIt (wsV RX12 253 RX12 yX12_standNow wsX12_standNow) := goodIn_app (goodIn_of _ (by decide +kernel)) ggX12_drawsIt_X12_standNow
set_option maxRecDepth 20000 in
theorem ggX12_drawsIt_X12_drawnTo : GoodIn wsX12_drawsIt wsX12_drawnTo := goodIn_r _ [13, 14, 15, 5, 16, 17, 18, 19, 20, 1, 21, 22, 23, 24, 25, 26, 27, 28, 29, 30, 31, 7, 8, 9, 48, 49, 50, 51, 52, 53, 54, 55, 56, 57, 58, 59, 60, 61, 62, 63, 64, 65, 66, 67, 68, 69, 70, 71, 72, 73, 74, 75, 76, 77, 78, 79, 80, 81, 82, 83] (by decide +kernel) (by decide +kernel)
set_option maxRecDepth 20000 in
theorem gX12_drawsIt_X12_drawnTo : GoodIn wsX12_drawsIt (wsV RX12 275 RX12 yX12_drawnTo wsX12_drawnTo) := goodIn_app (goodIn_of _ (by decide +kernel)) ggX12_drawsIt_X12_drawnTo
set_option maxRecDepth 20000 in
theorem ggX12_drawsIt_X12_stands : GoodIn wsX12_drawsIt wsX12_stands := goodIn_r _ [35, 1, 36, 37, 5, 38, 39, 40, 41, 14, 15, 16, 42, 43, 44, 45, 46, 47, 48, 49, 50, 51, 52, 53, 54, 55, 56, 57, 58, 59, 60, 61, 62, 63, 64, 65, 66, 67, 68, 69, 70, 71, 72, 73, 74, 75, 76, 77, 78, 79, 80, 81, 82, 83] (by decide +kernel) (by decide +kernel)
set_option maxRecDepth 20000 in
theorem gX12_drawsIt_X12_stands : GoodIn wsX12_drawsIt (wsV RX12 271 RX12 yX12_stands wsX12_stands) := goodIn_app (goodIn_of _ (by decide +kernel)) ggX12_drawsIt_X12_stands
theorem dX12_drawsIt_0 : decode cX12_drawsIt 0 = .ok (.aload_n 0, 1) := by decide +kernel
theorem dX12_drawsIt_1 : decode cX12_drawsIt 1 = .ok (.iload_n 1, 1) := by decide +kernel
theorem dX12_drawsIt_2 : decode cX12_drawsIt 2 = .ok (.aload_n 0, 1) := by decide +kernel
theorem dX12_drawsIt_3 : decode cX12_drawsIt 3 = .ok (.aload_n 0, 1) := by decide +kernel
theorem dX12_drawsIt_4 : decode cX12_drawsIt 4 = .ok (.getfield 13, 3) := by decide +kernel
theorem dX12_drawsIt_7 : decode cX12_drawsIt 7 = .ok (.bipush 54, 2) := by decide +kernel
theorem dX12_drawsIt_9 : decode cX12_drawsIt 9 = .ok (.iload_n 1, 1) := by decide +kernel
theorem dX12_drawsIt_10 : decode cX12_drawsIt 10 = .ok (.iadd, 1) := by decide +kernel
theorem dX12_drawsIt_11 : decode cX12_drawsIt 11 = .ok (.iaload, 1) := by decide +kernel
theorem dX12_drawsIt_12 : decode cX12_drawsIt 12 = .ok (.aload_n 0, 1) := by decide +kernel
theorem dX12_drawsIt_13 : decode cX12_drawsIt 13 = .ok (.iload_n 1, 1) := by decide +kernel
theorem dX12_drawsIt_14 : decode cX12_drawsIt 14 = .ok (.invokevirtual 253, 3) := by decide +kernel
theorem dX12_drawsIt_17 : decode cX12_drawsIt 17 = .ok (.invokevirtual 275, 3) := by decide +kernel
theorem dX12_drawsIt_20 : decode cX12_drawsIt 20 = .ok (.invokevirtual 271, 3) := by decide +kernel
theorem dX12_drawsIt_23 : decode cX12_drawsIt 23 = .ok (.return_, 1) := by decide +kernel
theorem dX12_goes_0 : decode cX12_goes 0 = .ok (.aload_n 0, 1) := by decide +kernel
theorem dX12_goes_1 : decode cX12_goes 1 = .ok (.getfield 13, 3) := by decide +kernel
theorem dX12_goes_4 : decode cX12_goes 4 = .ok (.bipush 60, 2) := by decide +kernel
theorem dX12_goes_6 : decode cX12_goes 6 = .ok (.iload_n 1, 1) := by decide +kernel
theorem dX12_goes_7 : decode cX12_goes 7 = .ok (.iadd, 1) := by decide +kernel
theorem dX12_goes_8 : decode cX12_goes 8 = .ok (.dup2, 1) := by decide +kernel
theorem dX12_goes_9 : decode cX12_goes 9 = .ok (.iaload, 1) := by decide +kernel
theorem dX12_goes_10 : decode cX12_goes 10 = .ok (.iload_n 2, 1) := by decide +kernel
theorem dX12_goes_11 : decode cX12_goes 11 = .ok (.iadd, 1) := by decide +kernel
theorem dX12_goes_12 : decode cX12_goes 12 = .ok (.iastore, 1) := by decide +kernel
theorem dX12_goes_13 : decode cX12_goes 13 = .ok (.aload_n 0, 1) := by decide +kernel
theorem dX12_goes_14 : decode cX12_goes 14 = .ok (.getfield 13, 3) := by decide +kernel
theorem dX12_goes_17 : decode cX12_goes 17 = .ok (.bipush 30, 2) := by decide +kernel
theorem dX12_goes_19 : decode cX12_goes 19 = .ok (.iload_n 1, 1) := by decide +kernel
theorem dX12_goes_20 : decode cX12_goes 20 = .ok (.iadd, 1) := by decide +kernel
theorem dX12_goes_21 : decode cX12_goes 21 = .ok (.dup2, 1) := by decide +kernel
theorem dX12_goes_22 : decode cX12_goes 22 = .ok (.iaload, 1) := by decide +kernel
theorem dX12_goes_23 : decode cX12_goes 23 = .ok (.iload_n 2, 1) := by decide +kernel
theorem dX12_goes_24 : decode cX12_goes 24 = .ok (.iadd, 1) := by decide +kernel
theorem dX12_goes_25 : decode cX12_goes 25 = .ok (.iastore, 1) := by decide +kernel
theorem dX12_goes_26 : decode cX12_goes 26 = .ok (.aload_n 0, 1) := by decide +kernel
theorem dX12_goes_27 : decode cX12_goes 27 = .ok (.getfield 13, 3) := by decide +kernel
theorem dX12_goes_30 : decode cX12_goes 30 = .ok (.bipush 17, 2) := by decide +kernel
theorem dX12_goes_32 : decode cX12_goes 32 = .ok (.dup2, 1) := by decide +kernel
theorem dX12_goes_33 : decode cX12_goes 33 = .ok (.iaload, 1) := by decide +kernel
theorem dX12_goes_34 : decode cX12_goes 34 = .ok (.iload_n 2, 1) := by decide +kernel
theorem dX12_goes_35 : decode cX12_goes 35 = .ok (.isub, 1) := by decide +kernel
theorem dX12_goes_36 : decode cX12_goes 36 = .ok (.iastore, 1) := by decide +kernel
theorem dX12_goes_37 : decode cX12_goes 37 = .ok (.return_, 1) := by decide +kernel
set_option maxRecDepth 20000 in
theorem ggX12_live_X12_whyLive : GoodIn wsX12_live wsX12_whyLive := goodIn_r _ [7, 8, 9, 10, 6, 11, 12, 13, 14, 15, 16, 17, 18, 19, 20, 21, 22, 23, 24, 25, 26, 27, 28, 29, 30, 31, 32, 33, 81, 82, 83, 84, 85, 86, 87, 88, 89, 90, 91, 92, 93, 94, 95, 96, 97, 98, 99, 100, 101, 102, 103, 104, 105, 106, 107, 108, 109, 110, 111, 112, 113, 114, 115, 116] (by decide +kernel) (by decide +kernel)
set_option maxRecDepth 20000 in
theorem gX12_live_X12_whyLive : GoodIn wsX12_live (wsV RX12 278 RX12 yX12_whyLive wsX12_whyLive) := goodIn_app (goodIn_of _ (by decide +kernel)) ggX12_live_X12_whyLive
set_option maxRecDepth 20000 in
theorem ggX12_live_X12_keeps : GoodIn wsX12_live wsX12_keeps := goodIn_r _ [37, 38, 12, 81, 82, 83, 84, 85, 86, 87, 88, 89, 90, 91, 92, 93, 94, 95, 96, 97, 98, 99, 100, 101, 102, 103, 104, 105, 106, 107, 108, 109, 110, 111, 112, 113, 114, 115, 116] (by decide +kernel) (by decide +kernel)
set_option maxRecDepth 20000 in
theorem gX12_live_X12_keeps : GoodIn wsX12_live (wsV RX12 283 RX12 yX12_keeps wsX12_keeps) := goodIn_app (goodIn_of _ (by decide +kernel)) ggX12_live_X12_keeps
set_option maxRecDepth 20000 in
theorem ggX12_live_X12_lives : GoodIn wsX12_live wsX12_lives := goodIn_r _ [42, 12, 20, 21, 22, 6, 23, 24, 25, 26, 43, 44, 45, 46, 47, 31, 32, 33, 48, 49, 50, 51, 52, 53, 54, 55, 56, 57, 58, 59, 60, 61, 62, 63, 64, 65, 66, 67, 68, 69, 70, 71, 72, 73, 74, 75, 76, 81, 82, 83, 84, 85, 86, 87, 88, 89, 90, 91, 92, 93, 94, 95, 96, 97, 98, 99, 100, 101, 102, 103, 104, 105, 106, 107, 108, 109, 110, 111, 112, 113, 114, 115, 116] (by decide +kernel) (by decide +kernel)
set_option maxRecDepth 20000 in
theorem gX12_live_X12_lives : GoodIn wsX12_live (wsV RX12 286 RX12 yX12_lives wsX12_lives) := goodIn_app (goodIn_of _ (by decide +kernel)) ggX12_live_X12_lives
set_option maxRecDepth 20000 in
theorem ggX12_live_X12_notes : GoodIn wsX12_live wsX12_notes := goodIn_r _ [80, 12, 38, 81, 82, 83, 84, 85, 86, 87, 88, 89, 90, 91, 92, 93, 94, 95, 96, 97, 98, 99, 100, 101, 102, 103, 104, 105, 106, 107, 108, 109, 110, 111, 112, 113, 114, 115, 116] (by decide +kernel) (by decide +kernel)
set_option maxRecDepth 20000 in
theorem gX12_live_X12_notes : GoodIn wsX12_live (wsV RX12 289 RX12 yX12_notes wsX12_notes) := goodIn_app (goodIn_of _ (by decide +kernel)) ggX12_live_X12_notes
theorem dX12_live_0 : decode cX12_live 0 = .ok (.aload_n 0, 1) := by decide +kernel
theorem dX12_live_1 : decode cX12_live 1 = .ok (.iconst 0, 1) := by decide +kernel
theorem dX12_live_2 : decode cX12_live 2 = .ok (.putfield 1, 3) := by decide +kernel
theorem dX12_live_5 : decode cX12_live 5 = .ok (.aload_n 0, 1) := by decide +kernel
theorem dX12_live_6 : decode cX12_live 6 = .ok (.iload_n 1, 1) := by decide +kernel
theorem dX12_live_7 : decode cX12_live 7 = .ok (.i2l, 1) := by decide +kernel
theorem dX12_live_8 : decode cX12_live 8 = .ok (.iload_n 2, 1) := by decide +kernel
theorem dX12_live_9 : decode cX12_live 9 = .ok (.i2l, 1) := by decide +kernel
theorem dX12_live_10 : decode cX12_live 10 = .ok (.invokevirtual 278, 3) := by decide +kernel
theorem dX12_live_13 : decode cX12_live 13 = .ok (.istore_n 3, 1) := by decide +kernel
theorem dX12_live_14 : decode cX12_live 14 = .ok (.iload_n 3, 1) := by decide +kernel
theorem dX12_live_15 : decode cX12_live 15 = .ok (.ifCond .eq 9, 3) := by decide +kernel
theorem dX12_live_18 : decode cX12_live 18 = .ok (.ldc_w 282, 3) := by decide +kernel
theorem dX12_live_21 : decode cX12_live 21 = .ok (.iload_n 3, 1) := by decide +kernel
theorem dX12_live_22 : decode cX12_live 22 = .ok (.isub, 1) := by decide +kernel
theorem dX12_live_23 : decode cX12_live 23 = .ok (.ireturn, 1) := by decide +kernel
theorem dX12_live_24 : decode cX12_live 24 = .ok (.aload_n 0, 1) := by decide +kernel
theorem dX12_live_25 : decode cX12_live 25 = .ok (.invokevirtual 283, 3) := by decide +kernel
theorem dX12_live_28 : decode cX12_live 28 = .ok (.aload_n 0, 1) := by decide +kernel
theorem dX12_live_29 : decode cX12_live 29 = .ok (.iload_n 1, 1) := by decide +kernel
theorem dX12_live_30 : decode cX12_live 30 = .ok (.iload_n 2, 1) := by decide +kernel
theorem dX12_live_31 : decode cX12_live 31 = .ok (.invokevirtual 286, 3) := by decide +kernel
theorem dX12_live_34 : decode cX12_live 34 = .ok (.istore 4, 2) := by decide +kernel
theorem dX12_live_36 : decode cX12_live 36 = .ok (.aload_n 0, 1) := by decide +kernel
theorem dX12_live_37 : decode cX12_live 37 = .ok (.invokevirtual 289, 3) := by decide +kernel
theorem dX12_live_40 : decode cX12_live 40 = .ok (.iload 4, 2) := by decide +kernel
theorem dX12_live_42 : decode cX12_live 42 = .ok (.ireturn, 1) := by decide +kernel
set_option maxRecDepth 20000 in
theorem ggX12_draw_X12_whyDraw : GoodIn wsX12_draw wsX12_whyDraw := goodIn_r _ [8, 3, 9, 10, 11, 7, 12, 13, 14, 15, 74, 75, 76, 77, 78, 79, 80, 81, 82, 83, 84, 85, 86, 87, 88, 89, 90, 91, 92, 93, 94, 95, 96, 97, 98, 99, 100, 101, 102, 103, 104, 105, 106, 107, 108, 109] (by decide +kernel) (by decide +kernel)
set_option maxRecDepth 20000 in
theorem gX12_draw_X12_whyDraw : GoodIn wsX12_draw (wsV RX12 264 RX12 yX12_whyDraw wsX12_whyDraw) := goodIn_app (goodIn_of _ (by decide +kernel)) ggX12_draw_X12_whyDraw
set_option maxRecDepth 20000 in
theorem ggX12_draw_X12_keeps : GoodIn wsX12_draw wsX12_keeps := goodIn_r _ [19, 20, 3, 74, 75, 76, 77, 78, 79, 80, 81, 82, 83, 84, 85, 86, 87, 88, 89, 90, 91, 92, 93, 94, 95, 96, 97, 98, 99, 100, 101, 102, 103, 104, 105, 106, 107, 108, 109] (by decide +kernel) (by decide +kernel)
set_option maxRecDepth 20000 in
theorem gX12_draw_X12_keeps : GoodIn wsX12_draw (wsV RX12 283 RX12 yX12_keeps wsX12_keeps) := goodIn_app (goodIn_of _ (by decide +kernel)) ggX12_draw_X12_keeps
set_option maxRecDepth 20000 in
theorem ggX12_draw_X12_drawsIt : GoodIn wsX12_draw wsX12_drawsIt := goodIn_r _ [24, 3, 25, 26, 27, 7, 28, 29, 30, 31, 32, 33, 34, 35, 36, 37, 38, 39, 40, 41, 42, 43, 44, 45, 46, 47, 48, 49, 50, 51, 52, 53, 54, 55, 56, 57, 58, 59, 60, 61, 62, 63, 64, 65, 66, 67, 68, 69, 74, 75, 76, 77, 78, 79, 80, 81, 82, 83, 84, 85, 86, 87, 88, 89, 90, 91, 92, 93, 94, 95, 96, 97, 98, 99, 100, 101, 102, 103, 104, 105, 106, 107, 108, 109] (by decide +kernel) (by decide +kernel)
set_option maxRecDepth 20000 in
theorem gX12_draw_X12_drawsIt : GoodIn wsX12_draw (wsV RX12 292 RX12 yX12_drawsIt wsX12_drawsIt) := goodIn_app (goodIn_of _ (by decide +kernel)) ggX12_draw_X12_drawsIt
set_option maxRecDepth 20000 in
theorem ggX12_draw_X12_notes : GoodIn wsX12_draw wsX12_notes := goodIn_r _ [73, 3, 20, 74, 75, 76, 77, 78, 79, 80, 81, 82, 83, 84, 85, 86, 87, 88, 89, 90, 91, 92, 93, 94, 95, 96, 97, 98, 99, 100, 101, 102, 103, 104, 105, 106, 107, 108, 109] (by decide +kernel) (by decide +kernel)
set_option maxRecDepth 20000 in
theorem gX12_draw_X12_notes : GoodIn wsX12_draw (wsV RX12 289 RX12 yX12_notes wsX12_notes) := goodIn_app (goodIn_of _ (by decide +kernel)) ggX12_draw_X12_notes
theorem dX12_draw_0 : decode cX12_draw 0 = .ok (.aload_n 0, 1) := by decide +kernel
theorem dX12_draw_1 : decode cX12_draw 1 = .ok (.iconst 0, 1) := by decide +kernel
theorem dX12_draw_2 : decode cX12_draw 2 = .ok (.putfield 1, 3) := by decide +kernel
theorem dX12_draw_5 : decode cX12_draw 5 = .ok (.aload_n 0, 1) := by decide +kernel
theorem dX12_draw_6 : decode cX12_draw 6 = .ok (.iload_n 1, 1) := by decide +kernel
theorem dX12_draw_7 : decode cX12_draw 7 = .ok (.i2l, 1) := by decide +kernel
theorem dX12_draw_8 : decode cX12_draw 8 = .ok (.invokevirtual 264, 3) := by decide +kernel
theorem dX12_draw_11 : decode cX12_draw 11 = .ok (.istore_n 2, 1) := by decide +kernel
theorem dX12_draw_12 : decode cX12_draw 12 = .ok (.iload_n 2, 1) := by decide +kernel
theorem dX12_draw_13 : decode cX12_draw 13 = .ok (.ifCond .eq 9, 3) := by decide +kernel
theorem dX12_draw_16 : decode cX12_draw 16 = .ok (.ldc_w 282, 3) := by decide +kernel
theorem dX12_draw_19 : decode cX12_draw 19 = .ok (.iload_n 2, 1) := by decide +kernel
theorem dX12_draw_20 : decode cX12_draw 20 = .ok (.isub, 1) := by decide +kernel
theorem dX12_draw_21 : decode cX12_draw 21 = .ok (.ireturn, 1) := by decide +kernel
theorem dX12_draw_22 : decode cX12_draw 22 = .ok (.aload_n 0, 1) := by decide +kernel
theorem dX12_draw_23 : decode cX12_draw 23 = .ok (.invokevirtual 283, 3) := by decide +kernel
theorem dX12_draw_26 : decode cX12_draw 26 = .ok (.aload_n 0, 1) := by decide +kernel
theorem dX12_draw_27 : decode cX12_draw 27 = .ok (.iload_n 1, 1) := by decide +kernel
theorem dX12_draw_28 : decode cX12_draw 28 = .ok (.invokevirtual 292, 3) := by decide +kernel
theorem dX12_draw_31 : decode cX12_draw 31 = .ok (.aload_n 0, 1) := by decide +kernel
theorem dX12_draw_32 : decode cX12_draw 32 = .ok (.invokevirtual 289, 3) := by decide +kernel
theorem dX12_draw_35 : decode cX12_draw 35 = .ok (.aload_n 0, 1) := by decide +kernel
theorem dX12_draw_36 : decode cX12_draw 36 = .ok (.getfield 13, 3) := by decide +kernel
theorem dX12_draw_39 : decode cX12_draw 39 = .ok (.bipush 18, 2) := by decide +kernel
theorem dX12_draw_41 : decode cX12_draw 41 = .ok (.iload_n 1, 1) := by decide +kernel
theorem dX12_draw_42 : decode cX12_draw 42 = .ok (.iadd, 1) := by decide +kernel
theorem dX12_draw_43 : decode cX12_draw 43 = .ok (.iaload, 1) := by decide +kernel
theorem dX12_draw_44 : decode cX12_draw 44 = .ok (.ireturn, 1) := by decide +kernel
set_option maxRecDepth 20000 in
theorem ggX12_pledge_X12_whyPledge : GoodIn wsX12_pledge wsX12_whyPledge := goodIn_r _ [8, 9, 3, 10, 11, 7, 12, 13, 14, 15, 16, 17, 18, 19, 20, 34, 35, 36, 37, 38, 39, 40, 41, 42, 43, 44, 45, 46, 47, 48, 49, 50, 51, 52, 53, 54, 55, 56, 57, 58, 59, 60, 61, 62, 63, 64, 65, 66, 67, 68, 69] (by decide +kernel) (by decide +kernel)
set_option maxRecDepth 20000 in
theorem gX12_pledge_X12_whyPledge : GoodIn wsX12_pledge (wsV RX12 295 RX12 yX12_whyPledge wsX12_whyPledge) := goodIn_app (goodIn_of _ (by decide +kernel)) ggX12_pledge_X12_whyPledge
set_option maxRecDepth 20000 in
theorem ggX12_pledge_X12_keeps : GoodIn wsX12_pledge wsX12_keeps := goodIn_r _ [24, 25, 3, 34, 35, 36, 37, 38, 39, 40, 41, 42, 43, 44, 45, 46, 47, 48, 49, 50, 51, 52, 53, 54, 55, 56, 57, 58, 59, 60, 61, 62, 63, 64, 65, 66, 67, 68, 69] (by decide +kernel) (by decide +kernel)
set_option maxRecDepth 20000 in
theorem gX12_pledge_X12_keeps : GoodIn wsX12_pledge (wsV RX12 283 RX12 yX12_keeps wsX12_keeps) := goodIn_app (goodIn_of _ (by decide +kernel)) ggX12_pledge_X12_keeps
set_option maxRecDepth 20000 in
theorem ggX12_pledge_X12_goes : GoodIn wsX12_pledge wsX12_goes := goodIn_r _ [29, 3, 34, 35, 36, 37, 38, 39, 40, 41, 42, 43, 44, 45, 46, 47, 48, 49, 50, 51, 52, 53, 54, 55, 56, 57, 58, 59, 60, 61, 62, 63, 64, 65, 66, 67, 68, 69] (by decide +kernel) (by decide +kernel)
set_option maxRecDepth 20000 in
theorem gX12_pledge_X12_goes : GoodIn wsX12_pledge (wsV RX12 298 RX12 yX12_goes wsX12_goes) := goodIn_app (goodIn_of _ (by decide +kernel)) ggX12_pledge_X12_goes
set_option maxRecDepth 20000 in
theorem ggX12_pledge_X12_notes : GoodIn wsX12_pledge wsX12_notes := goodIn_r _ [33, 3, 25, 34, 35, 36, 37, 38, 39, 40, 41, 42, 43, 44, 45, 46, 47, 48, 49, 50, 51, 52, 53, 54, 55, 56, 57, 58, 59, 60, 61, 62, 63, 64, 65, 66, 67, 68, 69] (by decide +kernel) (by decide +kernel)
set_option maxRecDepth 20000 in
theorem gX12_pledge_X12_notes : GoodIn wsX12_pledge (wsV RX12 289 RX12 yX12_notes wsX12_notes) := goodIn_app (goodIn_of _ (by decide +kernel)) ggX12_pledge_X12_notes
theorem dX12_pledge_0 : decode cX12_pledge 0 = .ok (.aload_n 0, 1) := by decide +kernel
theorem dX12_pledge_1 : decode cX12_pledge 1 = .ok (.iconst 0, 1) := by decide +kernel
theorem dX12_pledge_2 : decode cX12_pledge 2 = .ok (.putfield 1, 3) := by decide +kernel
theorem dX12_pledge_5 : decode cX12_pledge 5 = .ok (.aload_n 0, 1) := by decide +kernel
theorem dX12_pledge_6 : decode cX12_pledge 6 = .ok (.iload_n 1, 1) := by decide +kernel
theorem dX12_pledge_7 : decode cX12_pledge 7 = .ok (.i2l, 1) := by decide +kernel
theorem dX12_pledge_8 : decode cX12_pledge 8 = .ok (.iload_n 2, 1) := by decide +kernel
theorem dX12_pledge_9 : decode cX12_pledge 9 = .ok (.i2l, 1) := by decide +kernel
theorem dX12_pledge_10 : decode cX12_pledge 10 = .ok (.invokevirtual 295, 3) := by decide +kernel
theorem dX12_pledge_13 : decode cX12_pledge 13 = .ok (.istore_n 3, 1) := by decide +kernel
theorem dX12_pledge_14 : decode cX12_pledge 14 = .ok (.iload_n 3, 1) := by decide +kernel
theorem dX12_pledge_15 : decode cX12_pledge 15 = .ok (.ifCond .eq 9, 3) := by decide +kernel
theorem dX12_pledge_18 : decode cX12_pledge 18 = .ok (.ldc_w 282, 3) := by decide +kernel
theorem dX12_pledge_21 : decode cX12_pledge 21 = .ok (.iload_n 3, 1) := by decide +kernel
theorem dX12_pledge_22 : decode cX12_pledge 22 = .ok (.isub, 1) := by decide +kernel
theorem dX12_pledge_23 : decode cX12_pledge 23 = .ok (.ireturn, 1) := by decide +kernel
theorem dX12_pledge_24 : decode cX12_pledge 24 = .ok (.aload_n 0, 1) := by decide +kernel
theorem dX12_pledge_25 : decode cX12_pledge 25 = .ok (.invokevirtual 283, 3) := by decide +kernel
theorem dX12_pledge_28 : decode cX12_pledge 28 = .ok (.aload_n 0, 1) := by decide +kernel
theorem dX12_pledge_29 : decode cX12_pledge 29 = .ok (.iload_n 1, 1) := by decide +kernel
theorem dX12_pledge_30 : decode cX12_pledge 30 = .ok (.iload_n 2, 1) := by decide +kernel
theorem dX12_pledge_31 : decode cX12_pledge 31 = .ok (.invokevirtual 298, 3) := by decide +kernel
theorem dX12_pledge_34 : decode cX12_pledge 34 = .ok (.aload_n 0, 1) := by decide +kernel
theorem dX12_pledge_35 : decode cX12_pledge 35 = .ok (.invokevirtual 289, 3) := by decide +kernel
theorem dX12_pledge_38 : decode cX12_pledge 38 = .ok (.aload_n 0, 1) := by decide +kernel
theorem dX12_pledge_39 : decode cX12_pledge 39 = .ok (.getfield 13, 3) := by decide +kernel
theorem dX12_pledge_42 : decode cX12_pledge 42 = .ok (.bipush 17, 2) := by decide +kernel
theorem dX12_pledge_44 : decode cX12_pledge 44 = .ok (.iaload, 1) := by decide +kernel
theorem dX12_pledge_45 : decode cX12_pledge 45 = .ok (.ireturn, 1) := by decide +kernel
set_option maxRecDepth 20000 in
theorem ggX12_redeem_X12_whyRedeem : GoodIn wsX12_redeem wsX12_whyRedeem := goodIn_r _ [8, 3, 9, 10, 11, 7, 12, 13, 14, 15, 29, 30, 31, 32, 33, 34, 35, 36, 37, 38, 39, 40, 41, 42, 43, 44, 45, 46, 47, 48, 49, 50, 51, 52, 53, 54, 55, 56, 57, 58, 59, 60, 61, 62, 63, 64] (by decide +kernel) (by decide +kernel)
set_option maxRecDepth 20000 in
theorem gX12_redeem_X12_whyRedeem : GoodIn wsX12_redeem (wsV RX12 301 RX12 yX12_whyRedeem wsX12_whyRedeem) := goodIn_app (goodIn_of _ (by decide +kernel)) ggX12_redeem_X12_whyRedeem
set_option maxRecDepth 20000 in
theorem ggX12_redeem_X12_keeps : GoodIn wsX12_redeem wsX12_keeps := goodIn_r _ [19, 20, 3, 29, 30, 31, 32, 33, 34, 35, 36, 37, 38, 39, 40, 41, 42, 43, 44, 45, 46, 47, 48, 49, 50, 51, 52, 53, 54, 55, 56, 57, 58, 59, 60, 61, 62, 63, 64] (by decide +kernel) (by decide +kernel)
set_option maxRecDepth 20000 in
theorem gX12_redeem_X12_keeps : GoodIn wsX12_redeem (wsV RX12 283 RX12 yX12_keeps wsX12_keeps) := goodIn_app (goodIn_of _ (by decide +kernel)) ggX12_redeem_X12_keeps
set_option maxRecDepth 20000 in
theorem ggX12_redeem_X12_goes : GoodIn wsX12_redeem wsX12_goes := goodIn_r _ [24, 3, 29, 30, 31, 32, 33, 34, 35, 36, 37, 38, 39, 40, 41, 42, 43, 44, 45, 46, 47, 48, 49, 50, 51, 52, 53, 54, 55, 56, 57, 58, 59, 60, 61, 62, 63, 64] (by decide +kernel) (by decide +kernel)
set_option maxRecDepth 20000 in
theorem gX12_redeem_X12_goes : GoodIn wsX12_redeem (wsV RX12 298 RX12 yX12_goes wsX12_goes) := goodIn_app (goodIn_of _ (by decide +kernel)) ggX12_redeem_X12_goes
set_option maxRecDepth 20000 in
theorem ggX12_redeem_X12_notes : GoodIn wsX12_redeem wsX12_notes := goodIn_r _ [28, 3, 20, 29, 30, 31, 32, 33, 34, 35, 36, 37, 38, 39, 40, 41, 42, 43, 44, 45, 46, 47, 48, 49, 50, 51, 52, 53, 54, 55, 56, 57, 58, 59, 60, 61, 62, 63, 64] (by decide +kernel) (by decide +kernel)
set_option maxRecDepth 20000 in
theorem gX12_redeem_X12_notes : GoodIn wsX12_redeem (wsV RX12 289 RX12 yX12_notes wsX12_notes) := goodIn_app (goodIn_of _ (by decide +kernel)) ggX12_redeem_X12_notes
theorem dX12_redeem_0 : decode cX12_redeem 0 = .ok (.aload_n 0, 1) := by decide +kernel
theorem dX12_redeem_1 : decode cX12_redeem 1 = .ok (.iconst 0, 1) := by decide +kernel
theorem dX12_redeem_2 : decode cX12_redeem 2 = .ok (.putfield 1, 3) := by decide +kernel
theorem dX12_redeem_5 : decode cX12_redeem 5 = .ok (.aload_n 0, 1) := by decide +kernel
theorem dX12_redeem_6 : decode cX12_redeem 6 = .ok (.iload_n 1, 1) := by decide +kernel
theorem dX12_redeem_7 : decode cX12_redeem 7 = .ok (.i2l, 1) := by decide +kernel
theorem dX12_redeem_8 : decode cX12_redeem 8 = .ok (.invokevirtual 301, 3) := by decide +kernel
theorem dX12_redeem_11 : decode cX12_redeem 11 = .ok (.istore_n 2, 1) := by decide +kernel
theorem dX12_redeem_12 : decode cX12_redeem 12 = .ok (.iload_n 2, 1) := by decide +kernel
theorem dX12_redeem_13 : decode cX12_redeem 13 = .ok (.ifCond .eq 9, 3) := by decide +kernel
theorem dX12_redeem_16 : decode cX12_redeem 16 = .ok (.ldc_w 282, 3) := by decide +kernel
theorem dX12_redeem_19 : decode cX12_redeem 19 = .ok (.iload_n 2, 1) := by decide +kernel
theorem dX12_redeem_20 : decode cX12_redeem 20 = .ok (.isub, 1) := by decide +kernel
theorem dX12_redeem_21 : decode cX12_redeem 21 = .ok (.ireturn, 1) := by decide +kernel
theorem dX12_redeem_22 : decode cX12_redeem 22 = .ok (.aload_n 0, 1) := by decide +kernel
theorem dX12_redeem_23 : decode cX12_redeem 23 = .ok (.invokevirtual 283, 3) := by decide +kernel
theorem dX12_redeem_26 : decode cX12_redeem 26 = .ok (.aload_n 0, 1) := by decide +kernel
theorem dX12_redeem_27 : decode cX12_redeem 27 = .ok (.iload_n 1, 1) := by decide +kernel
theorem dX12_redeem_28 : decode cX12_redeem 28 = .ok (.aload_n 0, 1) := by decide +kernel
theorem dX12_redeem_29 : decode cX12_redeem 29 = .ok (.getfield 13, 3) := by decide +kernel
theorem dX12_redeem_32 : decode cX12_redeem 32 = .ok (.bipush 60, 2) := by decide +kernel
theorem dX12_redeem_34 : decode cX12_redeem 34 = .ok (.iload_n 1, 1) := by decide +kernel
theorem dX12_redeem_35 : decode cX12_redeem 35 = .ok (.iadd, 1) := by decide +kernel
theorem dX12_redeem_36 : decode cX12_redeem 36 = .ok (.iaload, 1) := by decide +kernel
theorem dX12_redeem_37 : decode cX12_redeem 37 = .ok (.ineg, 1) := by decide +kernel
theorem dX12_redeem_38 : decode cX12_redeem 38 = .ok (.invokevirtual 298, 3) := by decide +kernel
theorem dX12_redeem_41 : decode cX12_redeem 41 = .ok (.aload_n 0, 1) := by decide +kernel
theorem dX12_redeem_42 : decode cX12_redeem 42 = .ok (.invokevirtual 289, 3) := by decide +kernel
theorem dX12_redeem_45 : decode cX12_redeem 45 = .ok (.aload_n 0, 1) := by decide +kernel
theorem dX12_redeem_46 : decode cX12_redeem 46 = .ok (.getfield 13, 3) := by decide +kernel
theorem dX12_redeem_49 : decode cX12_redeem 49 = .ok (.bipush 17, 2) := by decide +kernel
theorem dX12_redeem_51 : decode cX12_redeem 51 = .ok (.iaload, 1) := by decide +kernel
theorem dX12_redeem_52 : decode cX12_redeem 52 = .ok (.ireturn, 1) := by decide +kernel
set_option maxRecDepth 20000 in
theorem ggX12_talent_X12_isPerson : GoodIn wsX12_talent wsX12_isPerson := goodIn_r _ [10, 4, 11, 12, 9, 13, 22, 23, 24, 25, 26, 27, 28, 29, 30, 31, 32, 33, 34, 35, 36, 37, 38, 39, 40, 41, 42, 43, 44, 45, 46, 47, 48, 49, 50, 51, 52, 53, 54, 55, 56, 57] (by decide +kernel) (by decide +kernel)
set_option maxRecDepth 20000 in
theorem gX12_talent_X12_isPerson : GoodIn wsX12_talent (wsV RX12 245 RX12 yX12_isPerson wsX12_isPerson) := goodIn_app (goodIn_of _ (by decide +kernel)) ggX12_talent_X12_isPerson
set_option maxRecDepth 20000 in
theorem ggX12_talent_X12_within : GoodIn wsX12_talent wsX12_within := goodIn_r _ [13] (by decide +kernel) (by decide +kernel)
set_option maxRecDepth 20000 in
theorem gX12_talent_X12_within : GoodIn wsX12_talent (va_wsS RX12 144 yX12_within wsX12_within) := goodIn_app (goodIn_of _ (by decide +kernel)) ggX12_talent_X12_within
set_option maxRecDepth 20000 in
theorem ggX12_talent_X12_keeps : GoodIn wsX12_talent wsX12_keeps := goodIn_r _ [17, 5, 4, 22, 23, 24, 25, 26, 27, 28, 29, 30, 31, 32, 33, 34, 35, 36, 37, 38, 39, 40, 41, 42, 43, 44, 45, 46, 47, 48, 49, 50, 51, 52, 53, 54, 55, 56, 57] (by decide +kernel) (by decide +kernel)
set_option maxRecDepth 20000 in
theorem gX12_talent_X12_keeps : GoodIn wsX12_talent (wsV RX12 283 RX12 yX12_keeps wsX12_keeps) := goodIn_app (goodIn_of _ (by decide +kernel)) ggX12_talent_X12_keeps
set_option maxRecDepth 20000 in
theorem ggX12_talent_X12_notes : GoodIn wsX12_talent wsX12_notes := goodIn_r _ [21, 4, 5, 22, 23, 24, 25, 26, 27, 28, 29, 30, 31, 32, 33, 34, 35, 36, 37, 38, 39, 40, 41, 42, 43, 44, 45, 46, 47, 48, 49, 50, 51, 52, 53, 54, 55, 56, 57] (by decide +kernel) (by decide +kernel)
set_option maxRecDepth 20000 in
theorem gX12_talent_X12_notes : GoodIn wsX12_talent (wsV RX12 289 RX12 yX12_notes wsX12_notes) := goodIn_app (goodIn_of _ (by decide +kernel)) ggX12_talent_X12_notes
theorem dX12_talent_0 : decode cX12_talent 0 = .ok (.aload_n 0, 1) := by decide +kernel
theorem dX12_talent_1 : decode cX12_talent 1 = .ok (.iconst 0, 1) := by decide +kernel
theorem dX12_talent_2 : decode cX12_talent 2 = .ok (.putfield 1, 3) := by decide +kernel
theorem dX12_talent_5 : decode cX12_talent 5 = .ok (.aload_n 0, 1) := by decide +kernel
theorem dX12_talent_6 : decode cX12_talent 6 = .ok (.iload_n 1, 1) := by decide +kernel
theorem dX12_talent_7 : decode cX12_talent 7 = .ok (.i2l, 1) := by decide +kernel
theorem dX12_talent_8 : decode cX12_talent 8 = .ok (.invokevirtual 245, 3) := by decide +kernel
theorem dX12_talent_11 : decode cX12_talent 11 = .ok (.ifCond .eq 15, 3) := by decide +kernel
theorem dX12_talent_14 : decode cX12_talent 14 = .ok (.iload_n 2, 1) := by decide +kernel
theorem dX12_talent_15 : decode cX12_talent 15 = .ok (.i2l, 1) := by decide +kernel
theorem dX12_talent_16 : decode cX12_talent 16 = .ok (.lconst 0, 1) := by decide +kernel
theorem dX12_talent_17 : decode cX12_talent 17 = .ok (.ldc2_w 304, 3) := by decide +kernel
theorem dX12_talent_20 : decode cX12_talent 20 = .ok (.invokestatic 144, 3) := by decide +kernel
theorem dX12_talent_23 : decode cX12_talent 23 = .ok (.ifCond .ne 7, 3) := by decide +kernel
theorem dX12_talent_26 : decode cX12_talent 26 = .ok (.ldc_w 306, 3) := by decide +kernel
theorem dX12_talent_29 : decode cX12_talent 29 = .ok (.ireturn, 1) := by decide +kernel
theorem dX12_talent_30 : decode cX12_talent 30 = .ok (.aload_n 0, 1) := by decide +kernel
theorem dX12_talent_31 : decode cX12_talent 31 = .ok (.invokevirtual 283, 3) := by decide +kernel
theorem dX12_talent_34 : decode cX12_talent 34 = .ok (.aload_n 0, 1) := by decide +kernel
theorem dX12_talent_35 : decode cX12_talent 35 = .ok (.getfield 13, 3) := by decide +kernel
theorem dX12_talent_38 : decode cX12_talent 38 = .ok (.bipush 54, 2) := by decide +kernel
theorem dX12_talent_40 : decode cX12_talent 40 = .ok (.iload_n 1, 1) := by decide +kernel
theorem dX12_talent_41 : decode cX12_talent 41 = .ok (.iadd, 1) := by decide +kernel
theorem dX12_talent_42 : decode cX12_talent 42 = .ok (.iload_n 2, 1) := by decide +kernel
theorem dX12_talent_43 : decode cX12_talent 43 = .ok (.iastore, 1) := by decide +kernel
theorem dX12_talent_44 : decode cX12_talent 44 = .ok (.aload_n 0, 1) := by decide +kernel
theorem dX12_talent_45 : decode cX12_talent 45 = .ok (.invokevirtual 289, 3) := by decide +kernel
theorem dX12_talent_48 : decode cX12_talent 48 = .ok (.aload_n 0, 1) := by decide +kernel
theorem dX12_talent_49 : decode cX12_talent 49 = .ok (.getfield 36, 3) := by decide +kernel
theorem dX12_talent_52 : decode cX12_talent 52 = .ok (.bipush 37, 2) := by decide +kernel
theorem dX12_talent_54 : decode cX12_talent 54 = .ok (.iload_n 1, 1) := by decide +kernel
theorem dX12_talent_55 : decode cX12_talent 55 = .ok (.iadd, 1) := by decide +kernel
theorem dX12_talent_56 : decode cX12_talent 56 = .ok (.iaload, 1) := by decide +kernel
theorem dX12_talent_57 : decode cX12_talent 57 = .ok (.ireturn, 1) := by decide +kernel
set_option maxRecDepth 20000 in
theorem ggX12_undo_X12_within : GoodIn wsX12_undo wsX12_within := goodIn_r _ [8] (by decide +kernel) (by decide +kernel)
set_option maxRecDepth 20000 in
theorem gX12_undo_X12_within : GoodIn wsX12_undo (va_wsS RX12 144 yX12_within wsX12_within) := goodIn_app (goodIn_of _ (by decide +kernel)) ggX12_undo_X12_within
theorem dX12_undo_0 : decode cX12_undo 0 = .ok (.aload_n 0, 1) := by decide +kernel
theorem dX12_undo_1 : decode cX12_undo 1 = .ok (.iconst 0, 1) := by decide +kernel
theorem dX12_undo_2 : decode cX12_undo 2 = .ok (.putfield 1, 3) := by decide +kernel
theorem dX12_undo_5 : decode cX12_undo 5 = .ok (.iload_n 1, 1) := by decide +kernel
theorem dX12_undo_6 : decode cX12_undo 6 = .ok (.i2l, 1) := by decide +kernel
theorem dX12_undo_7 : decode cX12_undo 7 = .ok (.lconst 1, 1) := by decide +kernel
theorem dX12_undo_8 : decode cX12_undo 8 = .ok (.ldc2_w 307, 3) := by decide +kernel
theorem dX12_undo_11 : decode cX12_undo 11 = .ok (.invokestatic 144, 3) := by decide +kernel
theorem dX12_undo_14 : decode cX12_undo 14 = .ok (.ifCond .eq 14, 3) := by decide +kernel
theorem dX12_undo_17 : decode cX12_undo 17 = .ok (.iload_n 1, 1) := by decide +kernel
theorem dX12_undo_18 : decode cX12_undo 18 = .ok (.aload_n 0, 1) := by decide +kernel
theorem dX12_undo_19 : decode cX12_undo 19 = .ok (.getfield 13, 3) := by decide +kernel
theorem dX12_undo_22 : decode cX12_undo 22 = .ok (.bipush 66, 2) := by decide +kernel
theorem dX12_undo_24 : decode cX12_undo 24 = .ok (.iaload, 1) := by decide +kernel
theorem dX12_undo_25 : decode cX12_undo 25 = .ok (.if_icmp .le 6, 3) := by decide +kernel
theorem dX12_undo_28 : decode cX12_undo 28 = .ok (.ldc 201, 2) := by decide +kernel
theorem dX12_undo_30 : decode cX12_undo 30 = .ok (.ireturn, 1) := by decide +kernel
theorem dX12_undo_31 : decode cX12_undo 31 = .ok (.aload_n 0, 1) := by decide +kernel
theorem dX12_undo_32 : decode cX12_undo 32 = .ok (.getfield 13, 3) := by decide +kernel
theorem dX12_undo_35 : decode cX12_undo 35 = .ok (.bipush 66, 2) := by decide +kernel
theorem dX12_undo_37 : decode cX12_undo 37 = .ok (.dup2, 1) := by decide +kernel
theorem dX12_undo_38 : decode cX12_undo 38 = .ok (.iaload, 1) := by decide +kernel
theorem dX12_undo_39 : decode cX12_undo 39 = .ok (.iload_n 1, 1) := by decide +kernel
theorem dX12_undo_40 : decode cX12_undo 40 = .ok (.isub, 1) := by decide +kernel
theorem dX12_undo_41 : decode cX12_undo 41 = .ok (.iastore, 1) := by decide +kernel
theorem dX12_undo_42 : decode cX12_undo 42 = .ok (.iconst 0, 1) := by decide +kernel
theorem dX12_undo_43 : decode cX12_undo 43 = .ok (.istore_n 2, 1) := by decide +kernel
theorem dX12_undo_44 : decode cX12_undo 44 = .ok (.iload_n 2, 1) := by decide +kernel
theorem dX12_undo_45 : decode cX12_undo 45 = .ok (.bipush 49, 2) := by decide +kernel
theorem dX12_undo_47 : decode cX12_undo 47 = .ok (.if_icmp .ge 38, 3) := by decide +kernel
theorem dX12_undo_50 : decode cX12_undo 50 = .ok (.aload_n 0, 1) := by decide +kernel
theorem dX12_undo_51 : decode cX12_undo 51 = .ok (.getfield 13, 3) := by decide +kernel
theorem dX12_undo_54 : decode cX12_undo 54 = .ok (.bipush 17, 2) := by decide +kernel
theorem dX12_undo_56 : decode cX12_undo 56 = .ok (.iload_n 2, 1) := by decide +kernel
theorem dX12_undo_57 : decode cX12_undo 57 = .ok (.iadd, 1) := by decide +kernel
theorem dX12_undo_58 : decode cX12_undo 58 = .ok (.aload_n 0, 1) := by decide +kernel
theorem dX12_undo_59 : decode cX12_undo 59 = .ok (.getfield 13, 3) := by decide +kernel
theorem dX12_undo_62 : decode cX12_undo 62 = .ok (.bipush 67, 2) := by decide +kernel
theorem dX12_undo_64 : decode cX12_undo 64 = .ok (.bipush 49, 2) := by decide +kernel
theorem dX12_undo_66 : decode cX12_undo 66 = .ok (.aload_n 0, 1) := by decide +kernel
theorem dX12_undo_67 : decode cX12_undo 67 = .ok (.getfield 13, 3) := by decide +kernel
theorem dX12_undo_70 : decode cX12_undo 70 = .ok (.bipush 66, 2) := by decide +kernel
theorem dX12_undo_72 : decode cX12_undo 72 = .ok (.iaload, 1) := by decide +kernel
theorem dX12_undo_73 : decode cX12_undo 73 = .ok (.imul, 1) := by decide +kernel
theorem dX12_undo_74 : decode cX12_undo 74 = .ok (.iadd, 1) := by decide +kernel
theorem dX12_undo_75 : decode cX12_undo 75 = .ok (.iload_n 2, 1) := by decide +kernel
theorem dX12_undo_76 : decode cX12_undo 76 = .ok (.iadd, 1) := by decide +kernel
theorem dX12_undo_77 : decode cX12_undo 77 = .ok (.iaload, 1) := by decide +kernel
theorem dX12_undo_78 : decode cX12_undo 78 = .ok (.iastore, 1) := by decide +kernel
theorem dX12_undo_79 : decode cX12_undo 79 = .ok (.iinc 2 1, 3) := by decide +kernel
theorem dX12_undo_82 : decode cX12_undo 82 = .ok (.goto (-38), 3) := by decide +kernel
theorem dX12_undo_85 : decode cX12_undo 85 = .ok (.aload_n 0, 1) := by decide +kernel
theorem dX12_undo_86 : decode cX12_undo 86 = .ok (.getfield 13, 3) := by decide +kernel
theorem dX12_undo_89 : decode cX12_undo 89 = .ok (.bipush 66, 2) := by decide +kernel
theorem dX12_undo_91 : decode cX12_undo 91 = .ok (.iaload, 1) := by decide +kernel
theorem dX12_undo_92 : decode cX12_undo 92 = .ok (.ireturn, 1) := by decide +kernel
set_option maxRecDepth 20000 in
theorem ggX12_whyNot_X12_within : GoodIn wsX12_whyNot wsX12_within := goodIn_r _ [12] (by decide +kernel) (by decide +kernel)
set_option maxRecDepth 20000 in
theorem gX12_whyNot_X12_within : GoodIn wsX12_whyNot (va_wsS RX12 144 yX12_within wsX12_within) := goodIn_app (goodIn_of _ (by decide +kernel)) ggX12_whyNot_X12_within
set_option maxRecDepth 20000 in
theorem ggX12_whyNot_X12_whyLive : GoodIn wsX12_whyNot wsX12_whyLive := goodIn_r _ [16, 17, 18, 19, 11, 20, 21, 9, 10, 12, 22, 23, 24, 25, 26, 27, 28, 29, 30, 31, 32, 33, 34, 35, 36, 37, 38, 39, 52, 53, 54, 55, 56, 57, 58, 59, 60, 61, 62, 63, 64, 65, 66, 67, 68, 69, 70, 71, 72, 73, 74, 75, 76, 77, 78, 79, 80, 81, 82, 83, 84, 85, 86, 87] (by decide +kernel) (by decide +kernel)
set_option maxRecDepth 20000 in
theorem gX12_whyNot_X12_whyLive : GoodIn wsX12_whyNot (wsV RX12 278 RX12 yX12_whyLive wsX12_whyLive) := goodIn_app (goodIn_of _ (by decide +kernel)) ggX12_whyNot_X12_whyLive
set_option maxRecDepth 20000 in
theorem ggX12_whyNot_X12_whyDraw : GoodIn wsX12_whyNot wsX12_whyDraw := goodIn_r _ [43, 21, 17, 18, 19, 11, 20, 9, 10, 12, 52, 53, 54, 55, 56, 57, 58, 59, 60, 61, 62, 63, 64, 65, 66, 67, 68, 69, 70, 71, 72, 73, 74, 75, 76, 77, 78, 79, 80, 81, 82, 83, 84, 85, 86, 87] (by decide +kernel) (by decide +kernel)
set_option maxRecDepth 20000 in
theorem gX12_whyNot_X12_whyDraw : GoodIn wsX12_whyNot (wsV RX12 264 RX12 yX12_whyDraw wsX12_whyDraw) := goodIn_app (goodIn_of _ (by decide +kernel)) ggX12_whyNot_X12_whyDraw
set_option maxRecDepth 20000 in
theorem ggX12_whyNot_X12_whyRedeem : GoodIn wsX12_whyNot wsX12_whyRedeem := goodIn_r _ [47, 21, 17, 18, 19, 11, 20, 9, 10, 12, 52, 53, 54, 55, 56, 57, 58, 59, 60, 61, 62, 63, 64, 65, 66, 67, 68, 69, 70, 71, 72, 73, 74, 75, 76, 77, 78, 79, 80, 81, 82, 83, 84, 85, 86, 87] (by decide +kernel) (by decide +kernel)
set_option maxRecDepth 20000 in
theorem gX12_whyNot_X12_whyRedeem : GoodIn wsX12_whyNot (wsV RX12 301 RX12 yX12_whyRedeem wsX12_whyRedeem) := goodIn_app (goodIn_of _ (by decide +kernel)) ggX12_whyNot_X12_whyRedeem
set_option maxRecDepth 20000 in
theorem ggX12_whyNot_X12_whyPledge : GoodIn wsX12_whyNot wsX12_whyPledge := goodIn_r _ [51, 1, 21, 9, 10, 11, 12, 40, 41, 42, 43, 17, 18, 19, 20, 52, 53, 54, 55, 56, 57, 58, 59, 60, 61, 62, 63, 64, 65, 66, 67, 68, 69, 70, 71, 72, 73, 74, 75, 76, 77, 78, 79, 80, 81, 82, 83, 84, 85, 86, 87] (by decide +kernel) (by decide +kernel)
set_option maxRecDepth 20000 in
theorem gX12_whyNot_X12_whyPledge : GoodIn wsX12_whyNot (wsV RX12 295 RX12 yX12_whyPledge wsX12_whyPledge) := goodIn_app (goodIn_of _ (by decide +kernel)) ggX12_whyNot_X12_whyPledge
theorem dX12_whyNot_0 : decode cX12_whyNot 0 = .ok (.lload_n 1, 1) := by decide +kernel
theorem dX12_whyNot_1 : decode cX12_whyNot 1 = .ok (.lconst 0, 1) := by decide +kernel
theorem dX12_whyNot_2 : decode cX12_whyNot 2 = .ok (.ldc2_w 262, 3) := by decide +kernel
theorem dX12_whyNot_5 : decode cX12_whyNot 5 = .ok (.invokestatic 144, 3) := by decide +kernel
theorem dX12_whyNot_8 : decode cX12_whyNot 8 = .ok (.ifCond .eq 18, 3) := by decide +kernel
theorem dX12_whyNot_11 : decode cX12_whyNot 11 = .ok (.aload_n 0, 1) := by decide +kernel
theorem dX12_whyNot_12 : decode cX12_whyNot 12 = .ok (.lload_n 1, 1) := by decide +kernel
theorem dX12_whyNot_13 : decode cX12_whyNot 13 = .ok (.ldc2_w 307, 3) := by decide +kernel
theorem dX12_whyNot_16 : decode cX12_whyNot 16 = .ok (.ldiv, 1) := by decide +kernel
theorem dX12_whyNot_17 : decode cX12_whyNot 17 = .ok (.lload_n 1, 1) := by decide +kernel
theorem dX12_whyNot_18 : decode cX12_whyNot 18 = .ok (.ldc2_w 307, 3) := by decide +kernel
theorem dX12_whyNot_21 : decode cX12_whyNot 21 = .ok (.lrem, 1) := by decide +kernel
theorem dX12_whyNot_22 : decode cX12_whyNot 22 = .ok (.invokevirtual 278, 3) := by decide +kernel
theorem dX12_whyNot_25 : decode cX12_whyNot 25 = .ok (.ireturn, 1) := by decide +kernel
theorem dX12_whyNot_26 : decode cX12_whyNot 26 = .ok (.lload_n 1, 1) := by decide +kernel
theorem dX12_whyNot_27 : decode cX12_whyNot 27 = .ok (.ldc2_w 309, 3) := by decide +kernel
theorem dX12_whyNot_30 : decode cX12_whyNot 30 = .ok (.ldc2_w 311, 3) := by decide +kernel
theorem dX12_whyNot_33 : decode cX12_whyNot 33 = .ok (.invokestatic 144, 3) := by decide +kernel
theorem dX12_whyNot_36 : decode cX12_whyNot 36 = .ok (.ifCond .eq 13, 3) := by decide +kernel
theorem dX12_whyNot_39 : decode cX12_whyNot 39 = .ok (.aload_n 0, 1) := by decide +kernel
theorem dX12_whyNot_40 : decode cX12_whyNot 40 = .ok (.lload_n 1, 1) := by decide +kernel
theorem dX12_whyNot_41 : decode cX12_whyNot 41 = .ok (.ldc2_w 309, 3) := by decide +kernel
theorem dX12_whyNot_44 : decode cX12_whyNot 44 = .ok (.lsub, 1) := by decide +kernel
theorem dX12_whyNot_45 : decode cX12_whyNot 45 = .ok (.invokevirtual 264, 3) := by decide +kernel
theorem dX12_whyNot_48 : decode cX12_whyNot 48 = .ok (.ireturn, 1) := by decide +kernel
theorem dX12_whyNot_49 : decode cX12_whyNot 49 = .ok (.lload_n 1, 1) := by decide +kernel
theorem dX12_whyNot_50 : decode cX12_whyNot 50 = .ok (.ldc2_w 313, 3) := by decide +kernel
theorem dX12_whyNot_53 : decode cX12_whyNot 53 = .ok (.ldc2_w 315, 3) := by decide +kernel
theorem dX12_whyNot_56 : decode cX12_whyNot 56 = .ok (.invokestatic 144, 3) := by decide +kernel
theorem dX12_whyNot_59 : decode cX12_whyNot 59 = .ok (.ifCond .eq 13, 3) := by decide +kernel
theorem dX12_whyNot_62 : decode cX12_whyNot 62 = .ok (.aload_n 0, 1) := by decide +kernel
theorem dX12_whyNot_63 : decode cX12_whyNot 63 = .ok (.lload_n 1, 1) := by decide +kernel
theorem dX12_whyNot_64 : decode cX12_whyNot 64 = .ok (.ldc2_w 313, 3) := by decide +kernel
theorem dX12_whyNot_67 : decode cX12_whyNot 67 = .ok (.lsub, 1) := by decide +kernel
theorem dX12_whyNot_68 : decode cX12_whyNot 68 = .ok (.invokevirtual 301, 3) := by decide +kernel
theorem dX12_whyNot_71 : decode cX12_whyNot 71 = .ok (.ireturn, 1) := by decide +kernel
theorem dX12_whyNot_72 : decode cX12_whyNot 72 = .ok (.lload_n 1, 1) := by decide +kernel
theorem dX12_whyNot_73 : decode cX12_whyNot 73 = .ok (.ldc2_w 317, 3) := by decide +kernel
theorem dX12_whyNot_76 : decode cX12_whyNot 76 = .ok (.ldc2_w 319, 3) := by decide +kernel
theorem dX12_whyNot_79 : decode cX12_whyNot 79 = .ok (.invokestatic 144, 3) := by decide +kernel
theorem dX12_whyNot_82 : decode cX12_whyNot 82 = .ok (.ifCond .eq 24, 3) := by decide +kernel
theorem dX12_whyNot_85 : decode cX12_whyNot 85 = .ok (.aload_n 0, 1) := by decide +kernel
theorem dX12_whyNot_86 : decode cX12_whyNot 86 = .ok (.lload_n 1, 1) := by decide +kernel
theorem dX12_whyNot_87 : decode cX12_whyNot 87 = .ok (.ldc2_w 317, 3) := by decide +kernel
theorem dX12_whyNot_90 : decode cX12_whyNot 90 = .ok (.lsub, 1) := by decide +kernel
theorem dX12_whyNot_91 : decode cX12_whyNot 91 = .ok (.ldc2_w 309, 3) := by decide +kernel
theorem dX12_whyNot_94 : decode cX12_whyNot 94 = .ok (.ldiv, 1) := by decide +kernel
theorem dX12_whyNot_95 : decode cX12_whyNot 95 = .ok (.lload_n 1, 1) := by decide +kernel
theorem dX12_whyNot_96 : decode cX12_whyNot 96 = .ok (.ldc2_w 309, 3) := by decide +kernel
theorem dX12_whyNot_99 : decode cX12_whyNot 99 = .ok (.lrem, 1) := by decide +kernel
theorem dX12_whyNot_100 : decode cX12_whyNot 100 = .ok (.invokevirtual 295, 3) := by decide +kernel
theorem dX12_whyNot_103 : decode cX12_whyNot 103 = .ok (.goto 4, 3) := by decide +kernel
theorem dX12_whyNot_106 : decode cX12_whyNot 106 = .ok (.iconst 1, 1) := by decide +kernel
theorem dX12_whyNot_107 : decode cX12_whyNot 107 = .ok (.ireturn, 1) := by decide +kernel
set_option maxRecDepth 20000 in
theorem ggX12_does_X12_lives : GoodIn wsX12_does wsX12_lives := goodIn_r _ [6, 1, 7, 8, 9, 5, 10, 11, 12, 13, 14, 15, 16, 17, 18, 19, 20, 21, 22, 23, 24, 25, 26, 27, 28, 29, 30, 31, 32, 33, 34, 35, 36, 37, 38, 39, 40, 41, 42, 43, 44, 45, 46, 47, 48, 49, 50, 67, 68, 69, 70, 71, 72, 73, 74, 75, 76, 77, 78, 79, 80, 81, 82, 83, 84, 85, 86, 87, 88, 89, 90, 91, 92, 93, 94, 95, 96, 97, 98, 99, 100, 101, 102] (by decide +kernel) (by decide +kernel)
set_option maxRecDepth 20000 in
theorem gX12_does_X12_lives : GoodIn wsX12_does (wsV RX12 286 RX12 yX12_lives wsX12_lives) := goodIn_app (goodIn_of _ (by decide +kernel)) ggX12_does_X12_lives
set_option maxRecDepth 20000 in
theorem ggX12_does_X12_drawsIt : GoodIn wsX12_does wsX12_drawsIt := goodIn_r _ [54, 1, 7, 8, 9, 5, 10, 11, 12, 13, 55, 56, 57, 58, 19, 20, 21, 59, 60, 61, 62, 18, 34, 35, 36, 37, 38, 39, 40, 41, 42, 43, 47, 48, 49, 50, 28, 29, 30, 31, 32, 33, 22, 23, 24, 25, 26, 27, 67, 68, 69, 70, 71, 72, 73, 74, 75, 76, 77, 78, 79, 80, 81, 82, 83, 84, 85, 86, 87, 88, 89, 90, 91, 92, 93, 94, 95, 96, 97, 98, 99, 100, 101, 102] (by decide +kernel) (by decide +kernel)
set_option maxRecDepth 20000 in
theorem gX12_does_X12_drawsIt : GoodIn wsX12_does (wsV RX12 292 RX12 yX12_drawsIt wsX12_drawsIt) := goodIn_app (goodIn_of _ (by decide +kernel)) ggX12_does_X12_drawsIt
