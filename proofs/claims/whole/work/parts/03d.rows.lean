theorem dX11_town_4 : decode cX11_town 4 = .ok (.iload_n 1, 1) := by decide +kernel
theorem dX11_town_5 : decode cX11_town 5 = .ok (.aload_n 0, 1) := by decide +kernel
theorem dX11_town_6 : decode cX11_town 6 = .ok (.getfield 13, 3) := by decide +kernel
theorem dX11_town_9 : decode cX11_town 9 = .ok (.if_icmp .le 8, 3) := by decide +kernel
theorem dX11_town_12 : decode cX11_town 12 = .ok (.iconst 3, 1) := by decide +kernel
theorem dX11_town_13 : decode cX11_town 13 = .ok (.invokestatic 108, 3) := by decide +kernel
theorem dX11_town_16 : decode cX11_town 16 = .ok (.ireturn, 1) := by decide +kernel
theorem dX11_town_17 : decode cX11_town 17 = .ok (.aload_n 0, 1) := by decide +kernel
theorem dX11_town_18 : decode cX11_town 18 = .ok (.iconst 0, 1) := by decide +kernel
theorem dX11_town_19 : decode cX11_town 19 = .ok (.putfield 13, 3) := by decide +kernel
theorem dX11_town_22 : decode cX11_town 22 = .ok (.aload_n 0, 1) := by decide +kernel
theorem dX11_town_23 : decode cX11_town 23 = .ok (.getfield 20, 3) := by decide +kernel
theorem dX11_town_26 : decode cX11_town 26 = .ok (.aload_n 0, 1) := by decide +kernel
theorem dX11_town_27 : decode cX11_town 27 = .ok (.getfield 9, 3) := by decide +kernel
theorem dX11_town_30 : decode cX11_town 30 = .ok (.iload_n 1, 1) := by decide +kernel
theorem dX11_town_31 : decode cX11_town 31 = .ok (.invokevirtual 116, 3) := by decide +kernel
theorem dX11_town_34 : decode cX11_town 34 = .ok (.astore_n 2, 1) := by decide +kernel
theorem dX11_town_35 : decode cX11_town 35 = .ok (.aload_n 2, 1) := by decide +kernel
theorem dX11_town_36 : decode cX11_town 36 = .ok (.ifnonnull 17, 3) := by decide +kernel
theorem dX11_town_39 : decode cX11_town 39 = .ok (.bipush 30, 2) := by decide +kernel
theorem dX11_town_41 : decode cX11_town 41 = .ok (.aload_n 0, 1) := by decide +kernel
theorem dX11_town_42 : decode cX11_town 42 = .ok (.getfield 20, 3) := by decide +kernel
theorem dX11_town_45 : decode cX11_town 45 = .ok (.getfield 120, 3) := by decide +kernel
theorem dX11_town_48 : decode cX11_town 48 = .ok (.iadd, 1) := by decide +kernel
theorem dX11_town_49 : decode cX11_town 49 = .ok (.invokestatic 108, 3) := by decide +kernel
theorem dX11_town_52 : decode cX11_town 52 = .ok (.ireturn, 1) := by decide +kernel
theorem dX11_town_53 : decode cX11_town 53 = .ok (.aload_n 0, 1) := by decide +kernel
theorem dX11_town_54 : decode cX11_town 54 = .ok (.aload_n 2, 1) := by decide +kernel
theorem dX11_town_55 : decode cX11_town 55 = .ok (.putfield 27, 3) := by decide +kernel
theorem dX11_town_58 : decode cX11_town 58 = .ok (.aload_n 0, 1) := by decide +kernel
theorem dX11_town_59 : decode cX11_town 59 = .ok (.getfield 34, 3) := by decide +kernel
theorem dX11_town_62 : decode cX11_town 62 = .ok (.aload_n 2, 1) := by decide +kernel
theorem dX11_town_63 : decode cX11_town 63 = .ok (.invokevirtual 123, 3) := by decide +kernel
theorem dX11_town_66 : decode cX11_town 66 = .ok (.aload_n 0, 1) := by decide +kernel
theorem dX11_town_67 : decode cX11_town 67 = .ok (.getfield 44, 3) := by decide +kernel
theorem dX11_town_70 : decode cX11_town 70 = .ok (.invokevirtual 127, 3) := by decide +kernel
theorem dX11_town_73 : decode cX11_town 73 = .ok (.aload_n 2, 1) := by decide +kernel
theorem dX11_town_74 : decode cX11_town 74 = .ok (.getfield 130, 3) := by decide +kernel
theorem dX11_town_77 : decode cX11_town 77 = .ok (.ireturn, 1) := by decide +kernel
theorem dX11_fault_0 : decode cX11_fault 0 = .ok (.iload_n 1, 1) := by decide +kernel
theorem dX11_fault_1 : decode cX11_fault 1 = .ok (.ifCond .ne 11, 3) := by decide +kernel
theorem dX11_fault_4 : decode cX11_fault 4 = .ok (.aload_n 0, 1) := by decide +kernel
theorem dX11_fault_5 : decode cX11_fault 5 = .ok (.getfield 20, 3) := by decide +kernel
theorem dX11_fault_8 : decode cX11_fault 8 = .ok (.getfield 120, 3) := by decide +kernel
theorem dX11_fault_11 : decode cX11_fault 11 = .ok (.ireturn, 1) := by decide +kernel
theorem dX11_fault_12 : decode cX11_fault 12 = .ok (.iload_n 1, 1) := by decide +kernel
theorem dX11_fault_13 : decode cX11_fault 13 = .ok (.iconst 1, 1) := by decide +kernel
theorem dX11_fault_14 : decode cX11_fault 14 = .ok (.if_icmp .ne 13, 3) := by decide +kernel
theorem dX11_fault_17 : decode cX11_fault 17 = .ok (.aload_n 0, 1) := by decide +kernel
theorem dX11_fault_18 : decode cX11_fault 18 = .ok (.getfield 20, 3) := by decide +kernel
theorem dX11_fault_21 : decode cX11_fault 21 = .ok (.getfield 133, 3) := by decide +kernel
theorem dX11_fault_24 : decode cX11_fault 24 = .ok (.goto 4, 3) := by decide +kernel
theorem dX11_fault_27 : decode cX11_fault 27 = .ok (.iconst (-1), 1) := by decide +kernel
theorem dX11_fault_28 : decode cX11_fault 28 = .ok (.ireturn, 1) := by decide +kernel
set_option maxRecDepth 20000 in
theorem ggX11_person_X5_has : GoodIn wsX11_person wsX5_has := goodIn_r _ [5, 6, 32, 33, 34] (by decide +kernel) (by decide +kernel)
set_option maxRecDepth 20000 in
theorem gX11_person_X5_has_n136 : GoodIn wsX11_person (wsX5_has) := ggX11_person_X5_has
set_option maxRecDepth 20000 in
theorem ggX11_person_X11_refused : GoodIn wsX11_person wsX11_refused := goodIn_r _ [10, 11] (by decide +kernel) (by decide +kernel)
set_option maxRecDepth 20000 in
theorem gX11_person_X11_refused : GoodIn wsX11_person (va_wsS RX11 108 yX11_refused wsX11_refused) := goodIn_app (goodIn_of _ (by decide +kernel)) ggX11_person_X11_refused
set_option maxRecDepth 20000 in
theorem ggX11_person_X5_part : GoodIn wsX11_person wsX5_part := goodIn_r _ [14, 15, 32, 33, 34] (by decide +kernel) (by decide +kernel)
set_option maxRecDepth 20000 in
theorem gX11_person_X5_part_n140 : GoodIn wsX11_person (wsX5_part) := ggX11_person_X5_part
theorem dX11_person_0 : decode cX11_person 0 = .ok (.aload_n 0, 1) := by decide +kernel
theorem dX11_person_1 : decode cX11_person 1 = .ok (.getfield 34, 3) := by decide +kernel
theorem dX11_person_4 : decode cX11_person 4 = .ok (.iload_n 1, 1) := by decide +kernel
theorem dX11_person_5 : decode cX11_person 5 = .ok (.invokevirtual 136, 3) := by decide +kernel
theorem dX11_person_8 : decode cX11_person 8 = .ok (.ifCond .eq 13, 3) := by decide +kernel
theorem dX11_person_11 : decode cX11_person 11 = .ok (.iload_n 2, 1) := by decide +kernel
theorem dX11_person_12 : decode cX11_person 12 = .ok (.ifCond .lt 9, 3) := by decide +kernel
theorem dX11_person_15 : decode cX11_person 15 = .ok (.iload_n 2, 1) := by decide +kernel
theorem dX11_person_16 : decode cX11_person 16 = .ok (.bipush 9, 2) := by decide +kernel
theorem dX11_person_18 : decode cX11_person 18 = .ok (.if_icmp .lt 8, 3) := by decide +kernel
theorem dX11_person_21 : decode cX11_person 21 = .ok (.iconst 2, 1) := by decide +kernel
theorem dX11_person_22 : decode cX11_person 22 = .ok (.invokestatic 108, 3) := by decide +kernel
theorem dX11_person_25 : decode cX11_person 25 = .ok (.ireturn, 1) := by decide +kernel
theorem dX11_person_26 : decode cX11_person 26 = .ok (.aload_n 0, 1) := by decide +kernel
theorem dX11_person_27 : decode cX11_person 27 = .ok (.getfield 34, 3) := by decide +kernel
theorem dX11_person_30 : decode cX11_person 30 = .ok (.iload_n 1, 1) := by decide +kernel
theorem dX11_person_31 : decode cX11_person 31 = .ok (.iload_n 2, 1) := by decide +kernel
theorem dX11_person_32 : decode cX11_person 32 = .ok (.invokevirtual 140, 3) := by decide +kernel
theorem dX11_person_35 : decode cX11_person 35 = .ok (.ireturn, 1) := by decide +kernel
set_option maxRecDepth 20000 in
theorem ggX11_worth_X5_has : GoodIn wsX11_worth wsX5_has := goodIn_r _ [7, 8, 75, 76, 77] (by decide +kernel) (by decide +kernel)
set_option maxRecDepth 20000 in
theorem gX11_worth_X5_has_n136 : GoodIn wsX11_worth (wsX5_has) := ggX11_worth_X5_has
set_option maxRecDepth 20000 in
theorem ggX11_worth_X8_hasTrade : GoodIn wsX11_worth wsX8_hasTrade := goodIn_r _ [12, 13, 65, 66, 67, 68, 69, 70, 71, 72, 73, 74] (by decide +kernel) (by decide +kernel)
set_option maxRecDepth 20000 in
theorem gX11_worth_X8_hasTrade_n144 : GoodIn wsX11_worth (wsX8_hasTrade) := ggX11_worth_X8_hasTrade
set_option maxRecDepth 20000 in
theorem ggX11_worth_X11_refused : GoodIn wsX11_worth wsX11_refused := goodIn_r _ [17, 18] (by decide +kernel) (by decide +kernel)
set_option maxRecDepth 20000 in
theorem gX11_worth_X11_refused : GoodIn wsX11_worth (va_wsS RX11 108 yX11_refused wsX11_refused) := goodIn_app (goodIn_of _ (by decide +kernel)) ggX11_worth_X11_refused
set_option maxRecDepth 20000 in
theorem ggX11_worth_X5_part : GoodIn wsX11_worth wsX5_part := goodIn_r _ [21, 22, 75, 76, 77] (by decide +kernel) (by decide +kernel)
set_option maxRecDepth 20000 in
theorem gX11_worth_X5_part_n140 : GoodIn wsX11_worth (wsX5_part) := ggX11_worth_X5_part
set_option maxRecDepth 20000 in
theorem ggX11_worth_X7_about : GoodIn wsX11_worth wsX7_about := goodIn_r _ [26, 27, 19, 5, 20, 21, 22, 78, 79, 75, 76, 77] (by decide +kernel) (by decide +kernel)
set_option maxRecDepth 20000 in
theorem gX11_worth_X7_about_n151 : GoodIn wsX11_worth (wsX7_about) := ggX11_worth_X7_about
set_option maxRecDepth 20000 in
theorem ggX11_worth_X7_worthOf : GoodIn wsX11_worth wsX7_worthOf := goodIn_r _ [30, 27, 31, 32, 33, 24, 34, 35, 36, 37, 38, 39, 40, 41, 42, 43, 44, 45, 46, 47, 16, 48, 78, 79, 65, 66, 67, 68, 69, 70, 71, 72, 73, 74] (by decide +kernel) (by decide +kernel)
set_option maxRecDepth 20000 in
theorem gX11_worth_X7_worthOf_n155 : GoodIn wsX11_worth (wsX7_worthOf) := ggX11_worth_X7_worthOf
theorem dX11_worth_0 : decode cX11_worth 0 = .ok (.aload_n 0, 1) := by decide +kernel
theorem dX11_worth_1 : decode cX11_worth 1 = .ok (.getfield 34, 3) := by decide +kernel
theorem dX11_worth_4 : decode cX11_worth 4 = .ok (.iload_n 1, 1) := by decide +kernel
theorem dX11_worth_5 : decode cX11_worth 5 = .ok (.invokevirtual 136, 3) := by decide +kernel
theorem dX11_worth_8 : decode cX11_worth 8 = .ok (.ifCond .eq 15, 3) := by decide +kernel
theorem dX11_worth_11 : decode cX11_worth 11 = .ok (.aload_n 0, 1) := by decide +kernel
theorem dX11_worth_12 : decode cX11_worth 12 = .ok (.getfield 27, 3) := by decide +kernel
theorem dX11_worth_15 : decode cX11_worth 15 = .ok (.iload_n 2, 1) := by decide +kernel
theorem dX11_worth_16 : decode cX11_worth 16 = .ok (.i2l, 1) := by decide +kernel
theorem dX11_worth_17 : decode cX11_worth 17 = .ok (.invokevirtual 144, 3) := by decide +kernel
theorem dX11_worth_20 : decode cX11_worth 20 = .ok (.ifCond .ne 8, 3) := by decide +kernel
theorem dX11_worth_23 : decode cX11_worth 23 = .ok (.iconst 2, 1) := by decide +kernel
theorem dX11_worth_24 : decode cX11_worth 24 = .ok (.invokestatic 108, 3) := by decide +kernel
theorem dX11_worth_27 : decode cX11_worth 27 = .ok (.ireturn, 1) := by decide +kernel
theorem dX11_worth_28 : decode cX11_worth 28 = .ok (.aload_n 0, 1) := by decide +kernel
theorem dX11_worth_29 : decode cX11_worth 29 = .ok (.getfield 34, 3) := by decide +kernel
theorem dX11_worth_32 : decode cX11_worth 32 = .ok (.iload_n 1, 1) := by decide +kernel
theorem dX11_worth_33 : decode cX11_worth 33 = .ok (.iconst 0, 1) := by decide +kernel
theorem dX11_worth_34 : decode cX11_worth 34 = .ok (.invokevirtual 140, 3) := by decide +kernel
theorem dX11_worth_37 : decode cX11_worth 37 = .ok (.aload_n 0, 1) := by decide +kernel
theorem dX11_worth_38 : decode cX11_worth 38 = .ok (.getfield 27, 3) := by decide +kernel
theorem dX11_worth_41 : decode cX11_worth 41 = .ok (.getfield 148, 3) := by decide +kernel
theorem dX11_worth_44 : decode cX11_worth 44 = .ok (.if_icmp .lt 8, 3) := by decide +kernel
theorem dX11_worth_47 : decode cX11_worth 47 = .ok (.iconst 5, 1) := by decide +kernel
theorem dX11_worth_48 : decode cX11_worth 48 = .ok (.invokestatic 108, 3) := by decide +kernel
theorem dX11_worth_51 : decode cX11_worth 51 = .ok (.ireturn, 1) := by decide +kernel
theorem dX11_worth_52 : decode cX11_worth 52 = .ok (.aload_n 0, 1) := by decide +kernel
theorem dX11_worth_53 : decode cX11_worth 53 = .ok (.getfield 65, 3) := by decide +kernel
theorem dX11_worth_56 : decode cX11_worth 56 = .ok (.aload_n 0, 1) := by decide +kernel
theorem dX11_worth_57 : decode cX11_worth 57 = .ok (.getfield 34, 3) := by decide +kernel
theorem dX11_worth_60 : decode cX11_worth 60 = .ok (.iload_n 1, 1) := by decide +kernel
theorem dX11_worth_61 : decode cX11_worth 61 = .ok (.invokevirtual 151, 3) := by decide +kernel
theorem dX11_worth_64 : decode cX11_worth 64 = .ok (.aload_n 0, 1) := by decide +kernel
theorem dX11_worth_65 : decode cX11_worth 65 = .ok (.getfield 65, 3) := by decide +kernel
theorem dX11_worth_68 : decode cX11_worth 68 = .ok (.aload_n 0, 1) := by decide +kernel
theorem dX11_worth_69 : decode cX11_worth 69 = .ok (.getfield 27, 3) := by decide +kernel
theorem dX11_worth_72 : decode cX11_worth 72 = .ok (.iload_n 2, 1) := by decide +kernel
theorem dX11_worth_73 : decode cX11_worth 73 = .ok (.invokevirtual 155, 3) := by decide +kernel
theorem dX11_worth_76 : decode cX11_worth 76 = .ok (.ireturn, 1) := by decide +kernel
set_option maxRecDepth 20000 in
theorem ggX11_grown_X5_has : GoodIn wsX11_grown wsX5_has := goodIn_r _ [7, 8, 60, 61, 62] (by decide +kernel) (by decide +kernel)
set_option maxRecDepth 20000 in
theorem gX11_grown_X5_has_n136 : GoodIn wsX11_grown (wsX5_has) := ggX11_grown_X5_has
set_option maxRecDepth 20000 in
theorem ggX11_grown_X11_refused : GoodIn wsX11_grown wsX11_refused := goodIn_r _ [12, 13] (by decide +kernel) (by decide +kernel)
set_option maxRecDepth 20000 in
theorem gX11_grown_X11_refused : GoodIn wsX11_grown (va_wsS RX11 108 yX11_refused wsX11_refused) := goodIn_app (goodIn_of _ (by decide +kernel)) ggX11_grown_X11_refused
set_option maxRecDepth 20000 in
theorem ggX11_grown_X5_part : GoodIn wsX11_grown wsX5_part := goodIn_r _ [16, 17, 60, 61, 62] (by decide +kernel) (by decide +kernel)
set_option maxRecDepth 20000 in
theorem gX11_grown_X5_part_n140 : GoodIn wsX11_grown (wsX5_part) := ggX11_grown_X5_part
set_option maxRecDepth 20000 in
theorem ggX11_grown_X7_about : GoodIn wsX11_grown wsX7_about := goodIn_r _ [21, 22, 14, 5, 15, 16, 17, 63, 64, 60, 61, 62] (by decide +kernel) (by decide +kernel)
set_option maxRecDepth 20000 in
theorem gX11_grown_X7_about_n151 : GoodIn wsX11_grown (wsX7_about) := ggX11_grown_X7_about
set_option maxRecDepth 20000 in
theorem ggX11_grown_X7_grownOf : GoodIn wsX11_grown wsX7_grownOf := goodIn_r _ [25, 26, 27, 28, 19, 29, 30, 31, 32, 33, 34, 22, 35, 36, 37, 38, 39, 40, 41, 42, 11, 43, 65, 66, 67, 68, 69, 70, 71, 72, 73, 74, 63, 64] (by decide +kernel) (by decide +kernel)
set_option maxRecDepth 20000 in
theorem gX11_grown_X7_grownOf_n159 : GoodIn wsX11_grown (wsX7_grownOf) := ggX11_grown_X7_grownOf
theorem dX11_grown_0 : decode cX11_grown 0 = .ok (.aload_n 0, 1) := by decide +kernel
theorem dX11_grown_1 : decode cX11_grown 1 = .ok (.getfield 34, 3) := by decide +kernel
theorem dX11_grown_4 : decode cX11_grown 4 = .ok (.iload_n 1, 1) := by decide +kernel
theorem dX11_grown_5 : decode cX11_grown 5 = .ok (.invokevirtual 136, 3) := by decide +kernel
theorem dX11_grown_8 : decode cX11_grown 8 = .ok (.ifCond .ne 8, 3) := by decide +kernel
theorem dX11_grown_11 : decode cX11_grown 11 = .ok (.iconst 2, 1) := by decide +kernel
theorem dX11_grown_12 : decode cX11_grown 12 = .ok (.invokestatic 108, 3) := by decide +kernel
theorem dX11_grown_15 : decode cX11_grown 15 = .ok (.ireturn, 1) := by decide +kernel
theorem dX11_grown_16 : decode cX11_grown 16 = .ok (.aload_n 0, 1) := by decide +kernel
theorem dX11_grown_17 : decode cX11_grown 17 = .ok (.getfield 34, 3) := by decide +kernel
theorem dX11_grown_20 : decode cX11_grown 20 = .ok (.iload_n 1, 1) := by decide +kernel
theorem dX11_grown_21 : decode cX11_grown 21 = .ok (.iconst 1, 1) := by decide +kernel
theorem dX11_grown_22 : decode cX11_grown 22 = .ok (.invokevirtual 140, 3) := by decide +kernel
theorem dX11_grown_25 : decode cX11_grown 25 = .ok (.iconst 1, 1) := by decide +kernel
theorem dX11_grown_26 : decode cX11_grown 26 = .ok (.if_icmp .eq 8, 3) := by decide +kernel
theorem dX11_grown_29 : decode cX11_grown 29 = .ok (.iconst 5, 1) := by decide +kernel
theorem dX11_grown_30 : decode cX11_grown 30 = .ok (.invokestatic 108, 3) := by decide +kernel
theorem dX11_grown_33 : decode cX11_grown 33 = .ok (.ireturn, 1) := by decide +kernel
theorem dX11_grown_34 : decode cX11_grown 34 = .ok (.aload_n 0, 1) := by decide +kernel
theorem dX11_grown_35 : decode cX11_grown 35 = .ok (.getfield 65, 3) := by decide +kernel
theorem dX11_grown_38 : decode cX11_grown 38 = .ok (.aload_n 0, 1) := by decide +kernel
theorem dX11_grown_39 : decode cX11_grown 39 = .ok (.getfield 34, 3) := by decide +kernel
theorem dX11_grown_42 : decode cX11_grown 42 = .ok (.iload_n 1, 1) := by decide +kernel
theorem dX11_grown_43 : decode cX11_grown 43 = .ok (.invokevirtual 151, 3) := by decide +kernel
theorem dX11_grown_46 : decode cX11_grown 46 = .ok (.aload_n 0, 1) := by decide +kernel
theorem dX11_grown_47 : decode cX11_grown 47 = .ok (.getfield 65, 3) := by decide +kernel
theorem dX11_grown_50 : decode cX11_grown 50 = .ok (.aload_n 0, 1) := by decide +kernel
theorem dX11_grown_51 : decode cX11_grown 51 = .ok (.getfield 27, 3) := by decide +kernel
theorem dX11_grown_54 : decode cX11_grown 54 = .ok (.invokevirtual 159, 3) := by decide +kernel
theorem dX11_grown_57 : decode cX11_grown 57 = .ok (.ireturn, 1) := by decide +kernel
set_option maxRecDepth 20000 in
theorem ggX11_live_X5_copy : GoodIn wsX11_live wsX5_copy := goodIn_r _ [9, 10, 11, 12, 13, 14, 15, 16, 94, 95, 96] (by decide +kernel) (by decide +kernel)
set_option maxRecDepth 20000 in
theorem gX11_live_X5_copy_n163 : GoodIn wsX11_live (wsX5_copy) := ggX11_live_X5_copy
set_option maxRecDepth 20000 in
theorem ggX11_live_X2_lives : GoodIn wsX11_live wsX2_lives := goodIn_r _ [20, 21, 22, 7, 23, 24, 15, 25, 26, 27, 28, 29, 30, 31, 32, 10, 33, 34, 35, 36, 37, 38, 39, 40, 41, 42, 43, 44, 45, 46, 47, 48, 49, 50, 51, 52, 53, 54, 55, 56, 57, 58, 59, 60, 61, 62, 97, 98, 99, 100, 101, 102, 103, 104, 105, 106, 107, 108, 109, 94, 95, 96, 110, 111] (by decide +kernel) (by decide +kernel)
set_option maxRecDepth 20000 in
theorem gX11_live_X2_lives_n167 : GoodIn wsX11_live (wsX2_lives) := ggX11_live_X2_lives
set_option maxRecDepth 20000 in
theorem ggX11_live_X11_refused : GoodIn wsX11_live wsX11_refused := goodIn_r _ [65, 66] (by decide +kernel) (by decide +kernel)
set_option maxRecDepth 20000 in
theorem gX11_live_X11_refused : GoodIn wsX11_live (va_wsS RX11 108 yX11_refused wsX11_refused) := goodIn_app (goodIn_of _ (by decide +kernel)) ggX11_live_X11_refused
set_option maxRecDepth 20000 in
theorem ggX11_live_X4_keep : GoodIn wsX11_live wsX4_keep := goodIn_r _ [70, 71, 72, 73, 74, 75, 76, 77, 6, 7, 8, 9, 10, 11, 12, 13, 14, 15, 16, 112, 113, 114, 94, 95, 96] (by decide +kernel) (by decide +kernel)
set_option maxRecDepth 20000 in
theorem gX11_live_X4_keep_n171 : GoodIn wsX11_live (wsX4_keep) := ggX11_live_X4_keep
set_option maxRecDepth 20000 in
theorem ggX11_live_X5_part : GoodIn wsX11_live wsX5_part := goodIn_r _ [32, 10, 94, 95, 96] (by decide +kernel) (by decide +kernel)
set_option maxRecDepth 20000 in
theorem gX11_live_X5_part_n140 : GoodIn wsX11_live (wsX5_part) := ggX11_live_X5_part
theorem dX11_live_0 : decode cX11_live 0 = .ok (.aload_n 0, 1) := by decide +kernel
theorem dX11_live_1 : decode cX11_live 1 = .ok (.getfield 38, 3) := by decide +kernel
theorem dX11_live_4 : decode cX11_live 4 = .ok (.aload_n 0, 1) := by decide +kernel
theorem dX11_live_5 : decode cX11_live 5 = .ok (.getfield 34, 3) := by decide +kernel
theorem dX11_live_8 : decode cX11_live 8 = .ok (.invokevirtual 163, 3) := by decide +kernel
theorem dX11_live_11 : decode cX11_live 11 = .ok (.aload_n 0, 1) := by decide +kernel
theorem dX11_live_12 : decode cX11_live 12 = .ok (.getfield 74, 3) := by decide +kernel
theorem dX11_live_15 : decode cX11_live 15 = .ok (.aload_n 0, 1) := by decide +kernel
theorem dX11_live_16 : decode cX11_live 16 = .ok (.getfield 27, 3) := by decide +kernel
theorem dX11_live_19 : decode cX11_live 19 = .ok (.aload_n 0, 1) := by decide +kernel
theorem dX11_live_20 : decode cX11_live 20 = .ok (.getfield 34, 3) := by decide +kernel
theorem dX11_live_23 : decode cX11_live 23 = .ok (.iload_n 1, 1) := by decide +kernel
theorem dX11_live_24 : decode cX11_live 24 = .ok (.iload_n 2, 1) := by decide +kernel
theorem dX11_live_25 : decode cX11_live 25 = .ok (.i2l, 1) := by decide +kernel
theorem dX11_live_26 : decode cX11_live 26 = .ok (.invokevirtual 167, 3) := by decide +kernel
theorem dX11_live_29 : decode cX11_live 29 = .ok (.istore_n 3, 1) := by decide +kernel
theorem dX11_live_30 : decode cX11_live 30 = .ok (.iload_n 3, 1) := by decide +kernel
theorem dX11_live_31 : decode cX11_live 31 = .ok (.ifCond .eq 11, 3) := by decide +kernel
theorem dX11_live_34 : decode cX11_live 34 = .ok (.bipush 10, 2) := by decide +kernel
theorem dX11_live_36 : decode cX11_live 36 = .ok (.iload_n 3, 1) := by decide +kernel
theorem dX11_live_37 : decode cX11_live 37 = .ok (.iadd, 1) := by decide +kernel
theorem dX11_live_38 : decode cX11_live 38 = .ok (.invokestatic 108, 3) := by decide +kernel
theorem dX11_live_41 : decode cX11_live 41 = .ok (.ireturn, 1) := by decide +kernel
theorem dX11_live_42 : decode cX11_live 42 = .ok (.aload_n 0, 1) := by decide +kernel
theorem dX11_live_43 : decode cX11_live 43 = .ok (.getfield 44, 3) := by decide +kernel
theorem dX11_live_46 : decode cX11_live 46 = .ok (.aload_n 0, 1) := by decide +kernel
theorem dX11_live_47 : decode cX11_live 47 = .ok (.getfield 38, 3) := by decide +kernel
theorem dX11_live_50 : decode cX11_live 50 = .ok (.invokevirtual 171, 3) := by decide +kernel
theorem dX11_live_53 : decode cX11_live 53 = .ok (.aload_n 0, 1) := by decide +kernel
theorem dX11_live_54 : decode cX11_live 54 = .ok (.getfield 34, 3) := by decide +kernel
theorem dX11_live_57 : decode cX11_live 57 = .ok (.iload_n 1, 1) := by decide +kernel
theorem dX11_live_58 : decode cX11_live 58 = .ok (.iconst 2, 1) := by decide +kernel
theorem dX11_live_59 : decode cX11_live 59 = .ok (.invokevirtual 140, 3) := by decide +kernel
theorem dX11_live_62 : decode cX11_live 62 = .ok (.aload_n 0, 1) := by decide +kernel
theorem dX11_live_63 : decode cX11_live 63 = .ok (.getfield 38, 3) := by decide +kernel
theorem dX11_live_66 : decode cX11_live 66 = .ok (.iload_n 1, 1) := by decide +kernel
theorem dX11_live_67 : decode cX11_live 67 = .ok (.iconst 2, 1) := by decide +kernel
theorem dX11_live_68 : decode cX11_live 68 = .ok (.invokevirtual 140, 3) := by decide +kernel
theorem dX11_live_71 : decode cX11_live 71 = .ok (.isub, 1) := by decide +kernel
theorem dX11_live_72 : decode cX11_live 72 = .ok (.ireturn, 1) := by decide +kernel
set_option maxRecDepth 20000 in
theorem ggX11_draw_X5_copy : GoodIn wsX11_draw wsX5_copy := goodIn_r _ [9, 10, 11, 12, 13, 14, 15, 16, 89, 90, 91] (by decide +kernel) (by decide +kernel)
set_option maxRecDepth 20000 in
theorem gX11_draw_X5_copy_n163 : GoodIn wsX11_draw (wsX5_copy) := ggX11_draw_X5_copy
set_option maxRecDepth 20000 in
theorem ggX11_draw_X2_draws : GoodIn wsX11_draw wsX2_draws := goodIn_r _ [20, 21, 22, 7, 23, 24, 15, 25, 26, 27, 10, 28, 29, 30, 31, 32, 33, 34, 35, 36, 37, 38, 39, 40, 41, 42, 43, 44, 45, 46, 47, 48, 49, 50, 51, 52, 53, 54, 55, 56, 57, 92, 93, 94, 89, 90, 91, 95, 96, 97, 98, 99, 100, 101, 102, 103, 104, 105, 106] (by decide +kernel) (by decide +kernel)
set_option maxRecDepth 20000 in
theorem gX11_draw_X2_draws_n174 : GoodIn wsX11_draw (wsX2_draws) := ggX11_draw_X2_draws
set_option maxRecDepth 20000 in
theorem ggX11_draw_X11_refused : GoodIn wsX11_draw wsX11_refused := goodIn_r _ [60, 61] (by decide +kernel) (by decide +kernel)
set_option maxRecDepth 20000 in
theorem gX11_draw_X11_refused : GoodIn wsX11_draw (va_wsS RX11 108 yX11_refused wsX11_refused) := goodIn_app (goodIn_of _ (by decide +kernel)) ggX11_draw_X11_refused
set_option maxRecDepth 20000 in
theorem ggX11_draw_X4_keep : GoodIn wsX11_draw wsX4_keep := goodIn_r _ [65, 66, 67, 68, 69, 70, 71, 72, 6, 7, 8, 9, 10, 11, 12, 13, 14, 15, 16, 107, 108, 109, 89, 90, 91] (by decide +kernel) (by decide +kernel)
set_option maxRecDepth 20000 in
theorem gX11_draw_X4_keep_n171 : GoodIn wsX11_draw (wsX4_keep) := ggX11_draw_X4_keep
set_option maxRecDepth 20000 in
theorem ggX11_draw_X5_part : GoodIn wsX11_draw wsX5_part := goodIn_r _ [27, 10, 89, 90, 91] (by decide +kernel) (by decide +kernel)
set_option maxRecDepth 20000 in
theorem gX11_draw_X5_part_n140 : GoodIn wsX11_draw (wsX5_part) := ggX11_draw_X5_part
theorem dX11_draw_0 : decode cX11_draw 0 = .ok (.aload_n 0, 1) := by decide +kernel
theorem dX11_draw_1 : decode cX11_draw 1 = .ok (.getfield 38, 3) := by decide +kernel
theorem dX11_draw_4 : decode cX11_draw 4 = .ok (.aload_n 0, 1) := by decide +kernel
theorem dX11_draw_5 : decode cX11_draw 5 = .ok (.getfield 34, 3) := by decide +kernel
theorem dX11_draw_8 : decode cX11_draw 8 = .ok (.invokevirtual 163, 3) := by decide +kernel
theorem dX11_draw_11 : decode cX11_draw 11 = .ok (.aload_n 0, 1) := by decide +kernel
theorem dX11_draw_12 : decode cX11_draw 12 = .ok (.getfield 74, 3) := by decide +kernel
theorem dX11_draw_15 : decode cX11_draw 15 = .ok (.aload_n 0, 1) := by decide +kernel
theorem dX11_draw_16 : decode cX11_draw 16 = .ok (.getfield 27, 3) := by decide +kernel
theorem dX11_draw_19 : decode cX11_draw 19 = .ok (.aload_n 0, 1) := by decide +kernel
theorem dX11_draw_20 : decode cX11_draw 20 = .ok (.getfield 34, 3) := by decide +kernel
theorem dX11_draw_23 : decode cX11_draw 23 = .ok (.iload_n 1, 1) := by decide +kernel
theorem dX11_draw_24 : decode cX11_draw 24 = .ok (.invokevirtual 174, 3) := by decide +kernel
theorem dX11_draw_27 : decode cX11_draw 27 = .ok (.istore_n 2, 1) := by decide +kernel
theorem dX11_draw_28 : decode cX11_draw 28 = .ok (.iload_n 2, 1) := by decide +kernel
theorem dX11_draw_29 : decode cX11_draw 29 = .ok (.ifCond .eq 11, 3) := by decide +kernel
theorem dX11_draw_32 : decode cX11_draw 32 = .ok (.bipush 10, 2) := by decide +kernel
theorem dX11_draw_34 : decode cX11_draw 34 = .ok (.iload_n 2, 1) := by decide +kernel
theorem dX11_draw_35 : decode cX11_draw 35 = .ok (.iadd, 1) := by decide +kernel
theorem dX11_draw_36 : decode cX11_draw 36 = .ok (.invokestatic 108, 3) := by decide +kernel
theorem dX11_draw_39 : decode cX11_draw 39 = .ok (.ireturn, 1) := by decide +kernel
theorem dX11_draw_40 : decode cX11_draw 40 = .ok (.aload_n 0, 1) := by decide +kernel
theorem dX11_draw_41 : decode cX11_draw 41 = .ok (.getfield 44, 3) := by decide +kernel
theorem dX11_draw_44 : decode cX11_draw 44 = .ok (.aload_n 0, 1) := by decide +kernel
theorem dX11_draw_45 : decode cX11_draw 45 = .ok (.getfield 38, 3) := by decide +kernel
theorem dX11_draw_48 : decode cX11_draw 48 = .ok (.invokevirtual 171, 3) := by decide +kernel
theorem dX11_draw_51 : decode cX11_draw 51 = .ok (.aload_n 0, 1) := by decide +kernel
theorem dX11_draw_52 : decode cX11_draw 52 = .ok (.getfield 34, 3) := by decide +kernel
theorem dX11_draw_55 : decode cX11_draw 55 = .ok (.iload_n 1, 1) := by decide +kernel
theorem dX11_draw_56 : decode cX11_draw 56 = .ok (.iconst 0, 1) := by decide +kernel
theorem dX11_draw_57 : decode cX11_draw 57 = .ok (.invokevirtual 140, 3) := by decide +kernel
theorem dX11_draw_60 : decode cX11_draw 60 = .ok (.ireturn, 1) := by decide +kernel
set_option maxRecDepth 20000 in
theorem ggX11_pledge_X5_copy : GoodIn wsX11_pledge wsX5_copy := goodIn_r _ [8, 9, 10, 11, 12, 13, 14, 15, 61, 62, 63] (by decide +kernel) (by decide +kernel)
set_option maxRecDepth 20000 in
theorem gX11_pledge_X5_copy_n163 : GoodIn wsX11_pledge (wsX5_copy) := ggX11_pledge_X5_copy
set_option maxRecDepth 20000 in
theorem ggX11_pledge_X2_pledges : GoodIn wsX11_pledge wsX2_pledges := goodIn_r _ [19, 20, 6, 21, 22, 14, 23, 24, 25, 9, 26, 27, 28, 61, 62, 63] (by decide +kernel) (by decide +kernel)
set_option maxRecDepth 20000 in
theorem gX11_pledge_X2_pledges_n178 : GoodIn wsX11_pledge (wsX2_pledges) := ggX11_pledge_X2_pledges
set_option maxRecDepth 20000 in
theorem ggX11_pledge_X11_refused : GoodIn wsX11_pledge wsX11_refused := goodIn_r _ [32, 33] (by decide +kernel) (by decide +kernel)
set_option maxRecDepth 20000 in
theorem gX11_pledge_X11_refused : GoodIn wsX11_pledge (va_wsS RX11 108 yX11_refused wsX11_refused) := goodIn_app (goodIn_of _ (by decide +kernel)) ggX11_pledge_X11_refused
set_option maxRecDepth 20000 in
theorem ggX11_pledge_X4_keep : GoodIn wsX11_pledge wsX4_keep := goodIn_r _ [37, 38, 39, 40, 41, 42, 43, 44, 5, 6, 7, 8, 9, 10, 11, 12, 13, 14, 15, 64, 65, 66, 61, 62, 63] (by decide +kernel) (by decide +kernel)
set_option maxRecDepth 20000 in
theorem gX11_pledge_X4_keep_n171 : GoodIn wsX11_pledge (wsX4_keep) := ggX11_pledge_X4_keep
theorem dX11_pledge_0 : decode cX11_pledge 0 = .ok (.aload_n 0, 1) := by decide +kernel
theorem dX11_pledge_1 : decode cX11_pledge 1 = .ok (.getfield 38, 3) := by decide +kernel
theorem dX11_pledge_4 : decode cX11_pledge 4 = .ok (.aload_n 0, 1) := by decide +kernel
theorem dX11_pledge_5 : decode cX11_pledge 5 = .ok (.getfield 34, 3) := by decide +kernel
theorem dX11_pledge_8 : decode cX11_pledge 8 = .ok (.invokevirtual 163, 3) := by decide +kernel
theorem dX11_pledge_11 : decode cX11_pledge 11 = .ok (.aload_n 0, 1) := by decide +kernel
theorem dX11_pledge_12 : decode cX11_pledge 12 = .ok (.getfield 74, 3) := by decide +kernel
theorem dX11_pledge_15 : decode cX11_pledge 15 = .ok (.aload_n 0, 1) := by decide +kernel
theorem dX11_pledge_16 : decode cX11_pledge 16 = .ok (.getfield 34, 3) := by decide +kernel
theorem dX11_pledge_19 : decode cX11_pledge 19 = .ok (.iload_n 1, 1) := by decide +kernel
theorem dX11_pledge_20 : decode cX11_pledge 20 = .ok (.iload_n 2, 1) := by decide +kernel
theorem dX11_pledge_21 : decode cX11_pledge 21 = .ok (.invokevirtual 178, 3) := by decide +kernel
theorem dX11_pledge_24 : decode cX11_pledge 24 = .ok (.istore_n 3, 1) := by decide +kernel
theorem dX11_pledge_25 : decode cX11_pledge 25 = .ok (.iload_n 3, 1) := by decide +kernel
theorem dX11_pledge_26 : decode cX11_pledge 26 = .ok (.ifCond .eq 11, 3) := by decide +kernel
theorem dX11_pledge_29 : decode cX11_pledge 29 = .ok (.bipush 10, 2) := by decide +kernel
theorem dX11_pledge_31 : decode cX11_pledge 31 = .ok (.iload_n 3, 1) := by decide +kernel
theorem dX11_pledge_32 : decode cX11_pledge 32 = .ok (.iadd, 1) := by decide +kernel
theorem dX11_pledge_33 : decode cX11_pledge 33 = .ok (.invokestatic 108, 3) := by decide +kernel
theorem dX11_pledge_36 : decode cX11_pledge 36 = .ok (.ireturn, 1) := by decide +kernel
theorem dX11_pledge_37 : decode cX11_pledge 37 = .ok (.aload_n 0, 1) := by decide +kernel
theorem dX11_pledge_38 : decode cX11_pledge 38 = .ok (.getfield 44, 3) := by decide +kernel
theorem dX11_pledge_41 : decode cX11_pledge 41 = .ok (.aload_n 0, 1) := by decide +kernel
theorem dX11_pledge_42 : decode cX11_pledge 42 = .ok (.getfield 38, 3) := by decide +kernel
theorem dX11_pledge_45 : decode cX11_pledge 45 = .ok (.invokevirtual 171, 3) := by decide +kernel
theorem dX11_pledge_48 : decode cX11_pledge 48 = .ok (.aload_n 0, 1) := by decide +kernel
theorem dX11_pledge_49 : decode cX11_pledge 49 = .ok (.getfield 34, 3) := by decide +kernel
theorem dX11_pledge_52 : decode cX11_pledge 52 = .ok (.getfield 182, 3) := by decide +kernel
theorem dX11_pledge_55 : decode cX11_pledge 55 = .ok (.ireturn, 1) := by decide +kernel
set_option maxRecDepth 20000 in
theorem ggX11_redeem_X5_copy : GoodIn wsX11_redeem wsX5_copy := goodIn_r _ [8, 9, 10, 11, 12, 13, 14, 15, 61, 62, 63] (by decide +kernel) (by decide +kernel)
set_option maxRecDepth 20000 in
theorem gX11_redeem_X5_copy_n163 : GoodIn wsX11_redeem (wsX5_copy) := ggX11_redeem_X5_copy
set_option maxRecDepth 20000 in
theorem ggX11_redeem_X2_redeems : GoodIn wsX11_redeem wsX2_redeems := goodIn_r _ [19, 20, 6, 21, 22, 14, 23, 24, 25, 9, 26, 27, 28, 61, 62, 63] (by decide +kernel) (by decide +kernel)
set_option maxRecDepth 20000 in
theorem gX11_redeem_X2_redeems_n185 : GoodIn wsX11_redeem (wsX2_redeems) := ggX11_redeem_X2_redeems
set_option maxRecDepth 20000 in
theorem ggX11_redeem_X11_refused : GoodIn wsX11_redeem wsX11_refused := goodIn_r _ [32, 33] (by decide +kernel) (by decide +kernel)
set_option maxRecDepth 20000 in
theorem gX11_redeem_X11_refused : GoodIn wsX11_redeem (va_wsS RX11 108 yX11_refused wsX11_refused) := goodIn_app (goodIn_of _ (by decide +kernel)) ggX11_redeem_X11_refused
set_option maxRecDepth 20000 in
theorem ggX11_redeem_X4_keep : GoodIn wsX11_redeem wsX4_keep := goodIn_r _ [37, 38, 39, 40, 41, 42, 43, 44, 5, 6, 7, 8, 9, 10, 11, 12, 13, 14, 15, 64, 65, 66, 61, 62, 63] (by decide +kernel) (by decide +kernel)
set_option maxRecDepth 20000 in
theorem gX11_redeem_X4_keep_n171 : GoodIn wsX11_redeem (wsX4_keep) := ggX11_redeem_X4_keep
theorem dX11_redeem_0 : decode cX11_redeem 0 = .ok (.aload_n 0, 1) := by decide +kernel
theorem dX11_redeem_1 : decode cX11_redeem 1 = .ok (.getfield 38, 3) := by decide +kernel
theorem dX11_redeem_4 : decode cX11_redeem 4 = .ok (.aload_n 0, 1) := by decide +kernel
theorem dX11_redeem_5 : decode cX11_redeem 5 = .ok (.getfield 34, 3) := by decide +kernel
theorem dX11_redeem_8 : decode cX11_redeem 8 = .ok (.invokevirtual 163, 3) := by decide +kernel
theorem dX11_redeem_11 : decode cX11_redeem 11 = .ok (.aload_n 0, 1) := by decide +kernel
theorem dX11_redeem_12 : decode cX11_redeem 12 = .ok (.getfield 74, 3) := by decide +kernel
theorem dX11_redeem_15 : decode cX11_redeem 15 = .ok (.aload_n 0, 1) := by decide +kernel
theorem dX11_redeem_16 : decode cX11_redeem 16 = .ok (.getfield 34, 3) := by decide +kernel
theorem dX11_redeem_19 : decode cX11_redeem 19 = .ok (.iload_n 1, 1) := by decide +kernel
theorem dX11_redeem_20 : decode cX11_redeem 20 = .ok (.invokevirtual 185, 3) := by decide +kernel
theorem dX11_redeem_23 : decode cX11_redeem 23 = .ok (.istore_n 2, 1) := by decide +kernel
theorem dX11_redeem_24 : decode cX11_redeem 24 = .ok (.iload_n 2, 1) := by decide +kernel
theorem dX11_redeem_25 : decode cX11_redeem 25 = .ok (.ifCond .eq 11, 3) := by decide +kernel
theorem dX11_redeem_28 : decode cX11_redeem 28 = .ok (.bipush 10, 2) := by decide +kernel
theorem dX11_redeem_30 : decode cX11_redeem 30 = .ok (.iload_n 2, 1) := by decide +kernel
theorem dX11_redeem_31 : decode cX11_redeem 31 = .ok (.iadd, 1) := by decide +kernel
theorem dX11_redeem_32 : decode cX11_redeem 32 = .ok (.invokestatic 108, 3) := by decide +kernel
theorem dX11_redeem_35 : decode cX11_redeem 35 = .ok (.ireturn, 1) := by decide +kernel
theorem dX11_redeem_36 : decode cX11_redeem 36 = .ok (.aload_n 0, 1) := by decide +kernel
theorem dX11_redeem_37 : decode cX11_redeem 37 = .ok (.getfield 44, 3) := by decide +kernel
theorem dX11_redeem_40 : decode cX11_redeem 40 = .ok (.aload_n 0, 1) := by decide +kernel
theorem dX11_redeem_41 : decode cX11_redeem 41 = .ok (.getfield 38, 3) := by decide +kernel
theorem dX11_redeem_44 : decode cX11_redeem 44 = .ok (.invokevirtual 171, 3) := by decide +kernel
theorem dX11_redeem_47 : decode cX11_redeem 47 = .ok (.aload_n 0, 1) := by decide +kernel
theorem dX11_redeem_48 : decode cX11_redeem 48 = .ok (.getfield 34, 3) := by decide +kernel
theorem dX11_redeem_51 : decode cX11_redeem 51 = .ok (.getfield 182, 3) := by decide +kernel
theorem dX11_redeem_54 : decode cX11_redeem 54 = .ok (.ireturn, 1) := by decide +kernel
set_option maxRecDepth 20000 in
theorem ggX11_talent_X5_has : GoodIn wsX11_talent wsX5_has := goodIn_r _ [6, 7, 55, 56, 57] (by decide +kernel) (by decide +kernel)
set_option maxRecDepth 20000 in
theorem gX11_talent_X5_has_n136 : GoodIn wsX11_talent (wsX5_has) := ggX11_talent_X5_has
set_option maxRecDepth 20000 in
theorem ggX11_talent_X11_refused : GoodIn wsX11_talent wsX11_refused := goodIn_r _ [11, 12] (by decide +kernel) (by decide +kernel)
set_option maxRecDepth 20000 in
theorem gX11_talent_X11_refused : GoodIn wsX11_talent (va_wsS RX11 108 yX11_refused wsX11_refused) := goodIn_app (goodIn_of _ (by decide +kernel)) ggX11_talent_X11_refused
set_option maxRecDepth 20000 in
theorem ggX11_talent_X5_part : GoodIn wsX11_talent wsX5_part := goodIn_r _ [15, 16, 55, 56, 57] (by decide +kernel) (by decide +kernel)
set_option maxRecDepth 20000 in
theorem gX11_talent_X5_part_n140 : GoodIn wsX11_talent (wsX5_part) := ggX11_talent_X5_part
set_option maxRecDepth 20000 in
theorem ggX11_talent_X4_keep : GoodIn wsX11_talent wsX4_keep := goodIn_r _ [20, 21, 22, 23, 24, 25, 26, 27, 28, 4, 29, 30, 16, 31, 32, 33, 34, 7, 35, 58, 59, 60, 55, 56, 57] (by decide +kernel) (by decide +kernel)
set_option maxRecDepth 20000 in
theorem gX11_talent_X4_keep_n171 : GoodIn wsX11_talent (wsX4_keep) := ggX11_talent_X4_keep
set_option maxRecDepth 20000 in
theorem ggX11_talent_X5_put : GoodIn wsX11_talent wsX5_put := goodIn_r _ [38, 16, 55, 56, 57] (by decide +kernel) (by decide +kernel)
set_option maxRecDepth 20000 in
theorem gX11_talent_X5_put_n189 : GoodIn wsX11_talent (wsX5_put) := ggX11_talent_X5_put
theorem dX11_talent_0 : decode cX11_talent 0 = .ok (.aload_n 0, 1) := by decide +kernel
theorem dX11_talent_1 : decode cX11_talent 1 = .ok (.getfield 34, 3) := by decide +kernel
theorem dX11_talent_4 : decode cX11_talent 4 = .ok (.iload_n 1, 1) := by decide +kernel
theorem dX11_talent_5 : decode cX11_talent 5 = .ok (.invokevirtual 136, 3) := by decide +kernel
theorem dX11_talent_8 : decode cX11_talent 8 = .ok (.ifCond .eq 13, 3) := by decide +kernel
theorem dX11_talent_11 : decode cX11_talent 11 = .ok (.iload_n 2, 1) := by decide +kernel
theorem dX11_talent_12 : decode cX11_talent 12 = .ok (.ifCond .lt 9, 3) := by decide +kernel
theorem dX11_talent_15 : decode cX11_talent 15 = .ok (.iload_n 2, 1) := by decide +kernel
theorem dX11_talent_16 : decode cX11_talent 16 = .ok (.bipush 10, 2) := by decide +kernel
theorem dX11_talent_18 : decode cX11_talent 18 = .ok (.if_icmp .lt 9, 3) := by decide +kernel
theorem dX11_talent_21 : decode cX11_talent 21 = .ok (.bipush 11, 2) := by decide +kernel
theorem dX11_talent_23 : decode cX11_talent 23 = .ok (.invokestatic 108, 3) := by decide +kernel
theorem dX11_talent_26 : decode cX11_talent 26 = .ok (.ireturn, 1) := by decide +kernel
theorem dX11_talent_27 : decode cX11_talent 27 = .ok (.aload_n 0, 1) := by decide +kernel
theorem dX11_talent_28 : decode cX11_talent 28 = .ok (.getfield 34, 3) := by decide +kernel
theorem dX11_talent_31 : decode cX11_talent 31 = .ok (.iload_n 1, 1) := by decide +kernel
theorem dX11_talent_32 : decode cX11_talent 32 = .ok (.bipush 6, 2) := by decide +kernel
theorem dX11_talent_34 : decode cX11_talent 34 = .ok (.invokevirtual 140, 3) := by decide +kernel
theorem dX11_talent_37 : decode cX11_talent 37 = .ok (.istore_n 3, 1) := by decide +kernel
theorem dX11_talent_38 : decode cX11_talent 38 = .ok (.aload_n 0, 1) := by decide +kernel
theorem dX11_talent_39 : decode cX11_talent 39 = .ok (.getfield 44, 3) := by decide +kernel
theorem dX11_talent_42 : decode cX11_talent 42 = .ok (.aload_n 0, 1) := by decide +kernel
theorem dX11_talent_43 : decode cX11_talent 43 = .ok (.getfield 34, 3) := by decide +kernel
theorem dX11_talent_46 : decode cX11_talent 46 = .ok (.invokevirtual 171, 3) := by decide +kernel
theorem dX11_talent_49 : decode cX11_talent 49 = .ok (.aload_n 0, 1) := by decide +kernel
theorem dX11_talent_50 : decode cX11_talent 50 = .ok (.getfield 34, 3) := by decide +kernel
theorem dX11_talent_53 : decode cX11_talent 53 = .ok (.iload_n 1, 1) := by decide +kernel
theorem dX11_talent_54 : decode cX11_talent 54 = .ok (.bipush 6, 2) := by decide +kernel
theorem dX11_talent_56 : decode cX11_talent 56 = .ok (.iload_n 2, 1) := by decide +kernel
theorem dX11_talent_57 : decode cX11_talent 57 = .ok (.invokevirtual 189, 3) := by decide +kernel
theorem dX11_talent_60 : decode cX11_talent 60 = .ok (.iload_n 3, 1) := by decide +kernel
theorem dX11_talent_61 : decode cX11_talent 61 = .ok (.ireturn, 1) := by decide +kernel
set_option maxRecDepth 20000 in
theorem ggX11_undo_X4_bringBack : GoodIn wsX11_undo wsX4_bringBack := goodIn_r _ [6, 7, 8, 9, 10, 11, 12, 13, 14, 15, 16, 17, 18, 19, 20, 21, 22, 23, 24, 46, 47, 48, 49, 50, 51] (by decide +kernel) (by decide +kernel)
set_option maxRecDepth 20000 in
theorem gX11_undo_X4_bringBack_n193 : GoodIn wsX11_undo (wsX4_bringBack) := ggX11_undo_X4_bringBack
set_option maxRecDepth 20000 in
theorem ggX11_undo_X11_refused : GoodIn wsX11_undo wsX11_refused := goodIn_r _ [28, 29] (by decide +kernel) (by decide +kernel)
set_option maxRecDepth 20000 in
theorem gX11_undo_X11_refused : GoodIn wsX11_undo (va_wsS RX11 108 yX11_refused wsX11_refused) := goodIn_app (goodIn_of _ (by decide +kernel)) ggX11_undo_X11_refused
theorem dX11_undo_0 : decode cX11_undo 0 = .ok (.aload_n 0, 1) := by decide +kernel
theorem dX11_undo_1 : decode cX11_undo 1 = .ok (.getfield 44, 3) := by decide +kernel
theorem dX11_undo_4 : decode cX11_undo 4 = .ok (.iload_n 1, 1) := by decide +kernel
theorem dX11_undo_5 : decode cX11_undo 5 = .ok (.aload_n 0, 1) := by decide +kernel
theorem dX11_undo_6 : decode cX11_undo 6 = .ok (.getfield 34, 3) := by decide +kernel
theorem dX11_undo_9 : decode cX11_undo 9 = .ok (.invokevirtual 193, 3) := by decide +kernel
theorem dX11_undo_12 : decode cX11_undo 12 = .ok (.ifCond .ne 8, 3) := by decide +kernel
theorem dX11_undo_15 : decode cX11_undo 15 = .ok (.iconst 3, 1) := by decide +kernel
theorem dX11_undo_16 : decode cX11_undo 16 = .ok (.invokestatic 108, 3) := by decide +kernel
theorem dX11_undo_19 : decode cX11_undo 19 = .ok (.ireturn, 1) := by decide +kernel
theorem dX11_undo_20 : decode cX11_undo 20 = .ok (.aload_n 0, 1) := by decide +kernel
theorem dX11_undo_21 : decode cX11_undo 21 = .ok (.getfield 44, 3) := by decide +kernel
theorem dX11_undo_24 : decode cX11_undo 24 = .ok (.getfield 197, 3) := by decide +kernel
theorem dX11_undo_27 : decode cX11_undo 27 = .ok (.ireturn, 1) := by decide +kernel
set_option maxRecDepth 20000 in
theorem ggX11_judge_X11_trayAt : GoodIn wsX11_judge wsX11_trayAt := goodIn_r _ [9, 10, 120, 121, 122, 123, 124, 125, 126, 127, 128, 129, 130, 131, 132, 133, 134, 135] (by decide +kernel) (by decide +kernel)
set_option maxRecDepth 20000 in
theorem gX11_judge_X11_trayAt : GoodIn wsX11_judge (wsV RX11 200 RX11 yX11_trayAt wsX11_trayAt) := goodIn_app (goodIn_of _ (by decide +kernel)) ggX11_judge_X11_trayAt
set_option maxRecDepth 20000 in
theorem ggX11_judge_X11_refused : GoodIn wsX11_judge wsX11_refused := goodIn_r _ [13, 14] (by decide +kernel) (by decide +kernel)
set_option maxRecDepth 20000 in
theorem gX11_judge_X11_refused : GoodIn wsX11_judge (va_wsS RX11 108 yX11_refused wsX11_refused) := goodIn_app (goodIn_of _ (by decide +kernel)) ggX11_judge_X11_refused
set_option maxRecDepth 20000 in
theorem ggX11_judge_X5_copy : GoodIn wsX11_judge wsX5_copy := goodIn_r _ [18, 19, 20, 21, 22, 23, 24, 25, 139, 140, 141] (by decide +kernel) (by decide +kernel)
set_option maxRecDepth 20000 in
theorem gX11_judge_X5_copy_n163 : GoodIn wsX11_judge (wsX5_copy) := ggX11_judge_X5_copy
set_option maxRecDepth 20000 in
theorem ggX11_judge_X2_doAll : GoodIn wsX11_judge wsX2_doAll := goodIn_r _ [29, 30, 31, 32, 33, 34, 35, 36, 37, 38, 39, 27, 40, 41, 42, 43, 44, 45, 46, 47, 48, 49, 50, 51, 52, 53, 54, 16, 55, 56, 24, 57, 58, 59, 60, 61, 62, 63, 64, 19, 65, 66, 67, 68, 69, 70, 71, 72, 73, 74, 75, 76, 77, 78, 79, 80, 81, 82, 83, 84, 85, 86, 87, 88, 89, 8, 90, 91, 92, 93, 94, 95, 96, 97, 98, 99, 100, 101, 102, 103, 104, 105, 106, 107, 108, 136, 137, 138, 116, 117, 118, 119, 142, 143, 144, 145, 146, 147, 148, 149, 150, 151, 139, 140, 141, 152, 153] (by decide +kernel) (by decide +kernel)
set_option maxRecDepth 20000 in
theorem gX11_judge_X2_doAll_n208 : GoodIn wsX11_judge (wsX2_doAll) := ggX11_judge_X2_doAll
set_option maxRecDepth 20000 in
theorem ggX11_judge_X5_wealth : GoodIn wsX11_judge wsX5_wealth := goodIn_r _ [111, 24, 112, 62, 63, 16, 64, 19, 139, 140, 141] (by decide +kernel) (by decide +kernel)
set_option maxRecDepth 20000 in
theorem gX11_judge_X5_wealth_n216 : GoodIn wsX11_judge (wsX5_wealth) := ggX11_judge_X5_wealth
set_option maxRecDepth 20000 in
theorem ggX11_judge_X5_drawn : GoodIn wsX11_judge wsX5_drawn := goodIn_r _ [115, 24, 112, 62, 63, 16, 64, 19, 139, 140, 141] (by decide +kernel) (by decide +kernel)
set_option maxRecDepth 20000 in
theorem gX11_judge_X5_drawn_n220 : GoodIn wsX11_judge (wsX5_drawn) := ggX11_judge_X5_drawn
theorem dX11_judge_0 : decode cX11_judge 0 = .ok (.aload_n 0, 1) := by decide +kernel
theorem dX11_judge_1 : decode cX11_judge 1 = .ok (.iload_n 1, 1) := by decide +kernel
theorem dX11_judge_2 : decode cX11_judge 2 = .ok (.invokevirtual 200, 3) := by decide +kernel
theorem dX11_judge_5 : decode cX11_judge 5 = .ok (.astore_n 3, 1) := by decide +kernel
theorem dX11_judge_6 : decode cX11_judge 6 = .ok (.aload_n 3, 1) := by decide +kernel
theorem dX11_judge_7 : decode cX11_judge 7 = .ok (.ifnull 12, 3) := by decide +kernel
theorem dX11_judge_10 : decode cX11_judge 10 = .ok (.iload_n 2, 1) := by decide +kernel
theorem dX11_judge_11 : decode cX11_judge 11 = .ok (.ifCond .lt 8, 3) := by decide +kernel
theorem dX11_judge_14 : decode cX11_judge 14 = .ok (.iload_n 2, 1) := by decide +kernel
theorem dX11_judge_15 : decode cX11_judge 15 = .ok (.iconst 3, 1) := by decide +kernel
theorem dX11_judge_16 : decode cX11_judge 16 = .ok (.if_icmp .le 8, 3) := by decide +kernel
theorem dX11_judge_19 : decode cX11_judge 19 = .ok (.iconst 2, 1) := by decide +kernel
theorem dX11_judge_20 : decode cX11_judge 20 = .ok (.invokestatic 108, 3) := by decide +kernel
theorem dX11_judge_23 : decode cX11_judge 23 = .ok (.ireturn, 1) := by decide +kernel
theorem dX11_judge_24 : decode cX11_judge 24 = .ok (.aload_n 3, 1) := by decide +kernel
theorem dX11_judge_25 : decode cX11_judge 25 = .ok (.getfield 204, 3) := by decide +kernel
theorem dX11_judge_28 : decode cX11_judge 28 = .ok (.ifCond .ne 9, 3) := by decide +kernel
theorem dX11_judge_31 : decode cX11_judge 31 = .ok (.bipush 6, 2) := by decide +kernel
theorem dX11_judge_33 : decode cX11_judge 33 = .ok (.invokestatic 108, 3) := by decide +kernel
theorem dX11_judge_36 : decode cX11_judge 36 = .ok (.ireturn, 1) := by decide +kernel
theorem dX11_judge_37 : decode cX11_judge 37 = .ok (.aload_n 0, 1) := by decide +kernel
theorem dX11_judge_38 : decode cX11_judge 38 = .ok (.getfield 38, 3) := by decide +kernel
theorem dX11_judge_41 : decode cX11_judge 41 = .ok (.aload_n 0, 1) := by decide +kernel
theorem dX11_judge_42 : decode cX11_judge 42 = .ok (.getfield 34, 3) := by decide +kernel
theorem dX11_judge_45 : decode cX11_judge 45 = .ok (.invokevirtual 163, 3) := by decide +kernel
theorem dX11_judge_48 : decode cX11_judge 48 = .ok (.aload_n 0, 1) := by decide +kernel
theorem dX11_judge_49 : decode cX11_judge 49 = .ok (.getfield 74, 3) := by decide +kernel
theorem dX11_judge_52 : decode cX11_judge 52 = .ok (.aload_n 0, 1) := by decide +kernel
theorem dX11_judge_53 : decode cX11_judge 53 = .ok (.getfield 27, 3) := by decide +kernel
theorem dX11_judge_56 : decode cX11_judge 56 = .ok (.aload_n 0, 1) := by decide +kernel
theorem dX11_judge_57 : decode cX11_judge 57 = .ok (.getfield 38, 3) := by decide +kernel
theorem dX11_judge_60 : decode cX11_judge 60 = .ok (.aload_n 3, 1) := by decide +kernel
theorem dX11_judge_61 : decode cX11_judge 61 = .ok (.invokevirtual 208, 3) := by decide +kernel
theorem dX11_judge_64 : decode cX11_judge 64 = .ok (.istore 4, 2) := by decide +kernel
theorem dX11_judge_66 : decode cX11_judge 66 = .ok (.iload_n 2, 1) := by decide +kernel
theorem dX11_judge_67 : decode cX11_judge 67 = .ok (.ifCond .ne 19, 3) := by decide +kernel
theorem dX11_judge_70 : decode cX11_judge 70 = .ok (.iload 4, 2) := by decide +kernel
theorem dX11_judge_72 : decode cX11_judge 72 = .ok (.aload_n 3, 1) := by decide +kernel
theorem dX11_judge_73 : decode cX11_judge 73 = .ok (.getfield 212, 3) := by decide +kernel
theorem dX11_judge_76 : decode cX11_judge 76 = .ok (.if_icmp .ge 8, 3) := by decide +kernel
theorem dX11_judge_79 : decode cX11_judge 79 = .ok (.iload 4, 2) := by decide +kernel
theorem dX11_judge_81 : decode cX11_judge 81 = .ok (.goto 4, 3) := by decide +kernel
theorem dX11_judge_84 : decode cX11_judge 84 = .ok (.iconst (-1), 1) := by decide +kernel
theorem dX11_judge_85 : decode cX11_judge 85 = .ok (.ireturn, 1) := by decide +kernel
theorem dX11_judge_86 : decode cX11_judge 86 = .ok (.iload_n 2, 1) := by decide +kernel
theorem dX11_judge_87 : decode cX11_judge 87 = .ok (.iconst 1, 1) := by decide +kernel
theorem dX11_judge_88 : decode cX11_judge 88 = .ok (.if_icmp .ne 11, 3) := by decide +kernel
theorem dX11_judge_91 : decode cX11_judge 91 = .ok (.aload_n 0, 1) := by decide +kernel
theorem dX11_judge_92 : decode cX11_judge 92 = .ok (.getfield 74, 3) := by decide +kernel
theorem dX11_judge_95 : decode cX11_judge 95 = .ok (.getfield 213, 3) := by decide +kernel
theorem dX11_judge_98 : decode cX11_judge 98 = .ok (.ireturn, 1) := by decide +kernel
theorem dX11_judge_99 : decode cX11_judge 99 = .ok (.iload_n 2, 1) := by decide +kernel
theorem dX11_judge_100 : decode cX11_judge 100 = .ok (.iconst 2, 1) := by decide +kernel
theorem dX11_judge_101 : decode cX11_judge 101 = .ok (.if_icmp .ne 13, 3) := by decide +kernel
theorem dX11_judge_104 : decode cX11_judge 104 = .ok (.aload_n 0, 1) := by decide +kernel
theorem dX11_judge_105 : decode cX11_judge 105 = .ok (.getfield 38, 3) := by decide +kernel
theorem dX11_judge_108 : decode cX11_judge 108 = .ok (.invokevirtual 216, 3) := by decide +kernel
theorem dX11_judge_111 : decode cX11_judge 111 = .ok (.goto 10, 3) := by decide +kernel
theorem dX11_judge_114 : decode cX11_judge 114 = .ok (.aload_n 0, 1) := by decide +kernel
theorem dX11_judge_115 : decode cX11_judge 115 = .ok (.getfield 38, 3) := by decide +kernel
theorem dX11_judge_118 : decode cX11_judge 118 = .ok (.invokevirtual 220, 3) := by decide +kernel
theorem dX11_judge_121 : decode cX11_judge 121 = .ok (.ireturn, 1) := by decide +kernel
set_option maxRecDepth 20000 in
theorem ggX11_perform_X11_trayAt : GoodIn wsX11_perform wsX11_trayAt := goodIn_r _ [10, 11, 125, 126, 127, 128, 129, 130, 131, 132, 133, 134, 135, 136, 137, 138, 139, 140] (by decide +kernel) (by decide +kernel)
set_option maxRecDepth 20000 in
theorem gX11_perform_X11_trayAt : GoodIn wsX11_perform (wsV RX11 200 RX11 yX11_trayAt wsX11_trayAt) := goodIn_app (goodIn_of _ (by decide +kernel)) ggX11_perform_X11_trayAt
set_option maxRecDepth 20000 in
theorem ggX11_perform_X11_refused : GoodIn wsX11_perform wsX11_refused := goodIn_r _ [14, 15] (by decide +kernel) (by decide +kernel)
set_option maxRecDepth 20000 in
theorem gX11_perform_X11_refused : GoodIn wsX11_perform (va_wsS RX11 108 yX11_refused wsX11_refused) := goodIn_app (goodIn_of _ (by decide +kernel)) ggX11_perform_X11_refused
set_option maxRecDepth 20000 in
theorem ggX11_perform_X5_copy : GoodIn wsX11_perform wsX5_copy := goodIn_r _ [19, 20, 21, 22, 23, 24, 25, 26, 141, 142, 143] (by decide +kernel) (by decide +kernel)
set_option maxRecDepth 20000 in
theorem gX11_perform_X5_copy_n163 : GoodIn wsX11_perform (wsX5_copy) := ggX11_perform_X5_copy
set_option maxRecDepth 20000 in
theorem ggX11_perform_X2_doAll : GoodIn wsX11_perform wsX2_doAll := goodIn_r _ [30, 31, 32, 33, 34, 35, 36, 37, 38, 39, 40, 28, 41, 42, 43, 44, 45, 46, 47, 48, 49, 50, 51, 52, 53, 54, 55, 17, 56, 57, 25, 58, 59, 60, 61, 62, 63, 64, 65, 20, 66, 67, 68, 69, 70, 71, 72, 73, 74, 75, 76, 77, 78, 79, 80, 81, 82, 83, 84, 85, 86, 87, 88, 89, 90, 9, 91, 92, 93, 94, 95, 96, 97, 98, 99, 100, 101, 102, 103, 104, 105, 106, 107, 108, 109, 144, 145, 146, 121, 122, 123, 124, 147, 148, 149, 150, 151, 152, 153, 154, 155, 156, 141, 142, 143, 157, 158] (by decide +kernel) (by decide +kernel)
set_option maxRecDepth 20000 in
theorem gX11_perform_X2_doAll_n208 : GoodIn wsX11_perform (wsX2_doAll) := ggX11_perform_X2_doAll
set_option maxRecDepth 20000 in
theorem ggX11_perform_X4_keep : GoodIn wsX11_perform wsX4_keep := goodIn_r _ [113, 114, 115, 116, 117, 118, 119, 120, 16, 17, 18, 19, 20, 21, 22, 23, 24, 25, 26, 159, 160, 161, 141, 142, 143] (by decide +kernel) (by decide +kernel)
set_option maxRecDepth 20000 in
theorem gX11_perform_X4_keep_n171 : GoodIn wsX11_perform (wsX4_keep) := ggX11_perform_X4_keep
theorem dX11_perform_0 : decode cX11_perform 0 = .ok (.aload_n 0, 1) := by decide +kernel
theorem dX11_perform_1 : decode cX11_perform 1 = .ok (.iload_n 1, 1) := by decide +kernel
theorem dX11_perform_2 : decode cX11_perform 2 = .ok (.invokevirtual 200, 3) := by decide +kernel
theorem dX11_perform_5 : decode cX11_perform 5 = .ok (.astore_n 2, 1) := by decide +kernel
theorem dX11_perform_6 : decode cX11_perform 6 = .ok (.aload_n 2, 1) := by decide +kernel
theorem dX11_perform_7 : decode cX11_perform 7 = .ok (.ifnonnull 8, 3) := by decide +kernel
theorem dX11_perform_10 : decode cX11_perform 10 = .ok (.iconst 2, 1) := by decide +kernel
theorem dX11_perform_11 : decode cX11_perform 11 = .ok (.invokestatic 108, 3) := by decide +kernel
theorem dX11_perform_14 : decode cX11_perform 14 = .ok (.ireturn, 1) := by decide +kernel
theorem dX11_perform_15 : decode cX11_perform 15 = .ok (.aload_n 2, 1) := by decide +kernel
theorem dX11_perform_16 : decode cX11_perform 16 = .ok (.getfield 204, 3) := by decide +kernel
theorem dX11_perform_19 : decode cX11_perform 19 = .ok (.ifCond .ne 9, 3) := by decide +kernel
theorem dX11_perform_22 : decode cX11_perform 22 = .ok (.bipush 6, 2) := by decide +kernel
theorem dX11_perform_24 : decode cX11_perform 24 = .ok (.invokestatic 108, 3) := by decide +kernel
theorem dX11_perform_27 : decode cX11_perform 27 = .ok (.ireturn, 1) := by decide +kernel
theorem dX11_perform_28 : decode cX11_perform 28 = .ok (.aload_n 0, 1) := by decide +kernel
theorem dX11_perform_29 : decode cX11_perform 29 = .ok (.getfield 38, 3) := by decide +kernel
theorem dX11_perform_32 : decode cX11_perform 32 = .ok (.aload_n 0, 1) := by decide +kernel
theorem dX11_perform_33 : decode cX11_perform 33 = .ok (.getfield 34, 3) := by decide +kernel
theorem dX11_perform_36 : decode cX11_perform 36 = .ok (.invokevirtual 163, 3) := by decide +kernel
theorem dX11_perform_39 : decode cX11_perform 39 = .ok (.aload_n 0, 1) := by decide +kernel
theorem dX11_perform_40 : decode cX11_perform 40 = .ok (.getfield 74, 3) := by decide +kernel
theorem dX11_perform_43 : decode cX11_perform 43 = .ok (.aload_n 0, 1) := by decide +kernel
theorem dX11_perform_44 : decode cX11_perform 44 = .ok (.getfield 27, 3) := by decide +kernel
theorem dX11_perform_47 : decode cX11_perform 47 = .ok (.aload_n 0, 1) := by decide +kernel
theorem dX11_perform_48 : decode cX11_perform 48 = .ok (.getfield 34, 3) := by decide +kernel
theorem dX11_perform_51 : decode cX11_perform 51 = .ok (.aload_n 2, 1) := by decide +kernel
theorem dX11_perform_52 : decode cX11_perform 52 = .ok (.invokevirtual 208, 3) := by decide +kernel
theorem dX11_perform_55 : decode cX11_perform 55 = .ok (.istore_n 3, 1) := by decide +kernel
theorem dX11_perform_56 : decode cX11_perform 56 = .ok (.iload_n 3, 1) := by decide +kernel
theorem dX11_perform_57 : decode cX11_perform 57 = .ok (.ifCond .le 14, 3) := by decide +kernel
theorem dX11_perform_60 : decode cX11_perform 60 = .ok (.aload_n 0, 1) := by decide +kernel
theorem dX11_perform_61 : decode cX11_perform 61 = .ok (.getfield 44, 3) := by decide +kernel
theorem dX11_perform_64 : decode cX11_perform 64 = .ok (.aload_n 0, 1) := by decide +kernel
theorem dX11_perform_65 : decode cX11_perform 65 = .ok (.getfield 38, 3) := by decide +kernel
theorem dX11_perform_68 : decode cX11_perform 68 = .ok (.invokevirtual 171, 3) := by decide +kernel
theorem dX11_perform_71 : decode cX11_perform 71 = .ok (.iload_n 3, 1) := by decide +kernel
theorem dX11_perform_72 : decode cX11_perform 72 = .ok (.ireturn, 1) := by decide +kernel
set_option maxRecDepth 20000 in
theorem ggX11_season_X11_refused : GoodIn wsX11_season wsX11_refused := goodIn_r _ [9, 10] (by decide +kernel) (by decide +kernel)
set_option maxRecDepth 20000 in
theorem gX11_season_X11_refused : GoodIn wsX11_season (va_wsS RX11 108 yX11_refused wsX11_refused) := goodIn_app (goodIn_of _ (by decide +kernel)) ggX11_season_X11_refused
set_option maxRecDepth 20000 in
theorem ggX11_season_X5_copy : GoodIn wsX11_season wsX5_copy := goodIn_r _ [14, 15, 16, 17, 18, 19, 20, 21, 119, 120, 121] (by decide +kernel) (by decide +kernel)
set_option maxRecDepth 20000 in
theorem gX11_season_X5_copy_n163 : GoodIn wsX11_season (wsX5_copy) := ggX11_season_X5_copy
set_option maxRecDepth 20000 in
theorem ggX11_season_X2_doSeason : GoodIn wsX11_season wsX2_doSeason := goodIn_r _ [25, 26, 27, 28, 29, 23, 30, 31, 32, 33, 34, 35, 36, 37, 38, 39, 40, 41, 12, 42, 43, 20, 44, 45, 46, 47, 48, 49, 50, 51, 15, 52, 53, 54, 55, 56, 57, 58, 59, 60, 61, 62, 63, 64, 65, 66, 67, 68, 69, 70, 71, 72, 73, 74, 75, 76, 8, 77, 78, 79, 80, 81, 82, 83, 84, 85, 86, 87, 88, 89, 90, 91, 122, 123, 124, 125, 126, 127, 128, 129, 130, 131, 132, 133, 134, 119, 120, 121, 135, 136] (by decide +kernel) (by decide +kernel)
set_option maxRecDepth 20000 in
theorem gX11_season_X2_doSeason_n223 : GoodIn wsX11_season (wsX2_doSeason) := ggX11_season_X2_doSeason
set_option maxRecDepth 20000 in
theorem ggX11_season_X4_keep : GoodIn wsX11_season wsX4_keep := goodIn_r _ [95, 96, 97, 98, 99, 100, 101, 102, 11, 12, 13, 14, 15, 16, 17, 18, 19, 20, 21, 137, 138, 139, 119, 120, 121] (by decide +kernel) (by decide +kernel)
set_option maxRecDepth 20000 in
theorem gX11_season_X4_keep_n171 : GoodIn wsX11_season (wsX4_keep) := ggX11_season_X4_keep
theorem dX11_season_0 : decode cX11_season 0 = .ok (.iload_n 2, 1) := by decide +kernel
theorem dX11_season_1 : decode cX11_season 1 = .ok (.iconst 1, 1) := by decide +kernel
theorem dX11_season_2 : decode cX11_season 2 = .ok (.if_icmp .lt 9, 3) := by decide +kernel
theorem dX11_season_5 : decode cX11_season 5 = .ok (.iload_n 2, 1) := by decide +kernel
theorem dX11_season_6 : decode cX11_season 6 = .ok (.bipush 40, 2) := by decide +kernel
theorem dX11_season_8 : decode cX11_season 8 = .ok (.if_icmp .le 8, 3) := by decide +kernel
theorem dX11_season_11 : decode cX11_season 11 = .ok (.iconst 3, 1) := by decide +kernel
theorem dX11_season_12 : decode cX11_season 12 = .ok (.invokestatic 108, 3) := by decide +kernel
theorem dX11_season_15 : decode cX11_season 15 = .ok (.ireturn, 1) := by decide +kernel
theorem dX11_season_16 : decode cX11_season 16 = .ok (.aload_n 0, 1) := by decide +kernel
theorem dX11_season_17 : decode cX11_season 17 = .ok (.getfield 38, 3) := by decide +kernel
theorem dX11_season_20 : decode cX11_season 20 = .ok (.aload_n 0, 1) := by decide +kernel
theorem dX11_season_21 : decode cX11_season 21 = .ok (.getfield 34, 3) := by decide +kernel
theorem dX11_season_24 : decode cX11_season 24 = .ok (.invokevirtual 163, 3) := by decide +kernel
theorem dX11_season_27 : decode cX11_season 27 = .ok (.aload_n 0, 1) := by decide +kernel
theorem dX11_season_28 : decode cX11_season 28 = .ok (.getfield 74, 3) := by decide +kernel
theorem dX11_season_31 : decode cX11_season 31 = .ok (.aload_n 0, 1) := by decide +kernel
theorem dX11_season_32 : decode cX11_season 32 = .ok (.getfield 27, 3) := by decide +kernel
theorem dX11_season_35 : decode cX11_season 35 = .ok (.aload_n 0, 1) := by decide +kernel
theorem dX11_season_36 : decode cX11_season 36 = .ok (.getfield 34, 3) := by decide +kernel
theorem dX11_season_39 : decode cX11_season 39 = .ok (.iload_n 1, 1) := by decide +kernel
theorem dX11_season_40 : decode cX11_season 40 = .ok (.iload_n 2, 1) := by decide +kernel
theorem dX11_season_41 : decode cX11_season 41 = .ok (.invokevirtual 223, 3) := by decide +kernel
theorem dX11_season_44 : decode cX11_season 44 = .ok (.istore_n 3, 1) := by decide +kernel
theorem dX11_season_45 : decode cX11_season 45 = .ok (.iload_n 3, 1) := by decide +kernel
theorem dX11_season_46 : decode cX11_season 46 = .ok (.ifCond .le 14, 3) := by decide +kernel
theorem dX11_season_49 : decode cX11_season 49 = .ok (.aload_n 0, 1) := by decide +kernel
theorem dX11_season_50 : decode cX11_season 50 = .ok (.getfield 44, 3) := by decide +kernel
theorem dX11_season_53 : decode cX11_season 53 = .ok (.aload_n 0, 1) := by decide +kernel
theorem dX11_season_54 : decode cX11_season 54 = .ok (.getfield 38, 3) := by decide +kernel
theorem dX11_season_57 : decode cX11_season 57 = .ok (.invokevirtual 171, 3) := by decide +kernel
theorem dX11_season_60 : decode cX11_season 60 = .ok (.iload_n 3, 1) := by decide +kernel
theorem dX11_season_61 : decode cX11_season 61 = .ok (.ireturn, 1) := by decide +kernel
set_option maxRecDepth 20000 in
theorem ggX11_best_X5_has : GoodIn wsX11_best wsX5_has := goodIn_r _ [8, 9, 160, 161, 162] (by decide +kernel) (by decide +kernel)
set_option maxRecDepth 20000 in
theorem gX11_best_X5_has_n136 : GoodIn wsX11_best (wsX5_has) := ggX11_best_X5_has
set_option maxRecDepth 20000 in
theorem ggX11_best_X11_refused : GoodIn wsX11_best wsX11_refused := goodIn_r _ [13, 14] (by decide +kernel) (by decide +kernel)
set_option maxRecDepth 20000 in
theorem gX11_best_X11_refused : GoodIn wsX11_best (va_wsS RX11 108 yX11_refused wsX11_refused) := goodIn_app (goodIn_of _ (by decide +kernel)) ggX11_best_X11_refused
set_option maxRecDepth 20000 in
theorem ggX11_best_X10_about : GoodIn wsX11_best wsX10_about := goodIn_r _ [18, 19, 20, 21, 22, 23, 24, 25, 26, 27, 6, 28, 29, 30, 31, 32, 16, 33, 34, 35, 36, 37, 38, 39, 40, 41, 42, 43, 44, 45, 46, 47, 48, 49, 50, 51, 52, 53, 54, 55, 12, 56, 151, 152, 153, 154, 155, 156, 157, 158, 159, 163, 164, 160, 161, 162, 165, 166, 167, 168, 169, 170, 171, 172, 173, 174] (by decide +kernel) (by decide +kernel)
set_option maxRecDepth 20000 in
theorem gX11_best_X10_about_n227 : GoodIn wsX11_best (wsX10_about) := ggX11_best_X10_about
set_option maxRecDepth 20000 in
theorem ggX11_best_X1_mostFrom : GoodIn wsX11_best wsX1_mostFrom := goodIn_r _ [60, 61, 62, 63, 58, 64, 65, 66, 67, 68, 69, 70, 71, 72, 73, 74, 75, 76, 77, 16, 78, 79, 21, 80, 81, 82, 83, 84, 85, 86, 87, 88, 89, 90, 91, 92, 93, 94, 95, 96, 97, 98, 99, 100, 101, 22, 102, 103, 104, 24, 105, 25, 106, 107, 108, 109, 110, 111, 112, 113, 114, 115, 116, 117, 118, 119, 120, 121, 122, 35, 123, 124, 47, 38, 39, 40, 41, 42, 43, 44, 45, 46, 48, 49, 50, 51, 52, 53, 54, 55, 12, 56, 125, 126, 127, 128, 129, 130, 23, 131, 132, 133, 134, 26, 175, 176, 177, 178, 151, 152, 153, 154, 155, 156, 157, 158, 159, 179, 165, 166, 167, 168, 169, 170, 171, 172, 173, 174, 163, 164] (by decide +kernel) (by decide +kernel)
set_option maxRecDepth 20000 in
theorem gX11_best_X1_mostFrom_n233 : GoodIn wsX11_best (wsX1_mostFrom) := ggX11_best_X1_mostFrom
theorem dX11_best_0 : decode cX11_best 0 = .ok (.aload_n 0, 1) := by decide +kernel
theorem dX11_best_1 : decode cX11_best 1 = .ok (.getfield 34, 3) := by decide +kernel
theorem dX11_best_4 : decode cX11_best 4 = .ok (.iload_n 1, 1) := by decide +kernel
theorem dX11_best_5 : decode cX11_best 5 = .ok (.invokevirtual 136, 3) := by decide +kernel
theorem dX11_best_8 : decode cX11_best 8 = .ok (.ifCond .ne 8, 3) := by decide +kernel
theorem dX11_best_11 : decode cX11_best 11 = .ok (.iconst 2, 1) := by decide +kernel
theorem dX11_best_12 : decode cX11_best 12 = .ok (.invokestatic 108, 3) := by decide +kernel
theorem dX11_best_15 : decode cX11_best 15 = .ok (.ireturn, 1) := by decide +kernel
theorem dX11_best_16 : decode cX11_best 16 = .ok (.aload_n 0, 1) := by decide +kernel
theorem dX11_best_17 : decode cX11_best 17 = .ok (.getfield 81, 3) := by decide +kernel
theorem dX11_best_20 : decode cX11_best 20 = .ok (.aload_n 0, 1) := by decide +kernel
theorem dX11_best_21 : decode cX11_best 21 = .ok (.getfield 27, 3) := by decide +kernel
theorem dX11_best_24 : decode cX11_best 24 = .ok (.aload_n 0, 1) := by decide +kernel
theorem dX11_best_25 : decode cX11_best 25 = .ok (.getfield 34, 3) := by decide +kernel
theorem dX11_best_28 : decode cX11_best 28 = .ok (.iload_n 1, 1) := by decide +kernel
theorem dX11_best_29 : decode cX11_best 29 = .ok (.invokevirtual 227, 3) := by decide +kernel
theorem dX11_best_32 : decode cX11_best 32 = .ok (.aload_n 0, 1) := by decide +kernel
theorem dX11_best_33 : decode cX11_best 33 = .ok (.getfield 90, 3) := by decide +kernel
theorem dX11_best_36 : decode cX11_best 36 = .ok (.aload_n 0, 1) := by decide +kernel
theorem dX11_best_37 : decode cX11_best 37 = .ok (.getfield 81, 3) := by decide +kernel
theorem dX11_best_40 : decode cX11_best 40 = .ok (.getfield 230, 3) := by decide +kernel
theorem dX11_best_43 : decode cX11_best 43 = .ok (.invokevirtual 233, 3) := by decide +kernel
theorem dX11_best_46 : decode cX11_best 46 = .ok (.ireturn, 1) := by decide +kernel
set_option maxRecDepth 20000 in
theorem ggX11_course_X5_has : GoodIn wsX11_course wsX5_has := goodIn_r _ [8, 9, 158, 159, 160] (by decide +kernel) (by decide +kernel)
set_option maxRecDepth 20000 in
theorem gX11_course_X5_has_n136 : GoodIn wsX11_course (wsX5_has) := ggX11_course_X5_has
set_option maxRecDepth 20000 in
theorem ggX11_course_X11_refused : GoodIn wsX11_course wsX11_refused := goodIn_r _ [13, 14] (by decide +kernel) (by decide +kernel)
set_option maxRecDepth 20000 in
theorem gX11_course_X11_refused : GoodIn wsX11_course (va_wsS RX11 108 yX11_refused wsX11_refused) := goodIn_app (goodIn_of _ (by decide +kernel)) ggX11_course_X11_refused
set_option maxRecDepth 20000 in
theorem ggX11_course_X10_about : GoodIn wsX11_course wsX10_about := goodIn_r _ [18, 19, 20, 21, 22, 23, 24, 25, 26, 27, 6, 28, 29, 30, 31, 32, 16, 33, 34, 35, 36, 37, 38, 39, 40, 41, 42, 43, 44, 45, 46, 47, 48, 49, 50, 51, 52, 53, 54, 55, 12, 56, 161, 162, 163, 164, 165, 166, 167, 168, 169, 170, 171, 158, 159, 160, 172, 173, 174, 175, 176, 177, 178, 179, 180, 181] (by decide +kernel) (by decide +kernel)
set_option maxRecDepth 20000 in
theorem gX11_course_X10_about_n227 : GoodIn wsX11_course (wsX10_about) := ggX11_course_X10_about
set_option maxRecDepth 20000 in
theorem ggX11_course_X1_doingAt : GoodIn wsX11_course wsX1_doingAt := goodIn_r _ [60, 61, 62, 63, 64, 58, 65, 66, 67, 68, 69, 70, 71, 72, 73, 74, 75, 76, 77, 16, 78, 79, 21, 80, 81, 82, 83, 84, 85, 86, 87, 88, 89, 90, 91, 92, 93, 94, 95, 96, 97, 98, 99, 100, 101, 22, 102, 103, 104, 24, 105, 25, 106, 107, 108, 109, 110, 111, 112, 113, 114, 115, 116, 117, 118, 119, 120, 121, 122, 35, 123, 124, 47, 38, 39, 40, 41, 42, 43, 44, 45, 46, 48, 49, 50, 51, 52, 53, 54, 55, 12, 56, 125, 126, 127, 128, 129, 130, 23, 131, 132, 133, 134, 26, 135, 136, 137, 138, 139, 140, 141, 182, 183, 184, 185, 161, 162, 163, 164, 165, 166, 167, 168, 169, 186, 172, 173, 174, 175, 176, 177, 178, 179, 180, 181, 170, 171] (by decide +kernel) (by decide +kernel)
set_option maxRecDepth 20000 in
theorem gX11_course_X1_doingAt_n236 : GoodIn wsX11_course (wsX1_doingAt) := ggX11_course_X1_doingAt
theorem dX11_course_0 : decode cX11_course 0 = .ok (.aload_n 0, 1) := by decide +kernel
theorem dX11_course_1 : decode cX11_course 1 = .ok (.getfield 34, 3) := by decide +kernel
theorem dX11_course_4 : decode cX11_course 4 = .ok (.iload_n 1, 1) := by decide +kernel
theorem dX11_course_5 : decode cX11_course 5 = .ok (.invokevirtual 136, 3) := by decide +kernel
theorem dX11_course_8 : decode cX11_course 8 = .ok (.ifCond .ne 8, 3) := by decide +kernel
theorem dX11_course_11 : decode cX11_course 11 = .ok (.iconst 2, 1) := by decide +kernel
theorem dX11_course_12 : decode cX11_course 12 = .ok (.invokestatic 108, 3) := by decide +kernel
theorem dX11_course_15 : decode cX11_course 15 = .ok (.ireturn, 1) := by decide +kernel
theorem dX11_course_16 : decode cX11_course 16 = .ok (.iload_n 2, 1) := by decide +kernel
theorem dX11_course_17 : decode cX11_course 17 = .ok (.ifCond .ge 8, 3) := by decide +kernel
theorem dX11_course_20 : decode cX11_course 20 = .ok (.iconst 3, 1) := by decide +kernel
theorem dX11_course_21 : decode cX11_course 21 = .ok (.invokestatic 108, 3) := by decide +kernel
theorem dX11_course_24 : decode cX11_course 24 = .ok (.ireturn, 1) := by decide +kernel
theorem dX11_course_25 : decode cX11_course 25 = .ok (.aload_n 0, 1) := by decide +kernel
theorem dX11_course_26 : decode cX11_course 26 = .ok (.getfield 81, 3) := by decide +kernel
theorem dX11_course_29 : decode cX11_course 29 = .ok (.aload_n 0, 1) := by decide +kernel
theorem dX11_course_30 : decode cX11_course 30 = .ok (.getfield 27, 3) := by decide +kernel
theorem dX11_course_33 : decode cX11_course 33 = .ok (.aload_n 0, 1) := by decide +kernel
theorem dX11_course_34 : decode cX11_course 34 = .ok (.getfield 34, 3) := by decide +kernel
theorem dX11_course_37 : decode cX11_course 37 = .ok (.iload_n 1, 1) := by decide +kernel
theorem dX11_course_38 : decode cX11_course 38 = .ok (.invokevirtual 227, 3) := by decide +kernel
theorem dX11_course_41 : decode cX11_course 41 = .ok (.aload_n 0, 1) := by decide +kernel
theorem dX11_course_42 : decode cX11_course 42 = .ok (.getfield 90, 3) := by decide +kernel
theorem dX11_course_45 : decode cX11_course 45 = .ok (.iload_n 2, 1) := by decide +kernel
theorem dX11_course_46 : decode cX11_course 46 = .ok (.invokevirtual 236, 3) := by decide +kernel
theorem dX11_course_49 : decode cX11_course 49 = .ok (.ireturn, 1) := by decide +kernel
set_option maxRecDepth 20000 in
theorem ggX11_drawsAt_X5_has : GoodIn wsX11_drawsAt wsX5_has := goodIn_r _ [8, 9, 158, 159, 160] (by decide +kernel) (by decide +kernel)
set_option maxRecDepth 20000 in
theorem gX11_drawsAt_X5_has_n136 : GoodIn wsX11_drawsAt (wsX5_has) := ggX11_drawsAt_X5_has
set_option maxRecDepth 20000 in
theorem ggX11_drawsAt_X11_refused : GoodIn wsX11_drawsAt wsX11_refused := goodIn_r _ [13, 14] (by decide +kernel) (by decide +kernel)
set_option maxRecDepth 20000 in
theorem gX11_drawsAt_X11_refused : GoodIn wsX11_drawsAt (va_wsS RX11 108 yX11_refused wsX11_refused) := goodIn_app (goodIn_of _ (by decide +kernel)) ggX11_drawsAt_X11_refused
set_option maxRecDepth 20000 in
theorem ggX11_drawsAt_X10_about : GoodIn wsX11_drawsAt wsX10_about := goodIn_r _ [18, 19, 20, 21, 22, 23, 24, 25, 26, 27, 6, 28, 29, 30, 31, 32, 16, 33, 34, 35, 36, 37, 38, 39, 40, 41, 42, 43, 44, 45, 46, 47, 48, 49, 50, 51, 52, 53, 54, 55, 12, 56, 161, 162, 163, 164, 165, 166, 167, 168, 169, 170, 171, 158, 159, 160, 172, 173, 174, 175, 176, 177, 178, 179, 180, 181] (by decide +kernel) (by decide +kernel)
set_option maxRecDepth 20000 in
theorem gX11_drawsAt_X10_about_n227 : GoodIn wsX11_drawsAt (wsX10_about) := ggX11_drawsAt_X10_about
set_option maxRecDepth 20000 in
theorem ggX11_drawsAt_X1_drawingYear : GoodIn wsX11_drawsAt wsX1_drawingYear := goodIn_r _ [60, 61, 62, 63, 64, 58, 65, 66, 67, 68, 69, 70, 71, 72, 73, 74, 75, 76, 77, 16, 78, 79, 21, 80, 81, 82, 83, 84, 85, 86, 87, 88, 89, 90, 91, 92, 93, 94, 95, 96, 97, 98, 99, 100, 101, 22, 102, 103, 104, 24, 105, 25, 106, 107, 108, 109, 110, 111, 112, 113, 114, 115, 116, 117, 118, 119, 120, 121, 122, 35, 123, 124, 47, 38, 39, 40, 41, 42, 43, 44, 45, 46, 48, 49, 50, 51, 52, 53, 54, 55, 12, 56, 125, 126, 127, 128, 129, 130, 23, 131, 132, 133, 134, 26, 135, 136, 137, 138, 139, 140, 141, 182, 183, 184, 185, 161, 162, 163, 164, 165, 166, 167, 168, 169, 186, 172, 173, 174, 175, 176, 177, 178, 179, 180, 181, 170, 171] (by decide +kernel) (by decide +kernel)
set_option maxRecDepth 20000 in
theorem gX11_drawsAt_X1_drawingYear_n239 : GoodIn wsX11_drawsAt (wsX1_drawingYear) := ggX11_drawsAt_X1_drawingYear
theorem dX11_drawsAt_0 : decode cX11_drawsAt 0 = .ok (.aload_n 0, 1) := by decide +kernel
theorem dX11_drawsAt_1 : decode cX11_drawsAt 1 = .ok (.getfield 34, 3) := by decide +kernel
theorem dX11_drawsAt_4 : decode cX11_drawsAt 4 = .ok (.iload_n 1, 1) := by decide +kernel
theorem dX11_drawsAt_5 : decode cX11_drawsAt 5 = .ok (.invokevirtual 136, 3) := by decide +kernel
theorem dX11_drawsAt_8 : decode cX11_drawsAt 8 = .ok (.ifCond .ne 8, 3) := by decide +kernel
theorem dX11_drawsAt_11 : decode cX11_drawsAt 11 = .ok (.iconst 2, 1) := by decide +kernel
theorem dX11_drawsAt_12 : decode cX11_drawsAt 12 = .ok (.invokestatic 108, 3) := by decide +kernel
theorem dX11_drawsAt_15 : decode cX11_drawsAt 15 = .ok (.ireturn, 1) := by decide +kernel
theorem dX11_drawsAt_16 : decode cX11_drawsAt 16 = .ok (.aload_n 0, 1) := by decide +kernel
theorem dX11_drawsAt_17 : decode cX11_drawsAt 17 = .ok (.getfield 81, 3) := by decide +kernel
theorem dX11_drawsAt_20 : decode cX11_drawsAt 20 = .ok (.aload_n 0, 1) := by decide +kernel
theorem dX11_drawsAt_21 : decode cX11_drawsAt 21 = .ok (.getfield 27, 3) := by decide +kernel
theorem dX11_drawsAt_24 : decode cX11_drawsAt 24 = .ok (.aload_n 0, 1) := by decide +kernel
theorem dX11_drawsAt_25 : decode cX11_drawsAt 25 = .ok (.getfield 34, 3) := by decide +kernel
theorem dX11_drawsAt_28 : decode cX11_drawsAt 28 = .ok (.iload_n 1, 1) := by decide +kernel
theorem dX11_drawsAt_29 : decode cX11_drawsAt 29 = .ok (.invokevirtual 227, 3) := by decide +kernel
theorem dX11_drawsAt_32 : decode cX11_drawsAt 32 = .ok (.aload_n 0, 1) := by decide +kernel
theorem dX11_drawsAt_33 : decode cX11_drawsAt 33 = .ok (.getfield 90, 3) := by decide +kernel
theorem dX11_drawsAt_36 : decode cX11_drawsAt 36 = .ok (.invokevirtual 239, 3) := by decide +kernel
theorem dX11_drawsAt_39 : decode cX11_drawsAt 39 = .ok (.ireturn, 1) := by decide +kernel
set_option maxRecDepth 20000 in
theorem ggX11_courses_X5_has : GoodIn wsX11_courses wsX5_has := goodIn_r _ [8, 9, 89, 90, 91] (by decide +kernel) (by decide +kernel)
set_option maxRecDepth 20000 in
theorem gX11_courses_X5_has_n136 : GoodIn wsX11_courses (wsX5_has) := ggX11_courses_X5_has
set_option maxRecDepth 20000 in
theorem ggX11_courses_X11_refused : GoodIn wsX11_courses wsX11_refused := goodIn_r _ [13, 14] (by decide +kernel) (by decide +kernel)
set_option maxRecDepth 20000 in
theorem gX11_courses_X11_refused : GoodIn wsX11_courses (va_wsS RX11 108 yX11_refused wsX11_refused) := goodIn_app (goodIn_of _ (by decide +kernel)) ggX11_courses_X11_refused
set_option maxRecDepth 20000 in
theorem ggX11_courses_X10_about : GoodIn wsX11_courses wsX10_about := goodIn_r _ [18, 19, 20, 21, 22, 23, 24, 25, 26, 27, 6, 28, 29, 30, 31, 32, 16, 33, 34, 35, 36, 37, 38, 39, 40, 41, 42, 43, 44, 45, 46, 47, 48, 49, 50, 51, 52, 53, 54, 55, 12, 56, 92, 93, 94, 95, 96, 97, 98, 99, 100, 101, 102, 89, 90, 91, 103, 104, 105, 106, 107, 108, 109, 110, 111, 112] (by decide +kernel) (by decide +kernel)
set_option maxRecDepth 20000 in
theorem gX11_courses_X10_about_n227 : GoodIn wsX11_courses (wsX10_about) := ggX11_courses_X10_about
set_option maxRecDepth 20000 in
theorem ggX11_courses_X1_howMany : GoodIn wsX11_courses wsX1_howMany := goodIn_r _ [60, 61, 62, 16, 63, 64, 65, 66, 67, 68, 58, 69, 70, 71, 72, 26, 113, 114, 115, 116, 92, 93, 94, 95, 96, 97, 98, 99, 100, 103, 104, 105, 106, 107, 108, 109, 110, 111, 112] (by decide +kernel) (by decide +kernel)
set_option maxRecDepth 20000 in
theorem gX11_courses_X1_howMany_n242 : GoodIn wsX11_courses (wsX1_howMany) := ggX11_courses_X1_howMany
theorem dX11_courses_0 : decode cX11_courses 0 = .ok (.aload_n 0, 1) := by decide +kernel
theorem dX11_courses_1 : decode cX11_courses 1 = .ok (.getfield 34, 3) := by decide +kernel
theorem dX11_courses_4 : decode cX11_courses 4 = .ok (.iload_n 1, 1) := by decide +kernel
theorem dX11_courses_5 : decode cX11_courses 5 = .ok (.invokevirtual 136, 3) := by decide +kernel
theorem dX11_courses_8 : decode cX11_courses 8 = .ok (.ifCond .ne 9, 3) := by decide +kernel
theorem dX11_courses_11 : decode cX11_courses 11 = .ok (.iconst 2, 1) := by decide +kernel
theorem dX11_courses_12 : decode cX11_courses 12 = .ok (.invokestatic 108, 3) := by decide +kernel
theorem dX11_courses_15 : decode cX11_courses 15 = .ok (.i2l, 1) := by decide +kernel
theorem dX11_courses_16 : decode cX11_courses 16 = .ok (.lreturn, 1) := by decide +kernel
theorem dX11_courses_17 : decode cX11_courses 17 = .ok (.aload_n 0, 1) := by decide +kernel
theorem dX11_courses_18 : decode cX11_courses 18 = .ok (.getfield 81, 3) := by decide +kernel
theorem dX11_courses_21 : decode cX11_courses 21 = .ok (.aload_n 0, 1) := by decide +kernel
theorem dX11_courses_22 : decode cX11_courses 22 = .ok (.getfield 27, 3) := by decide +kernel
theorem dX11_courses_25 : decode cX11_courses 25 = .ok (.aload_n 0, 1) := by decide +kernel
theorem dX11_courses_26 : decode cX11_courses 26 = .ok (.getfield 34, 3) := by decide +kernel
theorem dX11_courses_29 : decode cX11_courses 29 = .ok (.iload_n 1, 1) := by decide +kernel
theorem dX11_courses_30 : decode cX11_courses 30 = .ok (.invokevirtual 227, 3) := by decide +kernel
theorem dX11_courses_33 : decode cX11_courses 33 = .ok (.aload_n 0, 1) := by decide +kernel
theorem dX11_courses_34 : decode cX11_courses 34 = .ok (.getfield 90, 3) := by decide +kernel
theorem dX11_courses_37 : decode cX11_courses 37 = .ok (.invokevirtual 242, 3) := by decide +kernel
theorem dX11_courses_40 : decode cX11_courses 40 = .ok (.lreturn, 1) := by decide +kernel
set_option maxRecDepth 20000 in
theorem ggX11_soonest_X5_has : GoodIn wsX11_soonest wsX5_has := goodIn_r _ [8, 9, 154, 155, 156] (by decide +kernel) (by decide +kernel)
set_option maxRecDepth 20000 in
theorem gX11_soonest_X5_has_n136 : GoodIn wsX11_soonest (wsX5_has) := ggX11_soonest_X5_has
set_option maxRecDepth 20000 in
theorem ggX11_soonest_X11_refused : GoodIn wsX11_soonest wsX11_refused := goodIn_r _ [13, 14] (by decide +kernel) (by decide +kernel)
set_option maxRecDepth 20000 in
theorem gX11_soonest_X11_refused : GoodIn wsX11_soonest (va_wsS RX11 108 yX11_refused wsX11_refused) := goodIn_app (goodIn_of _ (by decide +kernel)) ggX11_soonest_X11_refused
set_option maxRecDepth 20000 in
theorem ggX11_soonest_X10_about : GoodIn wsX11_soonest wsX10_about := goodIn_r _ [18, 19, 20, 21, 22, 23, 24, 25, 26, 27, 6, 28, 29, 30, 31, 32, 16, 33, 34, 35, 36, 37, 38, 39, 40, 41, 42, 43, 44, 45, 46, 47, 48, 49, 50, 51, 52, 53, 54, 55, 12, 56, 157, 158, 159, 160, 161, 162, 163, 164, 165, 166, 167, 154, 155, 156, 168, 169, 170, 171, 172, 173, 174, 175, 176, 177] (by decide +kernel) (by decide +kernel)
set_option maxRecDepth 20000 in
theorem gX11_soonest_X10_about_n227 : GoodIn wsX11_soonest (wsX10_about) := ggX11_soonest_X10_about
set_option maxRecDepth 20000 in
theorem ggX11_soonest_X5_part : GoodIn wsX11_soonest wsX5_part := goodIn_r _ [29, 30, 154, 155, 156] (by decide +kernel) (by decide +kernel)
set_option maxRecDepth 20000 in
theorem gX11_soonest_X5_part_n140 : GoodIn wsX11_soonest (wsX5_part) := ggX11_soonest_X5_part
set_option maxRecDepth 20000 in
theorem ggX11_soonest_X1_fewestFor : GoodIn wsX11_soonest wsX1_fewestFor := goodIn_r _ [60, 61, 62, 63, 64, 65, 66, 67, 68, 69, 70, 71, 72, 73, 74, 75, 58, 76, 77, 78, 79, 80, 16, 81, 82, 21, 83, 84, 85, 86, 87, 88, 89, 90, 91, 92, 93, 94, 95, 96, 97, 98, 22, 99, 100, 101, 102, 24, 103, 25, 104, 105, 106, 107, 108, 109, 110, 111, 112, 113, 114, 115, 116, 117, 118, 119, 120, 121, 122, 123, 124, 125, 35, 126, 127, 47, 38, 39, 40, 41, 42, 43, 44, 45, 46, 48, 49, 50, 51, 52, 53, 54, 55, 12, 56, 128, 129, 130, 131, 132, 133, 23, 134, 135, 136, 137, 26, 178, 179, 180, 181, 157, 158, 159, 160, 161, 162, 163, 164, 165, 168, 169, 170, 171, 172, 173, 174, 175, 176, 177, 182, 166, 167] (by decide +kernel) (by decide +kernel)
set_option maxRecDepth 20000 in
theorem gX11_soonest_X1_fewestFor_n246 : GoodIn wsX11_soonest (wsX1_fewestFor) := ggX11_soonest_X1_fewestFor
theorem dX11_soonest_0 : decode cX11_soonest 0 = .ok (.aload_n 0, 1) := by decide +kernel
theorem dX11_soonest_1 : decode cX11_soonest 1 = .ok (.getfield 34, 3) := by decide +kernel
theorem dX11_soonest_4 : decode cX11_soonest 4 = .ok (.iload_n 1, 1) := by decide +kernel
theorem dX11_soonest_5 : decode cX11_soonest 5 = .ok (.invokevirtual 136, 3) := by decide +kernel
theorem dX11_soonest_8 : decode cX11_soonest 8 = .ok (.ifCond .ne 8, 3) := by decide +kernel
theorem dX11_soonest_11 : decode cX11_soonest 11 = .ok (.iconst 2, 1) := by decide +kernel
theorem dX11_soonest_12 : decode cX11_soonest 12 = .ok (.invokestatic 108, 3) := by decide +kernel
theorem dX11_soonest_15 : decode cX11_soonest 15 = .ok (.ireturn, 1) := by decide +kernel
theorem dX11_soonest_16 : decode cX11_soonest 16 = .ok (.aload_n 0, 1) := by decide +kernel
theorem dX11_soonest_17 : decode cX11_soonest 17 = .ok (.getfield 81, 3) := by decide +kernel
theorem dX11_soonest_20 : decode cX11_soonest 20 = .ok (.aload_n 0, 1) := by decide +kernel
theorem dX11_soonest_21 : decode cX11_soonest 21 = .ok (.getfield 27, 3) := by decide +kernel
theorem dX11_soonest_24 : decode cX11_soonest 24 = .ok (.aload_n 0, 1) := by decide +kernel
theorem dX11_soonest_25 : decode cX11_soonest 25 = .ok (.getfield 34, 3) := by decide +kernel
theorem dX11_soonest_28 : decode cX11_soonest 28 = .ok (.iload_n 1, 1) := by decide +kernel
theorem dX11_soonest_29 : decode cX11_soonest 29 = .ok (.invokevirtual 227, 3) := by decide +kernel
theorem dX11_soonest_32 : decode cX11_soonest 32 = .ok (.aload_n 0, 1) := by decide +kernel
theorem dX11_soonest_33 : decode cX11_soonest 33 = .ok (.getfield 90, 3) := by decide +kernel
theorem dX11_soonest_36 : decode cX11_soonest 36 = .ok (.iload_n 2, 1) := by decide +kernel
theorem dX11_soonest_37 : decode cX11_soonest 37 = .ok (.i2l, 1) := by decide +kernel
theorem dX11_soonest_38 : decode cX11_soonest 38 = .ok (.aload_n 0, 1) := by decide +kernel
theorem dX11_soonest_39 : decode cX11_soonest 39 = .ok (.getfield 34, 3) := by decide +kernel
theorem dX11_soonest_42 : decode cX11_soonest 42 = .ok (.iload_n 1, 1) := by decide +kernel
theorem dX11_soonest_43 : decode cX11_soonest 43 = .ok (.iconst 2, 1) := by decide +kernel
theorem dX11_soonest_44 : decode cX11_soonest 44 = .ok (.invokevirtual 140, 3) := by decide +kernel
theorem dX11_soonest_47 : decode cX11_soonest 47 = .ok (.i2l, 1) := by decide +kernel
theorem dX11_soonest_48 : decode cX11_soonest 48 = .ok (.lsub, 1) := by decide +kernel
theorem dX11_soonest_49 : decode cX11_soonest 49 = .ok (.invokevirtual 246, 3) := by decide +kernel
theorem dX11_soonest_52 : decode cX11_soonest 52 = .ok (.ireturn, 1) := by decide +kernel
set_option maxRecDepth 20000 in
theorem ggX11_mean_X5_has : GoodIn wsX11_mean wsX5_has := goodIn_r _ [8, 9, 178, 179, 180] (by decide +kernel) (by decide +kernel)
set_option maxRecDepth 20000 in
theorem gX11_mean_X5_has_n136 : GoodIn wsX11_mean (wsX5_has) := ggX11_mean_X5_has
set_option maxRecDepth 20000 in
theorem ggX11_mean_X11_refused : GoodIn wsX11_mean wsX11_refused := goodIn_r _ [13, 14] (by decide +kernel) (by decide +kernel)
set_option maxRecDepth 20000 in
theorem gX11_mean_X11_refused : GoodIn wsX11_mean (va_wsS RX11 108 yX11_refused wsX11_refused) := goodIn_app (goodIn_of _ (by decide +kernel)) ggX11_mean_X11_refused
set_option maxRecDepth 20000 in
theorem ggX11_mean_X10_about : GoodIn wsX11_mean wsX10_about := goodIn_r _ [18, 19, 20, 21, 22, 23, 24, 25, 26, 27, 6, 28, 29, 30, 31, 32, 16, 33, 34, 35, 36, 37, 38, 39, 40, 41, 42, 43, 44, 45, 46, 47, 48, 49, 50, 51, 52, 53, 54, 55, 12, 56, 169, 170, 171, 172, 173, 174, 175, 176, 177, 181, 182, 178, 179, 180, 183, 184, 185, 186, 187, 188, 189, 190, 191, 192] (by decide +kernel) (by decide +kernel)
set_option maxRecDepth 20000 in
theorem gX11_mean_X10_about_n227 : GoodIn wsX11_mean (wsX10_about) := ggX11_mean_X10_about
set_option maxRecDepth 20000 in
theorem ggX11_mean_X0_meanFrom : GoodIn wsX11_mean wsX0_meanFrom := goodIn_r _ [60, 61, 62, 63, 64, 65, 66, 67, 68, 69, 70, 71, 72, 73, 74, 75, 76, 77, 78, 58, 79, 80, 16, 81, 82, 83, 84, 85, 86, 87, 88, 89, 21, 90, 91, 92, 93, 94, 95, 96, 97, 98, 99, 100, 23, 101, 102, 103, 104, 105, 26, 106, 57, 59, 107, 108, 109, 110, 111, 112, 113, 114, 22, 115, 116, 117, 24, 118, 25, 119, 120, 121, 122, 123, 124, 125, 126, 127, 128, 129, 130, 131, 132, 133, 134, 135, 136, 137, 138, 35, 139, 140, 47, 38, 39, 40, 41, 42, 43, 44, 45, 46, 48, 49, 50, 51, 52, 53, 54, 55, 12, 56, 141, 142, 143, 144, 145, 146, 193, 194, 195, 196, 197, 169, 170, 171, 172, 173, 174, 175, 176, 177, 183, 184, 185, 186, 187, 188, 189, 190, 191, 192, 198, 181, 182] (by decide +kernel) (by decide +kernel)
set_option maxRecDepth 20000 in
theorem gX11_mean_X0_meanFrom_n250 : GoodIn wsX11_mean (wsX0_meanFrom) := ggX11_mean_X0_meanFrom
set_option maxRecDepth 20000 in
theorem ggX11_mean_X0_fraction : GoodIn wsX11_mean wsX0_fraction := goodIn_r _ [149, 62, 76, 77, 78, 58, 79, 80, 16, 81, 82, 83, 107, 108, 109, 110, 150, 151, 152, 193, 194, 195, 196, 197, 169, 170, 171, 172, 173, 174, 175, 176, 177, 183, 184, 185, 186, 187, 188, 189, 190, 191, 192] (by decide +kernel) (by decide +kernel)
set_option maxRecDepth 20000 in
theorem gX11_mean_X0_fraction_n254 : GoodIn wsX11_mean (wsX0_fraction) := ggX11_mean_X0_fraction
theorem dX11_mean_0 : decode cX11_mean 0 = .ok (.aload_n 0, 1) := by decide +kernel
theorem dX11_mean_1 : decode cX11_mean 1 = .ok (.getfield 34, 3) := by decide +kernel
theorem dX11_mean_4 : decode cX11_mean 4 = .ok (.iload_n 1, 1) := by decide +kernel
theorem dX11_mean_5 : decode cX11_mean 5 = .ok (.invokevirtual 136, 3) := by decide +kernel
theorem dX11_mean_8 : decode cX11_mean 8 = .ok (.ifCond .eq 12, 3) := by decide +kernel
theorem dX11_mean_11 : decode cX11_mean 11 = .ok (.iload_n 2, 1) := by decide +kernel
theorem dX11_mean_12 : decode cX11_mean 12 = .ok (.ifCond .lt 8, 3) := by decide +kernel
theorem dX11_mean_15 : decode cX11_mean 15 = .ok (.iload_n 2, 1) := by decide +kernel
theorem dX11_mean_16 : decode cX11_mean 16 = .ok (.iconst 1, 1) := by decide +kernel
theorem dX11_mean_17 : decode cX11_mean 17 = .ok (.if_icmp .le 9, 3) := by decide +kernel
theorem dX11_mean_20 : decode cX11_mean 20 = .ok (.iconst 2, 1) := by decide +kernel
theorem dX11_mean_21 : decode cX11_mean 21 = .ok (.invokestatic 108, 3) := by decide +kernel
theorem dX11_mean_24 : decode cX11_mean 24 = .ok (.i2l, 1) := by decide +kernel
theorem dX11_mean_25 : decode cX11_mean 25 = .ok (.lreturn, 1) := by decide +kernel
theorem dX11_mean_26 : decode cX11_mean 26 = .ok (.aload_n 0, 1) := by decide +kernel
theorem dX11_mean_27 : decode cX11_mean 27 = .ok (.getfield 81, 3) := by decide +kernel
theorem dX11_mean_30 : decode cX11_mean 30 = .ok (.aload_n 0, 1) := by decide +kernel
theorem dX11_mean_31 : decode cX11_mean 31 = .ok (.getfield 27, 3) := by decide +kernel
theorem dX11_mean_34 : decode cX11_mean 34 = .ok (.aload_n 0, 1) := by decide +kernel
theorem dX11_mean_35 : decode cX11_mean 35 = .ok (.getfield 34, 3) := by decide +kernel
theorem dX11_mean_38 : decode cX11_mean 38 = .ok (.iload_n 1, 1) := by decide +kernel
theorem dX11_mean_39 : decode cX11_mean 39 = .ok (.invokevirtual 227, 3) := by decide +kernel
theorem dX11_mean_42 : decode cX11_mean 42 = .ok (.aload_n 0, 1) := by decide +kernel
theorem dX11_mean_43 : decode cX11_mean 43 = .ok (.getfield 99, 3) := by decide +kernel
theorem dX11_mean_46 : decode cX11_mean 46 = .ok (.aload_n 0, 1) := by decide +kernel
theorem dX11_mean_47 : decode cX11_mean 47 = .ok (.getfield 99, 3) := by decide +kernel
theorem dX11_mean_50 : decode cX11_mean 50 = .ok (.aload_n 0, 1) := by decide +kernel
theorem dX11_mean_51 : decode cX11_mean 51 = .ok (.getfield 81, 3) := by decide +kernel
theorem dX11_mean_54 : decode cX11_mean 54 = .ok (.getfield 230, 3) := by decide +kernel
theorem dX11_mean_57 : decode cX11_mean 57 = .ok (.invokevirtual 250, 3) := by decide +kernel
theorem dX11_mean_60 : decode cX11_mean 60 = .ok (.iload_n 2, 1) := by decide +kernel
theorem dX11_mean_61 : decode cX11_mean 61 = .ok (.invokevirtual 254, 3) := by decide +kernel
theorem dX11_mean_64 : decode cX11_mean 64 = .ok (.lreturn, 1) := by decide +kernel
set_option maxRecDepth 20000 in
theorem ggX11_choice_X5_has : GoodIn wsX11_choice wsX5_has := goodIn_r _ [8, 9, 166, 167, 168] (by decide +kernel) (by decide +kernel)
set_option maxRecDepth 20000 in
theorem gX11_choice_X5_has_n136 : GoodIn wsX11_choice (wsX5_has) := ggX11_choice_X5_has
set_option maxRecDepth 20000 in
theorem ggX11_choice_X11_refused : GoodIn wsX11_choice wsX11_refused := goodIn_r _ [13, 14] (by decide +kernel) (by decide +kernel)
set_option maxRecDepth 20000 in
theorem gX11_choice_X11_refused : GoodIn wsX11_choice (va_wsS RX11 108 yX11_refused wsX11_refused) := goodIn_app (goodIn_of _ (by decide +kernel)) ggX11_choice_X11_refused
set_option maxRecDepth 20000 in
theorem ggX11_choice_X10_about : GoodIn wsX11_choice wsX10_about := goodIn_r _ [18, 19, 20, 21, 22, 23, 24, 25, 26, 27, 6, 28, 29, 30, 31, 32, 16, 33, 34, 35, 36, 37, 38, 39, 40, 41, 42, 43, 44, 45, 46, 47, 48, 49, 50, 51, 52, 53, 54, 55, 12, 56, 169, 170, 171, 172, 173, 174, 175, 176, 177, 178, 179, 166, 167, 168, 180, 181, 182, 183, 184, 185, 186, 187, 188, 189] (by decide +kernel) (by decide +kernel)
set_option maxRecDepth 20000 in
theorem gX11_choice_X10_about_n227 : GoodIn wsX11_choice (wsX10_about) := ggX11_choice_X10_about
set_option maxRecDepth 20000 in
theorem ggX11_choice_X0_meanDoing : GoodIn wsX11_choice wsX0_meanDoing := goodIn_r _ [60, 61, 62, 63, 64, 58, 65, 66, 67, 68, 69, 70, 71, 72, 73, 74, 75, 76, 77, 78, 79, 80, 81, 82, 83, 84, 16, 85, 86, 87, 88, 89, 90, 91, 92, 93, 21, 94, 95, 96, 97, 98, 99, 100, 101, 102, 103, 104, 23, 105, 106, 107, 108, 109, 26, 110, 111, 112, 113, 114, 115, 116, 117, 22, 118, 119, 120, 24, 121, 25, 122, 123, 124, 125, 126, 127, 128, 129, 130, 131, 132, 133, 134, 135, 136, 137, 138, 139, 140, 141, 35, 142, 143, 47, 38, 39, 40, 41, 42, 43, 44, 45, 46, 48, 49, 50, 51, 52, 53, 54, 55, 12, 56, 144, 145, 146, 147, 148, 149, 190, 191, 192, 193, 194, 169, 170, 171, 172, 173, 174, 175, 176, 177, 180, 181, 182, 183, 184, 185, 186, 187, 188, 189, 195, 178, 179] (by decide +kernel) (by decide +kernel)
set_option maxRecDepth 20000 in
theorem gX11_choice_X0_meanDoing_n258 : GoodIn wsX11_choice (wsX0_meanDoing) := ggX11_choice_X0_meanDoing
theorem dX11_choice_0 : decode cX11_choice 0 = .ok (.aload_n 0, 1) := by decide +kernel
theorem dX11_choice_1 : decode cX11_choice 1 = .ok (.getfield 34, 3) := by decide +kernel
theorem dX11_choice_4 : decode cX11_choice 4 = .ok (.iload_n 1, 1) := by decide +kernel
theorem dX11_choice_5 : decode cX11_choice 5 = .ok (.invokevirtual 136, 3) := by decide +kernel
theorem dX11_choice_8 : decode cX11_choice 8 = .ok (.ifCond .ne 8, 3) := by decide +kernel
theorem dX11_choice_11 : decode cX11_choice 11 = .ok (.iconst 2, 1) := by decide +kernel
theorem dX11_choice_12 : decode cX11_choice 12 = .ok (.invokestatic 108, 3) := by decide +kernel
theorem dX11_choice_15 : decode cX11_choice 15 = .ok (.ireturn, 1) := by decide +kernel
theorem dX11_choice_16 : decode cX11_choice 16 = .ok (.aload_n 0, 1) := by decide +kernel
theorem dX11_choice_17 : decode cX11_choice 17 = .ok (.getfield 81, 3) := by decide +kernel
theorem dX11_choice_20 : decode cX11_choice 20 = .ok (.aload_n 0, 1) := by decide +kernel
theorem dX11_choice_21 : decode cX11_choice 21 = .ok (.getfield 27, 3) := by decide +kernel
theorem dX11_choice_24 : decode cX11_choice 24 = .ok (.aload_n 0, 1) := by decide +kernel
theorem dX11_choice_25 : decode cX11_choice 25 = .ok (.getfield 34, 3) := by decide +kernel
theorem dX11_choice_28 : decode cX11_choice 28 = .ok (.iload_n 1, 1) := by decide +kernel
theorem dX11_choice_29 : decode cX11_choice 29 = .ok (.invokevirtual 227, 3) := by decide +kernel
theorem dX11_choice_32 : decode cX11_choice 32 = .ok (.aload_n 0, 1) := by decide +kernel
theorem dX11_choice_33 : decode cX11_choice 33 = .ok (.getfield 99, 3) := by decide +kernel
theorem dX11_choice_36 : decode cX11_choice 36 = .ok (.invokevirtual 258, 3) := by decide +kernel
theorem dX11_choice_39 : decode cX11_choice 39 = .ok (.ireturn, 1) := by decide +kernel
set_option maxRecDepth 20000 in
theorem ggX11_drawing_X5_has : GoodIn wsX11_drawing wsX5_has := goodIn_r _ [8, 9, 166, 167, 168] (by decide +kernel) (by decide +kernel)
set_option maxRecDepth 20000 in
theorem gX11_drawing_X5_has_n136 : GoodIn wsX11_drawing (wsX5_has) := ggX11_drawing_X5_has
set_option maxRecDepth 20000 in
theorem ggX11_drawing_X11_refused : GoodIn wsX11_drawing wsX11_refused := goodIn_r _ [13, 14] (by decide +kernel) (by decide +kernel)
set_option maxRecDepth 20000 in
theorem gX11_drawing_X11_refused : GoodIn wsX11_drawing (va_wsS RX11 108 yX11_refused wsX11_refused) := goodIn_app (goodIn_of _ (by decide +kernel)) ggX11_drawing_X11_refused
set_option maxRecDepth 20000 in
theorem ggX11_drawing_X10_about : GoodIn wsX11_drawing wsX10_about := goodIn_r _ [18, 19, 20, 21, 22, 23, 24, 25, 26, 27, 6, 28, 29, 30, 31, 32, 16, 33, 34, 35, 36, 37, 38, 39, 40, 41, 42, 43, 44, 45, 46, 47, 48, 49, 50, 51, 52, 53, 54, 55, 12, 56, 169, 170, 171, 172, 173, 174, 175, 176, 177, 178, 179, 166, 167, 168, 180, 181, 182, 183, 184, 185, 186, 187, 188, 189] (by decide +kernel) (by decide +kernel)
set_option maxRecDepth 20000 in
theorem gX11_drawing_X10_about_n227 : GoodIn wsX11_drawing (wsX10_about) := ggX11_drawing_X10_about
set_option maxRecDepth 20000 in
theorem ggX11_drawing_X0_drawingIsBest : GoodIn wsX11_drawing wsX0_drawingIsBest := goodIn_r _ [60, 61, 62, 16, 63, 64, 23, 65, 66, 67, 68, 69, 70, 71, 72, 73, 74, 26, 75, 76, 77, 58, 78, 79, 80, 81, 82, 83, 84, 85, 86, 87, 88, 89, 90, 91, 92, 93, 22, 94, 95, 96, 97, 24, 98, 25, 21, 99, 100, 101, 102, 103, 104, 105, 106, 107, 108, 109, 110, 111, 112, 113, 114, 115, 116, 117, 118, 119, 120, 121, 122, 123, 124, 125, 126, 35, 127, 128, 47, 38, 39, 40, 41, 42, 43, 44, 45, 46, 48, 49, 50, 51, 52, 53, 54, 55, 12, 56, 129, 130, 131, 132, 133, 134, 135, 136, 137, 138, 139, 140, 141, 142, 143, 144, 145, 146, 147, 148, 149, 190, 191, 192, 193, 194, 169, 170, 171, 172, 173, 174, 175, 176, 177, 180, 181, 182, 183, 184, 185, 186, 187, 188, 189, 195, 178, 179] (by decide +kernel) (by decide +kernel)
set_option maxRecDepth 20000 in
theorem gX11_drawing_X0_drawingIsBest_n261 : GoodIn wsX11_drawing (wsX0_drawingIsBest) := ggX11_drawing_X0_drawingIsBest
theorem dX11_drawing_0 : decode cX11_drawing 0 = .ok (.aload_n 0, 1) := by decide +kernel
theorem dX11_drawing_1 : decode cX11_drawing 1 = .ok (.getfield 34, 3) := by decide +kernel
theorem dX11_drawing_4 : decode cX11_drawing 4 = .ok (.iload_n 1, 1) := by decide +kernel
theorem dX11_drawing_5 : decode cX11_drawing 5 = .ok (.invokevirtual 136, 3) := by decide +kernel
theorem dX11_drawing_8 : decode cX11_drawing 8 = .ok (.ifCond .ne 8, 3) := by decide +kernel
theorem dX11_drawing_11 : decode cX11_drawing 11 = .ok (.iconst 2, 1) := by decide +kernel
theorem dX11_drawing_12 : decode cX11_drawing 12 = .ok (.invokestatic 108, 3) := by decide +kernel
theorem dX11_drawing_15 : decode cX11_drawing 15 = .ok (.ireturn, 1) := by decide +kernel
theorem dX11_drawing_16 : decode cX11_drawing 16 = .ok (.aload_n 0, 1) := by decide +kernel
theorem dX11_drawing_17 : decode cX11_drawing 17 = .ok (.getfield 81, 3) := by decide +kernel
theorem dX11_drawing_20 : decode cX11_drawing 20 = .ok (.aload_n 0, 1) := by decide +kernel
theorem dX11_drawing_21 : decode cX11_drawing 21 = .ok (.getfield 27, 3) := by decide +kernel
theorem dX11_drawing_24 : decode cX11_drawing 24 = .ok (.aload_n 0, 1) := by decide +kernel
theorem dX11_drawing_25 : decode cX11_drawing 25 = .ok (.getfield 34, 3) := by decide +kernel
theorem dX11_drawing_28 : decode cX11_drawing 28 = .ok (.iload_n 1, 1) := by decide +kernel
theorem dX11_drawing_29 : decode cX11_drawing 29 = .ok (.invokevirtual 227, 3) := by decide +kernel
theorem dX11_drawing_32 : decode cX11_drawing 32 = .ok (.aload_n 0, 1) := by decide +kernel
theorem dX11_drawing_33 : decode cX11_drawing 33 = .ok (.getfield 99, 3) := by decide +kernel
theorem dX11_drawing_36 : decode cX11_drawing 36 = .ok (.invokevirtual 261, 3) := by decide +kernel
theorem dX11_drawing_39 : decode cX11_drawing 39 = .ok (.ifCond .eq 7, 3) := by decide +kernel
theorem dX11_drawing_42 : decode cX11_drawing 42 = .ok (.iconst 1, 1) := by decide +kernel
theorem dX11_drawing_43 : decode cX11_drawing 43 = .ok (.goto 4, 3) := by decide +kernel
theorem dX11_drawing_46 : decode cX11_drawing 46 = .ok (.iconst 0, 1) := by decide +kernel
theorem dX11_drawing_47 : decode cX11_drawing 47 = .ok (.ireturn, 1) := by decide +kernel
set_option maxRecDepth 20000 in
theorem ggX11_hope_X5_has : GoodIn wsX11_hope wsX5_has := goodIn_r _ [8, 9, 201, 202, 203] (by decide +kernel) (by decide +kernel)
set_option maxRecDepth 20000 in
theorem gX11_hope_X5_has_n136 : GoodIn wsX11_hope (wsX5_has) := ggX11_hope_X5_has
set_option maxRecDepth 20000 in
theorem ggX11_hope_X11_refused : GoodIn wsX11_hope wsX11_refused := goodIn_r _ [13, 14] (by decide +kernel) (by decide +kernel)
set_option maxRecDepth 20000 in
theorem gX11_hope_X11_refused : GoodIn wsX11_hope (va_wsS RX11 108 yX11_refused wsX11_refused) := goodIn_app (goodIn_of _ (by decide +kernel)) ggX11_hope_X11_refused
set_option maxRecDepth 20000 in
theorem ggX11_hope_X10_about : GoodIn wsX11_hope wsX10_about := goodIn_r _ [18, 19, 20, 21, 22, 23, 24, 25, 26, 27, 6, 28, 29, 30, 31, 32, 16, 33, 34, 35, 36, 37, 38, 39, 40, 41, 42, 43, 44, 45, 46, 47, 48, 49, 50, 51, 52, 53, 54, 55, 12, 56, 204, 205, 206, 207, 208, 209, 210, 211, 212, 213, 214, 201, 202, 203, 215, 216, 217, 218, 219, 220, 221, 222, 223, 224] (by decide +kernel) (by decide +kernel)
set_option maxRecDepth 20000 in
theorem gX11_hope_X10_about_n227 : GoodIn wsX11_hope (wsX10_about) := ggX11_hope_X10_about
set_option maxRecDepth 20000 in
theorem ggX11_hope_X0_hopeNow : GoodIn wsX11_hope wsX0_hopeNow := goodIn_r _ [60, 61, 62, 63, 64, 65, 66, 67, 68, 69, 70, 71, 72, 73, 74, 75, 76, 77, 78, 79, 80, 81, 82, 83, 16, 84, 85, 21, 86, 87, 88, 89, 90, 91, 92, 93, 94, 95, 96, 97, 98, 99, 100, 101, 102, 103, 104, 105, 106, 107, 22, 108, 109, 110, 24, 111, 25, 112, 113, 114, 115, 116, 117, 118, 119, 120, 121, 122, 123, 124, 125, 126, 127, 128, 35, 129, 130, 47, 38, 39, 40, 41, 42, 43, 44, 45, 46, 48, 49, 50, 51, 52, 53, 54, 55, 12, 56, 131, 132, 133, 134, 135, 136, 23, 137, 138, 139, 140, 26, 141, 142, 143, 58, 144, 145, 146, 147, 148, 149, 150, 151, 152, 153, 154, 155, 156, 157, 158, 159, 160, 161, 162, 163, 164, 165, 166, 167, 168, 169, 170, 171, 172, 173, 174, 175, 176, 177, 178, 225, 226, 227, 228, 229, 204, 205, 206, 207, 208, 209, 210, 211, 212, 230, 231, 232, 233, 234, 215, 216, 217, 218, 219, 220, 221, 222, 223, 224, 213, 214] (by decide +kernel) (by decide +kernel)
set_option maxRecDepth 20000 in
theorem gX11_hope_X0_hopeNow_n265 : GoodIn wsX11_hope (wsX0_hopeNow) := ggX11_hope_X0_hopeNow
set_option maxRecDepth 20000 in
theorem ggX11_hope_X0_fraction : GoodIn wsX11_hope wsX0_fraction := goodIn_r _ [181, 62, 150, 151, 152, 58, 153, 126, 16, 127, 87, 88, 154, 155, 156, 157, 182, 183, 184, 225, 226, 227, 228, 229, 204, 205, 206, 207, 208, 209, 210, 211, 212, 215, 216, 217, 218, 219, 220, 221, 222, 223, 224] (by decide +kernel) (by decide +kernel)
set_option maxRecDepth 20000 in
theorem gX11_hope_X0_fraction_n254 : GoodIn wsX11_hope (wsX0_fraction) := ggX11_hope_X0_fraction
theorem dX11_hope_0 : decode cX11_hope 0 = .ok (.aload_n 0, 1) := by decide +kernel
theorem dX11_hope_1 : decode cX11_hope 1 = .ok (.getfield 34, 3) := by decide +kernel
theorem dX11_hope_4 : decode cX11_hope 4 = .ok (.iload_n 1, 1) := by decide +kernel
theorem dX11_hope_5 : decode cX11_hope 5 = .ok (.invokevirtual 136, 3) := by decide +kernel
theorem dX11_hope_8 : decode cX11_hope 8 = .ok (.ifCond .eq 12, 3) := by decide +kernel
theorem dX11_hope_11 : decode cX11_hope 11 = .ok (.iload_n 3, 1) := by decide +kernel
theorem dX11_hope_12 : decode cX11_hope 12 = .ok (.ifCond .lt 8, 3) := by decide +kernel
theorem dX11_hope_15 : decode cX11_hope 15 = .ok (.iload_n 3, 1) := by decide +kernel
theorem dX11_hope_16 : decode cX11_hope 16 = .ok (.iconst 1, 1) := by decide +kernel
theorem dX11_hope_17 : decode cX11_hope 17 = .ok (.if_icmp .le 9, 3) := by decide +kernel
theorem dX11_hope_20 : decode cX11_hope 20 = .ok (.iconst 2, 1) := by decide +kernel
theorem dX11_hope_21 : decode cX11_hope 21 = .ok (.invokestatic 108, 3) := by decide +kernel
theorem dX11_hope_24 : decode cX11_hope 24 = .ok (.i2l, 1) := by decide +kernel
theorem dX11_hope_25 : decode cX11_hope 25 = .ok (.lreturn, 1) := by decide +kernel
theorem dX11_hope_26 : decode cX11_hope 26 = .ok (.iload_n 2, 1) := by decide +kernel
theorem dX11_hope_27 : decode cX11_hope 27 = .ok (.ifCond .lt 9, 3) := by decide +kernel
theorem dX11_hope_30 : decode cX11_hope 30 = .ok (.iload_n 2, 1) := by decide +kernel
theorem dX11_hope_31 : decode cX11_hope 31 = .ok (.bipush 60, 2) := by decide +kernel
theorem dX11_hope_33 : decode cX11_hope 33 = .ok (.if_icmp .le 9, 3) := by decide +kernel
theorem dX11_hope_36 : decode cX11_hope 36 = .ok (.iconst 3, 1) := by decide +kernel
theorem dX11_hope_37 : decode cX11_hope 37 = .ok (.invokestatic 108, 3) := by decide +kernel
theorem dX11_hope_40 : decode cX11_hope 40 = .ok (.i2l, 1) := by decide +kernel
theorem dX11_hope_41 : decode cX11_hope 41 = .ok (.lreturn, 1) := by decide +kernel
theorem dX11_hope_42 : decode cX11_hope 42 = .ok (.aload_n 0, 1) := by decide +kernel
theorem dX11_hope_43 : decode cX11_hope 43 = .ok (.getfield 81, 3) := by decide +kernel
theorem dX11_hope_46 : decode cX11_hope 46 = .ok (.aload_n 0, 1) := by decide +kernel
theorem dX11_hope_47 : decode cX11_hope 47 = .ok (.getfield 27, 3) := by decide +kernel
theorem dX11_hope_50 : decode cX11_hope 50 = .ok (.aload_n 0, 1) := by decide +kernel
theorem dX11_hope_51 : decode cX11_hope 51 = .ok (.getfield 34, 3) := by decide +kernel
theorem dX11_hope_54 : decode cX11_hope 54 = .ok (.iload_n 1, 1) := by decide +kernel
theorem dX11_hope_55 : decode cX11_hope 55 = .ok (.invokevirtual 227, 3) := by decide +kernel
theorem dX11_hope_58 : decode cX11_hope 58 = .ok (.aload_n 0, 1) := by decide +kernel
theorem dX11_hope_59 : decode cX11_hope 59 = .ok (.getfield 99, 3) := by decide +kernel
theorem dX11_hope_62 : decode cX11_hope 62 = .ok (.aload_n 0, 1) := by decide +kernel
theorem dX11_hope_63 : decode cX11_hope 63 = .ok (.getfield 99, 3) := by decide +kernel
theorem dX11_hope_66 : decode cX11_hope 66 = .ok (.iload_n 2, 1) := by decide +kernel
theorem dX11_hope_67 : decode cX11_hope 67 = .ok (.invokevirtual 265, 3) := by decide +kernel
theorem dX11_hope_70 : decode cX11_hope 70 = .ok (.iload_n 3, 1) := by decide +kernel
theorem dX11_hope_71 : decode cX11_hope 71 = .ok (.invokevirtual 254, 3) := by decide +kernel
theorem dX11_hope_74 : decode cX11_hope 74 = .ok (.lreturn, 1) := by decide +kernel
set_option maxRecDepth 20000 in
theorem ggX11_hoping_X5_has : GoodIn wsX11_hoping wsX5_has := goodIn_r _ [8, 9, 199, 200, 201] (by decide +kernel) (by decide +kernel)
set_option maxRecDepth 20000 in
theorem gX11_hoping_X5_has_n136 : GoodIn wsX11_hoping (wsX5_has) := ggX11_hoping_X5_has
set_option maxRecDepth 20000 in
theorem ggX11_hoping_X11_refused : GoodIn wsX11_hoping wsX11_refused := goodIn_r _ [13, 14] (by decide +kernel) (by decide +kernel)
set_option maxRecDepth 20000 in
theorem gX11_hoping_X11_refused : GoodIn wsX11_hoping (va_wsS RX11 108 yX11_refused wsX11_refused) := goodIn_app (goodIn_of _ (by decide +kernel)) ggX11_hoping_X11_refused
set_option maxRecDepth 20000 in
theorem ggX11_hoping_X10_about : GoodIn wsX11_hoping wsX10_about := goodIn_r _ [18, 19, 20, 21, 22, 23, 24, 25, 26, 27, 6, 28, 29, 30, 31, 32, 16, 33, 34, 35, 36, 37, 38, 39, 40, 41, 42, 43, 44, 45, 46, 47, 48, 49, 50, 51, 52, 53, 54, 55, 12, 56, 202, 203, 204, 205, 206, 207, 208, 209, 210, 211, 212, 199, 200, 201, 213, 214, 215, 216, 217, 218, 219, 220, 221, 222] (by decide +kernel) (by decide +kernel)
set_option maxRecDepth 20000 in
theorem gX11_hoping_X10_about_n227 : GoodIn wsX11_hoping (wsX10_about) := ggX11_hoping_X10_about
set_option maxRecDepth 20000 in
theorem ggX11_hoping_X0_hopeDoing : GoodIn wsX11_hoping wsX0_hopeDoing := goodIn_r _ [60, 61, 62, 63, 64, 58, 65, 66, 67, 68, 69, 70, 71, 72, 73, 74, 75, 76, 77, 78, 79, 80, 81, 82, 83, 84, 85, 86, 87, 16, 88, 89, 21, 90, 91, 92, 93, 94, 95, 96, 97, 98, 99, 100, 101, 102, 103, 104, 105, 106, 107, 108, 109, 110, 111, 22, 112, 113, 114, 24, 115, 25, 116, 117, 118, 119, 120, 121, 122, 123, 124, 125, 126, 127, 128, 129, 130, 131, 132, 35, 133, 134, 47, 38, 39, 40, 41, 42, 43, 44, 45, 46, 48, 49, 50, 51, 52, 53, 54, 55, 12, 56, 135, 136, 137, 138, 139, 140, 23, 141, 142, 143, 144, 26, 145, 146, 147, 148, 149, 150, 151, 152, 153, 154, 155, 156, 157, 158, 159, 160, 161, 162, 163, 164, 165, 166, 167, 168, 169, 170, 171, 172, 173, 174, 175, 176, 177, 178, 179, 180, 181, 182, 223, 224, 225, 226, 227, 202, 203, 204, 205, 206, 207, 208, 209, 210, 228, 229, 230, 231, 232, 213, 214, 215, 216, 217, 218, 219, 220, 221, 222, 211, 212] (by decide +kernel) (by decide +kernel)
set_option maxRecDepth 20000 in
theorem gX11_hoping_X0_hopeDoing_n268 : GoodIn wsX11_hoping (wsX0_hopeDoing) := ggX11_hoping_X0_hopeDoing
theorem dX11_hoping_0 : decode cX11_hoping 0 = .ok (.aload_n 0, 1) := by decide +kernel
theorem dX11_hoping_1 : decode cX11_hoping 1 = .ok (.getfield 34, 3) := by decide +kernel
theorem dX11_hoping_4 : decode cX11_hoping 4 = .ok (.iload_n 1, 1) := by decide +kernel
theorem dX11_hoping_5 : decode cX11_hoping 5 = .ok (.invokevirtual 136, 3) := by decide +kernel
theorem dX11_hoping_8 : decode cX11_hoping 8 = .ok (.ifCond .ne 8, 3) := by decide +kernel
theorem dX11_hoping_11 : decode cX11_hoping 11 = .ok (.iconst 2, 1) := by decide +kernel
theorem dX11_hoping_12 : decode cX11_hoping 12 = .ok (.invokestatic 108, 3) := by decide +kernel
theorem dX11_hoping_15 : decode cX11_hoping 15 = .ok (.ireturn, 1) := by decide +kernel
theorem dX11_hoping_16 : decode cX11_hoping 16 = .ok (.iload_n 2, 1) := by decide +kernel
theorem dX11_hoping_17 : decode cX11_hoping 17 = .ok (.ifCond .lt 9, 3) := by decide +kernel
theorem dX11_hoping_20 : decode cX11_hoping 20 = .ok (.iload_n 2, 1) := by decide +kernel
theorem dX11_hoping_21 : decode cX11_hoping 21 = .ok (.bipush 60, 2) := by decide +kernel
theorem dX11_hoping_23 : decode cX11_hoping 23 = .ok (.if_icmp .le 8, 3) := by decide +kernel
theorem dX11_hoping_26 : decode cX11_hoping 26 = .ok (.iconst 3, 1) := by decide +kernel
theorem dX11_hoping_27 : decode cX11_hoping 27 = .ok (.invokestatic 108, 3) := by decide +kernel
theorem dX11_hoping_30 : decode cX11_hoping 30 = .ok (.ireturn, 1) := by decide +kernel
theorem dX11_hoping_31 : decode cX11_hoping 31 = .ok (.aload_n 0, 1) := by decide +kernel
theorem dX11_hoping_32 : decode cX11_hoping 32 = .ok (.getfield 81, 3) := by decide +kernel
theorem dX11_hoping_35 : decode cX11_hoping 35 = .ok (.aload_n 0, 1) := by decide +kernel
theorem dX11_hoping_36 : decode cX11_hoping 36 = .ok (.getfield 27, 3) := by decide +kernel
theorem dX11_hoping_39 : decode cX11_hoping 39 = .ok (.aload_n 0, 1) := by decide +kernel
theorem dX11_hoping_40 : decode cX11_hoping 40 = .ok (.getfield 34, 3) := by decide +kernel
theorem dX11_hoping_43 : decode cX11_hoping 43 = .ok (.iload_n 1, 1) := by decide +kernel
theorem dX11_hoping_44 : decode cX11_hoping 44 = .ok (.invokevirtual 227, 3) := by decide +kernel
theorem dX11_hoping_47 : decode cX11_hoping 47 = .ok (.aload_n 0, 1) := by decide +kernel
theorem dX11_hoping_48 : decode cX11_hoping 48 = .ok (.getfield 99, 3) := by decide +kernel
theorem dX11_hoping_51 : decode cX11_hoping 51 = .ok (.iload_n 2, 1) := by decide +kernel
theorem dX11_hoping_52 : decode cX11_hoping 52 = .ok (.invokevirtual 268, 3) := by decide +kernel
theorem dX11_hoping_55 : decode cX11_hoping 55 = .ok (.ireturn, 1) := by decide +kernel
set_option maxRecDepth 20000 in
theorem ggX11_talents_X11_livedFault : GoodIn wsX11_talents wsX11_livedFault := goodIn_r _ [5, 6, 7, 8, 9, 10, 4, 11, 12, 13, 14, 15, 16, 17, 18, 19, 20, 21, 22, 23, 24, 25, 26, 27, 28, 29, 30, 31, 32, 85, 86, 87, 88, 89, 90, 91, 92, 93, 94, 95, 96, 97, 98, 99, 100, 101, 102, 103, 104, 105, 106, 107, 108, 109, 110, 111, 112, 113, 114, 115, 116, 117] (by decide +kernel) (by decide +kernel)
set_option maxRecDepth 20000 in
theorem gX11_talents_X11_livedFault : GoodIn wsX11_talents (wsV RX11 271 RX11 yX11_livedFault wsX11_livedFault) := goodIn_app (goodIn_of _ (by decide +kernel)) ggX11_talents_X11_livedFault
set_option maxRecDepth 20000 in
theorem ggX11_talents_X11_refused : GoodIn wsX11_talents wsX11_refused := goodIn_r _ [35, 36] (by decide +kernel) (by decide +kernel)
set_option maxRecDepth 20000 in
theorem gX11_talents_X11_refused : GoodIn wsX11_talents (va_wsS RX11 108 yX11_refused wsX11_refused) := goodIn_app (goodIn_of _ (by decide +kernel)) ggX11_talents_X11_refused
set_option maxRecDepth 20000 in
theorem ggX11_talents_X11_trayAt : GoodIn wsX11_talents wsX11_trayAt := goodIn_r _ [11, 12, 85, 86, 87, 88, 89, 90, 91, 92, 93, 94, 95, 96, 97, 98, 99, 100] (by decide +kernel) (by decide +kernel)
set_option maxRecDepth 20000 in
theorem gX11_talents_X11_trayAt : GoodIn wsX11_talents (wsV RX11 200 RX11 yX11_trayAt wsX11_trayAt) := goodIn_app (goodIn_of _ (by decide +kernel)) ggX11_talents_X11_trayAt
set_option maxRecDepth 20000 in
theorem ggX11_talents_X11_fittingTalents : GoodIn wsX11_talents wsX11_fittingTalents := goodIn_r _ [40, 41, 6, 42, 7, 43, 14, 44, 45, 21, 46, 47, 48, 49, 17, 50, 51, 52, 53, 22, 23, 24, 25, 26, 27, 54, 55, 56, 57, 58, 13, 15, 16, 28, 29, 30, 31, 32, 18, 19, 20, 59, 60, 61, 62, 63, 64, 65, 66, 67, 68, 69, 70, 71, 72, 73, 74, 75, 76, 77, 78, 79, 80, 81, 82, 83, 4, 84, 85, 86, 87, 88, 89, 90, 91, 92, 93, 94, 95, 96, 97, 98, 99, 100, 101, 102, 103, 104, 115, 116, 117, 105, 106, 107, 108, 109, 110, 111, 112, 113, 114, 118, 119, 120, 121, 122] (by decide +kernel) (by decide +kernel)
set_option maxRecDepth 20000 in
theorem gX11_talents_X11_fittingTalents : GoodIn wsX11_talents (wsV RX11 274 RX11 yX11_fittingTalents wsX11_fittingTalents) := goodIn_app (goodIn_of _ (by decide +kernel)) ggX11_talents_X11_fittingTalents
theorem dX11_talents_0 : decode cX11_talents 0 = .ok (.aload_n 0, 1) := by decide +kernel
theorem dX11_talents_1 : decode cX11_talents 1 = .ok (.iload_n 1, 1) := by decide +kernel
theorem dX11_talents_2 : decode cX11_talents 2 = .ok (.iload_n 2, 1) := by decide +kernel
theorem dX11_talents_3 : decode cX11_talents 3 = .ok (.invokevirtual 271, 3) := by decide +kernel
theorem dX11_talents_6 : decode cX11_talents 6 = .ok (.istore 4, 2) := by decide +kernel
theorem dX11_talents_8 : decode cX11_talents 8 = .ok (.iload 4, 2) := by decide +kernel
theorem dX11_talents_10 : decode cX11_talents 10 = .ok (.ifCond .eq 11, 3) := by decide +kernel
theorem dX11_talents_13 : decode cX11_talents 13 = .ok (.iload 4, 2) := by decide +kernel
theorem dX11_talents_15 : decode cX11_talents 15 = .ok (.invokestatic 108, 3) := by decide +kernel
theorem dX11_talents_18 : decode cX11_talents 18 = .ok (.goto 14, 3) := by decide +kernel
theorem dX11_talents_21 : decode cX11_talents 21 = .ok (.aload_n 0, 1) := by decide +kernel
theorem dX11_talents_22 : decode cX11_talents 22 = .ok (.aload_n 0, 1) := by decide +kernel
theorem dX11_talents_23 : decode cX11_talents 23 = .ok (.iload_n 1, 1) := by decide +kernel
theorem dX11_talents_24 : decode cX11_talents 24 = .ok (.invokevirtual 200, 3) := by decide +kernel
theorem dX11_talents_27 : decode cX11_talents 27 = .ok (.iload_n 2, 1) := by decide +kernel
theorem dX11_talents_28 : decode cX11_talents 28 = .ok (.iload_n 3, 1) := by decide +kernel
theorem dX11_talents_29 : decode cX11_talents 29 = .ok (.invokevirtual 274, 3) := by decide +kernel
theorem dX11_talents_32 : decode cX11_talents 32 = .ok (.ireturn, 1) := by decide +kernel
set_option maxRecDepth 20000 in
theorem ggX11_attempt_X11_livedFault : GoodIn wsX11_attempt wsX11_livedFault := goodIn_r _ [6, 7, 1, 8, 9, 10, 5, 11, 12, 13, 14, 15, 16, 17, 18, 19, 20, 21, 22, 23, 24, 25, 26, 27, 28, 29, 30, 31, 32, 99, 100, 101, 102, 103, 104, 105, 106, 107, 108, 109, 110, 111, 112, 113, 114, 125, 126, 127, 128, 115, 116, 117, 118, 119, 120, 121, 122, 123, 124, 129, 130, 131] (by decide +kernel) (by decide +kernel)
set_option maxRecDepth 20000 in
theorem gX11_attempt_X11_livedFault : GoodIn wsX11_attempt (wsV RX11 271 RX11 yX11_livedFault wsX11_livedFault) := goodIn_app (goodIn_of _ (by decide +kernel)) ggX11_attempt_X11_livedFault
set_option maxRecDepth 20000 in
theorem ggX11_attempt_X11_refused : GoodIn wsX11_attempt wsX11_refused := goodIn_r _ [35, 36] (by decide +kernel) (by decide +kernel)
set_option maxRecDepth 20000 in
theorem gX11_attempt_X11_refused : GoodIn wsX11_attempt (va_wsS RX11 108 yX11_refused wsX11_refused) := goodIn_app (goodIn_of _ (by decide +kernel)) ggX11_attempt_X11_refused
set_option maxRecDepth 20000 in
theorem ggX11_attempt_X11_trayAt : GoodIn wsX11_attempt wsX11_trayAt := goodIn_r _ [11, 12, 99, 100, 101, 102, 103, 104, 105, 106, 107, 108, 109, 110, 111, 112, 113, 114] (by decide +kernel) (by decide +kernel)
set_option maxRecDepth 20000 in
theorem gX11_attempt_X11_trayAt : GoodIn wsX11_attempt (wsV RX11 200 RX11 yX11_trayAt wsX11_trayAt) := goodIn_app (goodIn_of _ (by decide +kernel)) ggX11_attempt_X11_trayAt
set_option maxRecDepth 20000 in
theorem ggX11_attempt_X11_fittingTalents : GoodIn wsX11_attempt wsX11_fittingTalents := goodIn_r _ [40, 41, 7, 42, 1, 43, 14, 44, 45, 21, 46, 47, 48, 49, 17, 50, 51, 52, 53, 22, 23, 24, 25, 26, 27, 54, 55, 56, 57, 58, 13, 15, 16, 28, 29, 30, 31, 32, 18, 19, 20, 59, 60, 61, 62, 63, 64, 65, 66, 67, 68, 69, 70, 71, 72, 73, 74, 75, 76, 77, 78, 79, 80, 81, 82, 83, 5, 84, 99, 100, 101, 102, 103, 104, 105, 106, 107, 108, 109, 110, 111, 112, 113, 114, 125, 126, 127, 128, 129, 130, 131, 115, 116, 117, 118, 119, 120, 121, 122, 123, 124, 132, 133, 134, 135, 136] (by decide +kernel) (by decide +kernel)
set_option maxRecDepth 20000 in
theorem gX11_attempt_X11_fittingTalents : GoodIn wsX11_attempt (wsV RX11 274 RX11 yX11_fittingTalents wsX11_fittingTalents) := goodIn_app (goodIn_of _ (by decide +kernel)) ggX11_attempt_X11_fittingTalents
set_option maxRecDepth 20000 in
theorem ggX11_attempt_X11_mostAlike : GoodIn wsX11_attempt wsX11_mostAlike := goodIn_r _ [88, 89, 41, 7, 90, 1, 91, 92, 93, 94, 95, 96, 97, 98, 43, 14, 44, 45, 21, 46, 47, 48, 49, 17, 50, 51, 52, 53, 59, 60, 61, 62, 63, 18, 19, 20, 64, 65, 66, 67, 68, 69, 70, 71, 72, 73, 74, 75, 76, 77, 78, 79, 80, 81, 82, 83, 5, 84, 99, 100, 101, 102, 103, 104, 105, 106, 107, 108, 109, 110, 111, 112, 113, 114, 129, 130, 131, 135, 136, 115, 116, 117, 118, 119, 120, 121, 122, 123, 124] (by decide +kernel) (by decide +kernel)
set_option maxRecDepth 20000 in
theorem gX11_attempt_X11_mostAlike : GoodIn wsX11_attempt (wsV RX11 281 RX11 yX11_mostAlike wsX11_mostAlike) := goodIn_app (goodIn_of _ (by decide +kernel)) ggX11_attempt_X11_mostAlike
theorem dX11_attempt_0 : decode cX11_attempt 0 = .ok (.aload_n 0, 1) := by decide +kernel
theorem dX11_attempt_1 : decode cX11_attempt 1 = .ok (.iload_n 1, 1) := by decide +kernel
theorem dX11_attempt_2 : decode cX11_attempt 2 = .ok (.iload_n 2, 1) := by decide +kernel
theorem dX11_attempt_3 : decode cX11_attempt 3 = .ok (.invokevirtual 271, 3) := by decide +kernel
theorem dX11_attempt_6 : decode cX11_attempt 6 = .ok (.istore 4, 2) := by decide +kernel
theorem dX11_attempt_8 : decode cX11_attempt 8 = .ok (.iload 4, 2) := by decide +kernel
theorem dX11_attempt_10 : decode cX11_attempt 10 = .ok (.ifCond .eq 9, 3) := by decide +kernel
theorem dX11_attempt_13 : decode cX11_attempt 13 = .ok (.iload 4, 2) := by decide +kernel
theorem dX11_attempt_15 : decode cX11_attempt 15 = .ok (.invokestatic 108, 3) := by decide +kernel
theorem dX11_attempt_18 : decode cX11_attempt 18 = .ok (.ireturn, 1) := by decide +kernel
theorem dX11_attempt_19 : decode cX11_attempt 19 = .ok (.aload_n 0, 1) := by decide +kernel
theorem dX11_attempt_20 : decode cX11_attempt 20 = .ok (.aload_n 0, 1) := by decide +kernel
theorem dX11_attempt_21 : decode cX11_attempt 21 = .ok (.iload_n 1, 1) := by decide +kernel
theorem dX11_attempt_22 : decode cX11_attempt 22 = .ok (.invokevirtual 200, 3) := by decide +kernel
theorem dX11_attempt_25 : decode cX11_attempt 25 = .ok (.iload_n 2, 1) := by decide +kernel
theorem dX11_attempt_26 : decode cX11_attempt 26 = .ok (.iload_n 3, 1) := by decide +kernel
theorem dX11_attempt_27 : decode cX11_attempt 27 = .ok (.invokevirtual 274, 3) := by decide +kernel
theorem dX11_attempt_30 : decode cX11_attempt 30 = .ok (.istore 5, 2) := by decide +kernel
theorem dX11_attempt_32 : decode cX11_attempt 32 = .ok (.iconst (-1), 1) := by decide +kernel
theorem dX11_attempt_33 : decode cX11_attempt 33 = .ok (.istore 6, 2) := by decide +kernel
theorem dX11_attempt_35 : decode cX11_attempt 35 = .ok (.bipush 11, 2) := by decide +kernel
theorem dX11_attempt_37 : decode cX11_attempt 37 = .ok (.istore 7, 2) := by decide +kernel
theorem dX11_attempt_39 : decode cX11_attempt 39 = .ok (.iconst 0, 1) := by decide +kernel
theorem dX11_attempt_40 : decode cX11_attempt 40 = .ok (.istore 8, 2) := by decide +kernel
theorem dX11_attempt_42 : decode cX11_attempt 42 = .ok (.iload 5, 2) := by decide +kernel
theorem dX11_attempt_44 : decode cX11_attempt 44 = .ok (.ifCond .eq 47, 3) := by decide +kernel
theorem dX11_attempt_47 : decode cX11_attempt 47 = .ok (.iload 8, 2) := by decide +kernel
theorem dX11_attempt_49 : decode cX11_attempt 49 = .ok (.aload_n 0, 1) := by decide +kernel
theorem dX11_attempt_50 : decode cX11_attempt 50 = .ok (.getfield 27, 3) := by decide +kernel
theorem dX11_attempt_53 : decode cX11_attempt 53 = .ok (.getfield 278, 3) := by decide +kernel
theorem dX11_attempt_56 : decode cX11_attempt 56 = .ok (.if_icmp .ge 35, 3) := by decide +kernel
theorem dX11_attempt_59 : decode cX11_attempt 59 = .ok (.aload_n 0, 1) := by decide +kernel
theorem dX11_attempt_60 : decode cX11_attempt 60 = .ok (.iload_n 2, 1) := by decide +kernel
theorem dX11_attempt_61 : decode cX11_attempt 61 = .ok (.iload 8, 2) := by decide +kernel
theorem dX11_attempt_63 : decode cX11_attempt 63 = .ok (.iload 5, 2) := by decide +kernel
theorem dX11_attempt_65 : decode cX11_attempt 65 = .ok (.invokevirtual 281, 3) := by decide +kernel
theorem dX11_attempt_68 : decode cX11_attempt 68 = .ok (.istore 9, 2) := by decide +kernel
theorem dX11_attempt_70 : decode cX11_attempt 70 = .ok (.iload 9, 2) := by decide +kernel
theorem dX11_attempt_72 : decode cX11_attempt 72 = .ok (.iload 7, 2) := by decide +kernel
theorem dX11_attempt_74 : decode cX11_attempt 74 = .ok (.if_icmp .ge 11, 3) := by decide +kernel
theorem dX11_attempt_77 : decode cX11_attempt 77 = .ok (.iload 9, 2) := by decide +kernel
theorem dX11_attempt_79 : decode cX11_attempt 79 = .ok (.istore 7, 2) := by decide +kernel
theorem dX11_attempt_81 : decode cX11_attempt 81 = .ok (.iload 8, 2) := by decide +kernel
theorem dX11_attempt_83 : decode cX11_attempt 83 = .ok (.istore 6, 2) := by decide +kernel
theorem dX11_attempt_85 : decode cX11_attempt 85 = .ok (.iinc 8 1, 3) := by decide +kernel
theorem dX11_attempt_88 : decode cX11_attempt 88 = .ok (.goto (-46), 3) := by decide +kernel
theorem dX11_attempt_91 : decode cX11_attempt 91 = .ok (.iload 6, 2) := by decide +kernel
theorem dX11_attempt_93 : decode cX11_attempt 93 = .ok (.ireturn, 1) := by decide +kernel
set_option maxRecDepth 20000 in
theorem ggX11_run_X5_isSet : GoodIn wsX11_run wsX5_isSet := goodIn_r _ [5, 6, 7, 8, 3, 9, 10, 51, 52, 53] (by decide +kernel) (by decide +kernel)
set_option maxRecDepth 20000 in
theorem gX11_run_X5_isSet_n285 : GoodIn wsX11_run (wsX5_isSet) := ggX11_run_X5_isSet
set_option maxRecDepth 20000 in
theorem ggX11_run_X5_runOf : GoodIn wsX11_run wsX5_runOf := goodIn_r _ [13, 10, 14, 15, 16, 3, 17, 18, 19, 20, 21, 22, 23, 24, 25, 26, 27, 28, 29, 51, 52, 53] (by decide +kernel) (by decide +kernel)
set_option maxRecDepth 20000 in
theorem gX11_run_X5_runOf_n288 : GoodIn wsX11_run (wsX5_runOf) := ggX11_run_X5_runOf
set_option maxRecDepth 20000 in
theorem ggX11_run_X11_refused : GoodIn wsX11_run wsX11_refused := goodIn_r _ [33, 34] (by decide +kernel) (by decide +kernel)
set_option maxRecDepth 20000 in
theorem gX11_run_X11_refused : GoodIn wsX11_run (va_wsS RX11 108 yX11_refused wsX11_refused) := goodIn_app (goodIn_of _ (by decide +kernel)) ggX11_run_X11_refused
theorem dX11_run_0 : decode cX11_run 0 = .ok (.aload_n 0, 1) := by decide +kernel
theorem dX11_run_1 : decode cX11_run 1 = .ok (.getfield 34, 3) := by decide +kernel
theorem dX11_run_4 : decode cX11_run 4 = .ok (.iload_n 1, 1) := by decide +kernel
theorem dX11_run_5 : decode cX11_run 5 = .ok (.invokevirtual 285, 3) := by decide +kernel
theorem dX11_run_8 : decode cX11_run 8 = .ok (.ifCond .eq 15, 3) := by decide +kernel
theorem dX11_run_11 : decode cX11_run 11 = .ok (.aload_n 0, 1) := by decide +kernel
theorem dX11_run_12 : decode cX11_run 12 = .ok (.getfield 34, 3) := by decide +kernel
theorem dX11_run_15 : decode cX11_run 15 = .ok (.iload_n 1, 1) := by decide +kernel
theorem dX11_run_16 : decode cX11_run 16 = .ok (.iconst 0, 1) := by decide +kernel
theorem dX11_run_17 : decode cX11_run 17 = .ok (.invokevirtual 288, 3) := by decide +kernel
theorem dX11_run_20 : decode cX11_run 20 = .ok (.goto 7, 3) := by decide +kernel
theorem dX11_run_23 : decode cX11_run 23 = .ok (.iconst 3, 1) := by decide +kernel
theorem dX11_run_24 : decode cX11_run 24 = .ok (.invokestatic 108, 3) := by decide +kernel
theorem dX11_run_27 : decode cX11_run 27 = .ok (.ireturn, 1) := by decide +kernel
set_option maxRecDepth 20000 in
theorem ggX11_rounds_X5_isSet : GoodIn wsX11_rounds wsX5_isSet := goodIn_r _ [5, 6, 7, 8, 3, 9, 10, 51, 52, 53] (by decide +kernel) (by decide +kernel)
set_option maxRecDepth 20000 in
theorem gX11_rounds_X5_isSet_n285 : GoodIn wsX11_rounds (wsX5_isSet) := ggX11_rounds_X5_isSet
set_option maxRecDepth 20000 in
theorem ggX11_rounds_X5_roundsOf : GoodIn wsX11_rounds wsX5_roundsOf := goodIn_r _ [13, 10, 14, 15, 16, 3, 17, 18, 19, 20, 21, 22, 23, 24, 25, 26, 27, 28, 29, 51, 52, 53] (by decide +kernel) (by decide +kernel)
set_option maxRecDepth 20000 in
theorem gX11_rounds_X5_roundsOf_n291 : GoodIn wsX11_rounds (wsX5_roundsOf) := ggX11_rounds_X5_roundsOf
set_option maxRecDepth 20000 in
theorem ggX11_rounds_X11_refused : GoodIn wsX11_rounds wsX11_refused := goodIn_r _ [33, 34] (by decide +kernel) (by decide +kernel)
set_option maxRecDepth 20000 in
theorem gX11_rounds_X11_refused : GoodIn wsX11_rounds (va_wsS RX11 108 yX11_refused wsX11_refused) := goodIn_app (goodIn_of _ (by decide +kernel)) ggX11_rounds_X11_refused
theorem dX11_rounds_0 : decode cX11_rounds 0 = .ok (.aload_n 0, 1) := by decide +kernel
theorem dX11_rounds_1 : decode cX11_rounds 1 = .ok (.getfield 34, 3) := by decide +kernel
theorem dX11_rounds_4 : decode cX11_rounds 4 = .ok (.iload_n 1, 1) := by decide +kernel
theorem dX11_rounds_5 : decode cX11_rounds 5 = .ok (.invokevirtual 285, 3) := by decide +kernel
theorem dX11_rounds_8 : decode cX11_rounds 8 = .ok (.ifCond .eq 14, 3) := by decide +kernel
theorem dX11_rounds_11 : decode cX11_rounds 11 = .ok (.aload_n 0, 1) := by decide +kernel
theorem dX11_rounds_12 : decode cX11_rounds 12 = .ok (.getfield 34, 3) := by decide +kernel
theorem dX11_rounds_15 : decode cX11_rounds 15 = .ok (.iload_n 1, 1) := by decide +kernel
theorem dX11_rounds_16 : decode cX11_rounds 16 = .ok (.invokevirtual 291, 3) := by decide +kernel
theorem dX11_rounds_19 : decode cX11_rounds 19 = .ok (.goto 7, 3) := by decide +kernel
theorem dX11_rounds_22 : decode cX11_rounds 22 = .ok (.iconst 3, 1) := by decide +kernel
theorem dX11_rounds_23 : decode cX11_rounds 23 = .ok (.invokestatic 108, 3) := by decide +kernel
theorem dX11_rounds_26 : decode cX11_rounds 26 = .ok (.ireturn, 1) := by decide +kernel
set_option maxRecDepth 20000 in
theorem ggX11_spark_X11_refused : GoodIn wsX11_spark wsX11_refused := goodIn_r _ [5, 6] (by decide +kernel) (by decide +kernel)
set_option maxRecDepth 20000 in
theorem gX11_spark_X11_refused : GoodIn wsX11_spark (va_wsS RX11 108 yX11_refused wsX11_refused) := goodIn_app (goodIn_of _ (by decide +kernel)) ggX11_spark_X11_refused
set_option maxRecDepth 20000 in
theorem ggX11_spark_X5_everybody : GoodIn wsX11_spark wsX5_everybody := goodIn_r _ [10, 11, 48, 49, 50] (by decide +kernel) (by decide +kernel)
set_option maxRecDepth 20000 in
theorem gX11_spark_X5_everybody_n294 : GoodIn wsX11_spark (wsX5_everybody) := ggX11_spark_X5_everybody
set_option maxRecDepth 20000 in
theorem ggX11_spark_J6_bitCount_0f7a4 : GoodIn wsX11_spark wsJ6_bitCount_0f7a4 := goodIn_r _ [15, 16, 17, 18] (by decide +kernel) (by decide +kernel)
set_option maxRecDepth 20000 in
theorem gX11_spark_J6_bitCount_0f7a4 : GoodIn wsX11_spark (va_wsS RX11 297 yJ6_bitCount_0f7a4 wsJ6_bitCount_0f7a4) := goodIn_app (goodIn_of _ (by decide +kernel)) ggX11_spark_J6_bitCount_0f7a4
set_option maxRecDepth 20000 in
theorem ggX11_spark_X5_runOf : GoodIn wsX11_spark wsX5_runOf := goodIn_r _ [21, 11, 22, 23, 24, 8, 25, 26, 13, 14, 15, 16, 17, 18, 27, 28, 29, 30, 31, 48, 49, 50] (by decide +kernel) (by decide +kernel)
set_option maxRecDepth 20000 in
theorem gX11_spark_X5_runOf_n288 : GoodIn wsX11_spark (wsX5_runOf) := ggX11_spark_X5_runOf
theorem dX11_spark_0 : decode cX11_spark 0 = .ok (.iload_n 1, 1) := by decide +kernel
theorem dX11_spark_1 : decode cX11_spark 1 = .ok (.iconst 1, 1) := by decide +kernel
theorem dX11_spark_2 : decode cX11_spark 2 = .ok (.if_icmp .lt 9, 3) := by decide +kernel
theorem dX11_spark_5 : decode cX11_spark 5 = .ok (.iload_n 1, 1) := by decide +kernel
theorem dX11_spark_6 : decode cX11_spark 6 = .ok (.bipush 6, 2) := by decide +kernel
theorem dX11_spark_8 : decode cX11_spark 8 = .ok (.if_icmp .le 8, 3) := by decide +kernel
theorem dX11_spark_11 : decode cX11_spark 11 = .ok (.iconst 3, 1) := by decide +kernel
theorem dX11_spark_12 : decode cX11_spark 12 = .ok (.invokestatic 108, 3) := by decide +kernel
theorem dX11_spark_15 : decode cX11_spark 15 = .ok (.ireturn, 1) := by decide +kernel
theorem dX11_spark_16 : decode cX11_spark 16 = .ok (.iconst (-1), 1) := by decide +kernel
theorem dX11_spark_17 : decode cX11_spark 17 = .ok (.istore_n 2, 1) := by decide +kernel
theorem dX11_spark_18 : decode cX11_spark 18 = .ok (.bipush 7, 2) := by decide +kernel
theorem dX11_spark_20 : decode cX11_spark 20 = .ok (.istore_n 3, 1) := by decide +kernel
theorem dX11_spark_21 : decode cX11_spark 21 = .ok (.iconst 0, 1) := by decide +kernel
theorem dX11_spark_22 : decode cX11_spark 22 = .ok (.istore 4, 2) := by decide +kernel
theorem dX11_spark_24 : decode cX11_spark 24 = .ok (.iload 4, 2) := by decide +kernel
theorem dX11_spark_26 : decode cX11_spark 26 = .ok (.aload_n 0, 1) := by decide +kernel
theorem dX11_spark_27 : decode cX11_spark 27 = .ok (.getfield 34, 3) := by decide +kernel
theorem dX11_spark_30 : decode cX11_spark 30 = .ok (.invokevirtual 294, 3) := by decide +kernel
theorem dX11_spark_33 : decode cX11_spark 33 = .ok (.if_icmp .gt 45, 3) := by decide +kernel
theorem dX11_spark_36 : decode cX11_spark 36 = .ok (.iload 4, 2) := by decide +kernel
theorem dX11_spark_38 : decode cX11_spark 38 = .ok (.invokestatic 297, 3) := by decide +kernel
theorem dX11_spark_41 : decode cX11_spark 41 = .ok (.istore 5, 2) := by decide +kernel
theorem dX11_spark_43 : decode cX11_spark 43 = .ok (.iload 5, 2) := by decide +kernel
theorem dX11_spark_45 : decode cX11_spark 45 = .ok (.iload_n 3, 1) := by decide +kernel
theorem dX11_spark_46 : decode cX11_spark 46 = .ok (.if_icmp .ge 26, 3) := by decide +kernel
theorem dX11_spark_49 : decode cX11_spark 49 = .ok (.aload_n 0, 1) := by decide +kernel
theorem dX11_spark_50 : decode cX11_spark 50 = .ok (.getfield 34, 3) := by decide +kernel
theorem dX11_spark_53 : decode cX11_spark 53 = .ok (.iload 4, 2) := by decide +kernel
theorem dX11_spark_55 : decode cX11_spark 55 = .ok (.iconst 0, 1) := by decide +kernel
theorem dX11_spark_56 : decode cX11_spark 56 = .ok (.invokevirtual 288, 3) := by decide +kernel
theorem dX11_spark_59 : decode cX11_spark 59 = .ok (.invokestatic 297, 3) := by decide +kernel
theorem dX11_spark_62 : decode cX11_spark 62 = .ok (.iload_n 1, 1) := by decide +kernel
theorem dX11_spark_63 : decode cX11_spark 63 = .ok (.if_icmp .lt 9, 3) := by decide +kernel
theorem dX11_spark_66 : decode cX11_spark 66 = .ok (.iload 5, 2) := by decide +kernel
theorem dX11_spark_68 : decode cX11_spark 68 = .ok (.istore_n 3, 1) := by decide +kernel
theorem dX11_spark_69 : decode cX11_spark 69 = .ok (.iload 4, 2) := by decide +kernel
theorem dX11_spark_71 : decode cX11_spark 71 = .ok (.istore_n 2, 1) := by decide +kernel
theorem dX11_spark_72 : decode cX11_spark 72 = .ok (.iinc 4 1, 3) := by decide +kernel
theorem dX11_spark_75 : decode cX11_spark 75 = .ok (.goto (-51), 3) := by decide +kernel
theorem dX11_spark_78 : decode cX11_spark 78 = .ok (.iload_n 2, 1) := by decide +kernel
theorem dX11_spark_79 : decode cX11_spark 79 = .ok (.ireturn, 1) := by decide +kernel
set_option maxRecDepth 20000 in
theorem ggX11_calm_X5_isSet : GoodIn wsX11_calm wsX5_isSet := goodIn_r _ [5, 6, 7, 8, 3, 9, 10, 52, 53, 54] (by decide +kernel) (by decide +kernel)
set_option maxRecDepth 20000 in
theorem gX11_calm_X5_isSet_n285 : GoodIn wsX11_calm (wsX5_isSet) := ggX11_calm_X5_isSet
set_option maxRecDepth 20000 in
theorem ggX11_calm_X11_refused : GoodIn wsX11_calm wsX11_refused := goodIn_r _ [14, 15] (by decide +kernel) (by decide +kernel)
set_option maxRecDepth 20000 in
theorem gX11_calm_X11_refused : GoodIn wsX11_calm (va_wsS RX11 108 yX11_refused wsX11_refused) := goodIn_app (goodIn_of _ (by decide +kernel)) ggX11_calm_X11_refused
set_option maxRecDepth 20000 in
theorem ggX11_calm_X5_everybody : GoodIn wsX11_calm wsX5_everybody := goodIn_r _ [9, 10, 52, 53, 54] (by decide +kernel) (by decide +kernel)
set_option maxRecDepth 20000 in
theorem gX11_calm_X5_everybody_n294 : GoodIn wsX11_calm (wsX5_everybody) := ggX11_calm_X5_everybody
set_option maxRecDepth 20000 in
theorem ggX11_calm_J6_bitCount_0f7a4 : GoodIn wsX11_calm wsJ6_bitCount_0f7a4 := goodIn_r _ [19, 20, 21, 22] (by decide +kernel) (by decide +kernel)
set_option maxRecDepth 20000 in
theorem gX11_calm_J6_bitCount_0f7a4 : GoodIn wsX11_calm (va_wsS RX11 297 yJ6_bitCount_0f7a4 wsJ6_bitCount_0f7a4) := goodIn_app (goodIn_of _ (by decide +kernel)) ggX11_calm_J6_bitCount_0f7a4
set_option maxRecDepth 20000 in
theorem ggX11_calm_X5_runOf : GoodIn wsX11_calm wsX5_runOf := goodIn_r _ [25, 10, 26, 27, 28, 3, 29, 30, 17, 18, 19, 20, 21, 22, 31, 32, 33, 34, 35, 52, 53, 54] (by decide +kernel) (by decide +kernel)
set_option maxRecDepth 20000 in
theorem gX11_calm_X5_runOf_n288 : GoodIn wsX11_calm (wsX5_runOf) := ggX11_calm_X5_runOf
theorem dX11_calm_0 : decode cX11_calm 0 = .ok (.aload_n 0, 1) := by decide +kernel
theorem dX11_calm_1 : decode cX11_calm 1 = .ok (.getfield 34, 3) := by decide +kernel
theorem dX11_calm_4 : decode cX11_calm 4 = .ok (.iload_n 1, 1) := by decide +kernel
theorem dX11_calm_5 : decode cX11_calm 5 = .ok (.invokevirtual 285, 3) := by decide +kernel
theorem dX11_calm_8 : decode cX11_calm 8 = .ok (.ifCond .eq 13, 3) := by decide +kernel
theorem dX11_calm_11 : decode cX11_calm 11 = .ok (.iload_n 2, 1) := by decide +kernel
theorem dX11_calm_12 : decode cX11_calm 12 = .ok (.ifCond .lt 9, 3) := by decide +kernel
theorem dX11_calm_15 : decode cX11_calm 15 = .ok (.iload_n 2, 1) := by decide +kernel
theorem dX11_calm_16 : decode cX11_calm 16 = .ok (.bipush 6, 2) := by decide +kernel
theorem dX11_calm_18 : decode cX11_calm 18 = .ok (.if_icmp .le 8, 3) := by decide +kernel
theorem dX11_calm_21 : decode cX11_calm 21 = .ok (.iconst 3, 1) := by decide +kernel
theorem dX11_calm_22 : decode cX11_calm 22 = .ok (.invokestatic 108, 3) := by decide +kernel
theorem dX11_calm_25 : decode cX11_calm 25 = .ok (.ireturn, 1) := by decide +kernel
theorem dX11_calm_26 : decode cX11_calm 26 = .ok (.iconst (-1), 1) := by decide +kernel
theorem dX11_calm_27 : decode cX11_calm 27 = .ok (.istore_n 3, 1) := by decide +kernel
theorem dX11_calm_28 : decode cX11_calm 28 = .ok (.bipush 7, 2) := by decide +kernel
theorem dX11_calm_30 : decode cX11_calm 30 = .ok (.istore 4, 2) := by decide +kernel
theorem dX11_calm_32 : decode cX11_calm 32 = .ok (.iconst 0, 1) := by decide +kernel
theorem dX11_calm_33 : decode cX11_calm 33 = .ok (.istore 5, 2) := by decide +kernel
theorem dX11_calm_35 : decode cX11_calm 35 = .ok (.iload 5, 2) := by decide +kernel
theorem dX11_calm_37 : decode cX11_calm 37 = .ok (.aload_n 0, 1) := by decide +kernel
theorem dX11_calm_38 : decode cX11_calm 38 = .ok (.getfield 34, 3) := by decide +kernel
theorem dX11_calm_41 : decode cX11_calm 41 = .ok (.invokevirtual 294, 3) := by decide +kernel
theorem dX11_calm_44 : decode cX11_calm 44 = .ok (.if_icmp .gt 54, 3) := by decide +kernel
theorem dX11_calm_47 : decode cX11_calm 47 = .ok (.iload 5, 2) := by decide +kernel
theorem dX11_calm_49 : decode cX11_calm 49 = .ok (.invokestatic 297, 3) := by decide +kernel
theorem dX11_calm_52 : decode cX11_calm 52 = .ok (.istore 6, 2) := by decide +kernel
theorem dX11_calm_54 : decode cX11_calm 54 = .ok (.iload 5, 2) := by decide +kernel
theorem dX11_calm_56 : decode cX11_calm 56 = .ok (.iload_n 1, 1) := by decide +kernel
theorem dX11_calm_57 : decode cX11_calm 57 = .ok (.iand, 1) := by decide +kernel
theorem dX11_calm_58 : decode cX11_calm 58 = .ok (.ifCond .ne 34, 3) := by decide +kernel
theorem dX11_calm_61 : decode cX11_calm 61 = .ok (.iload 6, 2) := by decide +kernel
theorem dX11_calm_63 : decode cX11_calm 63 = .ok (.iload 4, 2) := by decide +kernel
theorem dX11_calm_65 : decode cX11_calm 65 = .ok (.if_icmp .ge 27, 3) := by decide +kernel
theorem dX11_calm_68 : decode cX11_calm 68 = .ok (.aload_n 0, 1) := by decide +kernel
theorem dX11_calm_69 : decode cX11_calm 69 = .ok (.getfield 34, 3) := by decide +kernel
theorem dX11_calm_72 : decode cX11_calm 72 = .ok (.iload_n 1, 1) := by decide +kernel
theorem dX11_calm_73 : decode cX11_calm 73 = .ok (.iload 5, 2) := by decide +kernel
theorem dX11_calm_75 : decode cX11_calm 75 = .ok (.invokevirtual 288, 3) := by decide +kernel
theorem dX11_calm_78 : decode cX11_calm 78 = .ok (.invokestatic 297, 3) := by decide +kernel
theorem dX11_calm_81 : decode cX11_calm 81 = .ok (.iload_n 2, 1) := by decide +kernel
theorem dX11_calm_82 : decode cX11_calm 82 = .ok (.if_icmp .gt 10, 3) := by decide +kernel
theorem dX11_calm_85 : decode cX11_calm 85 = .ok (.iload 6, 2) := by decide +kernel
theorem dX11_calm_87 : decode cX11_calm 87 = .ok (.istore 4, 2) := by decide +kernel
theorem dX11_calm_89 : decode cX11_calm 89 = .ok (.iload 5, 2) := by decide +kernel
theorem dX11_calm_91 : decode cX11_calm 91 = .ok (.istore_n 3, 1) := by decide +kernel
theorem dX11_calm_92 : decode cX11_calm 92 = .ok (.iinc 5 1, 3) := by decide +kernel
theorem dX11_calm_95 : decode cX11_calm 95 = .ok (.goto (-60), 3) := by decide +kernel
theorem dX11_calm_98 : decode cX11_calm 98 = .ok (.iload_n 3, 1) := by decide +kernel
theorem dX11_calm_99 : decode cX11_calm 99 = .ok (.ireturn, 1) := by decide +kernel
set_option maxRecDepth 20000 in
theorem ggX11_rests_X5_everybody : GoodIn wsX11_rests wsX5_everybody := goodIn_r _ [5, 6, 38, 39, 40] (by decide +kernel) (by decide +kernel)
set_option maxRecDepth 20000 in
theorem gX11_rests_X5_everybody_n294 : GoodIn wsX11_rests (wsX5_everybody) := ggX11_rests_X5_everybody
set_option maxRecDepth 20000 in
theorem ggX11_rests_X5_atRest : GoodIn wsX11_rests wsX5_atRest := goodIn_r _ [9, 6, 10, 11, 12, 13, 14, 15, 16, 17, 18, 19, 3, 20, 21, 38, 39, 40] (by decide +kernel) (by decide +kernel)
set_option maxRecDepth 20000 in
theorem gX11_rests_X5_atRest_n302 : GoodIn wsX11_rests (wsX5_atRest) := ggX11_rests_X5_atRest
theorem dX11_rests_0 : decode cX11_rests 0 = .ok (.iconst 0, 1) := by decide +kernel
theorem dX11_rests_1 : decode cX11_rests 1 = .ok (.istore_n 1, 1) := by decide +kernel
theorem dX11_rests_2 : decode cX11_rests 2 = .ok (.iconst 0, 1) := by decide +kernel
theorem dX11_rests_3 : decode cX11_rests 3 = .ok (.istore_n 2, 1) := by decide +kernel
theorem dX11_rests_4 : decode cX11_rests 4 = .ok (.iload_n 2, 1) := by decide +kernel
theorem dX11_rests_5 : decode cX11_rests 5 = .ok (.aload_n 0, 1) := by decide +kernel
theorem dX11_rests_6 : decode cX11_rests 6 = .ok (.getfield 34, 3) := by decide +kernel
theorem dX11_rests_9 : decode cX11_rests 9 = .ok (.invokevirtual 294, 3) := by decide +kernel
theorem dX11_rests_12 : decode cX11_rests 12 = .ok (.if_icmp .gt 23, 3) := by decide +kernel
theorem dX11_rests_15 : decode cX11_rests 15 = .ok (.aload_n 0, 1) := by decide +kernel
theorem dX11_rests_16 : decode cX11_rests 16 = .ok (.getfield 34, 3) := by decide +kernel
theorem dX11_rests_19 : decode cX11_rests 19 = .ok (.iload_n 2, 1) := by decide +kernel
theorem dX11_rests_20 : decode cX11_rests 20 = .ok (.invokevirtual 302, 3) := by decide +kernel
theorem dX11_rests_23 : decode cX11_rests 23 = .ok (.ifCond .eq 6, 3) := by decide +kernel
theorem dX11_rests_26 : decode cX11_rests 26 = .ok (.iinc 1 1, 3) := by decide +kernel
theorem dX11_rests_29 : decode cX11_rests 29 = .ok (.iinc 2 1, 3) := by decide +kernel
theorem dX11_rests_32 : decode cX11_rests 32 = .ok (.goto (-28), 3) := by decide +kernel
theorem dX11_rests_35 : decode cX11_rests 35 = .ok (.iload_n 1, 1) := by decide +kernel
theorem dX11_rests_36 : decode cX11_rests 36 = .ok (.ireturn, 1) := by decide +kernel
set_option maxRecDepth 20000 in
theorem ggX11_rest_X11_refused : GoodIn wsX11_rest wsX11_refused := goodIn_r _ [5, 6] (by decide +kernel) (by decide +kernel)
set_option maxRecDepth 20000 in
theorem gX11_rest_X11_refused : GoodIn wsX11_rest (va_wsS RX11 108 yX11_refused wsX11_refused) := goodIn_app (goodIn_of _ (by decide +kernel)) ggX11_rest_X11_refused
set_option maxRecDepth 20000 in
theorem ggX11_rest_X5_everybody : GoodIn wsX11_rest wsX5_everybody := goodIn_r _ [10, 11, 43, 44, 45] (by decide +kernel) (by decide +kernel)
set_option maxRecDepth 20000 in
theorem gX11_rest_X5_everybody_n294 : GoodIn wsX11_rest (wsX5_everybody) := ggX11_rest_X5_everybody
set_option maxRecDepth 20000 in
theorem ggX11_rest_X5_atRest : GoodIn wsX11_rest wsX5_atRest := goodIn_r _ [14, 11, 15, 16, 17, 18, 19, 20, 21, 22, 23, 24, 8, 25, 26, 43, 44, 45] (by decide +kernel) (by decide +kernel)
set_option maxRecDepth 20000 in
theorem gX11_rest_X5_atRest_n302 : GoodIn wsX11_rest (wsX5_atRest) := ggX11_rest_X5_atRest
theorem dX11_rest_0 : decode cX11_rest 0 = .ok (.iload_n 1, 1) := by decide +kernel
theorem dX11_rest_1 : decode cX11_rest 1 = .ok (.ifCond .ge 8, 3) := by decide +kernel
theorem dX11_rest_4 : decode cX11_rest 4 = .ok (.iconst 3, 1) := by decide +kernel
theorem dX11_rest_5 : decode cX11_rest 5 = .ok (.invokestatic 108, 3) := by decide +kernel
theorem dX11_rest_8 : decode cX11_rest 8 = .ok (.ireturn, 1) := by decide +kernel
theorem dX11_rest_9 : decode cX11_rest 9 = .ok (.iconst 0, 1) := by decide +kernel
theorem dX11_rest_10 : decode cX11_rest 10 = .ok (.istore_n 2, 1) := by decide +kernel
theorem dX11_rest_11 : decode cX11_rest 11 = .ok (.iconst 0, 1) := by decide +kernel
theorem dX11_rest_12 : decode cX11_rest 12 = .ok (.istore_n 3, 1) := by decide +kernel
theorem dX11_rest_13 : decode cX11_rest 13 = .ok (.iload_n 3, 1) := by decide +kernel
theorem dX11_rest_14 : decode cX11_rest 14 = .ok (.aload_n 0, 1) := by decide +kernel
theorem dX11_rest_15 : decode cX11_rest 15 = .ok (.getfield 34, 3) := by decide +kernel
theorem dX11_rest_18 : decode cX11_rest 18 = .ok (.invokevirtual 294, 3) := by decide +kernel
theorem dX11_rest_21 : decode cX11_rest 21 = .ok (.if_icmp .gt 30, 3) := by decide +kernel
theorem dX11_rest_24 : decode cX11_rest 24 = .ok (.aload_n 0, 1) := by decide +kernel
theorem dX11_rest_25 : decode cX11_rest 25 = .ok (.getfield 34, 3) := by decide +kernel
theorem dX11_rest_28 : decode cX11_rest 28 = .ok (.iload_n 3, 1) := by decide +kernel
theorem dX11_rest_29 : decode cX11_rest 29 = .ok (.invokevirtual 302, 3) := by decide +kernel
theorem dX11_rest_32 : decode cX11_rest 32 = .ok (.ifCond .eq 13, 3) := by decide +kernel
theorem dX11_rest_35 : decode cX11_rest 35 = .ok (.iload_n 2, 1) := by decide +kernel
theorem dX11_rest_36 : decode cX11_rest 36 = .ok (.iload_n 1, 1) := by decide +kernel
theorem dX11_rest_37 : decode cX11_rest 37 = .ok (.if_icmp .ne 5, 3) := by decide +kernel
theorem dX11_rest_40 : decode cX11_rest 40 = .ok (.iload_n 3, 1) := by decide +kernel
theorem dX11_rest_41 : decode cX11_rest 41 = .ok (.ireturn, 1) := by decide +kernel
theorem dX11_rest_42 : decode cX11_rest 42 = .ok (.iinc 2 1, 3) := by decide +kernel
theorem dX11_rest_45 : decode cX11_rest 45 = .ok (.iinc 3 1, 3) := by decide +kernel
theorem dX11_rest_48 : decode cX11_rest 48 = .ok (.goto (-35), 3) := by decide +kernel
theorem dX11_rest_51 : decode cX11_rest 51 = .ok (.iconst (-1), 1) := by decide +kernel
theorem dX11_rest_52 : decode cX11_rest 52 = .ok (.ireturn, 1) := by decide +kernel
set_option maxRecDepth 20000 in
theorem ggX11_numbers_X11_trayAt : GoodIn wsX11_numbers wsX11_trayAt := goodIn_r _ [5, 6, 23, 24, 25, 26, 27, 28, 29, 30, 31, 32, 33, 34, 35, 36, 37, 38] (by decide +kernel) (by decide +kernel)
set_option maxRecDepth 20000 in
theorem gX11_numbers_X11_trayAt : GoodIn wsX11_numbers (wsV RX11 200 RX11 yX11_trayAt wsX11_trayAt) := goodIn_app (goodIn_of _ (by decide +kernel)) ggX11_numbers_X11_trayAt
set_option maxRecDepth 20000 in
theorem ggX11_numbers_X11_refused : GoodIn wsX11_numbers wsX11_refused := goodIn_r _ [9, 10] (by decide +kernel) (by decide +kernel)
set_option maxRecDepth 20000 in
theorem gX11_numbers_X11_refused : GoodIn wsX11_numbers (va_wsS RX11 108 yX11_refused wsX11_refused) := goodIn_app (goodIn_of _ (by decide +kernel)) ggX11_numbers_X11_refused
set_option maxRecDepth 20000 in
theorem ggX11_numbers_X9_make : GoodIn wsX11_numbers wsX9_make := goodIn_r _ [14, 15, 16, 17, 18, 19, 20, 21, 22, 39, 40, 41, 42] (by decide +kernel) (by decide +kernel)
set_option maxRecDepth 20000 in
theorem gX11_numbers_X9_make_n305 : GoodIn wsX11_numbers (wsX9_make) := ggX11_numbers_X9_make
theorem dX11_numbers_0 : decode cX11_numbers 0 = .ok (.aload_n 0, 1) := by decide +kernel
theorem dX11_numbers_1 : decode cX11_numbers 1 = .ok (.iload_n 1, 1) := by decide +kernel
theorem dX11_numbers_2 : decode cX11_numbers 2 = .ok (.invokevirtual 200, 3) := by decide +kernel
theorem dX11_numbers_5 : decode cX11_numbers 5 = .ok (.astore 4, 2) := by decide +kernel
theorem dX11_numbers_7 : decode cX11_numbers 7 = .ok (.aload 4, 2) := by decide +kernel
theorem dX11_numbers_9 : decode cX11_numbers 9 = .ok (.ifnull 12, 3) := by decide +kernel
theorem dX11_numbers_12 : decode cX11_numbers 12 = .ok (.iload_n 2, 1) := by decide +kernel
theorem dX11_numbers_13 : decode cX11_numbers 13 = .ok (.ifCond .lt 8, 3) := by decide +kernel
theorem dX11_numbers_16 : decode cX11_numbers 16 = .ok (.iload_n 2, 1) := by decide +kernel
theorem dX11_numbers_17 : decode cX11_numbers 17 = .ok (.iconst 3, 1) := by decide +kernel
theorem dX11_numbers_18 : decode cX11_numbers 18 = .ok (.if_icmp .le 8, 3) := by decide +kernel
theorem dX11_numbers_21 : decode cX11_numbers 21 = .ok (.iconst 2, 1) := by decide +kernel
theorem dX11_numbers_22 : decode cX11_numbers 22 = .ok (.invokestatic 108, 3) := by decide +kernel
theorem dX11_numbers_25 : decode cX11_numbers 25 = .ok (.ireturn, 1) := by decide +kernel
theorem dX11_numbers_26 : decode cX11_numbers 26 = .ok (.iload_n 3, 1) := by decide +kernel
theorem dX11_numbers_27 : decode cX11_numbers 27 = .ok (.ifCond .lt 9, 3) := by decide +kernel
theorem dX11_numbers_30 : decode cX11_numbers 30 = .ok (.iload_n 3, 1) := by decide +kernel
theorem dX11_numbers_31 : decode cX11_numbers 31 = .ok (.bipush 40, 2) := by decide +kernel
theorem dX11_numbers_33 : decode cX11_numbers 33 = .ok (.if_icmp .le 8, 3) := by decide +kernel
theorem dX11_numbers_36 : decode cX11_numbers 36 = .ok (.iconst 3, 1) := by decide +kernel
theorem dX11_numbers_37 : decode cX11_numbers 37 = .ok (.invokestatic 108, 3) := by decide +kernel
theorem dX11_numbers_40 : decode cX11_numbers 40 = .ok (.ireturn, 1) := by decide +kernel
theorem dX11_numbers_41 : decode cX11_numbers 41 = .ok (.aload 4, 2) := by decide +kernel
theorem dX11_numbers_43 : decode cX11_numbers 43 = .ok (.iload_n 2, 1) := by decide +kernel
theorem dX11_numbers_44 : decode cX11_numbers 44 = .ok (.iload_n 3, 1) := by decide +kernel
theorem dX11_numbers_45 : decode cX11_numbers 45 = .ok (.invokevirtual 305, 3) := by decide +kernel
theorem dX11_numbers_48 : decode cX11_numbers 48 = .ok (.iconst 0, 1) := by decide +kernel
theorem dX11_numbers_49 : decode cX11_numbers 49 = .ok (.ireturn, 1) := by decide +kernel
set_option maxRecDepth 20000 in
theorem ggX11_write_X11_trayAt : GoodIn wsX11_write wsX11_trayAt := goodIn_r _ [5, 6, 29, 30, 31, 32, 33, 34, 35, 36, 37, 38, 39, 40, 41, 42, 43, 44] (by decide +kernel) (by decide +kernel)
set_option maxRecDepth 20000 in
theorem gX11_write_X11_trayAt : GoodIn wsX11_write (wsV RX11 200 RX11 yX11_trayAt wsX11_trayAt) := goodIn_app (goodIn_of _ (by decide +kernel)) ggX11_write_X11_trayAt
set_option maxRecDepth 20000 in
theorem ggX11_write_X11_refused : GoodIn wsX11_write wsX11_refused := goodIn_r _ [9, 10] (by decide +kernel) (by decide +kernel)
set_option maxRecDepth 20000 in
theorem gX11_write_X11_refused : GoodIn wsX11_write (va_wsS RX11 108 yX11_refused wsX11_refused) := goodIn_app (goodIn_of _ (by decide +kernel)) ggX11_write_X11_refused
set_option maxRecDepth 20000 in
theorem ggX11_write_X9_put : GoodIn wsX11_write wsX9_put := goodIn_r _ [14, 15, 16, 17, 18, 19, 12, 20, 21, 25, 26, 27, 28] (by decide +kernel) (by decide +kernel)
set_option maxRecDepth 20000 in
theorem gX11_write_X9_put_n309 : GoodIn wsX11_write (wsX9_put) := ggX11_write_X9_put
set_option maxRecDepth 20000 in
theorem ggX11_write_X9_number : GoodIn wsX11_write wsX9_number := goodIn_r _ [24, 15, 16, 25, 26, 27, 28] (by decide +kernel) (by decide +kernel)
set_option maxRecDepth 20000 in
theorem gX11_write_X9_number_n312 : GoodIn wsX11_write (wsX9_number) := ggX11_write_X9_number
theorem dX11_write_0 : decode cX11_write 0 = .ok (.aload_n 0, 1) := by decide +kernel
theorem dX11_write_1 : decode cX11_write 1 = .ok (.iload_n 1, 1) := by decide +kernel
theorem dX11_write_2 : decode cX11_write 2 = .ok (.invokevirtual 200, 3) := by decide +kernel
theorem dX11_write_5 : decode cX11_write 5 = .ok (.astore 5, 2) := by decide +kernel
theorem dX11_write_7 : decode cX11_write 7 = .ok (.aload 5, 2) := by decide +kernel
theorem dX11_write_9 : decode cX11_write 9 = .ok (.ifnonnull 9, 3) := by decide +kernel
theorem dX11_write_12 : decode cX11_write 12 = .ok (.iconst 2, 1) := by decide +kernel
theorem dX11_write_13 : decode cX11_write 13 = .ok (.invokestatic 108, 3) := by decide +kernel
theorem dX11_write_16 : decode cX11_write 16 = .ok (.i2l, 1) := by decide +kernel
theorem dX11_write_17 : decode cX11_write 17 = .ok (.lreturn, 1) := by decide +kernel
theorem dX11_write_18 : decode cX11_write 18 = .ok (.aload 5, 2) := by decide +kernel
theorem dX11_write_20 : decode cX11_write 20 = .ok (.getfield 204, 3) := by decide +kernel
theorem dX11_write_23 : decode cX11_write 23 = .ok (.ifCond .ne 10, 3) := by decide +kernel
theorem dX11_write_26 : decode cX11_write 26 = .ok (.bipush 6, 2) := by decide +kernel
theorem dX11_write_28 : decode cX11_write 28 = .ok (.invokestatic 108, 3) := by decide +kernel
theorem dX11_write_31 : decode cX11_write 31 = .ok (.i2l, 1) := by decide +kernel
theorem dX11_write_32 : decode cX11_write 32 = .ok (.lreturn, 1) := by decide +kernel
theorem dX11_write_33 : decode cX11_write 33 = .ok (.iload_n 2, 1) := by decide +kernel
theorem dX11_write_34 : decode cX11_write 34 = .ok (.ifCond .lt 12, 3) := by decide +kernel
theorem dX11_write_37 : decode cX11_write 37 = .ok (.iload_n 2, 1) := by decide +kernel
theorem dX11_write_38 : decode cX11_write 38 = .ok (.aload 5, 2) := by decide +kernel
theorem dX11_write_40 : decode cX11_write 40 = .ok (.getfield 212, 3) := by decide +kernel
theorem dX11_write_43 : decode cX11_write 43 = .ok (.if_icmp .lt 10, 3) := by decide +kernel
theorem dX11_write_46 : decode cX11_write 46 = .ok (.bipush 7, 2) := by decide +kernel
theorem dX11_write_48 : decode cX11_write 48 = .ok (.invokestatic 108, 3) := by decide +kernel
theorem dX11_write_51 : decode cX11_write 51 = .ok (.i2l, 1) := by decide +kernel
theorem dX11_write_52 : decode cX11_write 52 = .ok (.lreturn, 1) := by decide +kernel
theorem dX11_write_53 : decode cX11_write 53 = .ok (.aload 5, 2) := by decide +kernel
theorem dX11_write_55 : decode cX11_write 55 = .ok (.iload_n 2, 1) := by decide +kernel
theorem dX11_write_56 : decode cX11_write 56 = .ok (.lload_n 3, 1) := by decide +kernel
theorem dX11_write_57 : decode cX11_write 57 = .ok (.invokevirtual 309, 3) := by decide +kernel
theorem dX11_write_60 : decode cX11_write 60 = .ok (.aload 5, 2) := by decide +kernel
theorem dX11_write_62 : decode cX11_write 62 = .ok (.iload_n 2, 1) := by decide +kernel
theorem dX11_write_63 : decode cX11_write 63 = .ok (.invokevirtual 312, 3) := by decide +kernel
theorem dX11_write_66 : decode cX11_write 66 = .ok (.lreturn, 1) := by decide +kernel
set_option maxRecDepth 20000 in
theorem ggX11_lists_X11_trayAt : GoodIn wsX11_lists wsX11_trayAt := goodIn_r _ [9, 10, 158, 159, 160, 161, 162, 163, 164, 165, 166, 167, 168, 169, 170, 171, 172, 173] (by decide +kernel) (by decide +kernel)
set_option maxRecDepth 20000 in
theorem gX11_lists_X11_trayAt : GoodIn wsX11_lists (wsV RX11 200 RX11 yX11_trayAt wsX11_trayAt) := goodIn_app (goodIn_of _ (by decide +kernel)) ggX11_lists_X11_trayAt
set_option maxRecDepth 20000 in
theorem ggX11_lists_X5_has : GoodIn wsX11_lists wsX5_has := goodIn_r _ [14, 15, 178, 179, 180] (by decide +kernel) (by decide +kernel)
set_option maxRecDepth 20000 in
theorem gX11_lists_X5_has_n136 : GoodIn wsX11_lists (wsX5_has) := ggX11_lists_X5_has
set_option maxRecDepth 20000 in
theorem ggX11_lists_X11_refused : GoodIn wsX11_lists wsX11_refused := goodIn_r _ [18, 19] (by decide +kernel) (by decide +kernel)
set_option maxRecDepth 20000 in
theorem gX11_lists_X11_refused : GoodIn wsX11_lists (va_wsS RX11 108 yX11_refused wsX11_refused) := goodIn_app (goodIn_of _ (by decide +kernel)) ggX11_lists_X11_refused
set_option maxRecDepth 20000 in
theorem ggX11_lists_X10_about : GoodIn wsX11_lists wsX10_about := goodIn_r _ [23, 24, 25, 26, 27, 28, 29, 30, 31, 32, 12, 33, 34, 35, 36, 37, 21, 38, 39, 40, 41, 42, 43, 44, 45, 46, 47, 48, 49, 50, 51, 52, 53, 54, 55, 56, 57, 58, 59, 60, 8, 61, 181, 182, 183, 184, 185, 186, 187, 188, 189, 190, 191, 178, 179, 180, 192, 193, 194, 195, 196, 197, 198, 199, 200, 201] (by decide +kernel) (by decide +kernel)
set_option maxRecDepth 20000 in
theorem gX11_lists_X10_about_n227 : GoodIn wsX11_lists (wsX10_about) := ggX11_lists_X10_about
set_option maxRecDepth 20000 in
theorem ggX11_lists_X1_listInto : GoodIn wsX11_lists wsX1_listInto := goodIn_r _ [65, 66, 67, 68, 69, 63, 70, 71, 72, 73, 74, 75, 76, 77, 78, 79, 80, 81, 82, 21, 83, 84, 26, 85, 86, 87, 88, 89, 90, 91, 92, 93, 94, 95, 96, 97, 98, 99, 100, 101, 102, 103, 104, 105, 106, 27, 107, 108, 109, 29, 110, 30, 111, 112, 113, 114, 115, 116, 117, 118, 119, 120, 121, 122, 123, 124, 125, 126, 127, 40, 128, 129, 52, 43, 44, 45, 46, 47, 48, 49, 50, 51, 53, 54, 55, 56, 57, 58, 59, 60, 8, 61, 130, 131, 132, 133, 134, 135, 28, 136, 137, 138, 139, 31, 140, 141, 142, 143, 144, 145, 146, 147, 148, 149, 150, 151, 152, 153, 154, 155, 156, 157, 202, 203, 204, 205, 181, 182, 183, 184, 185, 186, 187, 188, 189, 174, 175, 176, 177, 206, 192, 193, 194, 195, 196, 197, 198, 199, 200, 201, 190, 191] (by decide +kernel) (by decide +kernel)
set_option maxRecDepth 20000 in
theorem gX11_lists_X1_listInto_n315 : GoodIn wsX11_lists (wsX1_listInto) := ggX11_lists_X1_listInto
theorem dX11_lists_0 : decode cX11_lists 0 = .ok (.aload_n 0, 1) := by decide +kernel
theorem dX11_lists_1 : decode cX11_lists 1 = .ok (.iload_n 1, 1) := by decide +kernel
theorem dX11_lists_2 : decode cX11_lists 2 = .ok (.invokevirtual 200, 3) := by decide +kernel
theorem dX11_lists_5 : decode cX11_lists 5 = .ok (.astore_n 3, 1) := by decide +kernel
theorem dX11_lists_6 : decode cX11_lists 6 = .ok (.aload_n 3, 1) := by decide +kernel
theorem dX11_lists_7 : decode cX11_lists 7 = .ok (.ifnull 14, 3) := by decide +kernel
theorem dX11_lists_10 : decode cX11_lists 10 = .ok (.aload_n 0, 1) := by decide +kernel
theorem dX11_lists_11 : decode cX11_lists 11 = .ok (.getfield 34, 3) := by decide +kernel
theorem dX11_lists_14 : decode cX11_lists 14 = .ok (.iload_n 2, 1) := by decide +kernel
theorem dX11_lists_15 : decode cX11_lists 15 = .ok (.invokevirtual 136, 3) := by decide +kernel
theorem dX11_lists_18 : decode cX11_lists 18 = .ok (.ifCond .ne 8, 3) := by decide +kernel
theorem dX11_lists_21 : decode cX11_lists 21 = .ok (.iconst 2, 1) := by decide +kernel
theorem dX11_lists_22 : decode cX11_lists 22 = .ok (.invokestatic 108, 3) := by decide +kernel
theorem dX11_lists_25 : decode cX11_lists 25 = .ok (.ireturn, 1) := by decide +kernel
theorem dX11_lists_26 : decode cX11_lists 26 = .ok (.aload_n 3, 1) := by decide +kernel
theorem dX11_lists_27 : decode cX11_lists 27 = .ok (.getfield 204, 3) := by decide +kernel
theorem dX11_lists_30 : decode cX11_lists 30 = .ok (.ifCond .ne 9, 3) := by decide +kernel
theorem dX11_lists_33 : decode cX11_lists 33 = .ok (.bipush 6, 2) := by decide +kernel
theorem dX11_lists_35 : decode cX11_lists 35 = .ok (.invokestatic 108, 3) := by decide +kernel
theorem dX11_lists_38 : decode cX11_lists 38 = .ok (.ireturn, 1) := by decide +kernel
theorem dX11_lists_39 : decode cX11_lists 39 = .ok (.aload_n 0, 1) := by decide +kernel
theorem dX11_lists_40 : decode cX11_lists 40 = .ok (.getfield 81, 3) := by decide +kernel
theorem dX11_lists_43 : decode cX11_lists 43 = .ok (.aload_n 0, 1) := by decide +kernel
theorem dX11_lists_44 : decode cX11_lists 44 = .ok (.getfield 27, 3) := by decide +kernel
theorem dX11_lists_47 : decode cX11_lists 47 = .ok (.aload_n 0, 1) := by decide +kernel
theorem dX11_lists_48 : decode cX11_lists 48 = .ok (.getfield 34, 3) := by decide +kernel
theorem dX11_lists_51 : decode cX11_lists 51 = .ok (.iload_n 2, 1) := by decide +kernel
theorem dX11_lists_52 : decode cX11_lists 52 = .ok (.invokevirtual 227, 3) := by decide +kernel
theorem dX11_lists_55 : decode cX11_lists 55 = .ok (.aload_n 0, 1) := by decide +kernel
theorem dX11_lists_56 : decode cX11_lists 56 = .ok (.getfield 90, 3) := by decide +kernel
theorem dX11_lists_59 : decode cX11_lists 59 = .ok (.aload_n 3, 1) := by decide +kernel
theorem dX11_lists_60 : decode cX11_lists 60 = .ok (.iload_n 2, 1) := by decide +kernel
theorem dX11_lists_61 : decode cX11_lists 61 = .ok (.invokevirtual 315, 3) := by decide +kernel
theorem dX11_lists_64 : decode cX11_lists 64 = .ok (.ireturn, 1) := by decide +kernel
set_option maxRecDepth 20000 in
theorem ggX11_image_X11_refused : GoodIn wsX11_image wsX11_refused := goodIn_r _ [8, 9] (by decide +kernel) (by decide +kernel)
set_option maxRecDepth 20000 in
theorem gX11_image_X11_refused : GoodIn wsX11_image (va_wsS RX11 108 yX11_refused wsX11_refused) := goodIn_app (goodIn_of _ (by decide +kernel)) ggX11_image_X11_refused
set_option maxRecDepth 20000 in
theorem ggX11_image_X5_copy : GoodIn wsX11_image wsX5_copy := goodIn_r _ [13, 14, 15, 16, 17, 18, 19, 20, 37, 38, 39] (by decide +kernel) (by decide +kernel)
set_option maxRecDepth 20000 in
theorem gX11_image_X5_copy_n163 : GoodIn wsX11_image (wsX5_copy) := ggX11_image_X5_copy
theorem dX11_image_0 : decode cX11_image 0 = .ok (.iload_n 1, 1) := by decide +kernel
theorem dX11_image_1 : decode cX11_image 1 = .ok (.ifCond .lt 21, 3) := by decide +kernel
theorem dX11_image_4 : decode cX11_image 4 = .ok (.iload_n 1, 1) := by decide +kernel
theorem dX11_image_5 : decode cX11_image 5 = .ok (.aload_n 0, 1) := by decide +kernel
theorem dX11_image_6 : decode cX11_image 6 = .ok (.getfield 48, 3) := by decide +kernel
theorem dX11_image_9 : decode cX11_image 9 = .ok (.arraylength, 1) := by decide +kernel
theorem dX11_image_10 : decode cX11_image 10 = .ok (.if_icmp .ge 12, 3) := by decide +kernel
theorem dX11_image_13 : decode cX11_image 13 = .ok (.iload_n 1, 1) := by decide +kernel
theorem dX11_image_14 : decode cX11_image 14 = .ok (.aload_n 0, 1) := by decide +kernel
theorem dX11_image_15 : decode cX11_image 15 = .ok (.getfield 52, 3) := by decide +kernel
theorem dX11_image_18 : decode cX11_image 18 = .ok (.arraylength, 1) := by decide +kernel
theorem dX11_image_19 : decode cX11_image 19 = .ok (.if_icmp .lt 8, 3) := by decide +kernel
theorem dX11_image_22 : decode cX11_image 22 = .ok (.iconst 2, 1) := by decide +kernel
theorem dX11_image_23 : decode cX11_image 23 = .ok (.invokestatic 108, 3) := by decide +kernel
theorem dX11_image_26 : decode cX11_image 26 = .ok (.ireturn, 1) := by decide +kernel
theorem dX11_image_27 : decode cX11_image 27 = .ok (.aload_n 0, 1) := by decide +kernel
theorem dX11_image_28 : decode cX11_image 28 = .ok (.getfield 52, 3) := by decide +kernel
theorem dX11_image_31 : decode cX11_image 31 = .ok (.iload_n 1, 1) := by decide +kernel
theorem dX11_image_32 : decode cX11_image 32 = .ok (.aaload, 1) := by decide +kernel
theorem dX11_image_33 : decode cX11_image 33 = .ok (.astore_n 2, 1) := by decide +kernel
theorem dX11_image_34 : decode cX11_image 34 = .ok (.aload_n 2, 1) := by decide +kernel
theorem dX11_image_35 : decode cX11_image 35 = .ok (.ifnonnull 8, 3) := by decide +kernel
theorem dX11_image_38 : decode cX11_image 38 = .ok (.iconst 2, 1) := by decide +kernel
theorem dX11_image_39 : decode cX11_image 39 = .ok (.invokestatic 108, 3) := by decide +kernel
theorem dX11_image_42 : decode cX11_image 42 = .ok (.ireturn, 1) := by decide +kernel
theorem dX11_image_43 : decode cX11_image 43 = .ok (.aload_n 0, 1) := by decide +kernel
theorem dX11_image_44 : decode cX11_image 44 = .ok (.getfield 48, 3) := by decide +kernel
theorem dX11_image_47 : decode cX11_image 47 = .ok (.iload_n 1, 1) := by decide +kernel
theorem dX11_image_48 : decode cX11_image 48 = .ok (.aload_n 0, 1) := by decide +kernel
theorem dX11_image_49 : decode cX11_image 49 = .ok (.getfield 27, 3) := by decide +kernel
theorem dX11_image_52 : decode cX11_image 52 = .ok (.aastore, 1) := by decide +kernel
theorem dX11_image_53 : decode cX11_image 53 = .ok (.aload_n 2, 1) := by decide +kernel
theorem dX11_image_54 : decode cX11_image 54 = .ok (.aload_n 0, 1) := by decide +kernel
theorem dX11_image_55 : decode cX11_image 55 = .ok (.getfield 34, 3) := by decide +kernel
theorem dX11_image_58 : decode cX11_image 58 = .ok (.invokevirtual 163, 3) := by decide +kernel
theorem dX11_image_61 : decode cX11_image 61 = .ok (.iconst 0, 1) := by decide +kernel
theorem dX11_image_62 : decode cX11_image 62 = .ok (.ireturn, 1) := by decide +kernel
set_option maxRecDepth 20000 in
theorem ggX11_restore_X11_refused : GoodIn wsX11_restore wsX11_refused := goodIn_r _ [9, 10] (by decide +kernel) (by decide +kernel)
set_option maxRecDepth 20000 in
theorem gX11_restore_X11_refused : GoodIn wsX11_restore (va_wsS RX11 108 yX11_refused wsX11_refused) := goodIn_app (goodIn_of _ (by decide +kernel)) ggX11_restore_X11_refused
set_option maxRecDepth 20000 in
theorem ggX11_restore_X5_copy : GoodIn wsX11_restore wsX5_copy := goodIn_r _ [14, 15, 16, 17, 18, 19, 20, 21, 43, 44, 45] (by decide +kernel) (by decide +kernel)
set_option maxRecDepth 20000 in
theorem gX11_restore_X5_copy_n163 : GoodIn wsX11_restore (wsX5_copy) := ggX11_restore_X5_copy
set_option maxRecDepth 20000 in
theorem ggX11_restore_X4_forget : GoodIn wsX11_restore wsX4_forget := goodIn_r _ [25, 26, 46, 47, 48] (by decide +kernel) (by decide +kernel)
set_option maxRecDepth 20000 in
theorem gX11_restore_X4_forget_n127 : GoodIn wsX11_restore (wsX4_forget) := ggX11_restore_X4_forget
theorem dX11_restore_0 : decode cX11_restore 0 = .ok (.iload_n 1, 1) := by decide +kernel
theorem dX11_restore_1 : decode cX11_restore 1 = .ok (.ifCond .lt 21, 3) := by decide +kernel
theorem dX11_restore_4 : decode cX11_restore 4 = .ok (.iload_n 1, 1) := by decide +kernel
theorem dX11_restore_5 : decode cX11_restore 5 = .ok (.aload_n 0, 1) := by decide +kernel
theorem dX11_restore_6 : decode cX11_restore 6 = .ok (.getfield 48, 3) := by decide +kernel
theorem dX11_restore_9 : decode cX11_restore 9 = .ok (.arraylength, 1) := by decide +kernel
theorem dX11_restore_10 : decode cX11_restore 10 = .ok (.if_icmp .ge 12, 3) := by decide +kernel
theorem dX11_restore_13 : decode cX11_restore 13 = .ok (.iload_n 1, 1) := by decide +kernel
theorem dX11_restore_14 : decode cX11_restore 14 = .ok (.aload_n 0, 1) := by decide +kernel
theorem dX11_restore_15 : decode cX11_restore 15 = .ok (.getfield 52, 3) := by decide +kernel
theorem dX11_restore_18 : decode cX11_restore 18 = .ok (.arraylength, 1) := by decide +kernel
theorem dX11_restore_19 : decode cX11_restore 19 = .ok (.if_icmp .lt 8, 3) := by decide +kernel
theorem dX11_restore_22 : decode cX11_restore 22 = .ok (.iconst 2, 1) := by decide +kernel
theorem dX11_restore_23 : decode cX11_restore 23 = .ok (.invokestatic 108, 3) := by decide +kernel
theorem dX11_restore_26 : decode cX11_restore 26 = .ok (.ireturn, 1) := by decide +kernel
theorem dX11_restore_27 : decode cX11_restore 27 = .ok (.aload_n 0, 1) := by decide +kernel
theorem dX11_restore_28 : decode cX11_restore 28 = .ok (.getfield 48, 3) := by decide +kernel
theorem dX11_restore_31 : decode cX11_restore 31 = .ok (.iload_n 1, 1) := by decide +kernel
theorem dX11_restore_32 : decode cX11_restore 32 = .ok (.aaload, 1) := by decide +kernel
theorem dX11_restore_33 : decode cX11_restore 33 = .ok (.astore_n 2, 1) := by decide +kernel
theorem dX11_restore_34 : decode cX11_restore 34 = .ok (.aload_n 0, 1) := by decide +kernel
theorem dX11_restore_35 : decode cX11_restore 35 = .ok (.getfield 52, 3) := by decide +kernel
theorem dX11_restore_38 : decode cX11_restore 38 = .ok (.iload_n 1, 1) := by decide +kernel
theorem dX11_restore_39 : decode cX11_restore 39 = .ok (.aaload, 1) := by decide +kernel
theorem dX11_restore_40 : decode cX11_restore 40 = .ok (.astore_n 3, 1) := by decide +kernel
theorem dX11_restore_41 : decode cX11_restore 41 = .ok (.aload_n 2, 1) := by decide +kernel
theorem dX11_restore_42 : decode cX11_restore 42 = .ok (.ifnull 7, 3) := by decide +kernel
theorem dX11_restore_45 : decode cX11_restore 45 = .ok (.aload_n 3, 1) := by decide +kernel
theorem dX11_restore_46 : decode cX11_restore 46 = .ok (.ifnonnull 8, 3) := by decide +kernel
theorem dX11_restore_49 : decode cX11_restore 49 = .ok (.iconst 5, 1) := by decide +kernel
theorem dX11_restore_50 : decode cX11_restore 50 = .ok (.invokestatic 108, 3) := by decide +kernel
theorem dX11_restore_53 : decode cX11_restore 53 = .ok (.ireturn, 1) := by decide +kernel
theorem dX11_restore_54 : decode cX11_restore 54 = .ok (.aload_n 0, 1) := by decide +kernel
theorem dX11_restore_55 : decode cX11_restore 55 = .ok (.aload_n 2, 1) := by decide +kernel
theorem dX11_restore_56 : decode cX11_restore 56 = .ok (.putfield 27, 3) := by decide +kernel
theorem dX11_restore_59 : decode cX11_restore 59 = .ok (.aload_n 0, 1) := by decide +kernel
theorem dX11_restore_60 : decode cX11_restore 60 = .ok (.getfield 34, 3) := by decide +kernel
theorem dX11_restore_63 : decode cX11_restore 63 = .ok (.aload_n 3, 1) := by decide +kernel
theorem dX11_restore_64 : decode cX11_restore 64 = .ok (.invokevirtual 163, 3) := by decide +kernel
theorem dX11_restore_67 : decode cX11_restore 67 = .ok (.aload_n 0, 1) := by decide +kernel
theorem dX11_restore_68 : decode cX11_restore 68 = .ok (.getfield 44, 3) := by decide +kernel
theorem dX11_restore_71 : decode cX11_restore 71 = .ok (.invokevirtual 127, 3) := by decide +kernel
theorem dX11_restore_74 : decode cX11_restore 74 = .ok (.iconst 0, 1) := by decide +kernel
theorem dX11_restore_75 : decode cX11_restore 75 = .ok (.ireturn, 1) := by decide +kernel
set_option maxRecDepth 20000 in
theorem ggX11_count_X5_wealth : GoodIn wsX11_count wsX5_wealth := goodIn_r _ [8, 9, 10, 11, 12, 6, 13, 14, 47, 48, 49] (by decide +kernel) (by decide +kernel)
