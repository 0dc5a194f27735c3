theorem dX12_standNow_44 : decode cX12_standNow 44 = .ok (.iaload, 1) := by decide +kernel
theorem dX12_standNow_45 : decode cX12_standNow 45 = .ok (.invokestatic 220, 3) := by decide +kernel
theorem dX12_standNow_48 : decode cX12_standNow 48 = .ok (.ireturn, 1) := by decide +kernel
theorem dX12_worthOf_0 : decode cX12_worthOf 0 = .ok (.aload_n 0, 1) := by decide +kernel
theorem dX12_worthOf_1 : decode cX12_worthOf 1 = .ok (.getfield 13, 3) := by decide +kernel
theorem dX12_worthOf_4 : decode cX12_worthOf 4 = .ok (.iconst 5, 1) := by decide +kernel
theorem dX12_worthOf_5 : decode cX12_worthOf 5 = .ok (.iaload, 1) := by decide +kernel
theorem dX12_worthOf_6 : decode cX12_worthOf 6 = .ok (.ifCond .ne 5, 3) := by decide +kernel
theorem dX12_worthOf_9 : decode cX12_worthOf 9 = .ok (.iconst 1, 1) := by decide +kernel
theorem dX12_worthOf_10 : decode cX12_worthOf 10 = .ok (.ireturn, 1) := by decide +kernel
theorem dX12_worthOf_11 : decode cX12_worthOf 11 = .ok (.aload_n 0, 1) := by decide +kernel
theorem dX12_worthOf_12 : decode cX12_worthOf 12 = .ok (.getfield 33, 3) := by decide +kernel
theorem dX12_worthOf_15 : decode cX12_worthOf 15 = .ok (.iconst 0, 1) := by decide +kernel
theorem dX12_worthOf_16 : decode cX12_worthOf 16 = .ok (.iload_n 1, 1) := by decide +kernel
theorem dX12_worthOf_17 : decode cX12_worthOf 17 = .ok (.iastore, 1) := by decide +kernel
theorem dX12_worthOf_18 : decode cX12_worthOf 18 = .ok (.aload_n 0, 1) := by decide +kernel
theorem dX12_worthOf_19 : decode cX12_worthOf 19 = .ok (.getfield 33, 3) := by decide +kernel
theorem dX12_worthOf_22 : decode cX12_worthOf 22 = .ok (.iconst 1, 1) := by decide +kernel
theorem dX12_worthOf_23 : decode cX12_worthOf 23 = .ok (.iload_n 2, 1) := by decide +kernel
theorem dX12_worthOf_24 : decode cX12_worthOf 24 = .ok (.invokestatic 224, 3) := by decide +kernel
theorem dX12_worthOf_27 : decode cX12_worthOf 27 = .ok (.iastore, 1) := by decide +kernel
theorem dX12_worthOf_28 : decode cX12_worthOf 28 = .ok (.aload_n 0, 1) := by decide +kernel
theorem dX12_worthOf_29 : decode cX12_worthOf 29 = .ok (.getfield 33, 3) := by decide +kernel
theorem dX12_worthOf_32 : decode cX12_worthOf 32 = .ok (.iconst 2, 1) := by decide +kernel
theorem dX12_worthOf_33 : decode cX12_worthOf 33 = .ok (.iload_n 3, 1) := by decide +kernel
theorem dX12_worthOf_34 : decode cX12_worthOf 34 = .ok (.iastore, 1) := by decide +kernel
theorem dX12_worthOf_35 : decode cX12_worthOf 35 = .ok (.aload_n 0, 1) := by decide +kernel
theorem dX12_worthOf_36 : decode cX12_worthOf 36 = .ok (.getfield 33, 3) := by decide +kernel
theorem dX12_worthOf_39 : decode cX12_worthOf 39 = .ok (.iconst 3, 1) := by decide +kernel
theorem dX12_worthOf_40 : decode cX12_worthOf 40 = .ok (.iload_n 2, 1) := by decide +kernel
theorem dX12_worthOf_41 : decode cX12_worthOf 41 = .ok (.invokestatic 227, 3) := by decide +kernel
theorem dX12_worthOf_44 : decode cX12_worthOf 44 = .ok (.iastore, 1) := by decide +kernel
theorem dX12_worthOf_45 : decode cX12_worthOf 45 = .ok (.aload_n 0, 1) := by decide +kernel
theorem dX12_worthOf_46 : decode cX12_worthOf 46 = .ok (.getfield 33, 3) := by decide +kernel
theorem dX12_worthOf_49 : decode cX12_worthOf 49 = .ok (.iconst 4, 1) := by decide +kernel
theorem dX12_worthOf_50 : decode cX12_worthOf 50 = .ok (.iload_n 2, 1) := by decide +kernel
theorem dX12_worthOf_51 : decode cX12_worthOf 51 = .ok (.invokestatic 230, 3) := by decide +kernel
theorem dX12_worthOf_54 : decode cX12_worthOf 54 = .ok (.iastore, 1) := by decide +kernel
theorem dX12_worthOf_55 : decode cX12_worthOf 55 = .ok (.aload_n 0, 1) := by decide +kernel
theorem dX12_worthOf_56 : decode cX12_worthOf 56 = .ok (.getfield 33, 3) := by decide +kernel
theorem dX12_worthOf_59 : decode cX12_worthOf 59 = .ok (.iconst 5, 1) := by decide +kernel
theorem dX12_worthOf_60 : decode cX12_worthOf 60 = .ok (.iload_n 2, 1) := by decide +kernel
theorem dX12_worthOf_61 : decode cX12_worthOf 61 = .ok (.invokestatic 233, 3) := by decide +kernel
theorem dX12_worthOf_64 : decode cX12_worthOf 64 = .ok (.iastore, 1) := by decide +kernel
theorem dX12_worthOf_65 : decode cX12_worthOf 65 = .ok (.aload_n 0, 1) := by decide +kernel
theorem dX12_worthOf_66 : decode cX12_worthOf 66 = .ok (.getfield 33, 3) := by decide +kernel
theorem dX12_worthOf_69 : decode cX12_worthOf 69 = .ok (.bipush 6, 2) := by decide +kernel
theorem dX12_worthOf_71 : decode cX12_worthOf 71 = .ok (.iload_n 2, 1) := by decide +kernel
theorem dX12_worthOf_72 : decode cX12_worthOf 72 = .ok (.invokestatic 236, 3) := by decide +kernel
theorem dX12_worthOf_75 : decode cX12_worthOf 75 = .ok (.iastore, 1) := by decide +kernel
theorem dX12_worthOf_76 : decode cX12_worthOf 76 = .ok (.aload_n 0, 1) := by decide +kernel
theorem dX12_worthOf_77 : decode cX12_worthOf 77 = .ok (.iconst 0, 1) := by decide +kernel
theorem dX12_worthOf_78 : decode cX12_worthOf 78 = .ok (.invokevirtual 239, 3) := by decide +kernel
theorem dX12_worthOf_81 : decode cX12_worthOf 81 = .ok (.istore 4, 2) := by decide +kernel
theorem dX12_worthOf_83 : decode cX12_worthOf 83 = .ok (.iload 4, 2) := by decide +kernel
theorem dX12_worthOf_85 : decode cX12_worthOf 85 = .ok (.bipush (-9), 2) := by decide +kernel
theorem dX12_worthOf_87 : decode cX12_worthOf 87 = .ok (.if_icmp .ge 8, 3) := by decide +kernel
theorem dX12_worthOf_90 : decode cX12_worthOf 90 = .ok (.bipush (-9), 2) := by decide +kernel
theorem dX12_worthOf_92 : decode cX12_worthOf 92 = .ok (.goto 17, 3) := by decide +kernel
theorem dX12_worthOf_95 : decode cX12_worthOf 95 = .ok (.iload 4, 2) := by decide +kernel
theorem dX12_worthOf_97 : decode cX12_worthOf 97 = .ok (.bipush 9, 2) := by decide +kernel
theorem dX12_worthOf_99 : decode cX12_worthOf 99 = .ok (.if_icmp .le 8, 3) := by decide +kernel
theorem dX12_worthOf_102 : decode cX12_worthOf 102 = .ok (.bipush 9, 2) := by decide +kernel
theorem dX12_worthOf_104 : decode cX12_worthOf 104 = .ok (.goto 5, 3) := by decide +kernel
theorem dX12_worthOf_107 : decode cX12_worthOf 107 = .ok (.iload 4, 2) := by decide +kernel
theorem dX12_worthOf_109 : decode cX12_worthOf 109 = .ok (.ireturn, 1) := by decide +kernel
theorem dX12_grownTo_0 : decode cX12_grownTo 0 = .ok (.aload_n 0, 1) := by decide +kernel
theorem dX12_grownTo_1 : decode cX12_grownTo 1 = .ok (.getfield 13, 3) := by decide +kernel
theorem dX12_grownTo_4 : decode cX12_grownTo 4 = .ok (.bipush 6, 2) := by decide +kernel
theorem dX12_grownTo_6 : decode cX12_grownTo 6 = .ok (.iaload, 1) := by decide +kernel
theorem dX12_grownTo_7 : decode cX12_grownTo 7 = .ok (.ifCond .ne 5, 3) := by decide +kernel
theorem dX12_grownTo_10 : decode cX12_grownTo 10 = .ok (.iconst 0, 1) := by decide +kernel
theorem dX12_grownTo_11 : decode cX12_grownTo 11 = .ok (.ireturn, 1) := by decide +kernel
theorem dX12_grownTo_12 : decode cX12_grownTo 12 = .ok (.aload_n 0, 1) := by decide +kernel
theorem dX12_grownTo_13 : decode cX12_grownTo 13 = .ok (.getfield 33, 3) := by decide +kernel
theorem dX12_grownTo_16 : decode cX12_grownTo 16 = .ok (.iconst 0, 1) := by decide +kernel
theorem dX12_grownTo_17 : decode cX12_grownTo 17 = .ok (.iload_n 1, 1) := by decide +kernel
theorem dX12_grownTo_18 : decode cX12_grownTo 18 = .ok (.iastore, 1) := by decide +kernel
theorem dX12_grownTo_19 : decode cX12_grownTo 19 = .ok (.aload_n 0, 1) := by decide +kernel
theorem dX12_grownTo_20 : decode cX12_grownTo 20 = .ok (.getfield 33, 3) := by decide +kernel
theorem dX12_grownTo_23 : decode cX12_grownTo 23 = .ok (.iconst 1, 1) := by decide +kernel
theorem dX12_grownTo_24 : decode cX12_grownTo 24 = .ok (.iload_n 2, 1) := by decide +kernel
theorem dX12_grownTo_25 : decode cX12_grownTo 25 = .ok (.iastore, 1) := by decide +kernel
theorem dX12_grownTo_26 : decode cX12_grownTo 26 = .ok (.aload_n 0, 1) := by decide +kernel
theorem dX12_grownTo_27 : decode cX12_grownTo 27 = .ok (.iconst 1, 1) := by decide +kernel
theorem dX12_grownTo_28 : decode cX12_grownTo 28 = .ok (.invokevirtual 239, 3) := by decide +kernel
theorem dX12_grownTo_31 : decode cX12_grownTo 31 = .ok (.istore_n 3, 1) := by decide +kernel
theorem dX12_grownTo_32 : decode cX12_grownTo 32 = .ok (.iload_n 3, 1) := by decide +kernel
theorem dX12_grownTo_33 : decode cX12_grownTo 33 = .ok (.ifCond .ge 7, 3) := by decide +kernel
theorem dX12_grownTo_36 : decode cX12_grownTo 36 = .ok (.iconst 0, 1) := by decide +kernel
theorem dX12_grownTo_37 : decode cX12_grownTo 37 = .ok (.goto 23, 3) := by decide +kernel
theorem dX12_grownTo_40 : decode cX12_grownTo 40 = .ok (.iload_n 3, 1) := by decide +kernel
theorem dX12_grownTo_41 : decode cX12_grownTo 41 = .ok (.aload_n 0, 1) := by decide +kernel
theorem dX12_grownTo_42 : decode cX12_grownTo 42 = .ok (.getfield 13, 3) := by decide +kernel
theorem dX12_grownTo_45 : decode cX12_grownTo 45 = .ok (.iconst 1, 1) := by decide +kernel
theorem dX12_grownTo_46 : decode cX12_grownTo 46 = .ok (.iaload, 1) := by decide +kernel
theorem dX12_grownTo_47 : decode cX12_grownTo 47 = .ok (.if_icmp .le 12, 3) := by decide +kernel
theorem dX12_grownTo_50 : decode cX12_grownTo 50 = .ok (.aload_n 0, 1) := by decide +kernel
theorem dX12_grownTo_51 : decode cX12_grownTo 51 = .ok (.getfield 13, 3) := by decide +kernel
theorem dX12_grownTo_54 : decode cX12_grownTo 54 = .ok (.iconst 1, 1) := by decide +kernel
theorem dX12_grownTo_55 : decode cX12_grownTo 55 = .ok (.iaload, 1) := by decide +kernel
theorem dX12_grownTo_56 : decode cX12_grownTo 56 = .ok (.goto 4, 3) := by decide +kernel
theorem dX12_grownTo_59 : decode cX12_grownTo 59 = .ok (.iload_n 3, 1) := by decide +kernel
theorem dX12_grownTo_60 : decode cX12_grownTo 60 = .ok (.ireturn, 1) := by decide +kernel
theorem dX12_isOver_0 : decode cX12_isOver 0 = .ok (.iload_n 1, 1) := by decide +kernel
theorem dX12_isOver_1 : decode cX12_isOver 1 = .ok (.invokestatic 224, 3) := by decide +kernel
theorem dX12_isOver_4 : decode cX12_isOver 4 = .ok (.aload_n 0, 1) := by decide +kernel
theorem dX12_isOver_5 : decode cX12_isOver 5 = .ok (.getfield 13, 3) := by decide +kernel
theorem dX12_isOver_8 : decode cX12_isOver 8 = .ok (.iconst 1, 1) := by decide +kernel
theorem dX12_isOver_9 : decode cX12_isOver 9 = .ok (.iaload, 1) := by decide +kernel
theorem dX12_isOver_10 : decode cX12_isOver 10 = .ok (.if_icmp .lt 7, 3) := by decide +kernel
theorem dX12_isOver_13 : decode cX12_isOver 13 = .ok (.iconst 1, 1) := by decide +kernel
theorem dX12_isOver_14 : decode cX12_isOver 14 = .ok (.goto 4, 3) := by decide +kernel
theorem dX12_isOver_17 : decode cX12_isOver 17 = .ok (.iconst 0, 1) := by decide +kernel
theorem dX12_isOver_18 : decode cX12_isOver 18 = .ok (.ireturn, 1) := by decide +kernel
theorem dX12_livedTo_0 : decode cX12_livedTo 0 = .ok (.iload_n 0, 1) := by decide +kernel
theorem dX12_livedTo_1 : decode cX12_livedTo 1 = .ok (.invokestatic 233, 3) := by decide +kernel
theorem dX12_livedTo_4 : decode cX12_livedTo 4 = .ok (.iload_n 0, 1) := by decide +kernel
theorem dX12_livedTo_5 : decode cX12_livedTo 5 = .ok (.invokestatic 236, 3) := by decide +kernel
theorem dX12_livedTo_8 : decode cX12_livedTo 8 = .ok (.iload_n 0, 1) := by decide +kernel
theorem dX12_livedTo_9 : decode cX12_livedTo 9 = .ok (.invokestatic 224, 3) := by decide +kernel
theorem dX12_livedTo_12 : decode cX12_livedTo 12 = .ok (.iconst 1, 1) := by decide +kernel
theorem dX12_livedTo_13 : decode cX12_livedTo 13 = .ok (.iadd, 1) := by decide +kernel
theorem dX12_livedTo_14 : decode cX12_livedTo 14 = .ok (.iload_n 1, 1) := by decide +kernel
theorem dX12_livedTo_15 : decode cX12_livedTo 15 = .ok (.iload_n 0, 1) := by decide +kernel
theorem dX12_livedTo_16 : decode cX12_livedTo 16 = .ok (.invokestatic 227, 3) := by decide +kernel
theorem dX12_livedTo_19 : decode cX12_livedTo 19 = .ok (.iload_n 1, 1) := by decide +kernel
theorem dX12_livedTo_20 : decode cX12_livedTo 20 = .ok (.if_icmp .ne 12, 3) := by decide +kernel
theorem dX12_livedTo_23 : decode cX12_livedTo 23 = .ok (.iload_n 0, 1) := by decide +kernel
theorem dX12_livedTo_24 : decode cX12_livedTo 24 = .ok (.invokestatic 230, 3) := by decide +kernel
theorem dX12_livedTo_27 : decode cX12_livedTo 27 = .ok (.iconst 1, 1) := by decide +kernel
theorem dX12_livedTo_28 : decode cX12_livedTo 28 = .ok (.iadd, 1) := by decide +kernel
theorem dX12_livedTo_29 : decode cX12_livedTo 29 = .ok (.goto 4, 3) := by decide +kernel
theorem dX12_livedTo_32 : decode cX12_livedTo 32 = .ok (.iconst 1, 1) := by decide +kernel
theorem dX12_livedTo_33 : decode cX12_livedTo 33 = .ok (.invokestatic 220, 3) := by decide +kernel
theorem dX12_livedTo_36 : decode cX12_livedTo 36 = .ok (.ireturn, 1) := by decide +kernel
theorem dX12_drawnTo_0 : decode cX12_drawnTo 0 = .ok (.iconst 2, 1) := by decide +kernel
theorem dX12_drawnTo_1 : decode cX12_drawnTo 1 = .ok (.iload_n 2, 1) := by decide +kernel
theorem dX12_drawnTo_2 : decode cX12_drawnTo 2 = .ok (.invokestatic 224, 3) := by decide +kernel
theorem dX12_drawnTo_5 : decode cX12_drawnTo 5 = .ok (.aload_n 0, 1) := by decide +kernel
theorem dX12_drawnTo_6 : decode cX12_drawnTo 6 = .ok (.iload_n 1, 1) := by decide +kernel
theorem dX12_drawnTo_7 : decode cX12_drawnTo 7 = .ok (.iload_n 2, 1) := by decide +kernel
theorem dX12_drawnTo_8 : decode cX12_drawnTo 8 = .ok (.invokestatic 224, 3) := by decide +kernel
theorem dX12_drawnTo_11 : decode cX12_drawnTo 11 = .ok (.invokevirtual 242, 3) := by decide +kernel
theorem dX12_drawnTo_14 : decode cX12_drawnTo 14 = .ok (.bipush 9, 2) := by decide +kernel
theorem dX12_drawnTo_16 : decode cX12_drawnTo 16 = .ok (.iconst 0, 1) := by decide +kernel
theorem dX12_drawnTo_17 : decode cX12_drawnTo 17 = .ok (.invokestatic 220, 3) := by decide +kernel
theorem dX12_drawnTo_20 : decode cX12_drawnTo 20 = .ok (.ireturn, 1) := by decide +kernel
theorem dX12_person_0 : decode cX12_person 0 = .ok (.aload_n 0, 1) := by decide +kernel
theorem dX12_person_1 : decode cX12_person 1 = .ok (.iconst 0, 1) := by decide +kernel
theorem dX12_person_2 : decode cX12_person 2 = .ok (.putfield 1, 3) := by decide +kernel
theorem dX12_person_5 : decode cX12_person 5 = .ok (.aload_n 0, 1) := by decide +kernel
theorem dX12_person_6 : decode cX12_person 6 = .ok (.iload_n 1, 1) := by decide +kernel
theorem dX12_person_7 : decode cX12_person 7 = .ok (.i2l, 1) := by decide +kernel
theorem dX12_person_8 : decode cX12_person 8 = .ok (.invokevirtual 245, 3) := by decide +kernel
theorem dX12_person_11 : decode cX12_person 11 = .ok (.ifCond .ne 6, 3) := by decide +kernel
theorem dX12_person_14 : decode cX12_person 14 = .ok (.ldc 249, 2) := by decide +kernel
theorem dX12_person_16 : decode cX12_person 16 = .ok (.ireturn, 1) := by decide +kernel
theorem dX12_person_17 : decode cX12_person 17 = .ok (.iload_n 2, 1) := by decide +kernel
theorem dX12_person_18 : decode cX12_person 18 = .ok (.tableswitch 140 0 8 #[50, 60, 70, 80, 90, 100, 110, 120, 130], 50) := by decide +kernel
theorem dX12_person_68 : decode cX12_person 68 = .ok (.aload_n 0, 1) := by decide +kernel
theorem dX12_person_69 : decode cX12_person 69 = .ok (.getfield 13, 3) := by decide +kernel
theorem dX12_person_72 : decode cX12_person 72 = .ok (.bipush 18, 2) := by decide +kernel
theorem dX12_person_74 : decode cX12_person 74 = .ok (.iload_n 1, 1) := by decide +kernel
theorem dX12_person_75 : decode cX12_person 75 = .ok (.iadd, 1) := by decide +kernel
theorem dX12_person_76 : decode cX12_person 76 = .ok (.iaload, 1) := by decide +kernel
theorem dX12_person_77 : decode cX12_person 77 = .ok (.ireturn, 1) := by decide +kernel
theorem dX12_person_78 : decode cX12_person 78 = .ok (.aload_n 0, 1) := by decide +kernel
theorem dX12_person_79 : decode cX12_person 79 = .ok (.getfield 13, 3) := by decide +kernel
theorem dX12_person_82 : decode cX12_person 82 = .ok (.bipush 24, 2) := by decide +kernel
theorem dX12_person_84 : decode cX12_person 84 = .ok (.iload_n 1, 1) := by decide +kernel
theorem dX12_person_85 : decode cX12_person 85 = .ok (.iadd, 1) := by decide +kernel
theorem dX12_person_86 : decode cX12_person 86 = .ok (.iaload, 1) := by decide +kernel
theorem dX12_person_87 : decode cX12_person 87 = .ok (.ireturn, 1) := by decide +kernel
theorem dX12_person_88 : decode cX12_person 88 = .ok (.aload_n 0, 1) := by decide +kernel
theorem dX12_person_89 : decode cX12_person 89 = .ok (.getfield 13, 3) := by decide +kernel
theorem dX12_person_92 : decode cX12_person 92 = .ok (.bipush 30, 2) := by decide +kernel
theorem dX12_person_94 : decode cX12_person 94 = .ok (.iload_n 1, 1) := by decide +kernel
theorem dX12_person_95 : decode cX12_person 95 = .ok (.iadd, 1) := by decide +kernel
theorem dX12_person_96 : decode cX12_person 96 = .ok (.iaload, 1) := by decide +kernel
theorem dX12_person_97 : decode cX12_person 97 = .ok (.ireturn, 1) := by decide +kernel
theorem dX12_person_98 : decode cX12_person 98 = .ok (.aload_n 0, 1) := by decide +kernel
theorem dX12_person_99 : decode cX12_person 99 = .ok (.getfield 13, 3) := by decide +kernel
theorem dX12_person_102 : decode cX12_person 102 = .ok (.bipush 36, 2) := by decide +kernel
theorem dX12_person_104 : decode cX12_person 104 = .ok (.iload_n 1, 1) := by decide +kernel
theorem dX12_person_105 : decode cX12_person 105 = .ok (.iadd, 1) := by decide +kernel
theorem dX12_person_106 : decode cX12_person 106 = .ok (.iaload, 1) := by decide +kernel
theorem dX12_person_107 : decode cX12_person 107 = .ok (.ireturn, 1) := by decide +kernel
theorem dX12_person_108 : decode cX12_person 108 = .ok (.aload_n 0, 1) := by decide +kernel
theorem dX12_person_109 : decode cX12_person 109 = .ok (.getfield 13, 3) := by decide +kernel
theorem dX12_person_112 : decode cX12_person 112 = .ok (.bipush 42, 2) := by decide +kernel
theorem dX12_person_114 : decode cX12_person 114 = .ok (.iload_n 1, 1) := by decide +kernel
theorem dX12_person_115 : decode cX12_person 115 = .ok (.iadd, 1) := by decide +kernel
theorem dX12_person_116 : decode cX12_person 116 = .ok (.iaload, 1) := by decide +kernel
theorem dX12_person_117 : decode cX12_person 117 = .ok (.ireturn, 1) := by decide +kernel
theorem dX12_person_118 : decode cX12_person 118 = .ok (.aload_n 0, 1) := by decide +kernel
theorem dX12_person_119 : decode cX12_person 119 = .ok (.getfield 13, 3) := by decide +kernel
theorem dX12_person_122 : decode cX12_person 122 = .ok (.bipush 48, 2) := by decide +kernel
theorem dX12_person_124 : decode cX12_person 124 = .ok (.iload_n 1, 1) := by decide +kernel
theorem dX12_person_125 : decode cX12_person 125 = .ok (.iadd, 1) := by decide +kernel
theorem dX12_person_126 : decode cX12_person 126 = .ok (.iaload, 1) := by decide +kernel
theorem dX12_person_127 : decode cX12_person 127 = .ok (.ireturn, 1) := by decide +kernel
theorem dX12_person_128 : decode cX12_person 128 = .ok (.aload_n 0, 1) := by decide +kernel
theorem dX12_person_129 : decode cX12_person 129 = .ok (.getfield 13, 3) := by decide +kernel
theorem dX12_person_132 : decode cX12_person 132 = .ok (.bipush 54, 2) := by decide +kernel
theorem dX12_person_134 : decode cX12_person 134 = .ok (.iload_n 1, 1) := by decide +kernel
theorem dX12_person_135 : decode cX12_person 135 = .ok (.iadd, 1) := by decide +kernel
theorem dX12_person_136 : decode cX12_person 136 = .ok (.iaload, 1) := by decide +kernel
theorem dX12_person_137 : decode cX12_person 137 = .ok (.ireturn, 1) := by decide +kernel
theorem dX12_person_138 : decode cX12_person 138 = .ok (.aload_n 0, 1) := by decide +kernel
theorem dX12_person_139 : decode cX12_person 139 = .ok (.getfield 13, 3) := by decide +kernel
theorem dX12_person_142 : decode cX12_person 142 = .ok (.bipush 11, 2) := by decide +kernel
theorem dX12_person_144 : decode cX12_person 144 = .ok (.iload_n 1, 1) := by decide +kernel
theorem dX12_person_145 : decode cX12_person 145 = .ok (.iadd, 1) := by decide +kernel
theorem dX12_person_146 : decode cX12_person 146 = .ok (.iaload, 1) := by decide +kernel
theorem dX12_person_147 : decode cX12_person 147 = .ok (.ireturn, 1) := by decide +kernel
theorem dX12_person_148 : decode cX12_person 148 = .ok (.aload_n 0, 1) := by decide +kernel
theorem dX12_person_149 : decode cX12_person 149 = .ok (.getfield 13, 3) := by decide +kernel
theorem dX12_person_152 : decode cX12_person 152 = .ok (.bipush 60, 2) := by decide +kernel
theorem dX12_person_154 : decode cX12_person 154 = .ok (.iload_n 1, 1) := by decide +kernel
theorem dX12_person_155 : decode cX12_person 155 = .ok (.iadd, 1) := by decide +kernel
theorem dX12_person_156 : decode cX12_person 156 = .ok (.iaload, 1) := by decide +kernel
theorem dX12_person_157 : decode cX12_person 157 = .ok (.ireturn, 1) := by decide +kernel
theorem dX12_person_158 : decode cX12_person 158 = .ok (.ldc 249, 2) := by decide +kernel
theorem dX12_person_160 : decode cX12_person 160 = .ok (.ireturn, 1) := by decide +kernel
theorem dX12_worth_0 : decode cX12_worth 0 = .ok (.aload_n 0, 1) := by decide +kernel
theorem dX12_worth_1 : decode cX12_worth 1 = .ok (.iconst 0, 1) := by decide +kernel
theorem dX12_worth_2 : decode cX12_worth 2 = .ok (.putfield 1, 3) := by decide +kernel
theorem dX12_worth_5 : decode cX12_worth 5 = .ok (.aload_n 0, 1) := by decide +kernel
theorem dX12_worth_6 : decode cX12_worth 6 = .ok (.iload_n 1, 1) := by decide +kernel
theorem dX12_worth_7 : decode cX12_worth 7 = .ok (.i2l, 1) := by decide +kernel
theorem dX12_worth_8 : decode cX12_worth 8 = .ok (.invokevirtual 245, 3) := by decide +kernel
theorem dX12_worth_11 : decode cX12_worth 11 = .ok (.ifCond .eq 12, 3) := by decide +kernel
theorem dX12_worth_14 : decode cX12_worth 14 = .ok (.aload_n 0, 1) := by decide +kernel
theorem dX12_worth_15 : decode cX12_worth 15 = .ok (.iload_n 2, 1) := by decide +kernel
theorem dX12_worth_16 : decode cX12_worth 16 = .ok (.i2l, 1) := by decide +kernel
theorem dX12_worth_17 : decode cX12_worth 17 = .ok (.invokevirtual 250, 3) := by decide +kernel
theorem dX12_worth_20 : decode cX12_worth 20 = .ok (.ifCond .ne 6, 3) := by decide +kernel
theorem dX12_worth_23 : decode cX12_worth 23 = .ok (.ldc 249, 2) := by decide +kernel
theorem dX12_worth_25 : decode cX12_worth 25 = .ok (.ireturn, 1) := by decide +kernel
theorem dX12_worth_26 : decode cX12_worth 26 = .ok (.aload_n 0, 1) := by decide +kernel
theorem dX12_worth_27 : decode cX12_worth 27 = .ok (.aload_n 0, 1) := by decide +kernel
theorem dX12_worth_28 : decode cX12_worth 28 = .ok (.iload_n 1, 1) := by decide +kernel
theorem dX12_worth_29 : decode cX12_worth 29 = .ok (.invokevirtual 253, 3) := by decide +kernel
theorem dX12_worth_32 : decode cX12_worth 32 = .ok (.invokevirtual 256, 3) := by decide +kernel
theorem dX12_worth_35 : decode cX12_worth 35 = .ok (.ifCond .eq 8, 3) := by decide +kernel
theorem dX12_worth_38 : decode cX12_worth 38 = .ok (.ldc 84, 2) := by decide +kernel
theorem dX12_worth_40 : decode cX12_worth 40 = .ok (.goto 22, 3) := by decide +kernel
theorem dX12_worth_43 : decode cX12_worth 43 = .ok (.aload_n 0, 1) := by decide +kernel
theorem dX12_worth_44 : decode cX12_worth 44 = .ok (.aload_n 0, 1) := by decide +kernel
theorem dX12_worth_45 : decode cX12_worth 45 = .ok (.getfield 13, 3) := by decide +kernel
theorem dX12_worth_48 : decode cX12_worth 48 = .ok (.bipush 54, 2) := by decide +kernel
theorem dX12_worth_50 : decode cX12_worth 50 = .ok (.iload_n 1, 1) := by decide +kernel
theorem dX12_worth_51 : decode cX12_worth 51 = .ok (.iadd, 1) := by decide +kernel
theorem dX12_worth_52 : decode cX12_worth 52 = .ok (.iaload, 1) := by decide +kernel
theorem dX12_worth_53 : decode cX12_worth 53 = .ok (.aload_n 0, 1) := by decide +kernel
theorem dX12_worth_54 : decode cX12_worth 54 = .ok (.iload_n 1, 1) := by decide +kernel
theorem dX12_worth_55 : decode cX12_worth 55 = .ok (.invokevirtual 253, 3) := by decide +kernel
theorem dX12_worth_58 : decode cX12_worth 58 = .ok (.iload_n 2, 1) := by decide +kernel
theorem dX12_worth_59 : decode cX12_worth 59 = .ok (.invokevirtual 259, 3) := by decide +kernel
theorem dX12_worth_62 : decode cX12_worth 62 = .ok (.ireturn, 1) := by decide +kernel
theorem dX12_grown_0 : decode cX12_grown 0 = .ok (.aload_n 0, 1) := by decide +kernel
theorem dX12_grown_1 : decode cX12_grown 1 = .ok (.iconst 0, 1) := by decide +kernel
theorem dX12_grown_2 : decode cX12_grown 2 = .ok (.putfield 1, 3) := by decide +kernel
theorem dX12_grown_5 : decode cX12_grown 5 = .ok (.aload_n 0, 1) := by decide +kernel
theorem dX12_grown_6 : decode cX12_grown 6 = .ok (.iload_n 1, 1) := by decide +kernel
theorem dX12_grown_7 : decode cX12_grown 7 = .ok (.i2l, 1) := by decide +kernel
theorem dX12_grown_8 : decode cX12_grown 8 = .ok (.invokevirtual 245, 3) := by decide +kernel
theorem dX12_grown_11 : decode cX12_grown 11 = .ok (.ifCond .ne 8, 3) := by decide +kernel
theorem dX12_grown_14 : decode cX12_grown 14 = .ok (.ldc 249, 2) := by decide +kernel
theorem dX12_grown_16 : decode cX12_grown 16 = .ok (.goto 43, 3) := by decide +kernel
theorem dX12_grown_19 : decode cX12_grown 19 = .ok (.aload_n 0, 1) := by decide +kernel
theorem dX12_grown_20 : decode cX12_grown 20 = .ok (.getfield 13, 3) := by decide +kernel
theorem dX12_grown_23 : decode cX12_grown 23 = .ok (.bipush 24, 2) := by decide +kernel
theorem dX12_grown_25 : decode cX12_grown 25 = .ok (.iload_n 1, 1) := by decide +kernel
theorem dX12_grown_26 : decode cX12_grown 26 = .ok (.iadd, 1) := by decide +kernel
theorem dX12_grown_27 : decode cX12_grown 27 = .ok (.iaload, 1) := by decide +kernel
theorem dX12_grown_28 : decode cX12_grown 28 = .ok (.iconst 2, 1) := by decide +kernel
theorem dX12_grown_29 : decode cX12_grown 29 = .ok (.if_icmp .ne 8, 3) := by decide +kernel
theorem dX12_grown_32 : decode cX12_grown 32 = .ok (.ldc 84, 2) := by decide +kernel
theorem dX12_grown_34 : decode cX12_grown 34 = .ok (.goto 25, 3) := by decide +kernel
theorem dX12_grown_37 : decode cX12_grown 37 = .ok (.aload_n 0, 1) := by decide +kernel
theorem dX12_grown_38 : decode cX12_grown 38 = .ok (.aload_n 0, 1) := by decide +kernel
theorem dX12_grown_39 : decode cX12_grown 39 = .ok (.getfield 13, 3) := by decide +kernel
theorem dX12_grown_42 : decode cX12_grown 42 = .ok (.bipush 54, 2) := by decide +kernel
theorem dX12_grown_44 : decode cX12_grown 44 = .ok (.iload_n 1, 1) := by decide +kernel
theorem dX12_grown_45 : decode cX12_grown 45 = .ok (.iadd, 1) := by decide +kernel
theorem dX12_grown_46 : decode cX12_grown 46 = .ok (.iaload, 1) := by decide +kernel
theorem dX12_grown_47 : decode cX12_grown 47 = .ok (.aload_n 0, 1) := by decide +kernel
theorem dX12_grown_48 : decode cX12_grown 48 = .ok (.getfield 13, 3) := by decide +kernel
theorem dX12_grown_51 : decode cX12_grown 51 = .ok (.bipush 18, 2) := by decide +kernel
theorem dX12_grown_53 : decode cX12_grown 53 = .ok (.iload_n 1, 1) := by decide +kernel
theorem dX12_grown_54 : decode cX12_grown 54 = .ok (.iadd, 1) := by decide +kernel
theorem dX12_grown_55 : decode cX12_grown 55 = .ok (.iaload, 1) := by decide +kernel
theorem dX12_grown_56 : decode cX12_grown 56 = .ok (.invokevirtual 242, 3) := by decide +kernel
theorem dX12_grown_59 : decode cX12_grown 59 = .ok (.ireturn, 1) := by decide +kernel
theorem dX12_keeps_0 : decode cX12_keeps 0 = .ok (.iconst 0, 1) := by decide +kernel
theorem dX12_keeps_1 : decode cX12_keeps 1 = .ok (.istore_n 1, 1) := by decide +kernel
theorem dX12_keeps_2 : decode cX12_keeps 2 = .ok (.iload_n 1, 1) := by decide +kernel
theorem dX12_keeps_3 : decode cX12_keeps 3 = .ok (.bipush 49, 2) := by decide +kernel
theorem dX12_keeps_5 : decode cX12_keeps 5 = .ok (.if_icmp .ge 24, 3) := by decide +kernel
theorem dX12_keeps_8 : decode cX12_keeps 8 = .ok (.aload_n 0, 1) := by decide +kernel
theorem dX12_keeps_9 : decode cX12_keeps 9 = .ok (.getfield 36, 3) := by decide +kernel
theorem dX12_keeps_12 : decode cX12_keeps 12 = .ok (.iload_n 1, 1) := by decide +kernel
theorem dX12_keeps_13 : decode cX12_keeps 13 = .ok (.aload_n 0, 1) := by decide +kernel
theorem dX12_keeps_14 : decode cX12_keeps 14 = .ok (.getfield 13, 3) := by decide +kernel
theorem dX12_keeps_17 : decode cX12_keeps 17 = .ok (.bipush 17, 2) := by decide +kernel
theorem dX12_keeps_19 : decode cX12_keeps 19 = .ok (.iload_n 1, 1) := by decide +kernel
theorem dX12_keeps_20 : decode cX12_keeps 20 = .ok (.iadd, 1) := by decide +kernel
theorem dX12_keeps_21 : decode cX12_keeps 21 = .ok (.iaload, 1) := by decide +kernel
theorem dX12_keeps_22 : decode cX12_keeps 22 = .ok (.iastore, 1) := by decide +kernel
theorem dX12_keeps_23 : decode cX12_keeps 23 = .ok (.iinc 1 1, 3) := by decide +kernel
theorem dX12_keeps_26 : decode cX12_keeps 26 = .ok (.goto (-24), 3) := by decide +kernel
theorem dX12_keeps_29 : decode cX12_keeps 29 = .ok (.return_, 1) := by decide +kernel
theorem dX12_isAgain_0 : decode cX12_isAgain 0 = .ok (.iconst 0, 1) := by decide +kernel
theorem dX12_isAgain_1 : decode cX12_isAgain 1 = .ok (.istore_n 1, 1) := by decide +kernel
theorem dX12_isAgain_2 : decode cX12_isAgain 2 = .ok (.iload_n 1, 1) := by decide +kernel
theorem dX12_isAgain_3 : decode cX12_isAgain 3 = .ok (.bipush 49, 2) := by decide +kernel
theorem dX12_isAgain_5 : decode cX12_isAgain 5 = .ok (.if_icmp .ge 24, 3) := by decide +kernel
theorem dX12_isAgain_8 : decode cX12_isAgain 8 = .ok (.aload_n 0, 1) := by decide +kernel
theorem dX12_isAgain_9 : decode cX12_isAgain 9 = .ok (.getfield 13, 3) := by decide +kernel
theorem dX12_isAgain_12 : decode cX12_isAgain 12 = .ok (.bipush 17, 2) := by decide +kernel
theorem dX12_isAgain_14 : decode cX12_isAgain 14 = .ok (.iload_n 1, 1) := by decide +kernel
theorem dX12_isAgain_15 : decode cX12_isAgain 15 = .ok (.iadd, 1) := by decide +kernel
theorem dX12_isAgain_16 : decode cX12_isAgain 16 = .ok (.aload_n 0, 1) := by decide +kernel
theorem dX12_isAgain_17 : decode cX12_isAgain 17 = .ok (.getfield 36, 3) := by decide +kernel
theorem dX12_isAgain_20 : decode cX12_isAgain 20 = .ok (.iload_n 1, 1) := by decide +kernel
theorem dX12_isAgain_21 : decode cX12_isAgain 21 = .ok (.iaload, 1) := by decide +kernel
theorem dX12_isAgain_22 : decode cX12_isAgain 22 = .ok (.iastore, 1) := by decide +kernel
theorem dX12_isAgain_23 : decode cX12_isAgain 23 = .ok (.iinc 1 1, 3) := by decide +kernel
theorem dX12_isAgain_26 : decode cX12_isAgain 26 = .ok (.goto (-24), 3) := by decide +kernel
theorem dX12_isAgain_29 : decode cX12_isAgain 29 = .ok (.return_, 1) := by decide +kernel
theorem dX12_notes_0 : decode cX12_notes 0 = .ok (.aload_n 0, 1) := by decide +kernel
theorem dX12_notes_1 : decode cX12_notes 1 = .ok (.getfield 13, 3) := by decide +kernel
theorem dX12_notes_4 : decode cX12_notes 4 = .ok (.bipush 66, 2) := by decide +kernel
theorem dX12_notes_6 : decode cX12_notes 6 = .ok (.iaload, 1) := by decide +kernel
theorem dX12_notes_7 : decode cX12_notes 7 = .ok (.bipush 10, 2) := by decide +kernel
theorem dX12_notes_9 : decode cX12_notes 9 = .ok (.if_icmp .ne 47, 3) := by decide +kernel
theorem dX12_notes_12 : decode cX12_notes 12 = .ok (.iconst 0, 1) := by decide +kernel
theorem dX12_notes_13 : decode cX12_notes 13 = .ok (.istore_n 1, 1) := by decide +kernel
theorem dX12_notes_14 : decode cX12_notes 14 = .ok (.iload_n 1, 1) := by decide +kernel
theorem dX12_notes_15 : decode cX12_notes 15 = .ok (.sipush 441, 3) := by decide +kernel
theorem dX12_notes_18 : decode cX12_notes 18 = .ok (.if_icmp .ge 27, 3) := by decide +kernel
theorem dX12_notes_21 : decode cX12_notes 21 = .ok (.aload_n 0, 1) := by decide +kernel
theorem dX12_notes_22 : decode cX12_notes 22 = .ok (.getfield 13, 3) := by decide +kernel
theorem dX12_notes_25 : decode cX12_notes 25 = .ok (.bipush 67, 2) := by decide +kernel
theorem dX12_notes_27 : decode cX12_notes 27 = .ok (.iload_n 1, 1) := by decide +kernel
theorem dX12_notes_28 : decode cX12_notes 28 = .ok (.iadd, 1) := by decide +kernel
theorem dX12_notes_29 : decode cX12_notes 29 = .ok (.aload_n 0, 1) := by decide +kernel
theorem dX12_notes_30 : decode cX12_notes 30 = .ok (.getfield 13, 3) := by decide +kernel
theorem dX12_notes_33 : decode cX12_notes 33 = .ok (.bipush 116, 2) := by decide +kernel
theorem dX12_notes_35 : decode cX12_notes 35 = .ok (.iload_n 1, 1) := by decide +kernel
theorem dX12_notes_36 : decode cX12_notes 36 = .ok (.iadd, 1) := by decide +kernel
theorem dX12_notes_37 : decode cX12_notes 37 = .ok (.iaload, 1) := by decide +kernel
theorem dX12_notes_38 : decode cX12_notes 38 = .ok (.iastore, 1) := by decide +kernel
theorem dX12_notes_39 : decode cX12_notes 39 = .ok (.iinc 1 1, 3) := by decide +kernel
theorem dX12_notes_42 : decode cX12_notes 42 = .ok (.goto (-28), 3) := by decide +kernel
theorem dX12_notes_45 : decode cX12_notes 45 = .ok (.aload_n 0, 1) := by decide +kernel
theorem dX12_notes_46 : decode cX12_notes 46 = .ok (.getfield 13, 3) := by decide +kernel
theorem dX12_notes_49 : decode cX12_notes 49 = .ok (.bipush 66, 2) := by decide +kernel
theorem dX12_notes_51 : decode cX12_notes 51 = .ok (.dup2, 1) := by decide +kernel
theorem dX12_notes_52 : decode cX12_notes 52 = .ok (.iaload, 1) := by decide +kernel
theorem dX12_notes_53 : decode cX12_notes 53 = .ok (.iconst 1, 1) := by decide +kernel
theorem dX12_notes_54 : decode cX12_notes 54 = .ok (.isub, 1) := by decide +kernel
theorem dX12_notes_55 : decode cX12_notes 55 = .ok (.iastore, 1) := by decide +kernel
theorem dX12_notes_56 : decode cX12_notes 56 = .ok (.iconst 0, 1) := by decide +kernel
theorem dX12_notes_57 : decode cX12_notes 57 = .ok (.istore_n 1, 1) := by decide +kernel
theorem dX12_notes_58 : decode cX12_notes 58 = .ok (.iload_n 1, 1) := by decide +kernel
theorem dX12_notes_59 : decode cX12_notes 59 = .ok (.bipush 49, 2) := by decide +kernel
theorem dX12_notes_61 : decode cX12_notes 61 = .ok (.if_icmp .ge 35, 3) := by decide +kernel
theorem dX12_notes_64 : decode cX12_notes 64 = .ok (.aload_n 0, 1) := by decide +kernel
theorem dX12_notes_65 : decode cX12_notes 65 = .ok (.getfield 13, 3) := by decide +kernel
theorem dX12_notes_68 : decode cX12_notes 68 = .ok (.bipush 67, 2) := by decide +kernel
theorem dX12_notes_70 : decode cX12_notes 70 = .ok (.bipush 49, 2) := by decide +kernel
theorem dX12_notes_72 : decode cX12_notes 72 = .ok (.aload_n 0, 1) := by decide +kernel
theorem dX12_notes_73 : decode cX12_notes 73 = .ok (.getfield 13, 3) := by decide +kernel
theorem dX12_notes_76 : decode cX12_notes 76 = .ok (.bipush 66, 2) := by decide +kernel
theorem dX12_notes_78 : decode cX12_notes 78 = .ok (.iaload, 1) := by decide +kernel
theorem dX12_notes_79 : decode cX12_notes 79 = .ok (.imul, 1) := by decide +kernel
theorem dX12_notes_80 : decode cX12_notes 80 = .ok (.iadd, 1) := by decide +kernel
theorem dX12_notes_81 : decode cX12_notes 81 = .ok (.iload_n 1, 1) := by decide +kernel
theorem dX12_notes_82 : decode cX12_notes 82 = .ok (.iadd, 1) := by decide +kernel
theorem dX12_notes_83 : decode cX12_notes 83 = .ok (.aload_n 0, 1) := by decide +kernel
theorem dX12_notes_84 : decode cX12_notes 84 = .ok (.getfield 36, 3) := by decide +kernel
theorem dX12_notes_87 : decode cX12_notes 87 = .ok (.iload_n 1, 1) := by decide +kernel
theorem dX12_notes_88 : decode cX12_notes 88 = .ok (.iaload, 1) := by decide +kernel
theorem dX12_notes_89 : decode cX12_notes 89 = .ok (.iastore, 1) := by decide +kernel
theorem dX12_notes_90 : decode cX12_notes 90 = .ok (.iinc 1 1, 3) := by decide +kernel
theorem dX12_notes_93 : decode cX12_notes 93 = .ok (.goto (-35), 3) := by decide +kernel
theorem dX12_notes_96 : decode cX12_notes 96 = .ok (.aload_n 0, 1) := by decide +kernel
theorem dX12_notes_97 : decode cX12_notes 97 = .ok (.getfield 13, 3) := by decide +kernel
theorem dX12_notes_100 : decode cX12_notes 100 = .ok (.bipush 66, 2) := by decide +kernel
theorem dX12_notes_102 : decode cX12_notes 102 = .ok (.dup2, 1) := by decide +kernel
theorem dX12_notes_103 : decode cX12_notes 103 = .ok (.iaload, 1) := by decide +kernel
theorem dX12_notes_104 : decode cX12_notes 104 = .ok (.iconst 1, 1) := by decide +kernel
theorem dX12_notes_105 : decode cX12_notes 105 = .ok (.iadd, 1) := by decide +kernel
theorem dX12_notes_106 : decode cX12_notes 106 = .ok (.iastore, 1) := by decide +kernel
theorem dX12_notes_107 : decode cX12_notes 107 = .ok (.return_, 1) := by decide +kernel
theorem dX12_whyLive_0 : decode cX12_whyLive 0 = .ok (.aload_n 0, 1) := by decide +kernel
theorem dX12_whyLive_1 : decode cX12_whyLive 1 = .ok (.lload_n 1, 1) := by decide +kernel
theorem dX12_whyLive_2 : decode cX12_whyLive 2 = .ok (.invokevirtual 245, 3) := by decide +kernel
theorem dX12_whyLive_5 : decode cX12_whyLive 5 = .ok (.ifCond .eq 11, 3) := by decide +kernel
theorem dX12_whyLive_8 : decode cX12_whyLive 8 = .ok (.aload_n 0, 1) := by decide +kernel
theorem dX12_whyLive_9 : decode cX12_whyLive 9 = .ok (.lload_n 3, 1) := by decide +kernel
theorem dX12_whyLive_10 : decode cX12_whyLive 10 = .ok (.invokevirtual 250, 3) := by decide +kernel
theorem dX12_whyLive_13 : decode cX12_whyLive 13 = .ok (.ifCond .ne 7, 3) := by decide +kernel
theorem dX12_whyLive_16 : decode cX12_whyLive 16 = .ok (.iconst 1, 1) := by decide +kernel
theorem dX12_whyLive_17 : decode cX12_whyLive 17 = .ok (.goto 21, 3) := by decide +kernel
theorem dX12_whyLive_20 : decode cX12_whyLive 20 = .ok (.aload_n 0, 1) := by decide +kernel
theorem dX12_whyLive_21 : decode cX12_whyLive 21 = .ok (.aload_n 0, 1) := by decide +kernel
theorem dX12_whyLive_22 : decode cX12_whyLive 22 = .ok (.lload_n 1, 1) := by decide +kernel
theorem dX12_whyLive_23 : decode cX12_whyLive 23 = .ok (.l2i, 1) := by decide +kernel
theorem dX12_whyLive_24 : decode cX12_whyLive 24 = .ok (.invokevirtual 253, 3) := by decide +kernel
theorem dX12_whyLive_27 : decode cX12_whyLive 27 = .ok (.invokevirtual 256, 3) := by decide +kernel
theorem dX12_whyLive_30 : decode cX12_whyLive 30 = .ok (.ifCond .eq 7, 3) := by decide +kernel
theorem dX12_whyLive_33 : decode cX12_whyLive 33 = .ok (.iconst 2, 1) := by decide +kernel
theorem dX12_whyLive_34 : decode cX12_whyLive 34 = .ok (.goto 4, 3) := by decide +kernel
theorem dX12_whyLive_37 : decode cX12_whyLive 37 = .ok (.iconst 0, 1) := by decide +kernel
theorem dX12_whyLive_38 : decode cX12_whyLive 38 = .ok (.ireturn, 1) := by decide +kernel
theorem dX12_whyDraw_0 : decode cX12_whyDraw 0 = .ok (.aload_n 0, 1) := by decide +kernel
theorem dX12_whyDraw_1 : decode cX12_whyDraw 1 = .ok (.lload_n 1, 1) := by decide +kernel
theorem dX12_whyDraw_2 : decode cX12_whyDraw 2 = .ok (.invokevirtual 245, 3) := by decide +kernel
theorem dX12_whyDraw_5 : decode cX12_whyDraw 5 = .ok (.ifCond .ne 7, 3) := by decide +kernel
theorem dX12_whyDraw_8 : decode cX12_whyDraw 8 = .ok (.iconst 1, 1) := by decide +kernel
theorem dX12_whyDraw_9 : decode cX12_whyDraw 9 = .ok (.goto 39, 3) := by decide +kernel
theorem dX12_whyDraw_12 : decode cX12_whyDraw 12 = .ok (.aload_n 0, 1) := by decide +kernel
theorem dX12_whyDraw_13 : decode cX12_whyDraw 13 = .ok (.getfield 13, 3) := by decide +kernel
theorem dX12_whyDraw_16 : decode cX12_whyDraw 16 = .ok (.bipush 24, 2) := by decide +kernel
theorem dX12_whyDraw_18 : decode cX12_whyDraw 18 = .ok (.lload_n 1, 1) := by decide +kernel
theorem dX12_whyDraw_19 : decode cX12_whyDraw 19 = .ok (.l2i, 1) := by decide +kernel
theorem dX12_whyDraw_20 : decode cX12_whyDraw 20 = .ok (.iadd, 1) := by decide +kernel
theorem dX12_whyDraw_21 : decode cX12_whyDraw 21 = .ok (.iaload, 1) := by decide +kernel
theorem dX12_whyDraw_22 : decode cX12_whyDraw 22 = .ok (.iconst 2, 1) := by decide +kernel
theorem dX12_whyDraw_23 : decode cX12_whyDraw 23 = .ok (.if_icmp .ne 7, 3) := by decide +kernel
theorem dX12_whyDraw_26 : decode cX12_whyDraw 26 = .ok (.iconst 2, 1) := by decide +kernel
theorem dX12_whyDraw_27 : decode cX12_whyDraw 27 = .ok (.goto 21, 3) := by decide +kernel
theorem dX12_whyDraw_30 : decode cX12_whyDraw 30 = .ok (.aload_n 0, 1) := by decide +kernel
theorem dX12_whyDraw_31 : decode cX12_whyDraw 31 = .ok (.getfield 13, 3) := by decide +kernel
theorem dX12_whyDraw_34 : decode cX12_whyDraw 34 = .ok (.bipush 60, 2) := by decide +kernel
theorem dX12_whyDraw_36 : decode cX12_whyDraw 36 = .ok (.lload_n 1, 1) := by decide +kernel
theorem dX12_whyDraw_37 : decode cX12_whyDraw 37 = .ok (.l2i, 1) := by decide +kernel
theorem dX12_whyDraw_38 : decode cX12_whyDraw 38 = .ok (.iadd, 1) := by decide +kernel
theorem dX12_whyDraw_39 : decode cX12_whyDraw 39 = .ok (.iaload, 1) := by decide +kernel
theorem dX12_whyDraw_40 : decode cX12_whyDraw 40 = .ok (.ifCond .le 7, 3) := by decide +kernel
theorem dX12_whyDraw_43 : decode cX12_whyDraw 43 = .ok (.iconst 3, 1) := by decide +kernel
theorem dX12_whyDraw_44 : decode cX12_whyDraw 44 = .ok (.goto 4, 3) := by decide +kernel
theorem dX12_whyDraw_47 : decode cX12_whyDraw 47 = .ok (.iconst 0, 1) := by decide +kernel
theorem dX12_whyDraw_48 : decode cX12_whyDraw 48 = .ok (.ireturn, 1) := by decide +kernel
theorem dX12_whyPledge_0 : decode cX12_whyPledge 0 = .ok (.lload_n 3, 1) := by decide +kernel
theorem dX12_whyPledge_1 : decode cX12_whyPledge 1 = .ok (.lconst 1, 1) := by decide +kernel
theorem dX12_whyPledge_2 : decode cX12_whyPledge 2 = .ok (.ldc2_w 262, 3) := by decide +kernel
theorem dX12_whyPledge_5 : decode cX12_whyPledge 5 = .ok (.invokestatic 144, 3) := by decide +kernel
theorem dX12_whyPledge_8 : decode cX12_whyPledge 8 = .ok (.ifCond .ne 5, 3) := by decide +kernel
theorem dX12_whyPledge_11 : decode cX12_whyPledge 11 = .ok (.iconst 1, 1) := by decide +kernel
theorem dX12_whyPledge_12 : decode cX12_whyPledge 12 = .ok (.ireturn, 1) := by decide +kernel
theorem dX12_whyPledge_13 : decode cX12_whyPledge 13 = .ok (.aload_n 0, 1) := by decide +kernel
theorem dX12_whyPledge_14 : decode cX12_whyPledge 14 = .ok (.lload_n 1, 1) := by decide +kernel
theorem dX12_whyPledge_15 : decode cX12_whyPledge 15 = .ok (.invokevirtual 264, 3) := by decide +kernel
theorem dX12_whyPledge_18 : decode cX12_whyPledge 18 = .ok (.istore 5, 2) := by decide +kernel
theorem dX12_whyPledge_20 : decode cX12_whyPledge 20 = .ok (.iload 5, 2) := by decide +kernel
theorem dX12_whyPledge_22 : decode cX12_whyPledge 22 = .ok (.ifCond .eq 8, 3) := by decide +kernel
theorem dX12_whyPledge_25 : decode cX12_whyPledge 25 = .ok (.iload 5, 2) := by decide +kernel
theorem dX12_whyPledge_27 : decode cX12_whyPledge 27 = .ok (.goto 21, 3) := by decide +kernel
theorem dX12_whyPledge_30 : decode cX12_whyPledge 30 = .ok (.aload_n 0, 1) := by decide +kernel
theorem dX12_whyPledge_31 : decode cX12_whyPledge 31 = .ok (.getfield 13, 3) := by decide +kernel
theorem dX12_whyPledge_34 : decode cX12_whyPledge 34 = .ok (.bipush 17, 2) := by decide +kernel
theorem dX12_whyPledge_36 : decode cX12_whyPledge 36 = .ok (.iaload, 1) := by decide +kernel
theorem dX12_whyPledge_37 : decode cX12_whyPledge 37 = .ok (.i2l, 1) := by decide +kernel
theorem dX12_whyPledge_38 : decode cX12_whyPledge 38 = .ok (.lload_n 3, 1) := by decide +kernel
theorem dX12_whyPledge_39 : decode cX12_whyPledge 39 = .ok (.lcmp, 1) := by decide +kernel
theorem dX12_whyPledge_40 : decode cX12_whyPledge 40 = .ok (.ifCond .ge 7, 3) := by decide +kernel
theorem dX12_whyPledge_43 : decode cX12_whyPledge 43 = .ok (.iconst 4, 1) := by decide +kernel
theorem dX12_whyPledge_44 : decode cX12_whyPledge 44 = .ok (.goto 4, 3) := by decide +kernel
theorem dX12_whyPledge_47 : decode cX12_whyPledge 47 = .ok (.iconst 0, 1) := by decide +kernel
theorem dX12_whyPledge_48 : decode cX12_whyPledge 48 = .ok (.ireturn, 1) := by decide +kernel
theorem dX12_whyRedeem_0 : decode cX12_whyRedeem 0 = .ok (.aload_n 0, 1) := by decide +kernel
theorem dX12_whyRedeem_1 : decode cX12_whyRedeem 1 = .ok (.lload_n 1, 1) := by decide +kernel
theorem dX12_whyRedeem_2 : decode cX12_whyRedeem 2 = .ok (.invokevirtual 245, 3) := by decide +kernel
theorem dX12_whyRedeem_5 : decode cX12_whyRedeem 5 = .ok (.ifCond .ne 7, 3) := by decide +kernel
theorem dX12_whyRedeem_8 : decode cX12_whyRedeem 8 = .ok (.iconst 1, 1) := by decide +kernel
theorem dX12_whyRedeem_9 : decode cX12_whyRedeem 9 = .ok (.goto 21, 3) := by decide +kernel
theorem dX12_whyRedeem_12 : decode cX12_whyRedeem 12 = .ok (.aload_n 0, 1) := by decide +kernel
theorem dX12_whyRedeem_13 : decode cX12_whyRedeem 13 = .ok (.getfield 13, 3) := by decide +kernel
theorem dX12_whyRedeem_16 : decode cX12_whyRedeem 16 = .ok (.bipush 60, 2) := by decide +kernel
theorem dX12_whyRedeem_18 : decode cX12_whyRedeem 18 = .ok (.lload_n 1, 1) := by decide +kernel
theorem dX12_whyRedeem_19 : decode cX12_whyRedeem 19 = .ok (.l2i, 1) := by decide +kernel
theorem dX12_whyRedeem_20 : decode cX12_whyRedeem 20 = .ok (.iadd, 1) := by decide +kernel
theorem dX12_whyRedeem_21 : decode cX12_whyRedeem 21 = .ok (.iaload, 1) := by decide +kernel
theorem dX12_whyRedeem_22 : decode cX12_whyRedeem 22 = .ok (.ifCond .ne 7, 3) := by decide +kernel
theorem dX12_whyRedeem_25 : decode cX12_whyRedeem 25 = .ok (.iconst 3, 1) := by decide +kernel
theorem dX12_whyRedeem_26 : decode cX12_whyRedeem 26 = .ok (.goto 4, 3) := by decide +kernel
theorem dX12_whyRedeem_29 : decode cX12_whyRedeem 29 = .ok (.iconst 0, 1) := by decide +kernel
theorem dX12_whyRedeem_30 : decode cX12_whyRedeem 30 = .ok (.ireturn, 1) := by decide +kernel
theorem dX12_stands_0 : decode cX12_stands 0 = .ok (.aload_n 0, 1) := by decide +kernel
theorem dX12_stands_1 : decode cX12_stands 1 = .ok (.getfield 13, 3) := by decide +kernel
theorem dX12_stands_4 : decode cX12_stands 4 = .ok (.bipush 24, 2) := by decide +kernel
theorem dX12_stands_6 : decode cX12_stands 6 = .ok (.iload_n 1, 1) := by decide +kernel
theorem dX12_stands_7 : decode cX12_stands 7 = .ok (.iadd, 1) := by decide +kernel
theorem dX12_stands_8 : decode cX12_stands 8 = .ok (.iload_n 2, 1) := by decide +kernel
theorem dX12_stands_9 : decode cX12_stands 9 = .ok (.invokestatic 233, 3) := by decide +kernel
theorem dX12_stands_12 : decode cX12_stands 12 = .ok (.iastore, 1) := by decide +kernel
theorem dX12_stands_13 : decode cX12_stands 13 = .ok (.aload_n 0, 1) := by decide +kernel
theorem dX12_stands_14 : decode cX12_stands 14 = .ok (.getfield 13, 3) := by decide +kernel
theorem dX12_stands_17 : decode cX12_stands 17 = .ok (.bipush 48, 2) := by decide +kernel
theorem dX12_stands_19 : decode cX12_stands 19 = .ok (.iload_n 1, 1) := by decide +kernel
theorem dX12_stands_20 : decode cX12_stands 20 = .ok (.iadd, 1) := by decide +kernel
theorem dX12_stands_21 : decode cX12_stands 21 = .ok (.iload_n 2, 1) := by decide +kernel
theorem dX12_stands_22 : decode cX12_stands 22 = .ok (.invokestatic 236, 3) := by decide +kernel
theorem dX12_stands_25 : decode cX12_stands 25 = .ok (.iastore, 1) := by decide +kernel
theorem dX12_stands_26 : decode cX12_stands 26 = .ok (.aload_n 0, 1) := by decide +kernel
theorem dX12_stands_27 : decode cX12_stands 27 = .ok (.getfield 13, 3) := by decide +kernel
theorem dX12_stands_30 : decode cX12_stands 30 = .ok (.bipush 18, 2) := by decide +kernel
theorem dX12_stands_32 : decode cX12_stands 32 = .ok (.iload_n 1, 1) := by decide +kernel
theorem dX12_stands_33 : decode cX12_stands 33 = .ok (.iadd, 1) := by decide +kernel
theorem dX12_stands_34 : decode cX12_stands 34 = .ok (.iload_n 2, 1) := by decide +kernel
theorem dX12_stands_35 : decode cX12_stands 35 = .ok (.invokestatic 224, 3) := by decide +kernel
theorem dX12_stands_38 : decode cX12_stands 38 = .ok (.iastore, 1) := by decide +kernel
theorem dX12_stands_39 : decode cX12_stands 39 = .ok (.aload_n 0, 1) := by decide +kernel
theorem dX12_stands_40 : decode cX12_stands 40 = .ok (.getfield 13, 3) := by decide +kernel
theorem dX12_stands_43 : decode cX12_stands 43 = .ok (.bipush 36, 2) := by decide +kernel
theorem dX12_stands_45 : decode cX12_stands 45 = .ok (.iload_n 1, 1) := by decide +kernel
theorem dX12_stands_46 : decode cX12_stands 46 = .ok (.iadd, 1) := by decide +kernel
theorem dX12_stands_47 : decode cX12_stands 47 = .ok (.iload_n 2, 1) := by decide +kernel
theorem dX12_stands_48 : decode cX12_stands 48 = .ok (.invokestatic 227, 3) := by decide +kernel
theorem dX12_stands_51 : decode cX12_stands 51 = .ok (.iastore, 1) := by decide +kernel
theorem dX12_stands_52 : decode cX12_stands 52 = .ok (.aload_n 0, 1) := by decide +kernel
theorem dX12_stands_53 : decode cX12_stands 53 = .ok (.getfield 13, 3) := by decide +kernel
theorem dX12_stands_56 : decode cX12_stands 56 = .ok (.bipush 42, 2) := by decide +kernel
theorem dX12_stands_58 : decode cX12_stands 58 = .ok (.iload_n 1, 1) := by decide +kernel
theorem dX12_stands_59 : decode cX12_stands 59 = .ok (.iadd, 1) := by decide +kernel
theorem dX12_stands_60 : decode cX12_stands 60 = .ok (.iload_n 2, 1) := by decide +kernel
theorem dX12_stands_61 : decode cX12_stands 61 = .ok (.invokestatic 230, 3) := by decide +kernel
theorem dX12_stands_64 : decode cX12_stands 64 = .ok (.iastore, 1) := by decide +kernel
theorem dX12_stands_65 : decode cX12_stands 65 = .ok (.return_, 1) := by decide +kernel
theorem dX12_lives_0 : decode cX12_lives 0 = .ok (.aload_n 0, 1) := by decide +kernel
theorem dX12_lives_1 : decode cX12_lives 1 = .ok (.iload_n 1, 1) := by decide +kernel
theorem dX12_lives_2 : decode cX12_lives 2 = .ok (.invokevirtual 253, 3) := by decide +kernel
theorem dX12_lives_5 : decode cX12_lives 5 = .ok (.istore_n 3, 1) := by decide +kernel
theorem dX12_lives_6 : decode cX12_lives 6 = .ok (.aload_n 0, 1) := by decide +kernel
theorem dX12_lives_7 : decode cX12_lives 7 = .ok (.aload_n 0, 1) := by decide +kernel
theorem dX12_lives_8 : decode cX12_lives 8 = .ok (.getfield 13, 3) := by decide +kernel
theorem dX12_lives_11 : decode cX12_lives 11 = .ok (.bipush 54, 2) := by decide +kernel
theorem dX12_lives_13 : decode cX12_lives 13 = .ok (.iload_n 1, 1) := by decide +kernel
theorem dX12_lives_14 : decode cX12_lives 14 = .ok (.iadd, 1) := by decide +kernel
theorem dX12_lives_15 : decode cX12_lives 15 = .ok (.iaload, 1) := by decide +kernel
theorem dX12_lives_16 : decode cX12_lives 16 = .ok (.iload_n 3, 1) := by decide +kernel
theorem dX12_lives_17 : decode cX12_lives 17 = .ok (.iload_n 2, 1) := by decide +kernel
theorem dX12_lives_18 : decode cX12_lives 18 = .ok (.invokevirtual 259, 3) := by decide +kernel
theorem dX12_lives_21 : decode cX12_lives 21 = .ok (.istore 4, 2) := by decide +kernel
theorem dX12_lives_23 : decode cX12_lives 23 = .ok (.aload_n 0, 1) := by decide +kernel
theorem dX12_lives_24 : decode cX12_lives 24 = .ok (.getfield 13, 3) := by decide +kernel
theorem dX12_lives_27 : decode cX12_lives 27 = .ok (.bipush 30, 2) := by decide +kernel
theorem dX12_lives_29 : decode cX12_lives 29 = .ok (.iload_n 1, 1) := by decide +kernel
theorem dX12_lives_30 : decode cX12_lives 30 = .ok (.iadd, 1) := by decide +kernel
theorem dX12_lives_31 : decode cX12_lives 31 = .ok (.dup2, 1) := by decide +kernel
theorem dX12_lives_32 : decode cX12_lives 32 = .ok (.iaload, 1) := by decide +kernel
theorem dX12_lives_33 : decode cX12_lives 33 = .ok (.iload 4, 2) := by decide +kernel
theorem dX12_lives_35 : decode cX12_lives 35 = .ok (.iadd, 1) := by decide +kernel
theorem dX12_lives_36 : decode cX12_lives 36 = .ok (.iastore, 1) := by decide +kernel
theorem dX12_lives_37 : decode cX12_lives 37 = .ok (.aload_n 0, 1) := by decide +kernel
theorem dX12_lives_38 : decode cX12_lives 38 = .ok (.iload_n 1, 1) := by decide +kernel
theorem dX12_lives_39 : decode cX12_lives 39 = .ok (.iload_n 3, 1) := by decide +kernel
theorem dX12_lives_40 : decode cX12_lives 40 = .ok (.iload_n 2, 1) := by decide +kernel
theorem dX12_lives_41 : decode cX12_lives 41 = .ok (.invokestatic 268, 3) := by decide +kernel
theorem dX12_lives_44 : decode cX12_lives 44 = .ok (.invokevirtual 271, 3) := by decide +kernel
theorem dX12_lives_47 : decode cX12_lives 47 = .ok (.iload 4, 2) := by decide +kernel
theorem dX12_lives_49 : decode cX12_lives 49 = .ok (.ireturn, 1) := by decide +kernel
theorem dX12_drawsIt_0 : decode cX12_drawsIt 0 = .ok (.aload_n 0, 1) := by decide +kernel
theorem dX12_drawsIt_1 : decode cX12_drawsIt 1 = .ok (.iload_n 1, 1) := by decide +kernel
theorem dX12_drawsIt_2 : decode cX12_drawsIt 2 = .ok (.aload_n 0, 1) := by decide +kernel
theorem dX12_drawsIt_3 : decode cX12_drawsIt 3 = .ok (.aload_n 0, 1) := by decide +kernel
theorem dX12_drawsIt_4 : decode cX12_drawsIt 4 = .ok (.getfield 13, 3) := by decide +kernel
theorem dX12_drawsIt_7 : decode cX12_drawsIt 7 = .ok (.bipush 54, 2) := by decide +kernel
theorem dX12_drawsIt_9 : decode cX12_drawsIt 9 = .ok (.iload_n 1, 1) := by decide +kernel
theorem dX12_drawsIt_10 : decode cX12_drawsIt 10 = .ok (.iadd, 1) := by decide +kernel
theorem dX12_drawsIt_11 : decode cX12_drawsIt 11 = .ok (.iaload, 1) := by decide +kernel
theorem dX12_drawsIt_12 : decode cX12_drawsIt 12 = .ok (.aload_n 0, 1) := by decide +kernel
theorem dX12_drawsIt_13 : decode cX12_drawsIt 13 = .ok (.iload_n 1, 1) := by decide +kernel
theorem dX12_drawsIt_14 : decode cX12_drawsIt 14 = .ok (.invokevirtual 253, 3) := by decide +kernel
theorem dX12_drawsIt_17 : decode cX12_drawsIt 17 = .ok (.invokevirtual 275, 3) := by decide +kernel
theorem dX12_drawsIt_20 : decode cX12_drawsIt 20 = .ok (.invokevirtual 271, 3) := by decide +kernel
theorem dX12_drawsIt_23 : decode cX12_drawsIt 23 = .ok (.return_, 1) := by decide +kernel
theorem dX12_goes_0 : decode cX12_goes 0 = .ok (.aload_n 0, 1) := by decide +kernel
theorem dX12_goes_1 : decode cX12_goes 1 = .ok (.getfield 13, 3) := by decide +kernel
theorem dX12_goes_4 : decode cX12_goes 4 = .ok (.bipush 60, 2) := by decide +kernel
theorem dX12_goes_6 : decode cX12_goes 6 = .ok (.iload_n 1, 1) := by decide +kernel
theorem dX12_goes_7 : decode cX12_goes 7 = .ok (.iadd, 1) := by decide +kernel
theorem dX12_goes_8 : decode cX12_goes 8 = .ok (.dup2, 1) := by decide +kernel
theorem dX12_goes_9 : decode cX12_goes 9 = .ok (.iaload, 1) := by decide +kernel
theorem dX12_goes_10 : decode cX12_goes 10 = .ok (.iload_n 2, 1) := by decide +kernel
theorem dX12_goes_11 : decode cX12_goes 11 = .ok (.iadd, 1) := by decide +kernel
theorem dX12_goes_12 : decode cX12_goes 12 = .ok (.iastore, 1) := by decide +kernel
theorem dX12_goes_13 : decode cX12_goes 13 = .ok (.aload_n 0, 1) := by decide +kernel
theorem dX12_goes_14 : decode cX12_goes 14 = .ok (.getfield 13, 3) := by decide +kernel
theorem dX12_goes_17 : decode cX12_goes 17 = .ok (.bipush 30, 2) := by decide +kernel
theorem dX12_goes_19 : decode cX12_goes 19 = .ok (.iload_n 1, 1) := by decide +kernel
theorem dX12_goes_20 : decode cX12_goes 20 = .ok (.iadd, 1) := by decide +kernel
theorem dX12_goes_21 : decode cX12_goes 21 = .ok (.dup2, 1) := by decide +kernel
theorem dX12_goes_22 : decode cX12_goes 22 = .ok (.iaload, 1) := by decide +kernel
theorem dX12_goes_23 : decode cX12_goes 23 = .ok (.iload_n 2, 1) := by decide +kernel
theorem dX12_goes_24 : decode cX12_goes 24 = .ok (.iadd, 1) := by decide +kernel
theorem dX12_goes_25 : decode cX12_goes 25 = .ok (.iastore, 1) := by decide +kernel
theorem dX12_goes_26 : decode cX12_goes 26 = .ok (.aload_n 0, 1) := by decide +kernel
theorem dX12_goes_27 : decode cX12_goes 27 = .ok (.getfield 13, 3) := by decide +kernel
theorem dX12_goes_30 : decode cX12_goes 30 = .ok (.bipush 17, 2) := by decide +kernel
theorem dX12_goes_32 : decode cX12_goes 32 = .ok (.dup2, 1) := by decide +kernel
theorem dX12_goes_33 : decode cX12_goes 33 = .ok (.iaload, 1) := by decide +kernel
theorem dX12_goes_34 : decode cX12_goes 34 = .ok (.iload_n 2, 1) := by decide +kernel
theorem dX12_goes_35 : decode cX12_goes 35 = .ok (.isub, 1) := by decide +kernel
theorem dX12_goes_36 : decode cX12_goes 36 = .ok (.iastore, 1) := by decide +kernel
theorem dX12_goes_37 : decode cX12_goes 37 = .ok (.return_, 1) := by decide +kernel
theorem dX12_live_0 : decode cX12_live 0 = .ok (.aload_n 0, 1) := by decide +kernel
theorem dX12_live_1 : decode cX12_live 1 = .ok (.iconst 0, 1) := by decide +kernel
theorem dX12_live_2 : decode cX12_live 2 = .ok (.putfield 1, 3) := by decide +kernel
theorem dX12_live_5 : decode cX12_live 5 = .ok (.aload_n 0, 1) := by decide +kernel
theorem dX12_live_6 : decode cX12_live 6 = .ok (.iload_n 1, 1) := by decide +kernel
theorem dX12_live_7 : decode cX12_live 7 = .ok (.i2l, 1) := by decide +kernel
theorem dX12_live_8 : decode cX12_live 8 = .ok (.iload_n 2, 1) := by decide +kernel
theorem dX12_live_9 : decode cX12_live 9 = .ok (.i2l, 1) := by decide +kernel
theorem dX12_live_10 : decode cX12_live 10 = .ok (.invokevirtual 278, 3) := by decide +kernel
theorem dX12_live_13 : decode cX12_live 13 = .ok (.istore_n 3, 1) := by decide +kernel
theorem dX12_live_14 : decode cX12_live 14 = .ok (.iload_n 3, 1) := by decide +kernel
theorem dX12_live_15 : decode cX12_live 15 = .ok (.ifCond .eq 9, 3) := by decide +kernel
theorem dX12_live_18 : decode cX12_live 18 = .ok (.ldc_w 282, 3) := by decide +kernel
theorem dX12_live_21 : decode cX12_live 21 = .ok (.iload_n 3, 1) := by decide +kernel
theorem dX12_live_22 : decode cX12_live 22 = .ok (.isub, 1) := by decide +kernel
theorem dX12_live_23 : decode cX12_live 23 = .ok (.ireturn, 1) := by decide +kernel
theorem dX12_live_24 : decode cX12_live 24 = .ok (.aload_n 0, 1) := by decide +kernel
theorem dX12_live_25 : decode cX12_live 25 = .ok (.invokevirtual 283, 3) := by decide +kernel
theorem dX12_live_28 : decode cX12_live 28 = .ok (.aload_n 0, 1) := by decide +kernel
theorem dX12_live_29 : decode cX12_live 29 = .ok (.iload_n 1, 1) := by decide +kernel
theorem dX12_live_30 : decode cX12_live 30 = .ok (.iload_n 2, 1) := by decide +kernel
theorem dX12_live_31 : decode cX12_live 31 = .ok (.invokevirtual 286, 3) := by decide +kernel
theorem dX12_live_34 : decode cX12_live 34 = .ok (.istore 4, 2) := by decide +kernel
theorem dX12_live_36 : decode cX12_live 36 = .ok (.aload_n 0, 1) := by decide +kernel
theorem dX12_live_37 : decode cX12_live 37 = .ok (.invokevirtual 289, 3) := by decide +kernel
theorem dX12_live_40 : decode cX12_live 40 = .ok (.iload 4, 2) := by decide +kernel
theorem dX12_live_42 : decode cX12_live 42 = .ok (.ireturn, 1) := by decide +kernel
theorem dX12_draw_0 : decode cX12_draw 0 = .ok (.aload_n 0, 1) := by decide +kernel
theorem dX12_draw_1 : decode cX12_draw 1 = .ok (.iconst 0, 1) := by decide +kernel
theorem dX12_draw_2 : decode cX12_draw 2 = .ok (.putfield 1, 3) := by decide +kernel
theorem dX12_draw_5 : decode cX12_draw 5 = .ok (.aload_n 0, 1) := by decide +kernel
theorem dX12_draw_6 : decode cX12_draw 6 = .ok (.iload_n 1, 1) := by decide +kernel
theorem dX12_draw_7 : decode cX12_draw 7 = .ok (.i2l, 1) := by decide +kernel
theorem dX12_draw_8 : decode cX12_draw 8 = .ok (.invokevirtual 264, 3) := by decide +kernel
theorem dX12_draw_11 : decode cX12_draw 11 = .ok (.istore_n 2, 1) := by decide +kernel
theorem dX12_draw_12 : decode cX12_draw 12 = .ok (.iload_n 2, 1) := by decide +kernel
theorem dX12_draw_13 : decode cX12_draw 13 = .ok (.ifCond .eq 9, 3) := by decide +kernel
theorem dX12_draw_16 : decode cX12_draw 16 = .ok (.ldc_w 282, 3) := by decide +kernel
theorem dX12_draw_19 : decode cX12_draw 19 = .ok (.iload_n 2, 1) := by decide +kernel
theorem dX12_draw_20 : decode cX12_draw 20 = .ok (.isub, 1) := by decide +kernel
theorem dX12_draw_21 : decode cX12_draw 21 = .ok (.ireturn, 1) := by decide +kernel
theorem dX12_draw_22 : decode cX12_draw 22 = .ok (.aload_n 0, 1) := by decide +kernel
theorem dX12_draw_23 : decode cX12_draw 23 = .ok (.invokevirtual 283, 3) := by decide +kernel
theorem dX12_draw_26 : decode cX12_draw 26 = .ok (.aload_n 0, 1) := by decide +kernel
theorem dX12_draw_27 : decode cX12_draw 27 = .ok (.iload_n 1, 1) := by decide +kernel
theorem dX12_draw_28 : decode cX12_draw 28 = .ok (.invokevirtual 292, 3) := by decide +kernel
theorem dX12_draw_31 : decode cX12_draw 31 = .ok (.aload_n 0, 1) := by decide +kernel
theorem dX12_draw_32 : decode cX12_draw 32 = .ok (.invokevirtual 289, 3) := by decide +kernel
theorem dX12_draw_35 : decode cX12_draw 35 = .ok (.aload_n 0, 1) := by decide +kernel
theorem dX12_draw_36 : decode cX12_draw 36 = .ok (.getfield 13, 3) := by decide +kernel
theorem dX12_draw_39 : decode cX12_draw 39 = .ok (.bipush 18, 2) := by decide +kernel
theorem dX12_draw_41 : decode cX12_draw 41 = .ok (.iload_n 1, 1) := by decide +kernel
theorem dX12_draw_42 : decode cX12_draw 42 = .ok (.iadd, 1) := by decide +kernel
theorem dX12_draw_43 : decode cX12_draw 43 = .ok (.iaload, 1) := by decide +kernel
theorem dX12_draw_44 : decode cX12_draw 44 = .ok (.ireturn, 1) := by decide +kernel
theorem dX12_pledge_0 : decode cX12_pledge 0 = .ok (.aload_n 0, 1) := by decide +kernel
theorem dX12_pledge_1 : decode cX12_pledge 1 = .ok (.iconst 0, 1) := by decide +kernel
theorem dX12_pledge_2 : decode cX12_pledge 2 = .ok (.putfield 1, 3) := by decide +kernel
theorem dX12_pledge_5 : decode cX12_pledge 5 = .ok (.aload_n 0, 1) := by decide +kernel
theorem dX12_pledge_6 : decode cX12_pledge 6 = .ok (.iload_n 1, 1) := by decide +kernel
theorem dX12_pledge_7 : decode cX12_pledge 7 = .ok (.i2l, 1) := by decide +kernel
theorem dX12_pledge_8 : decode cX12_pledge 8 = .ok (.iload_n 2, 1) := by decide +kernel
theorem dX12_pledge_9 : decode cX12_pledge 9 = .ok (.i2l, 1) := by decide +kernel
theorem dX12_pledge_10 : decode cX12_pledge 10 = .ok (.invokevirtual 295, 3) := by decide +kernel
theorem dX12_pledge_13 : decode cX12_pledge 13 = .ok (.istore_n 3, 1) := by decide +kernel
theorem dX12_pledge_14 : decode cX12_pledge 14 = .ok (.iload_n 3, 1) := by decide +kernel
theorem dX12_pledge_15 : decode cX12_pledge 15 = .ok (.ifCond .eq 9, 3) := by decide +kernel
theorem dX12_pledge_18 : decode cX12_pledge 18 = .ok (.ldc_w 282, 3) := by decide +kernel
theorem dX12_pledge_21 : decode cX12_pledge 21 = .ok (.iload_n 3, 1) := by decide +kernel
theorem dX12_pledge_22 : decode cX12_pledge 22 = .ok (.isub, 1) := by decide +kernel
theorem dX12_pledge_23 : decode cX12_pledge 23 = .ok (.ireturn, 1) := by decide +kernel
theorem dX12_pledge_24 : decode cX12_pledge 24 = .ok (.aload_n 0, 1) := by decide +kernel
theorem dX12_pledge_25 : decode cX12_pledge 25 = .ok (.invokevirtual 283, 3) := by decide +kernel
theorem dX12_pledge_28 : decode cX12_pledge 28 = .ok (.aload_n 0, 1) := by decide +kernel
theorem dX12_pledge_29 : decode cX12_pledge 29 = .ok (.iload_n 1, 1) := by decide +kernel
theorem dX12_pledge_30 : decode cX12_pledge 30 = .ok (.iload_n 2, 1) := by decide +kernel
theorem dX12_pledge_31 : decode cX12_pledge 31 = .ok (.invokevirtual 298, 3) := by decide +kernel
theorem dX12_pledge_34 : decode cX12_pledge 34 = .ok (.aload_n 0, 1) := by decide +kernel
theorem dX12_pledge_35 : decode cX12_pledge 35 = .ok (.invokevirtual 289, 3) := by decide +kernel
theorem dX12_pledge_38 : decode cX12_pledge 38 = .ok (.aload_n 0, 1) := by decide +kernel
theorem dX12_pledge_39 : decode cX12_pledge 39 = .ok (.getfield 13, 3) := by decide +kernel
theorem dX12_pledge_42 : decode cX12_pledge 42 = .ok (.bipush 17, 2) := by decide +kernel
theorem dX12_pledge_44 : decode cX12_pledge 44 = .ok (.iaload, 1) := by decide +kernel
theorem dX12_pledge_45 : decode cX12_pledge 45 = .ok (.ireturn, 1) := by decide +kernel
theorem dX12_redeem_0 : decode cX12_redeem 0 = .ok (.aload_n 0, 1) := by decide +kernel
theorem dX12_redeem_1 : decode cX12_redeem 1 = .ok (.iconst 0, 1) := by decide +kernel
theorem dX12_redeem_2 : decode cX12_redeem 2 = .ok (.putfield 1, 3) := by decide +kernel
theorem dX12_redeem_5 : decode cX12_redeem 5 = .ok (.aload_n 0, 1) := by decide +kernel
theorem dX12_redeem_6 : decode cX12_redeem 6 = .ok (.iload_n 1, 1) := by decide +kernel
theorem dX12_redeem_7 : decode cX12_redeem 7 = .ok (.i2l, 1) := by decide +kernel
theorem dX12_redeem_8 : decode cX12_redeem 8 = .ok (.invokevirtual 301, 3) := by decide +kernel
theorem dX12_redeem_11 : decode cX12_redeem 11 = .ok (.istore_n 2, 1) := by decide +kernel
theorem dX12_redeem_12 : decode cX12_redeem 12 = .ok (.iload_n 2, 1) := by decide +kernel
theorem dX12_redeem_13 : decode cX12_redeem 13 = .ok (.ifCond .eq 9, 3) := by decide +kernel
theorem dX12_redeem_16 : decode cX12_redeem 16 = .ok (.ldc_w 282, 3) := by decide +kernel
theorem dX12_redeem_19 : decode cX12_redeem 19 = .ok (.iload_n 2, 1) := by decide +kernel
theorem dX12_redeem_20 : decode cX12_redeem 20 = .ok (.isub, 1) := by decide +kernel
theorem dX12_redeem_21 : decode cX12_redeem 21 = .ok (.ireturn, 1) := by decide +kernel
theorem dX12_redeem_22 : decode cX12_redeem 22 = .ok (.aload_n 0, 1) := by decide +kernel
theorem dX12_redeem_23 : decode cX12_redeem 23 = .ok (.invokevirtual 283, 3) := by decide +kernel
theorem dX12_redeem_26 : decode cX12_redeem 26 = .ok (.aload_n 0, 1) := by decide +kernel
theorem dX12_redeem_27 : decode cX12_redeem 27 = .ok (.iload_n 1, 1) := by decide +kernel
theorem dX12_redeem_28 : decode cX12_redeem 28 = .ok (.aload_n 0, 1) := by decide +kernel
theorem dX12_redeem_29 : decode cX12_redeem 29 = .ok (.getfield 13, 3) := by decide +kernel
theorem dX12_redeem_32 : decode cX12_redeem 32 = .ok (.bipush 60, 2) := by decide +kernel
theorem dX12_redeem_34 : decode cX12_redeem 34 = .ok (.iload_n 1, 1) := by decide +kernel
theorem dX12_redeem_35 : decode cX12_redeem 35 = .ok (.iadd, 1) := by decide +kernel
theorem dX12_redeem_36 : decode cX12_redeem 36 = .ok (.iaload, 1) := by decide +kernel
theorem dX12_redeem_37 : decode cX12_redeem 37 = .ok (.ineg, 1) := by decide +kernel
theorem dX12_redeem_38 : decode cX12_redeem 38 = .ok (.invokevirtual 298, 3) := by decide +kernel
theorem dX12_redeem_41 : decode cX12_redeem 41 = .ok (.aload_n 0, 1) := by decide +kernel
theorem dX12_redeem_42 : decode cX12_redeem 42 = .ok (.invokevirtual 289, 3) := by decide +kernel
theorem dX12_redeem_45 : decode cX12_redeem 45 = .ok (.aload_n 0, 1) := by decide +kernel
theorem dX12_redeem_46 : decode cX12_redeem 46 = .ok (.getfield 13, 3) := by decide +kernel
theorem dX12_redeem_49 : decode cX12_redeem 49 = .ok (.bipush 17, 2) := by decide +kernel
theorem dX12_redeem_51 : decode cX12_redeem 51 = .ok (.iaload, 1) := by decide +kernel
theorem dX12_redeem_52 : decode cX12_redeem 52 = .ok (.ireturn, 1) := by decide +kernel
theorem dX12_talent_0 : decode cX12_talent 0 = .ok (.aload_n 0, 1) := by decide +kernel
theorem dX12_talent_1 : decode cX12_talent 1 = .ok (.iconst 0, 1) := by decide +kernel
theorem dX12_talent_2 : decode cX12_talent 2 = .ok (.putfield 1, 3) := by decide +kernel
theorem dX12_talent_5 : decode cX12_talent 5 = .ok (.aload_n 0, 1) := by decide +kernel
theorem dX12_talent_6 : decode cX12_talent 6 = .ok (.iload_n 1, 1) := by decide +kernel
theorem dX12_talent_7 : decode cX12_talent 7 = .ok (.i2l, 1) := by decide +kernel
theorem dX12_talent_8 : decode cX12_talent 8 = .ok (.invokevirtual 245, 3) := by decide +kernel
theorem dX12_talent_11 : decode cX12_talent 11 = .ok (.ifCond .eq 15, 3) := by decide +kernel
theorem dX12_talent_14 : decode cX12_talent 14 = .ok (.iload_n 2, 1) := by decide +kernel
theorem dX12_talent_15 : decode cX12_talent 15 = .ok (.i2l, 1) := by decide +kernel
theorem dX12_talent_16 : decode cX12_talent 16 = .ok (.lconst 0, 1) := by decide +kernel
theorem dX12_talent_17 : decode cX12_talent 17 = .ok (.ldc2_w 304, 3) := by decide +kernel
theorem dX12_talent_20 : decode cX12_talent 20 = .ok (.invokestatic 144, 3) := by decide +kernel
theorem dX12_talent_23 : decode cX12_talent 23 = .ok (.ifCond .ne 7, 3) := by decide +kernel
theorem dX12_talent_26 : decode cX12_talent 26 = .ok (.ldc_w 306, 3) := by decide +kernel
theorem dX12_talent_29 : decode cX12_talent 29 = .ok (.ireturn, 1) := by decide +kernel
theorem dX12_talent_30 : decode cX12_talent 30 = .ok (.aload_n 0, 1) := by decide +kernel
theorem dX12_talent_31 : decode cX12_talent 31 = .ok (.invokevirtual 283, 3) := by decide +kernel
theorem dX12_talent_34 : decode cX12_talent 34 = .ok (.aload_n 0, 1) := by decide +kernel
theorem dX12_talent_35 : decode cX12_talent 35 = .ok (.getfield 13, 3) := by decide +kernel
theorem dX12_talent_38 : decode cX12_talent 38 = .ok (.bipush 54, 2) := by decide +kernel
theorem dX12_talent_40 : decode cX12_talent 40 = .ok (.iload_n 1, 1) := by decide +kernel
theorem dX12_talent_41 : decode cX12_talent 41 = .ok (.iadd, 1) := by decide +kernel
theorem dX12_talent_42 : decode cX12_talent 42 = .ok (.iload_n 2, 1) := by decide +kernel
theorem dX12_talent_43 : decode cX12_talent 43 = .ok (.iastore, 1) := by decide +kernel
theorem dX12_talent_44 : decode cX12_talent 44 = .ok (.aload_n 0, 1) := by decide +kernel
theorem dX12_talent_45 : decode cX12_talent 45 = .ok (.invokevirtual 289, 3) := by decide +kernel
theorem dX12_talent_48 : decode cX12_talent 48 = .ok (.aload_n 0, 1) := by decide +kernel
theorem dX12_talent_49 : decode cX12_talent 49 = .ok (.getfield 36, 3) := by decide +kernel
theorem dX12_talent_52 : decode cX12_talent 52 = .ok (.bipush 37, 2) := by decide +kernel
theorem dX12_talent_54 : decode cX12_talent 54 = .ok (.iload_n 1, 1) := by decide +kernel
theorem dX12_talent_55 : decode cX12_talent 55 = .ok (.iadd, 1) := by decide +kernel
theorem dX12_talent_56 : decode cX12_talent 56 = .ok (.iaload, 1) := by decide +kernel
theorem dX12_talent_57 : decode cX12_talent 57 = .ok (.ireturn, 1) := by decide +kernel
theorem dX12_undo_0 : decode cX12_undo 0 = .ok (.aload_n 0, 1) := by decide +kernel
theorem dX12_undo_1 : decode cX12_undo 1 = .ok (.iconst 0, 1) := by decide +kernel
theorem dX12_undo_2 : decode cX12_undo 2 = .ok (.putfield 1, 3) := by decide +kernel
theorem dX12_undo_5 : decode cX12_undo 5 = .ok (.iload_n 1, 1) := by decide +kernel
theorem dX12_undo_6 : decode cX12_undo 6 = .ok (.i2l, 1) := by decide +kernel
theorem dX12_undo_7 : decode cX12_undo 7 = .ok (.lconst 1, 1) := by decide +kernel
theorem dX12_undo_8 : decode cX12_undo 8 = .ok (.ldc2_w 307, 3) := by decide +kernel
theorem dX12_undo_11 : decode cX12_undo 11 = .ok (.invokestatic 144, 3) := by decide +kernel
theorem dX12_undo_14 : decode cX12_undo 14 = .ok (.ifCond .eq 14, 3) := by decide +kernel
theorem dX12_undo_17 : decode cX12_undo 17 = .ok (.iload_n 1, 1) := by decide +kernel
theorem dX12_undo_18 : decode cX12_undo 18 = .ok (.aload_n 0, 1) := by decide +kernel
theorem dX12_undo_19 : decode cX12_undo 19 = .ok (.getfield 13, 3) := by decide +kernel
theorem dX12_undo_22 : decode cX12_undo 22 = .ok (.bipush 66, 2) := by decide +kernel
theorem dX12_undo_24 : decode cX12_undo 24 = .ok (.iaload, 1) := by decide +kernel
theorem dX12_undo_25 : decode cX12_undo 25 = .ok (.if_icmp .le 6, 3) := by decide +kernel
theorem dX12_undo_28 : decode cX12_undo 28 = .ok (.ldc 201, 2) := by decide +kernel
theorem dX12_undo_30 : decode cX12_undo 30 = .ok (.ireturn, 1) := by decide +kernel
theorem dX12_undo_31 : decode cX12_undo 31 = .ok (.aload_n 0, 1) := by decide +kernel
theorem dX12_undo_32 : decode cX12_undo 32 = .ok (.getfield 13, 3) := by decide +kernel
theorem dX12_undo_35 : decode cX12_undo 35 = .ok (.bipush 66, 2) := by decide +kernel
theorem dX12_undo_37 : decode cX12_undo 37 = .ok (.dup2, 1) := by decide +kernel
theorem dX12_undo_38 : decode cX12_undo 38 = .ok (.iaload, 1) := by decide +kernel
theorem dX12_undo_39 : decode cX12_undo 39 = .ok (.iload_n 1, 1) := by decide +kernel
theorem dX12_undo_40 : decode cX12_undo 40 = .ok (.isub, 1) := by decide +kernel
theorem dX12_undo_41 : decode cX12_undo 41 = .ok (.iastore, 1) := by decide +kernel
theorem dX12_undo_42 : decode cX12_undo 42 = .ok (.iconst 0, 1) := by decide +kernel
theorem dX12_undo_43 : decode cX12_undo 43 = .ok (.istore_n 2, 1) := by decide +kernel
theorem dX12_undo_44 : decode cX12_undo 44 = .ok (.iload_n 2, 1) := by decide +kernel
theorem dX12_undo_45 : decode cX12_undo 45 = .ok (.bipush 49, 2) := by decide +kernel
theorem dX12_undo_47 : decode cX12_undo 47 = .ok (.if_icmp .ge 38, 3) := by decide +kernel
theorem dX12_undo_50 : decode cX12_undo 50 = .ok (.aload_n 0, 1) := by decide +kernel
theorem dX12_undo_51 : decode cX12_undo 51 = .ok (.getfield 13, 3) := by decide +kernel
theorem dX12_undo_54 : decode cX12_undo 54 = .ok (.bipush 17, 2) := by decide +kernel
theorem dX12_undo_56 : decode cX12_undo 56 = .ok (.iload_n 2, 1) := by decide +kernel
theorem dX12_undo_57 : decode cX12_undo 57 = .ok (.iadd, 1) := by decide +kernel
theorem dX12_undo_58 : decode cX12_undo 58 = .ok (.aload_n 0, 1) := by decide +kernel
theorem dX12_undo_59 : decode cX12_undo 59 = .ok (.getfield 13, 3) := by decide +kernel
theorem dX12_undo_62 : decode cX12_undo 62 = .ok (.bipush 67, 2) := by decide +kernel
theorem dX12_undo_64 : decode cX12_undo 64 = .ok (.bipush 49, 2) := by decide +kernel
theorem dX12_undo_66 : decode cX12_undo 66 = .ok (.aload_n 0, 1) := by decide +kernel
theorem dX12_undo_67 : decode cX12_undo 67 = .ok (.getfield 13, 3) := by decide +kernel
theorem dX12_undo_70 : decode cX12_undo 70 = .ok (.bipush 66, 2) := by decide +kernel
theorem dX12_undo_72 : decode cX12_undo 72 = .ok (.iaload, 1) := by decide +kernel
theorem dX12_undo_73 : decode cX12_undo 73 = .ok (.imul, 1) := by decide +kernel
theorem dX12_undo_74 : decode cX12_undo 74 = .ok (.iadd, 1) := by decide +kernel
theorem dX12_undo_75 : decode cX12_undo 75 = .ok (.iload_n 2, 1) := by decide +kernel
theorem dX12_undo_76 : decode cX12_undo 76 = .ok (.iadd, 1) := by decide +kernel
theorem dX12_undo_77 : decode cX12_undo 77 = .ok (.iaload, 1) := by decide +kernel
theorem dX12_undo_78 : decode cX12_undo 78 = .ok (.iastore, 1) := by decide +kernel
theorem dX12_undo_79 : decode cX12_undo 79 = .ok (.iinc 2 1, 3) := by decide +kernel
theorem dX12_undo_82 : decode cX12_undo 82 = .ok (.goto (-38), 3) := by decide +kernel
theorem dX12_undo_85 : decode cX12_undo 85 = .ok (.aload_n 0, 1) := by decide +kernel
theorem dX12_undo_86 : decode cX12_undo 86 = .ok (.getfield 13, 3) := by decide +kernel
theorem dX12_undo_89 : decode cX12_undo 89 = .ok (.bipush 66, 2) := by decide +kernel
theorem dX12_undo_91 : decode cX12_undo 91 = .ok (.iaload, 1) := by decide +kernel
theorem dX12_undo_92 : decode cX12_undo 92 = .ok (.ireturn, 1) := by decide +kernel
theorem dX12_whyNot_0 : decode cX12_whyNot 0 = .ok (.lload_n 1, 1) := by decide +kernel
theorem dX12_whyNot_1 : decode cX12_whyNot 1 = .ok (.lconst 0, 1) := by decide +kernel
theorem dX12_whyNot_2 : decode cX12_whyNot 2 = .ok (.ldc2_w 262, 3) := by decide +kernel
theorem dX12_whyNot_5 : decode cX12_whyNot 5 = .ok (.invokestatic 144, 3) := by decide +kernel
theorem dX12_whyNot_8 : decode cX12_whyNot 8 = .ok (.ifCond .eq 18, 3) := by decide +kernel
theorem dX12_whyNot_11 : decode cX12_whyNot 11 = .ok (.aload_n 0, 1) := by decide +kernel
theorem dX12_whyNot_12 : decode cX12_whyNot 12 = .ok (.lload_n 1, 1) := by decide +kernel
theorem dX12_whyNot_13 : decode cX12_whyNot 13 = .ok (.ldc2_w 307, 3) := by decide +kernel
theorem dX12_whyNot_16 : decode cX12_whyNot 16 = .ok (.ldiv, 1) := by decide +kernel
theorem dX12_whyNot_17 : decode cX12_whyNot 17 = .ok (.lload_n 1, 1) := by decide +kernel
theorem dX12_whyNot_18 : decode cX12_whyNot 18 = .ok (.ldc2_w 307, 3) := by decide +kernel
theorem dX12_whyNot_21 : decode cX12_whyNot 21 = .ok (.lrem, 1) := by decide +kernel
theorem dX12_whyNot_22 : decode cX12_whyNot 22 = .ok (.invokevirtual 278, 3) := by decide +kernel
theorem dX12_whyNot_25 : decode cX12_whyNot 25 = .ok (.ireturn, 1) := by decide +kernel
theorem dX12_whyNot_26 : decode cX12_whyNot 26 = .ok (.lload_n 1, 1) := by decide +kernel
theorem dX12_whyNot_27 : decode cX12_whyNot 27 = .ok (.ldc2_w 309, 3) := by decide +kernel
theorem dX12_whyNot_30 : decode cX12_whyNot 30 = .ok (.ldc2_w 311, 3) := by decide +kernel
theorem dX12_whyNot_33 : decode cX12_whyNot 33 = .ok (.invokestatic 144, 3) := by decide +kernel
theorem dX12_whyNot_36 : decode cX12_whyNot 36 = .ok (.ifCond .eq 13, 3) := by decide +kernel
theorem dX12_whyNot_39 : decode cX12_whyNot 39 = .ok (.aload_n 0, 1) := by decide +kernel
theorem dX12_whyNot_40 : decode cX12_whyNot 40 = .ok (.lload_n 1, 1) := by decide +kernel
theorem dX12_whyNot_41 : decode cX12_whyNot 41 = .ok (.ldc2_w 309, 3) := by decide +kernel
theorem dX12_whyNot_44 : decode cX12_whyNot 44 = .ok (.lsub, 1) := by decide +kernel
theorem dX12_whyNot_45 : decode cX12_whyNot 45 = .ok (.invokevirtual 264, 3) := by decide +kernel
theorem dX12_whyNot_48 : decode cX12_whyNot 48 = .ok (.ireturn, 1) := by decide +kernel
theorem dX12_whyNot_49 : decode cX12_whyNot 49 = .ok (.lload_n 1, 1) := by decide +kernel
theorem dX12_whyNot_50 : decode cX12_whyNot 50 = .ok (.ldc2_w 313, 3) := by decide +kernel
theorem dX12_whyNot_53 : decode cX12_whyNot 53 = .ok (.ldc2_w 315, 3) := by decide +kernel
theorem dX12_whyNot_56 : decode cX12_whyNot 56 = .ok (.invokestatic 144, 3) := by decide +kernel
theorem dX12_whyNot_59 : decode cX12_whyNot 59 = .ok (.ifCond .eq 13, 3) := by decide +kernel
theorem dX12_whyNot_62 : decode cX12_whyNot 62 = .ok (.aload_n 0, 1) := by decide +kernel
theorem dX12_whyNot_63 : decode cX12_whyNot 63 = .ok (.lload_n 1, 1) := by decide +kernel
theorem dX12_whyNot_64 : decode cX12_whyNot 64 = .ok (.ldc2_w 313, 3) := by decide +kernel
theorem dX12_whyNot_67 : decode cX12_whyNot 67 = .ok (.lsub, 1) := by decide +kernel
theorem dX12_whyNot_68 : decode cX12_whyNot 68 = .ok (.invokevirtual 301, 3) := by decide +kernel
theorem dX12_whyNot_71 : decode cX12_whyNot 71 = .ok (.ireturn, 1) := by decide +kernel
theorem dX12_whyNot_72 : decode cX12_whyNot 72 = .ok (.lload_n 1, 1) := by decide +kernel
theorem dX12_whyNot_73 : decode cX12_whyNot 73 = .ok (.ldc2_w 317, 3) := by decide +kernel
theorem dX12_whyNot_76 : decode cX12_whyNot 76 = .ok (.ldc2_w 319, 3) := by decide +kernel
theorem dX12_whyNot_79 : decode cX12_whyNot 79 = .ok (.invokestatic 144, 3) := by decide +kernel
theorem dX12_whyNot_82 : decode cX12_whyNot 82 = .ok (.ifCond .eq 24, 3) := by decide +kernel
theorem dX12_whyNot_85 : decode cX12_whyNot 85 = .ok (.aload_n 0, 1) := by decide +kernel
theorem dX12_whyNot_86 : decode cX12_whyNot 86 = .ok (.lload_n 1, 1) := by decide +kernel
theorem dX12_whyNot_87 : decode cX12_whyNot 87 = .ok (.ldc2_w 317, 3) := by decide +kernel
theorem dX12_whyNot_90 : decode cX12_whyNot 90 = .ok (.lsub, 1) := by decide +kernel
theorem dX12_whyNot_91 : decode cX12_whyNot 91 = .ok (.ldc2_w 309, 3) := by decide +kernel
theorem dX12_whyNot_94 : decode cX12_whyNot 94 = .ok (.ldiv, 1) := by decide +kernel
theorem dX12_whyNot_95 : decode cX12_whyNot 95 = .ok (.lload_n 1, 1) := by decide +kernel
theorem dX12_whyNot_96 : decode cX12_whyNot 96 = .ok (.ldc2_w 309, 3) := by decide +kernel
theorem dX12_whyNot_99 : decode cX12_whyNot 99 = .ok (.lrem, 1) := by decide +kernel
theorem dX12_whyNot_100 : decode cX12_whyNot 100 = .ok (.invokevirtual 295, 3) := by decide +kernel
theorem dX12_whyNot_103 : decode cX12_whyNot 103 = .ok (.goto 4, 3) := by decide +kernel
theorem dX12_whyNot_106 : decode cX12_whyNot 106 = .ok (.iconst 1, 1) := by decide +kernel
theorem dX12_whyNot_107 : decode cX12_whyNot 107 = .ok (.ireturn, 1) := by decide +kernel
theorem dX12_does_0 : decode cX12_does 0 = .ok (.iload_n 1, 1) := by decide +kernel
theorem dX12_does_1 : decode cX12_does 1 = .ok (.bipush 100, 2) := by decide +kernel
theorem dX12_does_3 : decode cX12_does 3 = .ok (.if_icmp .ge 19, 3) := by decide +kernel
theorem dX12_does_6 : decode cX12_does 6 = .ok (.aload_n 0, 1) := by decide +kernel
theorem dX12_does_7 : decode cX12_does 7 = .ok (.iload_n 1, 1) := by decide +kernel
theorem dX12_does_8 : decode cX12_does 8 = .ok (.bipush 10, 2) := by decide +kernel
theorem dX12_does_10 : decode cX12_does 10 = .ok (.idiv, 1) := by decide +kernel
theorem dX12_does_11 : decode cX12_does 11 = .ok (.iload_n 1, 1) := by decide +kernel
theorem dX12_does_12 : decode cX12_does 12 = .ok (.bipush 10, 2) := by decide +kernel
theorem dX12_does_14 : decode cX12_does 14 = .ok (.irem, 1) := by decide +kernel
theorem dX12_does_15 : decode cX12_does 15 = .ok (.invokevirtual 286, 3) := by decide +kernel
theorem dX12_does_18 : decode cX12_does 18 = .ok (.pop, 1) := by decide +kernel
theorem dX12_does_19 : decode cX12_does 19 = .ok (.goto 66, 3) := by decide +kernel
theorem dX12_does_22 : decode cX12_does 22 = .ok (.iload_n 1, 1) := by decide +kernel
theorem dX12_does_23 : decode cX12_does 23 = .ok (.bipush 110, 2) := by decide +kernel
theorem dX12_does_25 : decode cX12_does 25 = .ok (.if_icmp .ge 14, 3) := by decide +kernel
theorem dX12_does_28 : decode cX12_does 28 = .ok (.aload_n 0, 1) := by decide +kernel
theorem dX12_does_29 : decode cX12_does 29 = .ok (.iload_n 1, 1) := by decide +kernel
theorem dX12_does_30 : decode cX12_does 30 = .ok (.bipush 100, 2) := by decide +kernel
theorem dX12_does_32 : decode cX12_does 32 = .ok (.isub, 1) := by decide +kernel
theorem dX12_does_33 : decode cX12_does 33 = .ok (.invokevirtual 292, 3) := by decide +kernel
theorem dX12_does_36 : decode cX12_does 36 = .ok (.goto 49, 3) := by decide +kernel
theorem dX12_does_39 : decode cX12_does 39 = .ok (.iload_n 1, 1) := by decide +kernel
theorem dX12_does_40 : decode cX12_does 40 = .ok (.bipush 120, 2) := by decide +kernel
theorem dX12_does_42 : decode cX12_does 42 = .ok (.if_icmp .ge 27, 3) := by decide +kernel
theorem dX12_does_45 : decode cX12_does 45 = .ok (.aload_n 0, 1) := by decide +kernel
theorem dX12_does_46 : decode cX12_does 46 = .ok (.iload_n 1, 1) := by decide +kernel
theorem dX12_does_47 : decode cX12_does 47 = .ok (.bipush 110, 2) := by decide +kernel
theorem dX12_does_49 : decode cX12_does 49 = .ok (.isub, 1) := by decide +kernel
theorem dX12_does_50 : decode cX12_does 50 = .ok (.aload_n 0, 1) := by decide +kernel
theorem dX12_does_51 : decode cX12_does 51 = .ok (.getfield 13, 3) := by decide +kernel
theorem dX12_does_54 : decode cX12_does 54 = .ok (.bipush 60, 2) := by decide +kernel
theorem dX12_does_56 : decode cX12_does 56 = .ok (.iload_n 1, 1) := by decide +kernel
theorem dX12_does_57 : decode cX12_does 57 = .ok (.iadd, 1) := by decide +kernel
theorem dX12_does_58 : decode cX12_does 58 = .ok (.bipush 110, 2) := by decide +kernel
theorem dX12_does_60 : decode cX12_does 60 = .ok (.isub, 1) := by decide +kernel
theorem dX12_does_61 : decode cX12_does 61 = .ok (.iaload, 1) := by decide +kernel
theorem dX12_does_62 : decode cX12_does 62 = .ok (.ineg, 1) := by decide +kernel
theorem dX12_does_63 : decode cX12_does 63 = .ok (.invokevirtual 298, 3) := by decide +kernel
theorem dX12_does_66 : decode cX12_does 66 = .ok (.goto 19, 3) := by decide +kernel
theorem dX12_does_69 : decode cX12_does 69 = .ok (.aload_n 0, 1) := by decide +kernel
theorem dX12_does_70 : decode cX12_does 70 = .ok (.iload_n 1, 1) := by decide +kernel
theorem dX12_does_71 : decode cX12_does 71 = .ok (.sipush 1000, 3) := by decide +kernel
theorem dX12_does_74 : decode cX12_does 74 = .ok (.isub, 1) := by decide +kernel
theorem dX12_does_75 : decode cX12_does 75 = .ok (.bipush 100, 2) := by decide +kernel
theorem dX12_does_77 : decode cX12_does 77 = .ok (.idiv, 1) := by decide +kernel
theorem dX12_does_78 : decode cX12_does 78 = .ok (.iload_n 1, 1) := by decide +kernel
theorem dX12_does_79 : decode cX12_does 79 = .ok (.bipush 100, 2) := by decide +kernel
theorem dX12_does_81 : decode cX12_does 81 = .ok (.irem, 1) := by decide +kernel
theorem dX12_does_82 : decode cX12_does 82 = .ok (.invokevirtual 298, 3) := by decide +kernel
theorem dX12_does_85 : decode cX12_does 85 = .ok (.return_, 1) := by decide +kernel
theorem dX12_tells_0 : decode cX12_tells 0 = .ok (.aload_n 0, 1) := by decide +kernel
theorem dX12_tells_1 : decode cX12_tells 1 = .ok (.iconst 0, 1) := by decide +kernel
theorem dX12_tells_2 : decode cX12_tells 2 = .ok (.putfield 321, 3) := by decide +kernel
theorem dX12_tells_5 : decode cX12_tells 5 = .ok (.iconst 0, 1) := by decide +kernel
theorem dX12_tells_6 : decode cX12_tells 6 = .ok (.istore_n 2, 1) := by decide +kernel
theorem dX12_tells_7 : decode cX12_tells 7 = .ok (.iload_n 2, 1) := by decide +kernel
theorem dX12_tells_8 : decode cX12_tells 8 = .ok (.aload_n 0, 1) := by decide +kernel
theorem dX12_tells_9 : decode cX12_tells 9 = .ok (.getfield 71, 3) := by decide +kernel
theorem dX12_tells_12 : decode cX12_tells 12 = .ok (.iload_n 1, 1) := by decide +kernel
theorem dX12_tells_13 : decode cX12_tells 13 = .ok (.iaload, 1) := by decide +kernel
theorem dX12_tells_14 : decode cX12_tells 14 = .ok (.if_icmp .ge 53, 3) := by decide +kernel
theorem dX12_tells_17 : decode cX12_tells 17 = .ok (.aload_n 0, 1) := by decide +kernel
theorem dX12_tells_18 : decode cX12_tells 18 = .ok (.aload_n 0, 1) := by decide +kernel
theorem dX12_tells_19 : decode cX12_tells 19 = .ok (.aload_n 0, 1) := by decide +kernel
theorem dX12_tells_20 : decode cX12_tells 20 = .ok (.getfield 74, 3) := by decide +kernel
theorem dX12_tells_23 : decode cX12_tells 23 = .ok (.bipush 40, 2) := by decide +kernel
theorem dX12_tells_25 : decode cX12_tells 25 = .ok (.iload_n 1, 1) := by decide +kernel
theorem dX12_tells_26 : decode cX12_tells 26 = .ok (.imul, 1) := by decide +kernel
theorem dX12_tells_27 : decode cX12_tells 27 = .ok (.iload_n 2, 1) := by decide +kernel
theorem dX12_tells_28 : decode cX12_tells 28 = .ok (.iadd, 1) := by decide +kernel
theorem dX12_tells_29 : decode cX12_tells 29 = .ok (.laload, 1) := by decide +kernel
theorem dX12_tells_30 : decode cX12_tells 30 = .ok (.invokevirtual 324, 3) := by decide +kernel
theorem dX12_tells_33 : decode cX12_tells 33 = .ok (.putfield 321, 3) := by decide +kernel
theorem dX12_tells_36 : decode cX12_tells 36 = .ok (.aload_n 0, 1) := by decide +kernel
theorem dX12_tells_37 : decode cX12_tells 37 = .ok (.getfield 321, 3) := by decide +kernel
theorem dX12_tells_40 : decode cX12_tells 40 = .ok (.ifCond .eq 5, 3) := by decide +kernel
theorem dX12_tells_43 : decode cX12_tells 43 = .ok (.iload_n 2, 1) := by decide +kernel
theorem dX12_tells_44 : decode cX12_tells 44 = .ok (.ireturn, 1) := by decide +kernel
theorem dX12_tells_45 : decode cX12_tells 45 = .ok (.aload_n 0, 1) := by decide +kernel
theorem dX12_tells_46 : decode cX12_tells 46 = .ok (.aload_n 0, 1) := by decide +kernel
theorem dX12_tells_47 : decode cX12_tells 47 = .ok (.getfield 74, 3) := by decide +kernel
theorem dX12_tells_50 : decode cX12_tells 50 = .ok (.bipush 40, 2) := by decide +kernel
theorem dX12_tells_52 : decode cX12_tells 52 = .ok (.iload_n 1, 1) := by decide +kernel
theorem dX12_tells_53 : decode cX12_tells 53 = .ok (.imul, 1) := by decide +kernel
theorem dX12_tells_54 : decode cX12_tells 54 = .ok (.iload_n 2, 1) := by decide +kernel
theorem dX12_tells_55 : decode cX12_tells 55 = .ok (.iadd, 1) := by decide +kernel
theorem dX12_tells_56 : decode cX12_tells 56 = .ok (.laload, 1) := by decide +kernel
theorem dX12_tells_57 : decode cX12_tells 57 = .ok (.l2i, 1) := by decide +kernel
theorem dX12_tells_58 : decode cX12_tells 58 = .ok (.invokevirtual 327, 3) := by decide +kernel
theorem dX12_tells_61 : decode cX12_tells 61 = .ok (.iinc 2 1, 3) := by decide +kernel
theorem dX12_tells_64 : decode cX12_tells 64 = .ok (.goto (-57), 3) := by decide +kernel
theorem dX12_tells_67 : decode cX12_tells 67 = .ok (.aload_n 0, 1) := by decide +kernel
theorem dX12_tells_68 : decode cX12_tells 68 = .ok (.getfield 71, 3) := by decide +kernel
theorem dX12_tells_71 : decode cX12_tells 71 = .ok (.iload_n 1, 1) := by decide +kernel
theorem dX12_tells_72 : decode cX12_tells 72 = .ok (.iaload, 1) := by decide +kernel
theorem dX12_tells_73 : decode cX12_tells 73 = .ok (.ireturn, 1) := by decide +kernel
theorem dX12_noTray_0 : decode cX12_noTray 0 = .ok (.iload_n 1, 1) := by decide +kernel
theorem dX12_noTray_1 : decode cX12_noTray 1 = .ok (.i2l, 1) := by decide +kernel
theorem dX12_noTray_2 : decode cX12_noTray 2 = .ok (.lconst 0, 1) := by decide +kernel
theorem dX12_noTray_3 : decode cX12_noTray 3 = .ok (.ldc2_w 330, 3) := by decide +kernel
theorem dX12_noTray_6 : decode cX12_noTray 6 = .ok (.invokestatic 144, 3) := by decide +kernel
theorem dX12_noTray_9 : decode cX12_noTray 9 = .ok (.ifCond .ne 8, 3) := by decide +kernel
theorem dX12_noTray_12 : decode cX12_noTray 12 = .ok (.ldc 249, 2) := by decide +kernel
theorem dX12_noTray_14 : decode cX12_noTray 14 = .ok (.goto 20, 3) := by decide +kernel
theorem dX12_noTray_17 : decode cX12_noTray 17 = .ok (.aload_n 0, 1) := by decide +kernel
theorem dX12_noTray_18 : decode cX12_noTray 18 = .ok (.getfield 68, 3) := by decide +kernel
theorem dX12_noTray_21 : decode cX12_noTray 21 = .ok (.iload_n 1, 1) := by decide +kernel
theorem dX12_noTray_22 : decode cX12_noTray 22 = .ok (.iaload, 1) := by decide +kernel
theorem dX12_noTray_23 : decode cX12_noTray 23 = .ok (.iconst (-1), 1) := by decide +kernel
theorem dX12_noTray_24 : decode cX12_noTray 24 = .ok (.if_icmp .ne 9, 3) := by decide +kernel
theorem dX12_noTray_27 : decode cX12_noTray 27 = .ok (.ldc_w 332, 3) := by decide +kernel
theorem dX12_noTray_30 : decode cX12_noTray 30 = .ok (.goto 4, 3) := by decide +kernel
theorem dX12_noTray_33 : decode cX12_noTray 33 = .ok (.iconst 0, 1) := by decide +kernel
theorem dX12_noTray_34 : decode cX12_noTray 34 = .ok (.ireturn, 1) := by decide +kernel
theorem dX12_hasAll_0 : decode cX12_hasAll 0 = .ok (.iconst 0, 1) := by decide +kernel
theorem dX12_hasAll_1 : decode cX12_hasAll 1 = .ok (.istore_n 1, 1) := by decide +kernel
theorem dX12_hasAll_2 : decode cX12_hasAll 2 = .ok (.iconst 0, 1) := by decide +kernel
theorem dX12_hasAll_3 : decode cX12_hasAll 3 = .ok (.istore_n 2, 1) := by decide +kernel
theorem dX12_hasAll_4 : decode cX12_hasAll 4 = .ok (.iload_n 2, 1) := by decide +kernel
theorem dX12_hasAll_5 : decode cX12_hasAll 5 = .ok (.aload_n 0, 1) := by decide +kernel
theorem dX12_hasAll_6 : decode cX12_hasAll 6 = .ok (.getfield 13, 3) := by decide +kernel
theorem dX12_hasAll_9 : decode cX12_hasAll 9 = .ok (.iconst 3, 1) := by decide +kernel
theorem dX12_hasAll_10 : decode cX12_hasAll 10 = .ok (.iaload, 1) := by decide +kernel
theorem dX12_hasAll_11 : decode cX12_hasAll 11 = .ok (.if_icmp .ge 21, 3) := by decide +kernel
theorem dX12_hasAll_14 : decode cX12_hasAll 14 = .ok (.iload_n 1, 1) := by decide +kernel
theorem dX12_hasAll_15 : decode cX12_hasAll 15 = .ok (.aload_n 0, 1) := by decide +kernel
theorem dX12_hasAll_16 : decode cX12_hasAll 16 = .ok (.getfield 13, 3) := by decide +kernel
theorem dX12_hasAll_19 : decode cX12_hasAll 19 = .ok (.bipush 30, 2) := by decide +kernel
theorem dX12_hasAll_21 : decode cX12_hasAll 21 = .ok (.iload_n 2, 1) := by decide +kernel
theorem dX12_hasAll_22 : decode cX12_hasAll 22 = .ok (.iadd, 1) := by decide +kernel
theorem dX12_hasAll_23 : decode cX12_hasAll 23 = .ok (.iaload, 1) := by decide +kernel
theorem dX12_hasAll_24 : decode cX12_hasAll 24 = .ok (.iadd, 1) := by decide +kernel
theorem dX12_hasAll_25 : decode cX12_hasAll 25 = .ok (.istore_n 1, 1) := by decide +kernel
theorem dX12_hasAll_26 : decode cX12_hasAll 26 = .ok (.iinc 2 1, 3) := by decide +kernel
theorem dX12_hasAll_29 : decode cX12_hasAll 29 = .ok (.goto (-25), 3) := by decide +kernel
theorem dX12_hasAll_32 : decode cX12_hasAll 32 = .ok (.iload_n 1, 1) := by decide +kernel
theorem dX12_hasAll_33 : decode cX12_hasAll 33 = .ok (.ireturn, 1) := by decide +kernel
theorem dX12_inSecond_0 : decode cX12_inSecond 0 = .ok (.iconst 0, 1) := by decide +kernel
theorem dX12_inSecond_1 : decode cX12_inSecond 1 = .ok (.istore_n 1, 1) := by decide +kernel
theorem dX12_inSecond_2 : decode cX12_inSecond 2 = .ok (.iconst 0, 1) := by decide +kernel
theorem dX12_inSecond_3 : decode cX12_inSecond 3 = .ok (.istore_n 2, 1) := by decide +kernel
theorem dX12_inSecond_4 : decode cX12_inSecond 4 = .ok (.iload_n 2, 1) := by decide +kernel
theorem dX12_inSecond_5 : decode cX12_inSecond 5 = .ok (.aload_n 0, 1) := by decide +kernel
theorem dX12_inSecond_6 : decode cX12_inSecond 6 = .ok (.getfield 13, 3) := by decide +kernel
theorem dX12_inSecond_9 : decode cX12_inSecond 9 = .ok (.iconst 3, 1) := by decide +kernel
theorem dX12_inSecond_10 : decode cX12_inSecond 10 = .ok (.iaload, 1) := by decide +kernel
theorem dX12_inSecond_11 : decode cX12_inSecond 11 = .ok (.if_icmp .ge 32, 3) := by decide +kernel
theorem dX12_inSecond_14 : decode cX12_inSecond 14 = .ok (.iload_n 1, 1) := by decide +kernel
theorem dX12_inSecond_15 : decode cX12_inSecond 15 = .ok (.aload_n 0, 1) := by decide +kernel
theorem dX12_inSecond_16 : decode cX12_inSecond 16 = .ok (.getfield 13, 3) := by decide +kernel
theorem dX12_inSecond_19 : decode cX12_inSecond 19 = .ok (.bipush 24, 2) := by decide +kernel
theorem dX12_inSecond_21 : decode cX12_inSecond 21 = .ok (.iload_n 2, 1) := by decide +kernel
theorem dX12_inSecond_22 : decode cX12_inSecond 22 = .ok (.iadd, 1) := by decide +kernel
theorem dX12_inSecond_23 : decode cX12_inSecond 23 = .ok (.iaload, 1) := by decide +kernel
theorem dX12_inSecond_24 : decode cX12_inSecond 24 = .ok (.iconst 2, 1) := by decide +kernel
theorem dX12_inSecond_25 : decode cX12_inSecond 25 = .ok (.if_icmp .ne 9, 3) := by decide +kernel
theorem dX12_inSecond_28 : decode cX12_inSecond 28 = .ok (.iconst 1, 1) := by decide +kernel
theorem dX12_inSecond_29 : decode cX12_inSecond 29 = .ok (.iload_n 2, 1) := by decide +kernel
theorem dX12_inSecond_30 : decode cX12_inSecond 30 = .ok (.ishl, 1) := by decide +kernel
theorem dX12_inSecond_31 : decode cX12_inSecond 31 = .ok (.goto 4, 3) := by decide +kernel
theorem dX12_inSecond_34 : decode cX12_inSecond 34 = .ok (.iconst 0, 1) := by decide +kernel
theorem dX12_inSecond_35 : decode cX12_inSecond 35 = .ok (.ior, 1) := by decide +kernel
theorem dX12_inSecond_36 : decode cX12_inSecond 36 = .ok (.istore_n 1, 1) := by decide +kernel
theorem dX12_inSecond_37 : decode cX12_inSecond 37 = .ok (.iinc 2 1, 3) := by decide +kernel
theorem dX12_inSecond_40 : decode cX12_inSecond 40 = .ok (.goto (-36), 3) := by decide +kernel
theorem dX12_inSecond_43 : decode cX12_inSecond 43 = .ok (.iload_n 1, 1) := by decide +kernel
theorem dX12_inSecond_44 : decode cX12_inSecond 44 = .ok (.ireturn, 1) := by decide +kernel
theorem dX12_judge_0 : decode cX12_judge 0 = .ok (.aload_n 0, 1) := by decide +kernel
theorem dX12_judge_1 : decode cX12_judge 1 = .ok (.iconst 0, 1) := by decide +kernel
theorem dX12_judge_2 : decode cX12_judge 2 = .ok (.putfield 1, 3) := by decide +kernel
theorem dX12_judge_5 : decode cX12_judge 5 = .ok (.iload_n 2, 1) := by decide +kernel
theorem dX12_judge_6 : decode cX12_judge 6 = .ok (.i2l, 1) := by decide +kernel
theorem dX12_judge_7 : decode cX12_judge 7 = .ok (.lconst 0, 1) := by decide +kernel
theorem dX12_judge_8 : decode cX12_judge 8 = .ok (.ldc2_w 330, 3) := by decide +kernel
theorem dX12_judge_11 : decode cX12_judge 11 = .ok (.invokestatic 144, 3) := by decide +kernel
theorem dX12_judge_14 : decode cX12_judge 14 = .ok (.ifCond .ne 6, 3) := by decide +kernel
theorem dX12_judge_17 : decode cX12_judge 17 = .ok (.ldc 249, 2) := by decide +kernel
theorem dX12_judge_19 : decode cX12_judge 19 = .ok (.ireturn, 1) := by decide +kernel
theorem dX12_judge_20 : decode cX12_judge 20 = .ok (.aload_n 0, 1) := by decide +kernel
theorem dX12_judge_21 : decode cX12_judge 21 = .ok (.iload_n 1, 1) := by decide +kernel
theorem dX12_judge_22 : decode cX12_judge 22 = .ok (.invokevirtual 333, 3) := by decide +kernel
theorem dX12_judge_25 : decode cX12_judge 25 = .ok (.istore_n 3, 1) := by decide +kernel
theorem dX12_judge_26 : decode cX12_judge 26 = .ok (.iload_n 3, 1) := by decide +kernel
theorem dX12_judge_27 : decode cX12_judge 27 = .ok (.ifCond .eq 5, 3) := by decide +kernel
theorem dX12_judge_30 : decode cX12_judge 30 = .ok (.iload_n 3, 1) := by decide +kernel
theorem dX12_judge_31 : decode cX12_judge 31 = .ok (.ireturn, 1) := by decide +kernel
theorem dX12_judge_32 : decode cX12_judge 32 = .ok (.aload_n 0, 1) := by decide +kernel
theorem dX12_judge_33 : decode cX12_judge 33 = .ok (.invokevirtual 283, 3) := by decide +kernel
theorem dX12_judge_36 : decode cX12_judge 36 = .ok (.aload_n 0, 1) := by decide +kernel
theorem dX12_judge_37 : decode cX12_judge 37 = .ok (.iload_n 1, 1) := by decide +kernel
theorem dX12_judge_38 : decode cX12_judge 38 = .ok (.invokevirtual 336, 3) := by decide +kernel
theorem dX12_judge_41 : decode cX12_judge 41 = .ok (.istore 4, 2) := by decide +kernel
theorem dX12_judge_43 : decode cX12_judge 43 = .ok (.aload_n 0, 1) := by decide +kernel
theorem dX12_judge_44 : decode cX12_judge 44 = .ok (.invokevirtual 339, 3) := by decide +kernel
theorem dX12_judge_47 : decode cX12_judge 47 = .ok (.istore 5, 2) := by decide +kernel
theorem dX12_judge_49 : decode cX12_judge 49 = .ok (.aload_n 0, 1) := by decide +kernel
theorem dX12_judge_50 : decode cX12_judge 50 = .ok (.invokevirtual 342, 3) := by decide +kernel
theorem dX12_judge_53 : decode cX12_judge 53 = .ok (.istore 6, 2) := by decide +kernel
theorem dX12_judge_55 : decode cX12_judge 55 = .ok (.aload_n 0, 1) := by decide +kernel
theorem dX12_judge_56 : decode cX12_judge 56 = .ok (.invokevirtual 345, 3) := by decide +kernel
theorem dX12_judge_59 : decode cX12_judge 59 = .ok (.iload_n 2, 1) := by decide +kernel
theorem dX12_judge_60 : decode cX12_judge 60 = .ok (.ifCond .ne 19, 3) := by decide +kernel
theorem dX12_judge_63 : decode cX12_judge 63 = .ok (.aload_n 0, 1) := by decide +kernel
theorem dX12_judge_64 : decode cX12_judge 64 = .ok (.getfield 321, 3) := by decide +kernel
theorem dX12_judge_67 : decode cX12_judge 67 = .ok (.ifCond .ne 7, 3) := by decide +kernel
theorem dX12_judge_70 : decode cX12_judge 70 = .ok (.iconst (-1), 1) := by decide +kernel
theorem dX12_judge_71 : decode cX12_judge 71 = .ok (.goto 32, 3) := by decide +kernel
theorem dX12_judge_74 : decode cX12_judge 74 = .ok (.iload 4, 2) := by decide +kernel
theorem dX12_judge_76 : decode cX12_judge 76 = .ok (.goto 27, 3) := by decide +kernel
theorem dX12_judge_79 : decode cX12_judge 79 = .ok (.iload_n 2, 1) := by decide +kernel
theorem dX12_judge_80 : decode cX12_judge 80 = .ok (.iconst 1, 1) := by decide +kernel
theorem dX12_judge_81 : decode cX12_judge 81 = .ok (.if_icmp .ne 10, 3) := by decide +kernel
theorem dX12_judge_84 : decode cX12_judge 84 = .ok (.aload_n 0, 1) := by decide +kernel
theorem dX12_judge_85 : decode cX12_judge 85 = .ok (.getfield 321, 3) := by decide +kernel
theorem dX12_judge_88 : decode cX12_judge 88 = .ok (.goto 15, 3) := by decide +kernel
theorem dX12_judge_91 : decode cX12_judge 91 = .ok (.iload_n 2, 1) := by decide +kernel
theorem dX12_judge_92 : decode cX12_judge 92 = .ok (.iconst 2, 1) := by decide +kernel
theorem dX12_judge_93 : decode cX12_judge 93 = .ok (.if_icmp .ne 8, 3) := by decide +kernel
theorem dX12_judge_96 : decode cX12_judge 96 = .ok (.iload 5, 2) := by decide +kernel
theorem dX12_judge_98 : decode cX12_judge 98 = .ok (.goto 5, 3) := by decide +kernel
theorem dX12_judge_101 : decode cX12_judge 101 = .ok (.iload 6, 2) := by decide +kernel
theorem dX12_judge_103 : decode cX12_judge 103 = .ok (.ireturn, 1) := by decide +kernel
theorem dX12_perform_0 : decode cX12_perform 0 = .ok (.aload_n 0, 1) := by decide +kernel
theorem dX12_perform_1 : decode cX12_perform 1 = .ok (.iconst 0, 1) := by decide +kernel
theorem dX12_perform_2 : decode cX12_perform 2 = .ok (.putfield 1, 3) := by decide +kernel
theorem dX12_perform_5 : decode cX12_perform 5 = .ok (.aload_n 0, 1) := by decide +kernel
theorem dX12_perform_6 : decode cX12_perform 6 = .ok (.iload_n 1, 1) := by decide +kernel
theorem dX12_perform_7 : decode cX12_perform 7 = .ok (.invokevirtual 333, 3) := by decide +kernel
theorem dX12_perform_10 : decode cX12_perform 10 = .ok (.istore_n 2, 1) := by decide +kernel
theorem dX12_perform_11 : decode cX12_perform 11 = .ok (.iload_n 2, 1) := by decide +kernel
theorem dX12_perform_12 : decode cX12_perform 12 = .ok (.ifCond .eq 5, 3) := by decide +kernel
theorem dX12_perform_15 : decode cX12_perform 15 = .ok (.iload_n 2, 1) := by decide +kernel
theorem dX12_perform_16 : decode cX12_perform 16 = .ok (.ireturn, 1) := by decide +kernel
theorem dX12_perform_17 : decode cX12_perform 17 = .ok (.aload_n 0, 1) := by decide +kernel
theorem dX12_perform_18 : decode cX12_perform 18 = .ok (.invokevirtual 283, 3) := by decide +kernel
theorem dX12_perform_21 : decode cX12_perform 21 = .ok (.aload_n 0, 1) := by decide +kernel
theorem dX12_perform_22 : decode cX12_perform 22 = .ok (.iload_n 1, 1) := by decide +kernel
theorem dX12_perform_23 : decode cX12_perform 23 = .ok (.invokevirtual 336, 3) := by decide +kernel
theorem dX12_perform_26 : decode cX12_perform 26 = .ok (.istore_n 3, 1) := by decide +kernel
theorem dX12_perform_27 : decode cX12_perform 27 = .ok (.iload_n 3, 1) := by decide +kernel
theorem dX12_perform_28 : decode cX12_perform 28 = .ok (.ifCond .le 7, 3) := by decide +kernel
theorem dX12_perform_31 : decode cX12_perform 31 = .ok (.aload_n 0, 1) := by decide +kernel
theorem dX12_perform_32 : decode cX12_perform 32 = .ok (.invokevirtual 289, 3) := by decide +kernel
theorem dX12_perform_35 : decode cX12_perform 35 = .ok (.iload_n 3, 1) := by decide +kernel
theorem dX12_perform_36 : decode cX12_perform 36 = .ok (.ireturn, 1) := by decide +kernel
theorem dX12_lot_0 : decode cX12_lot 0 = .ok (.aload_n 0, 1) := by decide +kernel
theorem dX12_lot_1 : decode cX12_lot 1 = .ok (.ldc_w 348, 3) := by decide +kernel
theorem dX12_lot_4 : decode cX12_lot 4 = .ok (.aload_n 0, 1) := by decide +kernel
theorem dX12_lot_5 : decode cX12_lot 5 = .ok (.getfield 349, 3) := by decide +kernel
theorem dX12_lot_8 : decode cX12_lot 8 = .ok (.imul, 1) := by decide +kernel
theorem dX12_lot_9 : decode cX12_lot 9 = .ok (.sipush 12345, 3) := by decide +kernel
theorem dX12_lot_12 : decode cX12_lot 12 = .ok (.iadd, 1) := by decide +kernel
theorem dX12_lot_13 : decode cX12_lot 13 = .ok (.putfield 349, 3) := by decide +kernel
theorem dX12_lot_16 : decode cX12_lot 16 = .ok (.aload_n 0, 1) := by decide +kernel
theorem dX12_lot_17 : decode cX12_lot 17 = .ok (.getfield 349, 3) := by decide +kernel
theorem dX12_lot_20 : decode cX12_lot 20 = .ok (.bipush 16, 2) := by decide +kernel
theorem dX12_lot_22 : decode cX12_lot 22 = .ok (.iushr, 1) := by decide +kernel
theorem dX12_lot_23 : decode cX12_lot 23 = .ok (.iload_n 1, 1) := by decide +kernel
theorem dX12_lot_24 : decode cX12_lot 24 = .ok (.irem, 1) := by decide +kernel
theorem dX12_lot_25 : decode cX12_lot 25 = .ok (.ireturn, 1) := by decide +kernel
theorem dX12_drawn_0 : decode cX12_drawn 0 = .ok (.aload_n 0, 1) := by decide +kernel
theorem dX12_drawn_1 : decode cX12_drawn 1 = .ok (.bipush 6, 2) := by decide +kernel
theorem dX12_drawn_3 : decode cX12_drawn 3 = .ok (.invokevirtual 352, 3) := by decide +kernel
theorem dX12_drawn_6 : decode cX12_drawn 6 = .ok (.istore_n 1, 1) := by decide +kernel
theorem dX12_drawn_7 : decode cX12_drawn 7 = .ok (.aload_n 0, 1) := by decide +kernel
theorem dX12_drawn_8 : decode cX12_drawn 8 = .ok (.bipush 6, 2) := by decide +kernel
theorem dX12_drawn_10 : decode cX12_drawn 10 = .ok (.invokevirtual 352, 3) := by decide +kernel
theorem dX12_drawn_13 : decode cX12_drawn 13 = .ok (.istore_n 2, 1) := by decide +kernel
theorem dX12_drawn_14 : decode cX12_drawn 14 = .ok (.iload_n 1, 1) := by decide +kernel
theorem dX12_drawn_15 : decode cX12_drawn 15 = .ok (.iconst 4, 1) := by decide +kernel
theorem dX12_drawn_16 : decode cX12_drawn 16 = .ok (.if_icmp .ge 16, 3) := by decide +kernel
theorem dX12_drawn_19 : decode cX12_drawn 19 = .ok (.bipush 10, 2) := by decide +kernel
theorem dX12_drawn_21 : decode cX12_drawn 21 = .ok (.iload_n 2, 1) := by decide +kernel
theorem dX12_drawn_22 : decode cX12_drawn 22 = .ok (.imul, 1) := by decide +kernel
theorem dX12_drawn_23 : decode cX12_drawn 23 = .ok (.aload_n 0, 1) := by decide +kernel
theorem dX12_drawn_24 : decode cX12_drawn 24 = .ok (.iconst 4, 1) := by decide +kernel
theorem dX12_drawn_25 : decode cX12_drawn 25 = .ok (.invokevirtual 352, 3) := by decide +kernel
theorem dX12_drawn_28 : decode cX12_drawn 28 = .ok (.iadd, 1) := by decide +kernel
theorem dX12_drawn_29 : decode cX12_drawn 29 = .ok (.goto 30, 3) := by decide +kernel
theorem dX12_drawn_32 : decode cX12_drawn 32 = .ok (.iload_n 1, 1) := by decide +kernel
theorem dX12_drawn_33 : decode cX12_drawn 33 = .ok (.iconst 4, 1) := by decide +kernel
theorem dX12_drawn_34 : decode cX12_drawn 34 = .ok (.if_icmp .ne 10, 3) := by decide +kernel
theorem dX12_drawn_37 : decode cX12_drawn 37 = .ok (.bipush 100, 2) := by decide +kernel
theorem dX12_drawn_39 : decode cX12_drawn 39 = .ok (.iload_n 2, 1) := by decide +kernel
theorem dX12_drawn_40 : decode cX12_drawn 40 = .ok (.iadd, 1) := by decide +kernel
theorem dX12_drawn_41 : decode cX12_drawn 41 = .ok (.goto 18, 3) := by decide +kernel
theorem dX12_drawn_44 : decode cX12_drawn 44 = .ok (.sipush 1001, 3) := by decide +kernel
theorem dX12_drawn_47 : decode cX12_drawn 47 = .ok (.bipush 100, 2) := by decide +kernel
theorem dX12_drawn_49 : decode cX12_drawn 49 = .ok (.iload_n 2, 1) := by decide +kernel
theorem dX12_drawn_50 : decode cX12_drawn 50 = .ok (.imul, 1) := by decide +kernel
theorem dX12_drawn_51 : decode cX12_drawn 51 = .ok (.iadd, 1) := by decide +kernel
theorem dX12_drawn_52 : decode cX12_drawn 52 = .ok (.aload_n 0, 1) := by decide +kernel
theorem dX12_drawn_53 : decode cX12_drawn 53 = .ok (.bipush 9, 2) := by decide +kernel
theorem dX12_drawn_55 : decode cX12_drawn 55 = .ok (.invokevirtual 352, 3) := by decide +kernel
theorem dX12_drawn_58 : decode cX12_drawn 58 = .ok (.iadd, 1) := by decide +kernel
theorem dX12_drawn_59 : decode cX12_drawn 59 = .ok (.ireturn, 1) := by decide +kernel
theorem dX12_season_0 : decode cX12_season 0 = .ok (.aload_n 0, 1) := by decide +kernel
theorem dX12_season_1 : decode cX12_season 1 = .ok (.iconst 0, 1) := by decide +kernel
theorem dX12_season_2 : decode cX12_season 2 = .ok (.putfield 1, 3) := by decide +kernel
theorem dX12_season_5 : decode cX12_season 5 = .ok (.iload_n 2, 1) := by decide +kernel
theorem dX12_season_6 : decode cX12_season 6 = .ok (.i2l, 1) := by decide +kernel
theorem dX12_season_7 : decode cX12_season 7 = .ok (.lconst 1, 1) := by decide +kernel
theorem dX12_season_8 : decode cX12_season 8 = .ok (.ldc2_w 355, 3) := by decide +kernel
theorem dX12_season_11 : decode cX12_season 11 = .ok (.invokestatic 144, 3) := by decide +kernel
theorem dX12_season_14 : decode cX12_season 14 = .ok (.ifCond .ne 6, 3) := by decide +kernel
theorem dX12_season_17 : decode cX12_season 17 = .ok (.ldc 201, 2) := by decide +kernel
theorem dX12_season_19 : decode cX12_season 19 = .ok (.ireturn, 1) := by decide +kernel
theorem dX12_season_20 : decode cX12_season 20 = .ok (.aload_n 0, 1) := by decide +kernel
theorem dX12_season_21 : decode cX12_season 21 = .ok (.invokevirtual 283, 3) := by decide +kernel
theorem dX12_season_24 : decode cX12_season 24 = .ok (.aload_n 0, 1) := by decide +kernel
theorem dX12_season_25 : decode cX12_season 25 = .ok (.iload_n 1, 1) := by decide +kernel
theorem dX12_season_26 : decode cX12_season 26 = .ok (.putfield 349, 3) := by decide +kernel
theorem dX12_season_29 : decode cX12_season 29 = .ok (.iconst 0, 1) := by decide +kernel
theorem dX12_season_30 : decode cX12_season 30 = .ok (.istore_n 3, 1) := by decide +kernel
theorem dX12_season_31 : decode cX12_season 31 = .ok (.iconst 0, 1) := by decide +kernel
theorem dX12_season_32 : decode cX12_season 32 = .ok (.istore 4, 2) := by decide +kernel
theorem dX12_season_34 : decode cX12_season 34 = .ok (.iload 4, 2) := by decide +kernel
theorem dX12_season_36 : decode cX12_season 36 = .ok (.iload_n 2, 1) := by decide +kernel
theorem dX12_season_37 : decode cX12_season 37 = .ok (.if_icmp .ge 37, 3) := by decide +kernel
theorem dX12_season_40 : decode cX12_season 40 = .ok (.aload_n 0, 1) := by decide +kernel
theorem dX12_season_41 : decode cX12_season 41 = .ok (.invokevirtual 357, 3) := by decide +kernel
theorem dX12_season_44 : decode cX12_season 44 = .ok (.istore 5, 2) := by decide +kernel
theorem dX12_season_46 : decode cX12_season 46 = .ok (.aload_n 0, 1) := by decide +kernel
theorem dX12_season_47 : decode cX12_season 47 = .ok (.iload 5, 2) := by decide +kernel
theorem dX12_season_49 : decode cX12_season 49 = .ok (.i2l, 1) := by decide +kernel
theorem dX12_season_50 : decode cX12_season 50 = .ok (.invokevirtual 324, 3) := by decide +kernel
theorem dX12_season_53 : decode cX12_season 53 = .ok (.ifCond .eq 6, 3) := by decide +kernel
theorem dX12_season_56 : decode cX12_season 56 = .ok (.goto 12, 3) := by decide +kernel
theorem dX12_season_59 : decode cX12_season 59 = .ok (.aload_n 0, 1) := by decide +kernel
theorem dX12_season_60 : decode cX12_season 60 = .ok (.iload 5, 2) := by decide +kernel
theorem dX12_season_62 : decode cX12_season 62 = .ok (.invokevirtual 327, 3) := by decide +kernel
theorem dX12_season_65 : decode cX12_season 65 = .ok (.iinc 3 1, 3) := by decide +kernel
theorem dX12_season_68 : decode cX12_season 68 = .ok (.iinc 4 1, 3) := by decide +kernel
theorem dX12_season_71 : decode cX12_season 71 = .ok (.goto (-37), 3) := by decide +kernel
theorem dX12_season_74 : decode cX12_season 74 = .ok (.iload_n 3, 1) := by decide +kernel
theorem dX12_season_75 : decode cX12_season 75 = .ok (.ifCond .le 7, 3) := by decide +kernel
theorem dX12_season_78 : decode cX12_season 78 = .ok (.aload_n 0, 1) := by decide +kernel
theorem dX12_season_79 : decode cX12_season 79 = .ok (.invokevirtual 289, 3) := by decide +kernel
theorem dX12_season_82 : decode cX12_season 82 = .ok (.iload_n 3, 1) := by decide +kernel
theorem dX12_season_83 : decode cX12_season 83 = .ok (.ireturn, 1) := by decide +kernel
theorem dX12_begins_0 : decode cX12_begins 0 = .ok (.aload_n 0, 1) := by decide +kernel
theorem dX12_begins_1 : decode cX12_begins 1 = .ok (.aload_n 0, 1) := by decide +kernel
theorem dX12_begins_2 : decode cX12_begins 2 = .ok (.getfield 13, 3) := by decide +kernel
theorem dX12_begins_5 : decode cX12_begins 5 = .ok (.bipush 54, 2) := by decide +kernel
theorem dX12_begins_7 : decode cX12_begins 7 = .ok (.iload_n 1, 1) := by decide +kernel
theorem dX12_begins_8 : decode cX12_begins 8 = .ok (.iadd, 1) := by decide +kernel
theorem dX12_begins_9 : decode cX12_begins 9 = .ok (.iaload, 1) := by decide +kernel
theorem dX12_begins_10 : decode cX12_begins 10 = .ok (.putfield 360, 3) := by decide +kernel
theorem dX12_begins_13 : decode cX12_begins 13 = .ok (.aload_n 0, 1) := by decide +kernel
theorem dX12_begins_14 : decode cX12_begins 14 = .ok (.aload_n 0, 1) := by decide +kernel
theorem dX12_begins_15 : decode cX12_begins 15 = .ok (.getfield 13, 3) := by decide +kernel
theorem dX12_begins_18 : decode cX12_begins 18 = .ok (.bipush 60, 2) := by decide +kernel
theorem dX12_begins_20 : decode cX12_begins 20 = .ok (.iload_n 1, 1) := by decide +kernel
theorem dX12_begins_21 : decode cX12_begins 21 = .ok (.iadd, 1) := by decide +kernel
theorem dX12_begins_22 : decode cX12_begins 22 = .ok (.iaload, 1) := by decide +kernel
theorem dX12_begins_23 : decode cX12_begins 23 = .ok (.ifCond .ne 7, 3) := by decide +kernel
theorem dX12_begins_26 : decode cX12_begins 26 = .ok (.iconst 1, 1) := by decide +kernel
theorem dX12_begins_27 : decode cX12_begins 27 = .ok (.goto 4, 3) := by decide +kernel
theorem dX12_begins_30 : decode cX12_begins 30 = .ok (.iconst 0, 1) := by decide +kernel
theorem dX12_begins_31 : decode cX12_begins 31 = .ok (.putfield 363, 3) := by decide +kernel
theorem dX12_begins_34 : decode cX12_begins 34 = .ok (.iconst 0, 1) := by decide +kernel
theorem dX12_begins_35 : decode cX12_begins 35 = .ok (.istore_n 2, 1) := by decide +kernel
theorem dX12_begins_36 : decode cX12_begins 36 = .ok (.iload_n 2, 1) := by decide +kernel
theorem dX12_begins_37 : decode cX12_begins 37 = .ok (.sipush 3430, 3) := by decide +kernel
theorem dX12_begins_40 : decode cX12_begins 40 = .ok (.if_icmp .ge 16, 3) := by decide +kernel
theorem dX12_begins_43 : decode cX12_begins 43 = .ok (.aload_n 0, 1) := by decide +kernel
theorem dX12_begins_44 : decode cX12_begins 44 = .ok (.getfield 49, 3) := by decide +kernel
theorem dX12_begins_47 : decode cX12_begins 47 = .ok (.iload_n 2, 1) := by decide +kernel
theorem dX12_begins_48 : decode cX12_begins 48 = .ok (.iconst 0, 1) := by decide +kernel
theorem dX12_begins_49 : decode cX12_begins 49 = .ok (.bastore, 1) := by decide +kernel
theorem dX12_begins_50 : decode cX12_begins 50 = .ok (.iinc 2 1, 3) := by decide +kernel
theorem dX12_begins_53 : decode cX12_begins 53 = .ok (.goto (-17), 3) := by decide +kernel
theorem dX12_begins_56 : decode cX12_begins 56 = .ok (.return_, 1) := by decide +kernel
theorem dX12_canDraw_0 : decode cX12_canDraw 0 = .ok (.aload_n 0, 1) := by decide +kernel
theorem dX12_canDraw_1 : decode cX12_canDraw 1 = .ok (.getfield 363, 3) := by decide +kernel
theorem dX12_canDraw_4 : decode cX12_canDraw 4 = .ok (.ifCond .eq 15, 3) := by decide +kernel
theorem dX12_canDraw_7 : decode cX12_canDraw 7 = .ok (.iload_n 1, 1) := by decide +kernel
theorem dX12_canDraw_8 : decode cX12_canDraw 8 = .ok (.invokestatic 233, 3) := by decide +kernel
theorem dX12_canDraw_11 : decode cX12_canDraw 11 = .ok (.iconst 1, 1) := by decide +kernel
theorem dX12_canDraw_12 : decode cX12_canDraw 12 = .ok (.if_icmp .ne 7, 3) := by decide +kernel
theorem dX12_canDraw_15 : decode cX12_canDraw 15 = .ok (.iconst 1, 1) := by decide +kernel
theorem dX12_canDraw_16 : decode cX12_canDraw 16 = .ok (.goto 4, 3) := by decide +kernel
theorem dX12_canDraw_19 : decode cX12_canDraw 19 = .ok (.iconst 0, 1) := by decide +kernel
theorem dX12_canDraw_20 : decode cX12_canDraw 20 = .ok (.ireturn, 1) := by decide +kernel
theorem dX12_laysBest_0 : decode cX12_laysBest 0 = .ok (.aload_n 0, 1) := by decide +kernel
theorem dX12_laysBest_1 : decode cX12_laysBest 1 = .ok (.getfield 49, 3) := by decide +kernel
theorem dX12_laysBest_4 : decode cX12_laysBest 4 = .ok (.iload_n 1, 1) := by decide +kernel
theorem dX12_laysBest_5 : decode cX12_laysBest 5 = .ok (.baload, 1) := by decide +kernel
theorem dX12_laysBest_6 : decode cX12_laysBest 6 = .ok (.ifCond .eq 4, 3) := by decide +kernel
theorem dX12_laysBest_9 : decode cX12_laysBest 9 = .ok (.return_, 1) := by decide +kernel
theorem dX12_laysBest_10 : decode cX12_laysBest 10 = .ok (.aload_n 0, 1) := by decide +kernel
theorem dX12_laysBest_11 : decode cX12_laysBest 11 = .ok (.getfield 49, 3) := by decide +kernel
theorem dX12_laysBest_14 : decode cX12_laysBest 14 = .ok (.iload_n 1, 1) := by decide +kernel
theorem dX12_laysBest_15 : decode cX12_laysBest 15 = .ok (.iconst 1, 1) := by decide +kernel
theorem dX12_laysBest_16 : decode cX12_laysBest 16 = .ok (.bastore, 1) := by decide +kernel
theorem dX12_laysBest_17 : decode cX12_laysBest 17 = .ok (.iconst 0, 1) := by decide +kernel
theorem dX12_laysBest_18 : decode cX12_laysBest 18 = .ok (.istore_n 2, 1) := by decide +kernel
theorem dX12_laysBest_19 : decode cX12_laysBest 19 = .ok (.iconst 0, 1) := by decide +kernel
theorem dX12_laysBest_20 : decode cX12_laysBest 20 = .ok (.istore_n 3, 1) := by decide +kernel
theorem dX12_laysBest_21 : decode cX12_laysBest 21 = .ok (.iconst 0, 1) := by decide +kernel
theorem dX12_laysBest_22 : decode cX12_laysBest 22 = .ok (.istore 4, 2) := by decide +kernel
theorem dX12_laysBest_24 : decode cX12_laysBest 24 = .ok (.iload 4, 2) := by decide +kernel
theorem dX12_laysBest_26 : decode cX12_laysBest 26 = .ok (.aload_n 0, 1) := by decide +kernel
theorem dX12_laysBest_27 : decode cX12_laysBest 27 = .ok (.getfield 13, 3) := by decide +kernel
theorem dX12_laysBest_30 : decode cX12_laysBest 30 = .ok (.iconst 2, 1) := by decide +kernel
theorem dX12_laysBest_31 : decode cX12_laysBest 31 = .ok (.iaload, 1) := by decide +kernel
theorem dX12_laysBest_32 : decode cX12_laysBest 32 = .ok (.if_icmp .ge 93, 3) := by decide +kernel
theorem dX12_laysBest_35 : decode cX12_laysBest 35 = .ok (.aload_n 0, 1) := by decide +kernel
theorem dX12_laysBest_36 : decode cX12_laysBest 36 = .ok (.iload_n 1, 1) := by decide +kernel
theorem dX12_laysBest_37 : decode cX12_laysBest 37 = .ok (.invokevirtual 256, 3) := by decide +kernel
theorem dX12_laysBest_40 : decode cX12_laysBest 40 = .ok (.ifCond .ne 85, 3) := by decide +kernel
theorem dX12_laysBest_43 : decode cX12_laysBest 43 = .ok (.iload_n 1, 1) := by decide +kernel
theorem dX12_laysBest_44 : decode cX12_laysBest 44 = .ok (.iload 4, 2) := by decide +kernel
theorem dX12_laysBest_46 : decode cX12_laysBest 46 = .ok (.invokestatic 268, 3) := by decide +kernel
theorem dX12_laysBest_49 : decode cX12_laysBest 49 = .ok (.istore 5, 2) := by decide +kernel
theorem dX12_laysBest_51 : decode cX12_laysBest 51 = .ok (.aload_n 0, 1) := by decide +kernel
theorem dX12_laysBest_52 : decode cX12_laysBest 52 = .ok (.iload 5, 2) := by decide +kernel
theorem dX12_laysBest_54 : decode cX12_laysBest 54 = .ok (.invokevirtual 367, 3) := by decide +kernel
theorem dX12_laysBest_57 : decode cX12_laysBest 57 = .ok (.aload_n 0, 1) := by decide +kernel
theorem dX12_laysBest_58 : decode cX12_laysBest 58 = .ok (.aload_n 0, 1) := by decide +kernel
theorem dX12_laysBest_59 : decode cX12_laysBest 59 = .ok (.getfield 360, 3) := by decide +kernel
theorem dX12_laysBest_62 : decode cX12_laysBest 62 = .ok (.iload_n 1, 1) := by decide +kernel
theorem dX12_laysBest_63 : decode cX12_laysBest 63 = .ok (.iload 4, 2) := by decide +kernel
theorem dX12_laysBest_65 : decode cX12_laysBest 65 = .ok (.invokevirtual 259, 3) := by decide +kernel
theorem dX12_laysBest_68 : decode cX12_laysBest 68 = .ok (.aload_n 0, 1) := by decide +kernel
theorem dX12_laysBest_69 : decode cX12_laysBest 69 = .ok (.getfield 39, 3) := by decide +kernel
theorem dX12_laysBest_72 : decode cX12_laysBest 72 = .ok (.iload 5, 2) := by decide +kernel
theorem dX12_laysBest_74 : decode cX12_laysBest 74 = .ok (.iaload, 1) := by decide +kernel
theorem dX12_laysBest_75 : decode cX12_laysBest 75 = .ok (.iadd, 1) := by decide +kernel
theorem dX12_laysBest_76 : decode cX12_laysBest 76 = .ok (.istore 6, 2) := by decide +kernel
theorem dX12_laysBest_78 : decode cX12_laysBest 78 = .ok (.iload 6, 2) := by decide +kernel
theorem dX12_laysBest_80 : decode cX12_laysBest 80 = .ok (.iload_n 2, 1) := by decide +kernel
theorem dX12_laysBest_81 : decode cX12_laysBest 81 = .ok (.if_icmp .lt 38, 3) := by decide +kernel
theorem dX12_laysBest_84 : decode cX12_laysBest 84 = .ok (.iload 6, 2) := by decide +kernel
theorem dX12_laysBest_86 : decode cX12_laysBest 86 = .ok (.iload_n 2, 1) := by decide +kernel
theorem dX12_laysBest_87 : decode cX12_laysBest 87 = .ok (.if_icmp .ne 19, 3) := by decide +kernel
theorem dX12_laysBest_90 : decode cX12_laysBest 90 = .ok (.aload_n 0, 1) := by decide +kernel
theorem dX12_laysBest_91 : decode cX12_laysBest 91 = .ok (.getfield 42, 3) := by decide +kernel
theorem dX12_laysBest_94 : decode cX12_laysBest 94 = .ok (.iload 5, 2) := by decide +kernel
theorem dX12_laysBest_96 : decode cX12_laysBest 96 = .ok (.iaload, 1) := by decide +kernel
theorem dX12_laysBest_97 : decode cX12_laysBest 97 = .ok (.iconst 1, 1) := by decide +kernel
theorem dX12_laysBest_98 : decode cX12_laysBest 98 = .ok (.iadd, 1) := by decide +kernel
theorem dX12_laysBest_99 : decode cX12_laysBest 99 = .ok (.iload_n 3, 1) := by decide +kernel
theorem dX12_laysBest_100 : decode cX12_laysBest 100 = .ok (.if_icmp .lt 6, 3) := by decide +kernel
theorem dX12_laysBest_103 : decode cX12_laysBest 103 = .ok (.goto 16, 3) := by decide +kernel
theorem dX12_laysBest_106 : decode cX12_laysBest 106 = .ok (.iload 6, 2) := by decide +kernel
theorem dX12_laysBest_108 : decode cX12_laysBest 108 = .ok (.istore_n 2, 1) := by decide +kernel
theorem dX12_laysBest_109 : decode cX12_laysBest 109 = .ok (.aload_n 0, 1) := by decide +kernel
theorem dX12_laysBest_110 : decode cX12_laysBest 110 = .ok (.getfield 42, 3) := by decide +kernel
theorem dX12_laysBest_113 : decode cX12_laysBest 113 = .ok (.iload 5, 2) := by decide +kernel
theorem dX12_laysBest_115 : decode cX12_laysBest 115 = .ok (.iaload, 1) := by decide +kernel
theorem dX12_laysBest_116 : decode cX12_laysBest 116 = .ok (.iconst 1, 1) := by decide +kernel
theorem dX12_laysBest_117 : decode cX12_laysBest 117 = .ok (.iadd, 1) := by decide +kernel
theorem dX12_laysBest_118 : decode cX12_laysBest 118 = .ok (.istore_n 3, 1) := by decide +kernel
theorem dX12_laysBest_119 : decode cX12_laysBest 119 = .ok (.iinc 4 1, 3) := by decide +kernel
theorem dX12_laysBest_122 : decode cX12_laysBest 122 = .ok (.goto (-98), 3) := by decide +kernel
theorem dX12_laysBest_125 : decode cX12_laysBest 125 = .ok (.aload_n 0, 1) := by decide +kernel
theorem dX12_laysBest_126 : decode cX12_laysBest 126 = .ok (.iload_n 1, 1) := by decide +kernel
theorem dX12_laysBest_127 : decode cX12_laysBest 127 = .ok (.invokevirtual 370, 3) := by decide +kernel
theorem dX12_laysBest_130 : decode cX12_laysBest 130 = .ok (.ifCond .eq 73, 3) := by decide +kernel
theorem dX12_laysBest_133 : decode cX12_laysBest 133 = .ok (.aload_n 0, 1) := by decide +kernel
theorem dX12_laysBest_134 : decode cX12_laysBest 134 = .ok (.aload_n 0, 1) := by decide +kernel
theorem dX12_laysBest_135 : decode cX12_laysBest 135 = .ok (.getfield 360, 3) := by decide +kernel
theorem dX12_laysBest_138 : decode cX12_laysBest 138 = .ok (.iload_n 1, 1) := by decide +kernel
theorem dX12_laysBest_139 : decode cX12_laysBest 139 = .ok (.invokevirtual 275, 3) := by decide +kernel
theorem dX12_laysBest_142 : decode cX12_laysBest 142 = .ok (.istore 4, 2) := by decide +kernel
theorem dX12_laysBest_144 : decode cX12_laysBest 144 = .ok (.aload_n 0, 1) := by decide +kernel
theorem dX12_laysBest_145 : decode cX12_laysBest 145 = .ok (.iload 4, 2) := by decide +kernel
theorem dX12_laysBest_147 : decode cX12_laysBest 147 = .ok (.invokevirtual 367, 3) := by decide +kernel
theorem dX12_laysBest_150 : decode cX12_laysBest 150 = .ok (.aload_n 0, 1) := by decide +kernel
theorem dX12_laysBest_151 : decode cX12_laysBest 151 = .ok (.getfield 39, 3) := by decide +kernel
theorem dX12_laysBest_154 : decode cX12_laysBest 154 = .ok (.iload 4, 2) := by decide +kernel
theorem dX12_laysBest_156 : decode cX12_laysBest 156 = .ok (.iaload, 1) := by decide +kernel
theorem dX12_laysBest_157 : decode cX12_laysBest 157 = .ok (.iload_n 2, 1) := by decide +kernel
theorem dX12_laysBest_158 : decode cX12_laysBest 158 = .ok (.if_icmp .gt 27, 3) := by decide +kernel
theorem dX12_laysBest_161 : decode cX12_laysBest 161 = .ok (.aload_n 0, 1) := by decide +kernel
theorem dX12_laysBest_162 : decode cX12_laysBest 162 = .ok (.getfield 39, 3) := by decide +kernel
theorem dX12_laysBest_165 : decode cX12_laysBest 165 = .ok (.iload 4, 2) := by decide +kernel
theorem dX12_laysBest_167 : decode cX12_laysBest 167 = .ok (.iaload, 1) := by decide +kernel
theorem dX12_laysBest_168 : decode cX12_laysBest 168 = .ok (.iload_n 2, 1) := by decide +kernel
theorem dX12_laysBest_169 : decode cX12_laysBest 169 = .ok (.if_icmp .ne 34, 3) := by decide +kernel
theorem dX12_laysBest_172 : decode cX12_laysBest 172 = .ok (.aload_n 0, 1) := by decide +kernel
theorem dX12_laysBest_173 : decode cX12_laysBest 173 = .ok (.getfield 42, 3) := by decide +kernel
theorem dX12_laysBest_176 : decode cX12_laysBest 176 = .ok (.iload 4, 2) := by decide +kernel
theorem dX12_laysBest_178 : decode cX12_laysBest 178 = .ok (.iaload, 1) := by decide +kernel
theorem dX12_laysBest_179 : decode cX12_laysBest 179 = .ok (.iconst 1, 1) := by decide +kernel
theorem dX12_laysBest_180 : decode cX12_laysBest 180 = .ok (.iadd, 1) := by decide +kernel
theorem dX12_laysBest_181 : decode cX12_laysBest 181 = .ok (.iload_n 3, 1) := by decide +kernel
theorem dX12_laysBest_182 : decode cX12_laysBest 182 = .ok (.if_icmp .ge 21, 3) := by decide +kernel
theorem dX12_laysBest_185 : decode cX12_laysBest 185 = .ok (.aload_n 0, 1) := by decide +kernel
theorem dX12_laysBest_186 : decode cX12_laysBest 186 = .ok (.getfield 39, 3) := by decide +kernel
theorem dX12_laysBest_189 : decode cX12_laysBest 189 = .ok (.iload 4, 2) := by decide +kernel
theorem dX12_laysBest_191 : decode cX12_laysBest 191 = .ok (.iaload, 1) := by decide +kernel
theorem dX12_laysBest_192 : decode cX12_laysBest 192 = .ok (.istore_n 2, 1) := by decide +kernel
theorem dX12_laysBest_193 : decode cX12_laysBest 193 = .ok (.aload_n 0, 1) := by decide +kernel
theorem dX12_laysBest_194 : decode cX12_laysBest 194 = .ok (.getfield 42, 3) := by decide +kernel
theorem dX12_laysBest_197 : decode cX12_laysBest 197 = .ok (.iload 4, 2) := by decide +kernel
theorem dX12_laysBest_199 : decode cX12_laysBest 199 = .ok (.iaload, 1) := by decide +kernel
theorem dX12_laysBest_200 : decode cX12_laysBest 200 = .ok (.iconst 1, 1) := by decide +kernel
theorem dX12_laysBest_201 : decode cX12_laysBest 201 = .ok (.iadd, 1) := by decide +kernel
theorem dX12_laysBest_202 : decode cX12_laysBest 202 = .ok (.istore_n 3, 1) := by decide +kernel
theorem dX12_laysBest_203 : decode cX12_laysBest 203 = .ok (.aload_n 0, 1) := by decide +kernel
theorem dX12_laysBest_204 : decode cX12_laysBest 204 = .ok (.getfield 39, 3) := by decide +kernel
theorem dX12_laysBest_207 : decode cX12_laysBest 207 = .ok (.iload_n 1, 1) := by decide +kernel
theorem dX12_laysBest_208 : decode cX12_laysBest 208 = .ok (.iload_n 2, 1) := by decide +kernel
theorem dX12_laysBest_209 : decode cX12_laysBest 209 = .ok (.iastore, 1) := by decide +kernel
theorem dX12_laysBest_210 : decode cX12_laysBest 210 = .ok (.aload_n 0, 1) := by decide +kernel
theorem dX12_laysBest_211 : decode cX12_laysBest 211 = .ok (.getfield 42, 3) := by decide +kernel
theorem dX12_laysBest_214 : decode cX12_laysBest 214 = .ok (.iload_n 1, 1) := by decide +kernel
theorem dX12_laysBest_215 : decode cX12_laysBest 215 = .ok (.iload_n 3, 1) := by decide +kernel
theorem dX12_laysBest_216 : decode cX12_laysBest 216 = .ok (.iastore, 1) := by decide +kernel
theorem dX12_laysBest_217 : decode cX12_laysBest 217 = .ok (.return_, 1) := by decide +kernel
theorem dX12_nextBest_0 : decode cX12_nextBest 0 = .ok (.aload_n 0, 1) := by decide +kernel
theorem dX12_nextBest_1 : decode cX12_nextBest 1 = .ok (.getfield 42, 3) := by decide +kernel
theorem dX12_nextBest_4 : decode cX12_nextBest 4 = .ok (.iload_n 1, 1) := by decide +kernel
theorem dX12_nextBest_5 : decode cX12_nextBest 5 = .ok (.iaload, 1) := by decide +kernel
theorem dX12_nextBest_6 : decode cX12_nextBest 6 = .ok (.ifCond .ne 5, 3) := by decide +kernel
theorem dX12_nextBest_9 : decode cX12_nextBest 9 = .ok (.iconst (-1), 1) := by decide +kernel
theorem dX12_nextBest_10 : decode cX12_nextBest 10 = .ok (.ireturn, 1) := by decide +kernel
theorem dX12_nextBest_11 : decode cX12_nextBest 11 = .ok (.iconst 0, 1) := by decide +kernel
theorem dX12_nextBest_12 : decode cX12_nextBest 12 = .ok (.istore_n 2, 1) := by decide +kernel
theorem dX12_nextBest_13 : decode cX12_nextBest 13 = .ok (.iload_n 2, 1) := by decide +kernel
theorem dX12_nextBest_14 : decode cX12_nextBest 14 = .ok (.aload_n 0, 1) := by decide +kernel
theorem dX12_nextBest_15 : decode cX12_nextBest 15 = .ok (.getfield 13, 3) := by decide +kernel
theorem dX12_nextBest_18 : decode cX12_nextBest 18 = .ok (.iconst 2, 1) := by decide +kernel
theorem dX12_nextBest_19 : decode cX12_nextBest 19 = .ok (.iaload, 1) := by decide +kernel
theorem dX12_nextBest_20 : decode cX12_nextBest 20 = .ok (.if_icmp .ge 68, 3) := by decide +kernel
