theorem dX11_live_26 : decode cX11_live 26 = .ok (.invokevirtual 167, 3) := by decide +kernel
theorem dX11_live_29 : decode cX11_live 29 = .ok (.istore_n 3, 1) := by decide +kernel
theorem dX11_live_30 : decode cX11_live 30 = .ok (.iload_n 3, 1) := by decide +kernel
theorem dX11_live_31 : decode cX11_live 31 = .ok (.ifCond .eq 11, 3) := by decide +kernel
theorem dX11_live_34 : decode cX11_live 34 = .ok (.bipush 10, 2) := by decide +kernel
theorem dX11_live_36 : decode cX11_live 36 = .ok (.iload_n 3, 1) := by decide +kernel
theorem dX11_live_37 : decode cX11_live 37 = .ok (.iadd, 1) := by decide +kernel
theorem dX11_live_38 : decode cX11_live 38 = .ok (.invokestatic 108, 3) := by decide +kernel
theorem dX11_live_41 : decode cX11_live 41 = .ok (.ireturn, 1) := by decide +kernel
theorem dX11_live_42 : decode cX11_live 42 = .ok (.aload_n 0, 1) := by decide +kernel
theorem dX11_live_43 : decode cX11_live 43 = .ok (.getfield 44, 3) := by decide +kernel
theorem dX11_live_46 : decode cX11_live 46 = .ok (.aload_n 0, 1) := by decide +kernel
theorem dX11_live_47 : decode cX11_live 47 = .ok (.getfield 38, 3) := by decide +kernel
theorem dX11_live_50 : decode cX11_live 50 = .ok (.invokevirtual 171, 3) := by decide +kernel
theorem dX11_live_53 : decode cX11_live 53 = .ok (.aload_n 0, 1) := by decide +kernel
theorem dX11_live_54 : decode cX11_live 54 = .ok (.getfield 34, 3) := by decide +kernel
theorem dX11_live_57 : decode cX11_live 57 = .ok (.iload_n 1, 1) := by decide +kernel
theorem dX11_live_58 : decode cX11_live 58 = .ok (.iconst 2, 1) := by decide +kernel
theorem dX11_live_59 : decode cX11_live 59 = .ok (.invokevirtual 140, 3) := by decide +kernel
theorem dX11_live_62 : decode cX11_live 62 = .ok (.aload_n 0, 1) := by decide +kernel
theorem dX11_live_63 : decode cX11_live 63 = .ok (.getfield 38, 3) := by decide +kernel
theorem dX11_live_66 : decode cX11_live 66 = .ok (.iload_n 1, 1) := by decide +kernel
theorem dX11_live_67 : decode cX11_live 67 = .ok (.iconst 2, 1) := by decide +kernel
theorem dX11_live_68 : decode cX11_live 68 = .ok (.invokevirtual 140, 3) := by decide +kernel
theorem dX11_live_71 : decode cX11_live 71 = .ok (.isub, 1) := by decide +kernel
theorem dX11_live_72 : decode cX11_live 72 = .ok (.ireturn, 1) := by decide +kernel
theorem dX11_draw_0 : decode cX11_draw 0 = .ok (.aload_n 0, 1) := by decide +kernel
theorem dX11_draw_1 : decode cX11_draw 1 = .ok (.getfield 38, 3) := by decide +kernel
theorem dX11_draw_4 : decode cX11_draw 4 = .ok (.aload_n 0, 1) := by decide +kernel
theorem dX11_draw_5 : decode cX11_draw 5 = .ok (.getfield 34, 3) := by decide +kernel
theorem dX11_draw_8 : decode cX11_draw 8 = .ok (.invokevirtual 163, 3) := by decide +kernel
theorem dX11_draw_11 : decode cX11_draw 11 = .ok (.aload_n 0, 1) := by decide +kernel
theorem dX11_draw_12 : decode cX11_draw 12 = .ok (.getfield 74, 3) := by decide +kernel
theorem dX11_draw_15 : decode cX11_draw 15 = .ok (.aload_n 0, 1) := by decide +kernel
theorem dX11_draw_16 : decode cX11_draw 16 = .ok (.getfield 27, 3) := by decide +kernel
theorem dX11_draw_19 : decode cX11_draw 19 = .ok (.aload_n 0, 1) := by decide +kernel
theorem dX11_draw_20 : decode cX11_draw 20 = .ok (.getfield 34, 3) := by decide +kernel
theorem dX11_draw_23 : decode cX11_draw 23 = .ok (.iload_n 1, 1) := by decide +kernel
theorem dX11_draw_24 : decode cX11_draw 24 = .ok (.invokevirtual 174, 3) := by decide +kernel
theorem dX11_draw_27 : decode cX11_draw 27 = .ok (.istore_n 2, 1) := by decide +kernel
theorem dX11_draw_28 : decode cX11_draw 28 = .ok (.iload_n 2, 1) := by decide +kernel
theorem dX11_draw_29 : decode cX11_draw 29 = .ok (.ifCond .eq 11, 3) := by decide +kernel
theorem dX11_draw_32 : decode cX11_draw 32 = .ok (.bipush 10, 2) := by decide +kernel
theorem dX11_draw_34 : decode cX11_draw 34 = .ok (.iload_n 2, 1) := by decide +kernel
theorem dX11_draw_35 : decode cX11_draw 35 = .ok (.iadd, 1) := by decide +kernel
theorem dX11_draw_36 : decode cX11_draw 36 = .ok (.invokestatic 108, 3) := by decide +kernel
theorem dX11_draw_39 : decode cX11_draw 39 = .ok (.ireturn, 1) := by decide +kernel
theorem dX11_draw_40 : decode cX11_draw 40 = .ok (.aload_n 0, 1) := by decide +kernel
theorem dX11_draw_41 : decode cX11_draw 41 = .ok (.getfield 44, 3) := by decide +kernel
theorem dX11_draw_44 : decode cX11_draw 44 = .ok (.aload_n 0, 1) := by decide +kernel
theorem dX11_draw_45 : decode cX11_draw 45 = .ok (.getfield 38, 3) := by decide +kernel
theorem dX11_draw_48 : decode cX11_draw 48 = .ok (.invokevirtual 171, 3) := by decide +kernel
theorem dX11_draw_51 : decode cX11_draw 51 = .ok (.aload_n 0, 1) := by decide +kernel
theorem dX11_draw_52 : decode cX11_draw 52 = .ok (.getfield 34, 3) := by decide +kernel
theorem dX11_draw_55 : decode cX11_draw 55 = .ok (.iload_n 1, 1) := by decide +kernel
theorem dX11_draw_56 : decode cX11_draw 56 = .ok (.iconst 0, 1) := by decide +kernel
theorem dX11_draw_57 : decode cX11_draw 57 = .ok (.invokevirtual 140, 3) := by decide +kernel
theorem dX11_draw_60 : decode cX11_draw 60 = .ok (.ireturn, 1) := by decide +kernel
theorem dX11_pledge_0 : decode cX11_pledge 0 = .ok (.aload_n 0, 1) := by decide +kernel
theorem dX11_pledge_1 : decode cX11_pledge 1 = .ok (.getfield 38, 3) := by decide +kernel
theorem dX11_pledge_4 : decode cX11_pledge 4 = .ok (.aload_n 0, 1) := by decide +kernel
theorem dX11_pledge_5 : decode cX11_pledge 5 = .ok (.getfield 34, 3) := by decide +kernel
theorem dX11_pledge_8 : decode cX11_pledge 8 = .ok (.invokevirtual 163, 3) := by decide +kernel
theorem dX11_pledge_11 : decode cX11_pledge 11 = .ok (.aload_n 0, 1) := by decide +kernel
theorem dX11_pledge_12 : decode cX11_pledge 12 = .ok (.getfield 74, 3) := by decide +kernel
theorem dX11_pledge_15 : decode cX11_pledge 15 = .ok (.aload_n 0, 1) := by decide +kernel
theorem dX11_pledge_16 : decode cX11_pledge 16 = .ok (.getfield 34, 3) := by decide +kernel
theorem dX11_pledge_19 : decode cX11_pledge 19 = .ok (.iload_n 1, 1) := by decide +kernel
theorem dX11_pledge_20 : decode cX11_pledge 20 = .ok (.iload_n 2, 1) := by decide +kernel
theorem dX11_pledge_21 : decode cX11_pledge 21 = .ok (.invokevirtual 178, 3) := by decide +kernel
theorem dX11_pledge_24 : decode cX11_pledge 24 = .ok (.istore_n 3, 1) := by decide +kernel
theorem dX11_pledge_25 : decode cX11_pledge 25 = .ok (.iload_n 3, 1) := by decide +kernel
theorem dX11_pledge_26 : decode cX11_pledge 26 = .ok (.ifCond .eq 11, 3) := by decide +kernel
theorem dX11_pledge_29 : decode cX11_pledge 29 = .ok (.bipush 10, 2) := by decide +kernel
theorem dX11_pledge_31 : decode cX11_pledge 31 = .ok (.iload_n 3, 1) := by decide +kernel
theorem dX11_pledge_32 : decode cX11_pledge 32 = .ok (.iadd, 1) := by decide +kernel
theorem dX11_pledge_33 : decode cX11_pledge 33 = .ok (.invokestatic 108, 3) := by decide +kernel
theorem dX11_pledge_36 : decode cX11_pledge 36 = .ok (.ireturn, 1) := by decide +kernel
theorem dX11_pledge_37 : decode cX11_pledge 37 = .ok (.aload_n 0, 1) := by decide +kernel
theorem dX11_pledge_38 : decode cX11_pledge 38 = .ok (.getfield 44, 3) := by decide +kernel
theorem dX11_pledge_41 : decode cX11_pledge 41 = .ok (.aload_n 0, 1) := by decide +kernel
theorem dX11_pledge_42 : decode cX11_pledge 42 = .ok (.getfield 38, 3) := by decide +kernel
theorem dX11_pledge_45 : decode cX11_pledge 45 = .ok (.invokevirtual 171, 3) := by decide +kernel
theorem dX11_pledge_48 : decode cX11_pledge 48 = .ok (.aload_n 0, 1) := by decide +kernel
theorem dX11_pledge_49 : decode cX11_pledge 49 = .ok (.getfield 34, 3) := by decide +kernel
theorem dX11_pledge_52 : decode cX11_pledge 52 = .ok (.getfield 182, 3) := by decide +kernel
theorem dX11_pledge_55 : decode cX11_pledge 55 = .ok (.ireturn, 1) := by decide +kernel
theorem dX11_redeem_0 : decode cX11_redeem 0 = .ok (.aload_n 0, 1) := by decide +kernel
theorem dX11_redeem_1 : decode cX11_redeem 1 = .ok (.getfield 38, 3) := by decide +kernel
theorem dX11_redeem_4 : decode cX11_redeem 4 = .ok (.aload_n 0, 1) := by decide +kernel
theorem dX11_redeem_5 : decode cX11_redeem 5 = .ok (.getfield 34, 3) := by decide +kernel
theorem dX11_redeem_8 : decode cX11_redeem 8 = .ok (.invokevirtual 163, 3) := by decide +kernel
theorem dX11_redeem_11 : decode cX11_redeem 11 = .ok (.aload_n 0, 1) := by decide +kernel
theorem dX11_redeem_12 : decode cX11_redeem 12 = .ok (.getfield 74, 3) := by decide +kernel
theorem dX11_redeem_15 : decode cX11_redeem 15 = .ok (.aload_n 0, 1) := by decide +kernel
theorem dX11_redeem_16 : decode cX11_redeem 16 = .ok (.getfield 34, 3) := by decide +kernel
theorem dX11_redeem_19 : decode cX11_redeem 19 = .ok (.iload_n 1, 1) := by decide +kernel
theorem dX11_redeem_20 : decode cX11_redeem 20 = .ok (.invokevirtual 185, 3) := by decide +kernel
theorem dX11_redeem_23 : decode cX11_redeem 23 = .ok (.istore_n 2, 1) := by decide +kernel
theorem dX11_redeem_24 : decode cX11_redeem 24 = .ok (.iload_n 2, 1) := by decide +kernel
theorem dX11_redeem_25 : decode cX11_redeem 25 = .ok (.ifCond .eq 11, 3) := by decide +kernel
theorem dX11_redeem_28 : decode cX11_redeem 28 = .ok (.bipush 10, 2) := by decide +kernel
theorem dX11_redeem_30 : decode cX11_redeem 30 = .ok (.iload_n 2, 1) := by decide +kernel
theorem dX11_redeem_31 : decode cX11_redeem 31 = .ok (.iadd, 1) := by decide +kernel
theorem dX11_redeem_32 : decode cX11_redeem 32 = .ok (.invokestatic 108, 3) := by decide +kernel
theorem dX11_redeem_35 : decode cX11_redeem 35 = .ok (.ireturn, 1) := by decide +kernel
theorem dX11_redeem_36 : decode cX11_redeem 36 = .ok (.aload_n 0, 1) := by decide +kernel
theorem dX11_redeem_37 : decode cX11_redeem 37 = .ok (.getfield 44, 3) := by decide +kernel
theorem dX11_redeem_40 : decode cX11_redeem 40 = .ok (.aload_n 0, 1) := by decide +kernel
theorem dX11_redeem_41 : decode cX11_redeem 41 = .ok (.getfield 38, 3) := by decide +kernel
theorem dX11_redeem_44 : decode cX11_redeem 44 = .ok (.invokevirtual 171, 3) := by decide +kernel
theorem dX11_redeem_47 : decode cX11_redeem 47 = .ok (.aload_n 0, 1) := by decide +kernel
theorem dX11_redeem_48 : decode cX11_redeem 48 = .ok (.getfield 34, 3) := by decide +kernel
theorem dX11_redeem_51 : decode cX11_redeem 51 = .ok (.getfield 182, 3) := by decide +kernel
theorem dX11_redeem_54 : decode cX11_redeem 54 = .ok (.ireturn, 1) := by decide +kernel
theorem dX11_talent_0 : decode cX11_talent 0 = .ok (.aload_n 0, 1) := by decide +kernel
theorem dX11_talent_1 : decode cX11_talent 1 = .ok (.getfield 34, 3) := by decide +kernel
theorem dX11_talent_4 : decode cX11_talent 4 = .ok (.iload_n 1, 1) := by decide +kernel
theorem dX11_talent_5 : decode cX11_talent 5 = .ok (.invokevirtual 136, 3) := by decide +kernel
theorem dX11_talent_8 : decode cX11_talent 8 = .ok (.ifCond .eq 13, 3) := by decide +kernel
theorem dX11_talent_11 : decode cX11_talent 11 = .ok (.iload_n 2, 1) := by decide +kernel
theorem dX11_talent_12 : decode cX11_talent 12 = .ok (.ifCond .lt 9, 3) := by decide +kernel
theorem dX11_talent_15 : decode cX11_talent 15 = .ok (.iload_n 2, 1) := by decide +kernel
theorem dX11_talent_16 : decode cX11_talent 16 = .ok (.bipush 10, 2) := by decide +kernel
theorem dX11_talent_18 : decode cX11_talent 18 = .ok (.if_icmp .lt 9, 3) := by decide +kernel
theorem dX11_talent_21 : decode cX11_talent 21 = .ok (.bipush 11, 2) := by decide +kernel
theorem dX11_talent_23 : decode cX11_talent 23 = .ok (.invokestatic 108, 3) := by decide +kernel
theorem dX11_talent_26 : decode cX11_talent 26 = .ok (.ireturn, 1) := by decide +kernel
theorem dX11_talent_27 : decode cX11_talent 27 = .ok (.aload_n 0, 1) := by decide +kernel
theorem dX11_talent_28 : decode cX11_talent 28 = .ok (.getfield 34, 3) := by decide +kernel
theorem dX11_talent_31 : decode cX11_talent 31 = .ok (.iload_n 1, 1) := by decide +kernel
theorem dX11_talent_32 : decode cX11_talent 32 = .ok (.bipush 6, 2) := by decide +kernel
theorem dX11_talent_34 : decode cX11_talent 34 = .ok (.invokevirtual 140, 3) := by decide +kernel
theorem dX11_talent_37 : decode cX11_talent 37 = .ok (.istore_n 3, 1) := by decide +kernel
theorem dX11_talent_38 : decode cX11_talent 38 = .ok (.aload_n 0, 1) := by decide +kernel
theorem dX11_talent_39 : decode cX11_talent 39 = .ok (.getfield 44, 3) := by decide +kernel
theorem dX11_talent_42 : decode cX11_talent 42 = .ok (.aload_n 0, 1) := by decide +kernel
theorem dX11_talent_43 : decode cX11_talent 43 = .ok (.getfield 34, 3) := by decide +kernel
theorem dX11_talent_46 : decode cX11_talent 46 = .ok (.invokevirtual 171, 3) := by decide +kernel
theorem dX11_talent_49 : decode cX11_talent 49 = .ok (.aload_n 0, 1) := by decide +kernel
theorem dX11_talent_50 : decode cX11_talent 50 = .ok (.getfield 34, 3) := by decide +kernel
theorem dX11_talent_53 : decode cX11_talent 53 = .ok (.iload_n 1, 1) := by decide +kernel
theorem dX11_talent_54 : decode cX11_talent 54 = .ok (.bipush 6, 2) := by decide +kernel
theorem dX11_talent_56 : decode cX11_talent 56 = .ok (.iload_n 2, 1) := by decide +kernel
theorem dX11_talent_57 : decode cX11_talent 57 = .ok (.invokevirtual 189, 3) := by decide +kernel
theorem dX11_talent_60 : decode cX11_talent 60 = .ok (.iload_n 3, 1) := by decide +kernel
theorem dX11_talent_61 : decode cX11_talent 61 = .ok (.ireturn, 1) := by decide +kernel
theorem dX11_undo_0 : decode cX11_undo 0 = .ok (.aload_n 0, 1) := by decide +kernel
theorem dX11_undo_1 : decode cX11_undo 1 = .ok (.getfield 44, 3) := by decide +kernel
theorem dX11_undo_4 : decode cX11_undo 4 = .ok (.iload_n 1, 1) := by decide +kernel
theorem dX11_undo_5 : decode cX11_undo 5 = .ok (.aload_n 0, 1) := by decide +kernel
theorem dX11_undo_6 : decode cX11_undo 6 = .ok (.getfield 34, 3) := by decide +kernel
theorem dX11_undo_9 : decode cX11_undo 9 = .ok (.invokevirtual 193, 3) := by decide +kernel
theorem dX11_undo_12 : decode cX11_undo 12 = .ok (.ifCond .ne 8, 3) := by decide +kernel
theorem dX11_undo_15 : decode cX11_undo 15 = .ok (.iconst 3, 1) := by decide +kernel
theorem dX11_undo_16 : decode cX11_undo 16 = .ok (.invokestatic 108, 3) := by decide +kernel
theorem dX11_undo_19 : decode cX11_undo 19 = .ok (.ireturn, 1) := by decide +kernel
theorem dX11_undo_20 : decode cX11_undo 20 = .ok (.aload_n 0, 1) := by decide +kernel
theorem dX11_undo_21 : decode cX11_undo 21 = .ok (.getfield 44, 3) := by decide +kernel
theorem dX11_undo_24 : decode cX11_undo 24 = .ok (.getfield 197, 3) := by decide +kernel
theorem dX11_undo_27 : decode cX11_undo 27 = .ok (.ireturn, 1) := by decide +kernel
theorem dX11_judge_0 : decode cX11_judge 0 = .ok (.aload_n 0, 1) := by decide +kernel
theorem dX11_judge_1 : decode cX11_judge 1 = .ok (.iload_n 1, 1) := by decide +kernel
theorem dX11_judge_2 : decode cX11_judge 2 = .ok (.invokevirtual 200, 3) := by decide +kernel
theorem dX11_judge_5 : decode cX11_judge 5 = .ok (.astore_n 3, 1) := by decide +kernel
theorem dX11_judge_6 : decode cX11_judge 6 = .ok (.aload_n 3, 1) := by decide +kernel
theorem dX11_judge_7 : decode cX11_judge 7 = .ok (.ifnull 12, 3) := by decide +kernel
theorem dX11_judge_10 : decode cX11_judge 10 = .ok (.iload_n 2, 1) := by decide +kernel
theorem dX11_judge_11 : decode cX11_judge 11 = .ok (.ifCond .lt 8, 3) := by decide +kernel
theorem dX11_judge_14 : decode cX11_judge 14 = .ok (.iload_n 2, 1) := by decide +kernel
theorem dX11_judge_15 : decode cX11_judge 15 = .ok (.iconst 3, 1) := by decide +kernel
theorem dX11_judge_16 : decode cX11_judge 16 = .ok (.if_icmp .le 8, 3) := by decide +kernel
theorem dX11_judge_19 : decode cX11_judge 19 = .ok (.iconst 2, 1) := by decide +kernel
theorem dX11_judge_20 : decode cX11_judge 20 = .ok (.invokestatic 108, 3) := by decide +kernel
theorem dX11_judge_23 : decode cX11_judge 23 = .ok (.ireturn, 1) := by decide +kernel
theorem dX11_judge_24 : decode cX11_judge 24 = .ok (.aload_n 3, 1) := by decide +kernel
theorem dX11_judge_25 : decode cX11_judge 25 = .ok (.getfield 204, 3) := by decide +kernel
theorem dX11_judge_28 : decode cX11_judge 28 = .ok (.ifCond .ne 9, 3) := by decide +kernel
theorem dX11_judge_31 : decode cX11_judge 31 = .ok (.bipush 6, 2) := by decide +kernel
theorem dX11_judge_33 : decode cX11_judge 33 = .ok (.invokestatic 108, 3) := by decide +kernel
theorem dX11_judge_36 : decode cX11_judge 36 = .ok (.ireturn, 1) := by decide +kernel
theorem dX11_judge_37 : decode cX11_judge 37 = .ok (.aload_n 0, 1) := by decide +kernel
theorem dX11_judge_38 : decode cX11_judge 38 = .ok (.getfield 38, 3) := by decide +kernel
theorem dX11_judge_41 : decode cX11_judge 41 = .ok (.aload_n 0, 1) := by decide +kernel
theorem dX11_judge_42 : decode cX11_judge 42 = .ok (.getfield 34, 3) := by decide +kernel
theorem dX11_judge_45 : decode cX11_judge 45 = .ok (.invokevirtual 163, 3) := by decide +kernel
theorem dX11_judge_48 : decode cX11_judge 48 = .ok (.aload_n 0, 1) := by decide +kernel
theorem dX11_judge_49 : decode cX11_judge 49 = .ok (.getfield 74, 3) := by decide +kernel
theorem dX11_judge_52 : decode cX11_judge 52 = .ok (.aload_n 0, 1) := by decide +kernel
theorem dX11_judge_53 : decode cX11_judge 53 = .ok (.getfield 27, 3) := by decide +kernel
theorem dX11_judge_56 : decode cX11_judge 56 = .ok (.aload_n 0, 1) := by decide +kernel
theorem dX11_judge_57 : decode cX11_judge 57 = .ok (.getfield 38, 3) := by decide +kernel
theorem dX11_judge_60 : decode cX11_judge 60 = .ok (.aload_n 3, 1) := by decide +kernel
theorem dX11_judge_61 : decode cX11_judge 61 = .ok (.invokevirtual 208, 3) := by decide +kernel
theorem dX11_judge_64 : decode cX11_judge 64 = .ok (.istore 4, 2) := by decide +kernel
theorem dX11_judge_66 : decode cX11_judge 66 = .ok (.iload_n 2, 1) := by decide +kernel
theorem dX11_judge_67 : decode cX11_judge 67 = .ok (.ifCond .ne 19, 3) := by decide +kernel
theorem dX11_judge_70 : decode cX11_judge 70 = .ok (.iload 4, 2) := by decide +kernel
theorem dX11_judge_72 : decode cX11_judge 72 = .ok (.aload_n 3, 1) := by decide +kernel
theorem dX11_judge_73 : decode cX11_judge 73 = .ok (.getfield 212, 3) := by decide +kernel
theorem dX11_judge_76 : decode cX11_judge 76 = .ok (.if_icmp .ge 8, 3) := by decide +kernel
theorem dX11_judge_79 : decode cX11_judge 79 = .ok (.iload 4, 2) := by decide +kernel
theorem dX11_judge_81 : decode cX11_judge 81 = .ok (.goto 4, 3) := by decide +kernel
theorem dX11_judge_84 : decode cX11_judge 84 = .ok (.iconst (-1), 1) := by decide +kernel
theorem dX11_judge_85 : decode cX11_judge 85 = .ok (.ireturn, 1) := by decide +kernel
theorem dX11_judge_86 : decode cX11_judge 86 = .ok (.iload_n 2, 1) := by decide +kernel
theorem dX11_judge_87 : decode cX11_judge 87 = .ok (.iconst 1, 1) := by decide +kernel
theorem dX11_judge_88 : decode cX11_judge 88 = .ok (.if_icmp .ne 11, 3) := by decide +kernel
theorem dX11_judge_91 : decode cX11_judge 91 = .ok (.aload_n 0, 1) := by decide +kernel
theorem dX11_judge_92 : decode cX11_judge 92 = .ok (.getfield 74, 3) := by decide +kernel
theorem dX11_judge_95 : decode cX11_judge 95 = .ok (.getfield 213, 3) := by decide +kernel
theorem dX11_judge_98 : decode cX11_judge 98 = .ok (.ireturn, 1) := by decide +kernel
theorem dX11_judge_99 : decode cX11_judge 99 = .ok (.iload_n 2, 1) := by decide +kernel
theorem dX11_judge_100 : decode cX11_judge 100 = .ok (.iconst 2, 1) := by decide +kernel
theorem dX11_judge_101 : decode cX11_judge 101 = .ok (.if_icmp .ne 13, 3) := by decide +kernel
theorem dX11_judge_104 : decode cX11_judge 104 = .ok (.aload_n 0, 1) := by decide +kernel
theorem dX11_judge_105 : decode cX11_judge 105 = .ok (.getfield 38, 3) := by decide +kernel
theorem dX11_judge_108 : decode cX11_judge 108 = .ok (.invokevirtual 216, 3) := by decide +kernel
theorem dX11_judge_111 : decode cX11_judge 111 = .ok (.goto 10, 3) := by decide +kernel
theorem dX11_judge_114 : decode cX11_judge 114 = .ok (.aload_n 0, 1) := by decide +kernel
theorem dX11_judge_115 : decode cX11_judge 115 = .ok (.getfield 38, 3) := by decide +kernel
theorem dX11_judge_118 : decode cX11_judge 118 = .ok (.invokevirtual 220, 3) := by decide +kernel
theorem dX11_judge_121 : decode cX11_judge 121 = .ok (.ireturn, 1) := by decide +kernel
theorem dX11_perform_0 : decode cX11_perform 0 = .ok (.aload_n 0, 1) := by decide +kernel
theorem dX11_perform_1 : decode cX11_perform 1 = .ok (.iload_n 1, 1) := by decide +kernel
theorem dX11_perform_2 : decode cX11_perform 2 = .ok (.invokevirtual 200, 3) := by decide +kernel
theorem dX11_perform_5 : decode cX11_perform 5 = .ok (.astore_n 2, 1) := by decide +kernel
theorem dX11_perform_6 : decode cX11_perform 6 = .ok (.aload_n 2, 1) := by decide +kernel
theorem dX11_perform_7 : decode cX11_perform 7 = .ok (.ifnonnull 8, 3) := by decide +kernel
theorem dX11_perform_10 : decode cX11_perform 10 = .ok (.iconst 2, 1) := by decide +kernel
theorem dX11_perform_11 : decode cX11_perform 11 = .ok (.invokestatic 108, 3) := by decide +kernel
theorem dX11_perform_14 : decode cX11_perform 14 = .ok (.ireturn, 1) := by decide +kernel
theorem dX11_perform_15 : decode cX11_perform 15 = .ok (.aload_n 2, 1) := by decide +kernel
theorem dX11_perform_16 : decode cX11_perform 16 = .ok (.getfield 204, 3) := by decide +kernel
theorem dX11_perform_19 : decode cX11_perform 19 = .ok (.ifCond .ne 9, 3) := by decide +kernel
theorem dX11_perform_22 : decode cX11_perform 22 = .ok (.bipush 6, 2) := by decide +kernel
theorem dX11_perform_24 : decode cX11_perform 24 = .ok (.invokestatic 108, 3) := by decide +kernel
theorem dX11_perform_27 : decode cX11_perform 27 = .ok (.ireturn, 1) := by decide +kernel
theorem dX11_perform_28 : decode cX11_perform 28 = .ok (.aload_n 0, 1) := by decide +kernel
theorem dX11_perform_29 : decode cX11_perform 29 = .ok (.getfield 38, 3) := by decide +kernel
theorem dX11_perform_32 : decode cX11_perform 32 = .ok (.aload_n 0, 1) := by decide +kernel
theorem dX11_perform_33 : decode cX11_perform 33 = .ok (.getfield 34, 3) := by decide +kernel
theorem dX11_perform_36 : decode cX11_perform 36 = .ok (.invokevirtual 163, 3) := by decide +kernel
theorem dX11_perform_39 : decode cX11_perform 39 = .ok (.aload_n 0, 1) := by decide +kernel
theorem dX11_perform_40 : decode cX11_perform 40 = .ok (.getfield 74, 3) := by decide +kernel
theorem dX11_perform_43 : decode cX11_perform 43 = .ok (.aload_n 0, 1) := by decide +kernel
theorem dX11_perform_44 : decode cX11_perform 44 = .ok (.getfield 27, 3) := by decide +kernel
theorem dX11_perform_47 : decode cX11_perform 47 = .ok (.aload_n 0, 1) := by decide +kernel
theorem dX11_perform_48 : decode cX11_perform 48 = .ok (.getfield 34, 3) := by decide +kernel
theorem dX11_perform_51 : decode cX11_perform 51 = .ok (.aload_n 2, 1) := by decide +kernel
theorem dX11_perform_52 : decode cX11_perform 52 = .ok (.invokevirtual 208, 3) := by decide +kernel
theorem dX11_perform_55 : decode cX11_perform 55 = .ok (.istore_n 3, 1) := by decide +kernel
theorem dX11_perform_56 : decode cX11_perform 56 = .ok (.iload_n 3, 1) := by decide +kernel
theorem dX11_perform_57 : decode cX11_perform 57 = .ok (.ifCond .le 14, 3) := by decide +kernel
theorem dX11_perform_60 : decode cX11_perform 60 = .ok (.aload_n 0, 1) := by decide +kernel
theorem dX11_perform_61 : decode cX11_perform 61 = .ok (.getfield 44, 3) := by decide +kernel
theorem dX11_perform_64 : decode cX11_perform 64 = .ok (.aload_n 0, 1) := by decide +kernel
theorem dX11_perform_65 : decode cX11_perform 65 = .ok (.getfield 38, 3) := by decide +kernel
theorem dX11_perform_68 : decode cX11_perform 68 = .ok (.invokevirtual 171, 3) := by decide +kernel
theorem dX11_perform_71 : decode cX11_perform 71 = .ok (.iload_n 3, 1) := by decide +kernel
theorem dX11_perform_72 : decode cX11_perform 72 = .ok (.ireturn, 1) := by decide +kernel
theorem dX11_season_0 : decode cX11_season 0 = .ok (.iload_n 2, 1) := by decide +kernel
theorem dX11_season_1 : decode cX11_season 1 = .ok (.iconst 1, 1) := by decide +kernel
theorem dX11_season_2 : decode cX11_season 2 = .ok (.if_icmp .lt 9, 3) := by decide +kernel
theorem dX11_season_5 : decode cX11_season 5 = .ok (.iload_n 2, 1) := by decide +kernel
theorem dX11_season_6 : decode cX11_season 6 = .ok (.bipush 40, 2) := by decide +kernel
theorem dX11_season_8 : decode cX11_season 8 = .ok (.if_icmp .le 8, 3) := by decide +kernel
theorem dX11_season_11 : decode cX11_season 11 = .ok (.iconst 3, 1) := by decide +kernel
theorem dX11_season_12 : decode cX11_season 12 = .ok (.invokestatic 108, 3) := by decide +kernel
theorem dX11_season_15 : decode cX11_season 15 = .ok (.ireturn, 1) := by decide +kernel
theorem dX11_season_16 : decode cX11_season 16 = .ok (.aload_n 0, 1) := by decide +kernel
theorem dX11_season_17 : decode cX11_season 17 = .ok (.getfield 38, 3) := by decide +kernel
theorem dX11_season_20 : decode cX11_season 20 = .ok (.aload_n 0, 1) := by decide +kernel
theorem dX11_season_21 : decode cX11_season 21 = .ok (.getfield 34, 3) := by decide +kernel
theorem dX11_season_24 : decode cX11_season 24 = .ok (.invokevirtual 163, 3) := by decide +kernel
theorem dX11_season_27 : decode cX11_season 27 = .ok (.aload_n 0, 1) := by decide +kernel
theorem dX11_season_28 : decode cX11_season 28 = .ok (.getfield 74, 3) := by decide +kernel
theorem dX11_season_31 : decode cX11_season 31 = .ok (.aload_n 0, 1) := by decide +kernel
theorem dX11_season_32 : decode cX11_season 32 = .ok (.getfield 27, 3) := by decide +kernel
theorem dX11_season_35 : decode cX11_season 35 = .ok (.aload_n 0, 1) := by decide +kernel
theorem dX11_season_36 : decode cX11_season 36 = .ok (.getfield 34, 3) := by decide +kernel
theorem dX11_season_39 : decode cX11_season 39 = .ok (.iload_n 1, 1) := by decide +kernel
theorem dX11_season_40 : decode cX11_season 40 = .ok (.iload_n 2, 1) := by decide +kernel
theorem dX11_season_41 : decode cX11_season 41 = .ok (.invokevirtual 223, 3) := by decide +kernel
theorem dX11_season_44 : decode cX11_season 44 = .ok (.istore_n 3, 1) := by decide +kernel
theorem dX11_season_45 : decode cX11_season 45 = .ok (.iload_n 3, 1) := by decide +kernel
theorem dX11_season_46 : decode cX11_season 46 = .ok (.ifCond .le 14, 3) := by decide +kernel
theorem dX11_season_49 : decode cX11_season 49 = .ok (.aload_n 0, 1) := by decide +kernel
theorem dX11_season_50 : decode cX11_season 50 = .ok (.getfield 44, 3) := by decide +kernel
theorem dX11_season_53 : decode cX11_season 53 = .ok (.aload_n 0, 1) := by decide +kernel
theorem dX11_season_54 : decode cX11_season 54 = .ok (.getfield 38, 3) := by decide +kernel
theorem dX11_season_57 : decode cX11_season 57 = .ok (.invokevirtual 171, 3) := by decide +kernel
theorem dX11_season_60 : decode cX11_season 60 = .ok (.iload_n 3, 1) := by decide +kernel
theorem dX11_season_61 : decode cX11_season 61 = .ok (.ireturn, 1) := by decide +kernel
theorem dX11_best_0 : decode cX11_best 0 = .ok (.aload_n 0, 1) := by decide +kernel
theorem dX11_best_1 : decode cX11_best 1 = .ok (.getfield 34, 3) := by decide +kernel
theorem dX11_best_4 : decode cX11_best 4 = .ok (.iload_n 1, 1) := by decide +kernel
theorem dX11_best_5 : decode cX11_best 5 = .ok (.invokevirtual 136, 3) := by decide +kernel
theorem dX11_best_8 : decode cX11_best 8 = .ok (.ifCond .ne 8, 3) := by decide +kernel
theorem dX11_best_11 : decode cX11_best 11 = .ok (.iconst 2, 1) := by decide +kernel
theorem dX11_best_12 : decode cX11_best 12 = .ok (.invokestatic 108, 3) := by decide +kernel
theorem dX11_best_15 : decode cX11_best 15 = .ok (.ireturn, 1) := by decide +kernel
theorem dX11_best_16 : decode cX11_best 16 = .ok (.aload_n 0, 1) := by decide +kernel
theorem dX11_best_17 : decode cX11_best 17 = .ok (.getfield 81, 3) := by decide +kernel
theorem dX11_best_20 : decode cX11_best 20 = .ok (.aload_n 0, 1) := by decide +kernel
theorem dX11_best_21 : decode cX11_best 21 = .ok (.getfield 27, 3) := by decide +kernel
theorem dX11_best_24 : decode cX11_best 24 = .ok (.aload_n 0, 1) := by decide +kernel
theorem dX11_best_25 : decode cX11_best 25 = .ok (.getfield 34, 3) := by decide +kernel
theorem dX11_best_28 : decode cX11_best 28 = .ok (.iload_n 1, 1) := by decide +kernel
theorem dX11_best_29 : decode cX11_best 29 = .ok (.invokevirtual 227, 3) := by decide +kernel
theorem dX11_best_32 : decode cX11_best 32 = .ok (.aload_n 0, 1) := by decide +kernel
theorem dX11_best_33 : decode cX11_best 33 = .ok (.getfield 90, 3) := by decide +kernel
theorem dX11_best_36 : decode cX11_best 36 = .ok (.aload_n 0, 1) := by decide +kernel
theorem dX11_best_37 : decode cX11_best 37 = .ok (.getfield 81, 3) := by decide +kernel
theorem dX11_best_40 : decode cX11_best 40 = .ok (.getfield 230, 3) := by decide +kernel
theorem dX11_best_43 : decode cX11_best 43 = .ok (.invokevirtual 233, 3) := by decide +kernel
theorem dX11_best_46 : decode cX11_best 46 = .ok (.ireturn, 1) := by decide +kernel
theorem dX11_course_0 : decode cX11_course 0 = .ok (.aload_n 0, 1) := by decide +kernel
theorem dX11_course_1 : decode cX11_course 1 = .ok (.getfield 34, 3) := by decide +kernel
theorem dX11_course_4 : decode cX11_course 4 = .ok (.iload_n 1, 1) := by decide +kernel
theorem dX11_course_5 : decode cX11_course 5 = .ok (.invokevirtual 136, 3) := by decide +kernel
theorem dX11_course_8 : decode cX11_course 8 = .ok (.ifCond .ne 8, 3) := by decide +kernel
theorem dX11_course_11 : decode cX11_course 11 = .ok (.iconst 2, 1) := by decide +kernel
theorem dX11_course_12 : decode cX11_course 12 = .ok (.invokestatic 108, 3) := by decide +kernel
theorem dX11_course_15 : decode cX11_course 15 = .ok (.ireturn, 1) := by decide +kernel
theorem dX11_course_16 : decode cX11_course 16 = .ok (.iload_n 2, 1) := by decide +kernel
theorem dX11_course_17 : decode cX11_course 17 = .ok (.ifCond .ge 8, 3) := by decide +kernel
theorem dX11_course_20 : decode cX11_course 20 = .ok (.iconst 3, 1) := by decide +kernel
theorem dX11_course_21 : decode cX11_course 21 = .ok (.invokestatic 108, 3) := by decide +kernel
theorem dX11_course_24 : decode cX11_course 24 = .ok (.ireturn, 1) := by decide +kernel
theorem dX11_course_25 : decode cX11_course 25 = .ok (.aload_n 0, 1) := by decide +kernel
theorem dX11_course_26 : decode cX11_course 26 = .ok (.getfield 81, 3) := by decide +kernel
theorem dX11_course_29 : decode cX11_course 29 = .ok (.aload_n 0, 1) := by decide +kernel
theorem dX11_course_30 : decode cX11_course 30 = .ok (.getfield 27, 3) := by decide +kernel
theorem dX11_course_33 : decode cX11_course 33 = .ok (.aload_n 0, 1) := by decide +kernel
theorem dX11_course_34 : decode cX11_course 34 = .ok (.getfield 34, 3) := by decide +kernel
theorem dX11_course_37 : decode cX11_course 37 = .ok (.iload_n 1, 1) := by decide +kernel
theorem dX11_course_38 : decode cX11_course 38 = .ok (.invokevirtual 227, 3) := by decide +kernel
theorem dX11_course_41 : decode cX11_course 41 = .ok (.aload_n 0, 1) := by decide +kernel
theorem dX11_course_42 : decode cX11_course 42 = .ok (.getfield 90, 3) := by decide +kernel
theorem dX11_course_45 : decode cX11_course 45 = .ok (.iload_n 2, 1) := by decide +kernel
theorem dX11_course_46 : decode cX11_course 46 = .ok (.invokevirtual 236, 3) := by decide +kernel
theorem dX11_course_49 : decode cX11_course 49 = .ok (.ireturn, 1) := by decide +kernel
theorem dX11_drawsAt_0 : decode cX11_drawsAt 0 = .ok (.aload_n 0, 1) := by decide +kernel
theorem dX11_drawsAt_1 : decode cX11_drawsAt 1 = .ok (.getfield 34, 3) := by decide +kernel
theorem dX11_drawsAt_4 : decode cX11_drawsAt 4 = .ok (.iload_n 1, 1) := by decide +kernel
theorem dX11_drawsAt_5 : decode cX11_drawsAt 5 = .ok (.invokevirtual 136, 3) := by decide +kernel
theorem dX11_drawsAt_8 : decode cX11_drawsAt 8 = .ok (.ifCond .ne 8, 3) := by decide +kernel
theorem dX11_drawsAt_11 : decode cX11_drawsAt 11 = .ok (.iconst 2, 1) := by decide +kernel
theorem dX11_drawsAt_12 : decode cX11_drawsAt 12 = .ok (.invokestatic 108, 3) := by decide +kernel
theorem dX11_drawsAt_15 : decode cX11_drawsAt 15 = .ok (.ireturn, 1) := by decide +kernel
theorem dX11_drawsAt_16 : decode cX11_drawsAt 16 = .ok (.aload_n 0, 1) := by decide +kernel
theorem dX11_drawsAt_17 : decode cX11_drawsAt 17 = .ok (.getfield 81, 3) := by decide +kernel
theorem dX11_drawsAt_20 : decode cX11_drawsAt 20 = .ok (.aload_n 0, 1) := by decide +kernel
theorem dX11_drawsAt_21 : decode cX11_drawsAt 21 = .ok (.getfield 27, 3) := by decide +kernel
theorem dX11_drawsAt_24 : decode cX11_drawsAt 24 = .ok (.aload_n 0, 1) := by decide +kernel
theorem dX11_drawsAt_25 : decode cX11_drawsAt 25 = .ok (.getfield 34, 3) := by decide +kernel
theorem dX11_drawsAt_28 : decode cX11_drawsAt 28 = .ok (.iload_n 1, 1) := by decide +kernel
theorem dX11_drawsAt_29 : decode cX11_drawsAt 29 = .ok (.invokevirtual 227, 3) := by decide +kernel
theorem dX11_drawsAt_32 : decode cX11_drawsAt 32 = .ok (.aload_n 0, 1) := by decide +kernel
theorem dX11_drawsAt_33 : decode cX11_drawsAt 33 = .ok (.getfield 90, 3) := by decide +kernel
theorem dX11_drawsAt_36 : decode cX11_drawsAt 36 = .ok (.invokevirtual 239, 3) := by decide +kernel
theorem dX11_drawsAt_39 : decode cX11_drawsAt 39 = .ok (.ireturn, 1) := by decide +kernel
theorem dX11_courses_0 : decode cX11_courses 0 = .ok (.aload_n 0, 1) := by decide +kernel
theorem dX11_courses_1 : decode cX11_courses 1 = .ok (.getfield 34, 3) := by decide +kernel
theorem dX11_courses_4 : decode cX11_courses 4 = .ok (.iload_n 1, 1) := by decide +kernel
theorem dX11_courses_5 : decode cX11_courses 5 = .ok (.invokevirtual 136, 3) := by decide +kernel
theorem dX11_courses_8 : decode cX11_courses 8 = .ok (.ifCond .ne 9, 3) := by decide +kernel
theorem dX11_courses_11 : decode cX11_courses 11 = .ok (.iconst 2, 1) := by decide +kernel
theorem dX11_courses_12 : decode cX11_courses 12 = .ok (.invokestatic 108, 3) := by decide +kernel
theorem dX11_courses_15 : decode cX11_courses 15 = .ok (.i2l, 1) := by decide +kernel
theorem dX11_courses_16 : decode cX11_courses 16 = .ok (.lreturn, 1) := by decide +kernel
theorem dX11_courses_17 : decode cX11_courses 17 = .ok (.aload_n 0, 1) := by decide +kernel
theorem dX11_courses_18 : decode cX11_courses 18 = .ok (.getfield 81, 3) := by decide +kernel
theorem dX11_courses_21 : decode cX11_courses 21 = .ok (.aload_n 0, 1) := by decide +kernel
theorem dX11_courses_22 : decode cX11_courses 22 = .ok (.getfield 27, 3) := by decide +kernel
theorem dX11_courses_25 : decode cX11_courses 25 = .ok (.aload_n 0, 1) := by decide +kernel
theorem dX11_courses_26 : decode cX11_courses 26 = .ok (.getfield 34, 3) := by decide +kernel
theorem dX11_courses_29 : decode cX11_courses 29 = .ok (.iload_n 1, 1) := by decide +kernel
theorem dX11_courses_30 : decode cX11_courses 30 = .ok (.invokevirtual 227, 3) := by decide +kernel
theorem dX11_courses_33 : decode cX11_courses 33 = .ok (.aload_n 0, 1) := by decide +kernel
theorem dX11_courses_34 : decode cX11_courses 34 = .ok (.getfield 90, 3) := by decide +kernel
theorem dX11_courses_37 : decode cX11_courses 37 = .ok (.invokevirtual 242, 3) := by decide +kernel
theorem dX11_courses_40 : decode cX11_courses 40 = .ok (.lreturn, 1) := by decide +kernel
theorem dX11_soonest_0 : decode cX11_soonest 0 = .ok (.aload_n 0, 1) := by decide +kernel
theorem dX11_soonest_1 : decode cX11_soonest 1 = .ok (.getfield 34, 3) := by decide +kernel
theorem dX11_soonest_4 : decode cX11_soonest 4 = .ok (.iload_n 1, 1) := by decide +kernel
theorem dX11_soonest_5 : decode cX11_soonest 5 = .ok (.invokevirtual 136, 3) := by decide +kernel
theorem dX11_soonest_8 : decode cX11_soonest 8 = .ok (.ifCond .ne 8, 3) := by decide +kernel
theorem dX11_soonest_11 : decode cX11_soonest 11 = .ok (.iconst 2, 1) := by decide +kernel
theorem dX11_soonest_12 : decode cX11_soonest 12 = .ok (.invokestatic 108, 3) := by decide +kernel
theorem dX11_soonest_15 : decode cX11_soonest 15 = .ok (.ireturn, 1) := by decide +kernel
theorem dX11_soonest_16 : decode cX11_soonest 16 = .ok (.aload_n 0, 1) := by decide +kernel
theorem dX11_soonest_17 : decode cX11_soonest 17 = .ok (.getfield 81, 3) := by decide +kernel
theorem dX11_soonest_20 : decode cX11_soonest 20 = .ok (.aload_n 0, 1) := by decide +kernel
theorem dX11_soonest_21 : decode cX11_soonest 21 = .ok (.getfield 27, 3) := by decide +kernel
theorem dX11_soonest_24 : decode cX11_soonest 24 = .ok (.aload_n 0, 1) := by decide +kernel
theorem dX11_soonest_25 : decode cX11_soonest 25 = .ok (.getfield 34, 3) := by decide +kernel
theorem dX11_soonest_28 : decode cX11_soonest 28 = .ok (.iload_n 1, 1) := by decide +kernel
theorem dX11_soonest_29 : decode cX11_soonest 29 = .ok (.invokevirtual 227, 3) := by decide +kernel
theorem dX11_soonest_32 : decode cX11_soonest 32 = .ok (.aload_n 0, 1) := by decide +kernel
theorem dX11_soonest_33 : decode cX11_soonest 33 = .ok (.getfield 90, 3) := by decide +kernel
theorem dX11_soonest_36 : decode cX11_soonest 36 = .ok (.iload_n 2, 1) := by decide +kernel
theorem dX11_soonest_37 : decode cX11_soonest 37 = .ok (.i2l, 1) := by decide +kernel
theorem dX11_soonest_38 : decode cX11_soonest 38 = .ok (.aload_n 0, 1) := by decide +kernel
theorem dX11_soonest_39 : decode cX11_soonest 39 = .ok (.getfield 34, 3) := by decide +kernel
theorem dX11_soonest_42 : decode cX11_soonest 42 = .ok (.iload_n 1, 1) := by decide +kernel
theorem dX11_soonest_43 : decode cX11_soonest 43 = .ok (.iconst 2, 1) := by decide +kernel
theorem dX11_soonest_44 : decode cX11_soonest 44 = .ok (.invokevirtual 140, 3) := by decide +kernel
theorem dX11_soonest_47 : decode cX11_soonest 47 = .ok (.i2l, 1) := by decide +kernel
theorem dX11_soonest_48 : decode cX11_soonest 48 = .ok (.lsub, 1) := by decide +kernel
theorem dX11_soonest_49 : decode cX11_soonest 49 = .ok (.invokevirtual 246, 3) := by decide +kernel
theorem dX11_soonest_52 : decode cX11_soonest 52 = .ok (.ireturn, 1) := by decide +kernel
theorem dX11_mean_0 : decode cX11_mean 0 = .ok (.aload_n 0, 1) := by decide +kernel
theorem dX11_mean_1 : decode cX11_mean 1 = .ok (.getfield 34, 3) := by decide +kernel
theorem dX11_mean_4 : decode cX11_mean 4 = .ok (.iload_n 1, 1) := by decide +kernel
theorem dX11_mean_5 : decode cX11_mean 5 = .ok (.invokevirtual 136, 3) := by decide +kernel
theorem dX11_mean_8 : decode cX11_mean 8 = .ok (.ifCond .eq 12, 3) := by decide +kernel
theorem dX11_mean_11 : decode cX11_mean 11 = .ok (.iload_n 2, 1) := by decide +kernel
theorem dX11_mean_12 : decode cX11_mean 12 = .ok (.ifCond .lt 8, 3) := by decide +kernel
theorem dX11_mean_15 : decode cX11_mean 15 = .ok (.iload_n 2, 1) := by decide +kernel
theorem dX11_mean_16 : decode cX11_mean 16 = .ok (.iconst 1, 1) := by decide +kernel
theorem dX11_mean_17 : decode cX11_mean 17 = .ok (.if_icmp .le 9, 3) := by decide +kernel
theorem dX11_mean_20 : decode cX11_mean 20 = .ok (.iconst 2, 1) := by decide +kernel
theorem dX11_mean_21 : decode cX11_mean 21 = .ok (.invokestatic 108, 3) := by decide +kernel
theorem dX11_mean_24 : decode cX11_mean 24 = .ok (.i2l, 1) := by decide +kernel
theorem dX11_mean_25 : decode cX11_mean 25 = .ok (.lreturn, 1) := by decide +kernel
theorem dX11_mean_26 : decode cX11_mean 26 = .ok (.aload_n 0, 1) := by decide +kernel
theorem dX11_mean_27 : decode cX11_mean 27 = .ok (.getfield 81, 3) := by decide +kernel
theorem dX11_mean_30 : decode cX11_mean 30 = .ok (.aload_n 0, 1) := by decide +kernel
theorem dX11_mean_31 : decode cX11_mean 31 = .ok (.getfield 27, 3) := by decide +kernel
theorem dX11_mean_34 : decode cX11_mean 34 = .ok (.aload_n 0, 1) := by decide +kernel
theorem dX11_mean_35 : decode cX11_mean 35 = .ok (.getfield 34, 3) := by decide +kernel
theorem dX11_mean_38 : decode cX11_mean 38 = .ok (.iload_n 1, 1) := by decide +kernel
theorem dX11_mean_39 : decode cX11_mean 39 = .ok (.invokevirtual 227, 3) := by decide +kernel
theorem dX11_mean_42 : decode cX11_mean 42 = .ok (.aload_n 0, 1) := by decide +kernel
theorem dX11_mean_43 : decode cX11_mean 43 = .ok (.getfield 99, 3) := by decide +kernel
theorem dX11_mean_46 : decode cX11_mean 46 = .ok (.aload_n 0, 1) := by decide +kernel
theorem dX11_mean_47 : decode cX11_mean 47 = .ok (.getfield 99, 3) := by decide +kernel
theorem dX11_mean_50 : decode cX11_mean 50 = .ok (.aload_n 0, 1) := by decide +kernel
theorem dX11_mean_51 : decode cX11_mean 51 = .ok (.getfield 81, 3) := by decide +kernel
theorem dX11_mean_54 : decode cX11_mean 54 = .ok (.getfield 230, 3) := by decide +kernel
theorem dX11_mean_57 : decode cX11_mean 57 = .ok (.invokevirtual 250, 3) := by decide +kernel
theorem dX11_mean_60 : decode cX11_mean 60 = .ok (.iload_n 2, 1) := by decide +kernel
theorem dX11_mean_61 : decode cX11_mean 61 = .ok (.invokevirtual 254, 3) := by decide +kernel
theorem dX11_mean_64 : decode cX11_mean 64 = .ok (.lreturn, 1) := by decide +kernel
theorem dX11_choice_0 : decode cX11_choice 0 = .ok (.aload_n 0, 1) := by decide +kernel
theorem dX11_choice_1 : decode cX11_choice 1 = .ok (.getfield 34, 3) := by decide +kernel
theorem dX11_choice_4 : decode cX11_choice 4 = .ok (.iload_n 1, 1) := by decide +kernel
theorem dX11_choice_5 : decode cX11_choice 5 = .ok (.invokevirtual 136, 3) := by decide +kernel
theorem dX11_choice_8 : decode cX11_choice 8 = .ok (.ifCond .ne 8, 3) := by decide +kernel
theorem dX11_choice_11 : decode cX11_choice 11 = .ok (.iconst 2, 1) := by decide +kernel
theorem dX11_choice_12 : decode cX11_choice 12 = .ok (.invokestatic 108, 3) := by decide +kernel
theorem dX11_choice_15 : decode cX11_choice 15 = .ok (.ireturn, 1) := by decide +kernel
theorem dX11_choice_16 : decode cX11_choice 16 = .ok (.aload_n 0, 1) := by decide +kernel
theorem dX11_choice_17 : decode cX11_choice 17 = .ok (.getfield 81, 3) := by decide +kernel
theorem dX11_choice_20 : decode cX11_choice 20 = .ok (.aload_n 0, 1) := by decide +kernel
theorem dX11_choice_21 : decode cX11_choice 21 = .ok (.getfield 27, 3) := by decide +kernel
theorem dX11_choice_24 : decode cX11_choice 24 = .ok (.aload_n 0, 1) := by decide +kernel
theorem dX11_choice_25 : decode cX11_choice 25 = .ok (.getfield 34, 3) := by decide +kernel
theorem dX11_choice_28 : decode cX11_choice 28 = .ok (.iload_n 1, 1) := by decide +kernel
theorem dX11_choice_29 : decode cX11_choice 29 = .ok (.invokevirtual 227, 3) := by decide +kernel
theorem dX11_choice_32 : decode cX11_choice 32 = .ok (.aload_n 0, 1) := by decide +kernel
theorem dX11_choice_33 : decode cX11_choice 33 = .ok (.getfield 99, 3) := by decide +kernel
theorem dX11_choice_36 : decode cX11_choice 36 = .ok (.invokevirtual 258, 3) := by decide +kernel
theorem dX11_choice_39 : decode cX11_choice 39 = .ok (.ireturn, 1) := by decide +kernel
theorem dX11_drawing_0 : decode cX11_drawing 0 = .ok (.aload_n 0, 1) := by decide +kernel
theorem dX11_drawing_1 : decode cX11_drawing 1 = .ok (.getfield 34, 3) := by decide +kernel
theorem dX11_drawing_4 : decode cX11_drawing 4 = .ok (.iload_n 1, 1) := by decide +kernel
theorem dX11_drawing_5 : decode cX11_drawing 5 = .ok (.invokevirtual 136, 3) := by decide +kernel
theorem dX11_drawing_8 : decode cX11_drawing 8 = .ok (.ifCond .ne 8, 3) := by decide +kernel
theorem dX11_drawing_11 : decode cX11_drawing 11 = .ok (.iconst 2, 1) := by decide +kernel
theorem dX11_drawing_12 : decode cX11_drawing 12 = .ok (.invokestatic 108, 3) := by decide +kernel
theorem dX11_drawing_15 : decode cX11_drawing 15 = .ok (.ireturn, 1) := by decide +kernel
theorem dX11_drawing_16 : decode cX11_drawing 16 = .ok (.aload_n 0, 1) := by decide +kernel
theorem dX11_drawing_17 : decode cX11_drawing 17 = .ok (.getfield 81, 3) := by decide +kernel
theorem dX11_drawing_20 : decode cX11_drawing 20 = .ok (.aload_n 0, 1) := by decide +kernel
theorem dX11_drawing_21 : decode cX11_drawing 21 = .ok (.getfield 27, 3) := by decide +kernel
theorem dX11_drawing_24 : decode cX11_drawing 24 = .ok (.aload_n 0, 1) := by decide +kernel
theorem dX11_drawing_25 : decode cX11_drawing 25 = .ok (.getfield 34, 3) := by decide +kernel
theorem dX11_drawing_28 : decode cX11_drawing 28 = .ok (.iload_n 1, 1) := by decide +kernel
theorem dX11_drawing_29 : decode cX11_drawing 29 = .ok (.invokevirtual 227, 3) := by decide +kernel
theorem dX11_drawing_32 : decode cX11_drawing 32 = .ok (.aload_n 0, 1) := by decide +kernel
theorem dX11_drawing_33 : decode cX11_drawing 33 = .ok (.getfield 99, 3) := by decide +kernel
theorem dX11_drawing_36 : decode cX11_drawing 36 = .ok (.invokevirtual 261, 3) := by decide +kernel
theorem dX11_drawing_39 : decode cX11_drawing 39 = .ok (.ifCond .eq 7, 3) := by decide +kernel
theorem dX11_drawing_42 : decode cX11_drawing 42 = .ok (.iconst 1, 1) := by decide +kernel
theorem dX11_drawing_43 : decode cX11_drawing 43 = .ok (.goto 4, 3) := by decide +kernel
theorem dX11_drawing_46 : decode cX11_drawing 46 = .ok (.iconst 0, 1) := by decide +kernel
theorem dX11_drawing_47 : decode cX11_drawing 47 = .ok (.ireturn, 1) := by decide +kernel
theorem dX11_hope_0 : decode cX11_hope 0 = .ok (.aload_n 0, 1) := by decide +kernel
theorem dX11_hope_1 : decode cX11_hope 1 = .ok (.getfield 34, 3) := by decide +kernel
theorem dX11_hope_4 : decode cX11_hope 4 = .ok (.iload_n 1, 1) := by decide +kernel
theorem dX11_hope_5 : decode cX11_hope 5 = .ok (.invokevirtual 136, 3) := by decide +kernel
theorem dX11_hope_8 : decode cX11_hope 8 = .ok (.ifCond .eq 12, 3) := by decide +kernel
theorem dX11_hope_11 : decode cX11_hope 11 = .ok (.iload_n 3, 1) := by decide +kernel
theorem dX11_hope_12 : decode cX11_hope 12 = .ok (.ifCond .lt 8, 3) := by decide +kernel
theorem dX11_hope_15 : decode cX11_hope 15 = .ok (.iload_n 3, 1) := by decide +kernel
theorem dX11_hope_16 : decode cX11_hope 16 = .ok (.iconst 1, 1) := by decide +kernel
theorem dX11_hope_17 : decode cX11_hope 17 = .ok (.if_icmp .le 9, 3) := by decide +kernel
theorem dX11_hope_20 : decode cX11_hope 20 = .ok (.iconst 2, 1) := by decide +kernel
theorem dX11_hope_21 : decode cX11_hope 21 = .ok (.invokestatic 108, 3) := by decide +kernel
theorem dX11_hope_24 : decode cX11_hope 24 = .ok (.i2l, 1) := by decide +kernel
theorem dX11_hope_25 : decode cX11_hope 25 = .ok (.lreturn, 1) := by decide +kernel
theorem dX11_hope_26 : decode cX11_hope 26 = .ok (.iload_n 2, 1) := by decide +kernel
theorem dX11_hope_27 : decode cX11_hope 27 = .ok (.ifCond .lt 9, 3) := by decide +kernel
theorem dX11_hope_30 : decode cX11_hope 30 = .ok (.iload_n 2, 1) := by decide +kernel
theorem dX11_hope_31 : decode cX11_hope 31 = .ok (.bipush 60, 2) := by decide +kernel
theorem dX11_hope_33 : decode cX11_hope 33 = .ok (.if_icmp .le 9, 3) := by decide +kernel
theorem dX11_hope_36 : decode cX11_hope 36 = .ok (.iconst 3, 1) := by decide +kernel
theorem dX11_hope_37 : decode cX11_hope 37 = .ok (.invokestatic 108, 3) := by decide +kernel
theorem dX11_hope_40 : decode cX11_hope 40 = .ok (.i2l, 1) := by decide +kernel
theorem dX11_hope_41 : decode cX11_hope 41 = .ok (.lreturn, 1) := by decide +kernel
theorem dX11_hope_42 : decode cX11_hope 42 = .ok (.aload_n 0, 1) := by decide +kernel
theorem dX11_hope_43 : decode cX11_hope 43 = .ok (.getfield 81, 3) := by decide +kernel
theorem dX11_hope_46 : decode cX11_hope 46 = .ok (.aload_n 0, 1) := by decide +kernel
theorem dX11_hope_47 : decode cX11_hope 47 = .ok (.getfield 27, 3) := by decide +kernel
theorem dX11_hope_50 : decode cX11_hope 50 = .ok (.aload_n 0, 1) := by decide +kernel
theorem dX11_hope_51 : decode cX11_hope 51 = .ok (.getfield 34, 3) := by decide +kernel
theorem dX11_hope_54 : decode cX11_hope 54 = .ok (.iload_n 1, 1) := by decide +kernel
theorem dX11_hope_55 : decode cX11_hope 55 = .ok (.invokevirtual 227, 3) := by decide +kernel
theorem dX11_hope_58 : decode cX11_hope 58 = .ok (.aload_n 0, 1) := by decide +kernel
theorem dX11_hope_59 : decode cX11_hope 59 = .ok (.getfield 99, 3) := by decide +kernel
theorem dX11_hope_62 : decode cX11_hope 62 = .ok (.aload_n 0, 1) := by decide +kernel
theorem dX11_hope_63 : decode cX11_hope 63 = .ok (.getfield 99, 3) := by decide +kernel
theorem dX11_hope_66 : decode cX11_hope 66 = .ok (.iload_n 2, 1) := by decide +kernel
theorem dX11_hope_67 : decode cX11_hope 67 = .ok (.invokevirtual 265, 3) := by decide +kernel
theorem dX11_hope_70 : decode cX11_hope 70 = .ok (.iload_n 3, 1) := by decide +kernel
theorem dX11_hope_71 : decode cX11_hope 71 = .ok (.invokevirtual 254, 3) := by decide +kernel
theorem dX11_hope_74 : decode cX11_hope 74 = .ok (.lreturn, 1) := by decide +kernel
theorem dX11_hoping_0 : decode cX11_hoping 0 = .ok (.aload_n 0, 1) := by decide +kernel
theorem dX11_hoping_1 : decode cX11_hoping 1 = .ok (.getfield 34, 3) := by decide +kernel
theorem dX11_hoping_4 : decode cX11_hoping 4 = .ok (.iload_n 1, 1) := by decide +kernel
theorem dX11_hoping_5 : decode cX11_hoping 5 = .ok (.invokevirtual 136, 3) := by decide +kernel
theorem dX11_hoping_8 : decode cX11_hoping 8 = .ok (.ifCond .ne 8, 3) := by decide +kernel
theorem dX11_hoping_11 : decode cX11_hoping 11 = .ok (.iconst 2, 1) := by decide +kernel
theorem dX11_hoping_12 : decode cX11_hoping 12 = .ok (.invokestatic 108, 3) := by decide +kernel
theorem dX11_hoping_15 : decode cX11_hoping 15 = .ok (.ireturn, 1) := by decide +kernel
theorem dX11_hoping_16 : decode cX11_hoping 16 = .ok (.iload_n 2, 1) := by decide +kernel
theorem dX11_hoping_17 : decode cX11_hoping 17 = .ok (.ifCond .lt 9, 3) := by decide +kernel
theorem dX11_hoping_20 : decode cX11_hoping 20 = .ok (.iload_n 2, 1) := by decide +kernel
theorem dX11_hoping_21 : decode cX11_hoping 21 = .ok (.bipush 60, 2) := by decide +kernel
theorem dX11_hoping_23 : decode cX11_hoping 23 = .ok (.if_icmp .le 8, 3) := by decide +kernel
theorem dX11_hoping_26 : decode cX11_hoping 26 = .ok (.iconst 3, 1) := by decide +kernel
theorem dX11_hoping_27 : decode cX11_hoping 27 = .ok (.invokestatic 108, 3) := by decide +kernel
theorem dX11_hoping_30 : decode cX11_hoping 30 = .ok (.ireturn, 1) := by decide +kernel
theorem dX11_hoping_31 : decode cX11_hoping 31 = .ok (.aload_n 0, 1) := by decide +kernel
theorem dX11_hoping_32 : decode cX11_hoping 32 = .ok (.getfield 81, 3) := by decide +kernel
theorem dX11_hoping_35 : decode cX11_hoping 35 = .ok (.aload_n 0, 1) := by decide +kernel
theorem dX11_hoping_36 : decode cX11_hoping 36 = .ok (.getfield 27, 3) := by decide +kernel
theorem dX11_hoping_39 : decode cX11_hoping 39 = .ok (.aload_n 0, 1) := by decide +kernel
theorem dX11_hoping_40 : decode cX11_hoping 40 = .ok (.getfield 34, 3) := by decide +kernel
theorem dX11_hoping_43 : decode cX11_hoping 43 = .ok (.iload_n 1, 1) := by decide +kernel
theorem dX11_hoping_44 : decode cX11_hoping 44 = .ok (.invokevirtual 227, 3) := by decide +kernel
theorem dX11_hoping_47 : decode cX11_hoping 47 = .ok (.aload_n 0, 1) := by decide +kernel
theorem dX11_hoping_48 : decode cX11_hoping 48 = .ok (.getfield 99, 3) := by decide +kernel
theorem dX11_hoping_51 : decode cX11_hoping 51 = .ok (.iload_n 2, 1) := by decide +kernel
theorem dX11_hoping_52 : decode cX11_hoping 52 = .ok (.invokevirtual 268, 3) := by decide +kernel
theorem dX11_hoping_55 : decode cX11_hoping 55 = .ok (.ireturn, 1) := by decide +kernel
theorem dX11_talents_0 : decode cX11_talents 0 = .ok (.aload_n 0, 1) := by decide +kernel
theorem dX11_talents_1 : decode cX11_talents 1 = .ok (.iload_n 1, 1) := by decide +kernel
theorem dX11_talents_2 : decode cX11_talents 2 = .ok (.iload_n 2, 1) := by decide +kernel
theorem dX11_talents_3 : decode cX11_talents 3 = .ok (.invokevirtual 271, 3) := by decide +kernel
theorem dX11_talents_6 : decode cX11_talents 6 = .ok (.istore 4, 2) := by decide +kernel
theorem dX11_talents_8 : decode cX11_talents 8 = .ok (.iload 4, 2) := by decide +kernel
theorem dX11_talents_10 : decode cX11_talents 10 = .ok (.ifCond .eq 11, 3) := by decide +kernel
theorem dX11_talents_13 : decode cX11_talents 13 = .ok (.iload 4, 2) := by decide +kernel
theorem dX11_talents_15 : decode cX11_talents 15 = .ok (.invokestatic 108, 3) := by decide +kernel
theorem dX11_talents_18 : decode cX11_talents 18 = .ok (.goto 14, 3) := by decide +kernel
theorem dX11_talents_21 : decode cX11_talents 21 = .ok (.aload_n 0, 1) := by decide +kernel
theorem dX11_talents_22 : decode cX11_talents 22 = .ok (.aload_n 0, 1) := by decide +kernel
theorem dX11_talents_23 : decode cX11_talents 23 = .ok (.iload_n 1, 1) := by decide +kernel
theorem dX11_talents_24 : decode cX11_talents 24 = .ok (.invokevirtual 200, 3) := by decide +kernel
theorem dX11_talents_27 : decode cX11_talents 27 = .ok (.iload_n 2, 1) := by decide +kernel
theorem dX11_talents_28 : decode cX11_talents 28 = .ok (.iload_n 3, 1) := by decide +kernel
theorem dX11_talents_29 : decode cX11_talents 29 = .ok (.invokevirtual 274, 3) := by decide +kernel
theorem dX11_talents_32 : decode cX11_talents 32 = .ok (.ireturn, 1) := by decide +kernel
theorem dX11_attempt_0 : decode cX11_attempt 0 = .ok (.aload_n 0, 1) := by decide +kernel
theorem dX11_attempt_1 : decode cX11_attempt 1 = .ok (.iload_n 1, 1) := by decide +kernel
theorem dX11_attempt_2 : decode cX11_attempt 2 = .ok (.iload_n 2, 1) := by decide +kernel
theorem dX11_attempt_3 : decode cX11_attempt 3 = .ok (.invokevirtual 271, 3) := by decide +kernel
theorem dX11_attempt_6 : decode cX11_attempt 6 = .ok (.istore 4, 2) := by decide +kernel
theorem dX11_attempt_8 : decode cX11_attempt 8 = .ok (.iload 4, 2) := by decide +kernel
theorem dX11_attempt_10 : decode cX11_attempt 10 = .ok (.ifCond .eq 9, 3) := by decide +kernel
theorem dX11_attempt_13 : decode cX11_attempt 13 = .ok (.iload 4, 2) := by decide +kernel
theorem dX11_attempt_15 : decode cX11_attempt 15 = .ok (.invokestatic 108, 3) := by decide +kernel
theorem dX11_attempt_18 : decode cX11_attempt 18 = .ok (.ireturn, 1) := by decide +kernel
theorem dX11_attempt_19 : decode cX11_attempt 19 = .ok (.aload_n 0, 1) := by decide +kernel
theorem dX11_attempt_20 : decode cX11_attempt 20 = .ok (.aload_n 0, 1) := by decide +kernel
theorem dX11_attempt_21 : decode cX11_attempt 21 = .ok (.iload_n 1, 1) := by decide +kernel
theorem dX11_attempt_22 : decode cX11_attempt 22 = .ok (.invokevirtual 200, 3) := by decide +kernel
theorem dX11_attempt_25 : decode cX11_attempt 25 = .ok (.iload_n 2, 1) := by decide +kernel
theorem dX11_attempt_26 : decode cX11_attempt 26 = .ok (.iload_n 3, 1) := by decide +kernel
theorem dX11_attempt_27 : decode cX11_attempt 27 = .ok (.invokevirtual 274, 3) := by decide +kernel
theorem dX11_attempt_30 : decode cX11_attempt 30 = .ok (.istore 5, 2) := by decide +kernel
theorem dX11_attempt_32 : decode cX11_attempt 32 = .ok (.iconst (-1), 1) := by decide +kernel
theorem dX11_attempt_33 : decode cX11_attempt 33 = .ok (.istore 6, 2) := by decide +kernel
theorem dX11_attempt_35 : decode cX11_attempt 35 = .ok (.bipush 11, 2) := by decide +kernel
theorem dX11_attempt_37 : decode cX11_attempt 37 = .ok (.istore 7, 2) := by decide +kernel
theorem dX11_attempt_39 : decode cX11_attempt 39 = .ok (.iconst 0, 1) := by decide +kernel
theorem dX11_attempt_40 : decode cX11_attempt 40 = .ok (.istore 8, 2) := by decide +kernel
theorem dX11_attempt_42 : decode cX11_attempt 42 = .ok (.iload 5, 2) := by decide +kernel
theorem dX11_attempt_44 : decode cX11_attempt 44 = .ok (.ifCond .eq 47, 3) := by decide +kernel
theorem dX11_attempt_47 : decode cX11_attempt 47 = .ok (.iload 8, 2) := by decide +kernel
theorem dX11_attempt_49 : decode cX11_attempt 49 = .ok (.aload_n 0, 1) := by decide +kernel
theorem dX11_attempt_50 : decode cX11_attempt 50 = .ok (.getfield 27, 3) := by decide +kernel
theorem dX11_attempt_53 : decode cX11_attempt 53 = .ok (.getfield 278, 3) := by decide +kernel
theorem dX11_attempt_56 : decode cX11_attempt 56 = .ok (.if_icmp .ge 35, 3) := by decide +kernel
theorem dX11_attempt_59 : decode cX11_attempt 59 = .ok (.aload_n 0, 1) := by decide +kernel
theorem dX11_attempt_60 : decode cX11_attempt 60 = .ok (.iload_n 2, 1) := by decide +kernel
theorem dX11_attempt_61 : decode cX11_attempt 61 = .ok (.iload 8, 2) := by decide +kernel
theorem dX11_attempt_63 : decode cX11_attempt 63 = .ok (.iload 5, 2) := by decide +kernel
theorem dX11_attempt_65 : decode cX11_attempt 65 = .ok (.invokevirtual 281, 3) := by decide +kernel
theorem dX11_attempt_68 : decode cX11_attempt 68 = .ok (.istore 9, 2) := by decide +kernel
theorem dX11_attempt_70 : decode cX11_attempt 70 = .ok (.iload 9, 2) := by decide +kernel
theorem dX11_attempt_72 : decode cX11_attempt 72 = .ok (.iload 7, 2) := by decide +kernel
theorem dX11_attempt_74 : decode cX11_attempt 74 = .ok (.if_icmp .ge 11, 3) := by decide +kernel
theorem dX11_attempt_77 : decode cX11_attempt 77 = .ok (.iload 9, 2) := by decide +kernel
theorem dX11_attempt_79 : decode cX11_attempt 79 = .ok (.istore 7, 2) := by decide +kernel
theorem dX11_attempt_81 : decode cX11_attempt 81 = .ok (.iload 8, 2) := by decide +kernel
theorem dX11_attempt_83 : decode cX11_attempt 83 = .ok (.istore 6, 2) := by decide +kernel
theorem dX11_attempt_85 : decode cX11_attempt 85 = .ok (.iinc 8 1, 3) := by decide +kernel
theorem dX11_attempt_88 : decode cX11_attempt 88 = .ok (.goto (-46), 3) := by decide +kernel
theorem dX11_attempt_91 : decode cX11_attempt 91 = .ok (.iload 6, 2) := by decide +kernel
theorem dX11_attempt_93 : decode cX11_attempt 93 = .ok (.ireturn, 1) := by decide +kernel
theorem dX11_run_0 : decode cX11_run 0 = .ok (.aload_n 0, 1) := by decide +kernel
theorem dX11_run_1 : decode cX11_run 1 = .ok (.getfield 34, 3) := by decide +kernel
theorem dX11_run_4 : decode cX11_run 4 = .ok (.iload_n 1, 1) := by decide +kernel
theorem dX11_run_5 : decode cX11_run 5 = .ok (.invokevirtual 285, 3) := by decide +kernel
theorem dX11_run_8 : decode cX11_run 8 = .ok (.ifCond .eq 15, 3) := by decide +kernel
theorem dX11_run_11 : decode cX11_run 11 = .ok (.aload_n 0, 1) := by decide +kernel
theorem dX11_run_12 : decode cX11_run 12 = .ok (.getfield 34, 3) := by decide +kernel
theorem dX11_run_15 : decode cX11_run 15 = .ok (.iload_n 1, 1) := by decide +kernel
theorem dX11_run_16 : decode cX11_run 16 = .ok (.iconst 0, 1) := by decide +kernel
theorem dX11_run_17 : decode cX11_run 17 = .ok (.invokevirtual 288, 3) := by decide +kernel
theorem dX11_run_20 : decode cX11_run 20 = .ok (.goto 7, 3) := by decide +kernel
theorem dX11_run_23 : decode cX11_run 23 = .ok (.iconst 3, 1) := by decide +kernel
theorem dX11_run_24 : decode cX11_run 24 = .ok (.invokestatic 108, 3) := by decide +kernel
theorem dX11_run_27 : decode cX11_run 27 = .ok (.ireturn, 1) := by decide +kernel
theorem dX11_rounds_0 : decode cX11_rounds 0 = .ok (.aload_n 0, 1) := by decide +kernel
theorem dX11_rounds_1 : decode cX11_rounds 1 = .ok (.getfield 34, 3) := by decide +kernel
theorem dX11_rounds_4 : decode cX11_rounds 4 = .ok (.iload_n 1, 1) := by decide +kernel
theorem dX11_rounds_5 : decode cX11_rounds 5 = .ok (.invokevirtual 285, 3) := by decide +kernel
theorem dX11_rounds_8 : decode cX11_rounds 8 = .ok (.ifCond .eq 14, 3) := by decide +kernel
theorem dX11_rounds_11 : decode cX11_rounds 11 = .ok (.aload_n 0, 1) := by decide +kernel
theorem dX11_rounds_12 : decode cX11_rounds 12 = .ok (.getfield 34, 3) := by decide +kernel
theorem dX11_rounds_15 : decode cX11_rounds 15 = .ok (.iload_n 1, 1) := by decide +kernel
theorem dX11_rounds_16 : decode cX11_rounds 16 = .ok (.invokevirtual 291, 3) := by decide +kernel
theorem dX11_rounds_19 : decode cX11_rounds 19 = .ok (.goto 7, 3) := by decide +kernel
theorem dX11_rounds_22 : decode cX11_rounds 22 = .ok (.iconst 3, 1) := by decide +kernel
theorem dX11_rounds_23 : decode cX11_rounds 23 = .ok (.invokestatic 108, 3) := by decide +kernel
theorem dX11_rounds_26 : decode cX11_rounds 26 = .ok (.ireturn, 1) := by decide +kernel
theorem dX11_spark_0 : decode cX11_spark 0 = .ok (.iload_n 1, 1) := by decide +kernel
theorem dX11_spark_1 : decode cX11_spark 1 = .ok (.iconst 1, 1) := by decide +kernel
theorem dX11_spark_2 : decode cX11_spark 2 = .ok (.if_icmp .lt 9, 3) := by decide +kernel
theorem dX11_spark_5 : decode cX11_spark 5 = .ok (.iload_n 1, 1) := by decide +kernel
theorem dX11_spark_6 : decode cX11_spark 6 = .ok (.bipush 6, 2) := by decide +kernel
theorem dX11_spark_8 : decode cX11_spark 8 = .ok (.if_icmp .le 8, 3) := by decide +kernel
theorem dX11_spark_11 : decode cX11_spark 11 = .ok (.iconst 3, 1) := by decide +kernel
theorem dX11_spark_12 : decode cX11_spark 12 = .ok (.invokestatic 108, 3) := by decide +kernel
theorem dX11_spark_15 : decode cX11_spark 15 = .ok (.ireturn, 1) := by decide +kernel
theorem dX11_spark_16 : decode cX11_spark 16 = .ok (.iconst (-1), 1) := by decide +kernel
theorem dX11_spark_17 : decode cX11_spark 17 = .ok (.istore_n 2, 1) := by decide +kernel
theorem dX11_spark_18 : decode cX11_spark 18 = .ok (.bipush 7, 2) := by decide +kernel
theorem dX11_spark_20 : decode cX11_spark 20 = .ok (.istore_n 3, 1) := by decide +kernel
theorem dX11_spark_21 : decode cX11_spark 21 = .ok (.iconst 0, 1) := by decide +kernel
theorem dX11_spark_22 : decode cX11_spark 22 = .ok (.istore 4, 2) := by decide +kernel
theorem dX11_spark_24 : decode cX11_spark 24 = .ok (.iload 4, 2) := by decide +kernel
theorem dX11_spark_26 : decode cX11_spark 26 = .ok (.aload_n 0, 1) := by decide +kernel
theorem dX11_spark_27 : decode cX11_spark 27 = .ok (.getfield 34, 3) := by decide +kernel
theorem dX11_spark_30 : decode cX11_spark 30 = .ok (.invokevirtual 294, 3) := by decide +kernel
theorem dX11_spark_33 : decode cX11_spark 33 = .ok (.if_icmp .gt 45, 3) := by decide +kernel
theorem dX11_spark_36 : decode cX11_spark 36 = .ok (.iload 4, 2) := by decide +kernel
theorem dX11_spark_38 : decode cX11_spark 38 = .ok (.invokestatic 297, 3) := by decide +kernel
theorem dX11_spark_41 : decode cX11_spark 41 = .ok (.istore 5, 2) := by decide +kernel
theorem dX11_spark_43 : decode cX11_spark 43 = .ok (.iload 5, 2) := by decide +kernel
theorem dX11_spark_45 : decode cX11_spark 45 = .ok (.iload_n 3, 1) := by decide +kernel
theorem dX11_spark_46 : decode cX11_spark 46 = .ok (.if_icmp .ge 26, 3) := by decide +kernel
theorem dX11_spark_49 : decode cX11_spark 49 = .ok (.aload_n 0, 1) := by decide +kernel
theorem dX11_spark_50 : decode cX11_spark 50 = .ok (.getfield 34, 3) := by decide +kernel
theorem dX11_spark_53 : decode cX11_spark 53 = .ok (.iload 4, 2) := by decide +kernel
theorem dX11_spark_55 : decode cX11_spark 55 = .ok (.iconst 0, 1) := by decide +kernel
theorem dX11_spark_56 : decode cX11_spark 56 = .ok (.invokevirtual 288, 3) := by decide +kernel
theorem dX11_spark_59 : decode cX11_spark 59 = .ok (.invokestatic 297, 3) := by decide +kernel
theorem dX11_spark_62 : decode cX11_spark 62 = .ok (.iload_n 1, 1) := by decide +kernel
theorem dX11_spark_63 : decode cX11_spark 63 = .ok (.if_icmp .lt 9, 3) := by decide +kernel
theorem dX11_spark_66 : decode cX11_spark 66 = .ok (.iload 5, 2) := by decide +kernel
theorem dX11_spark_68 : decode cX11_spark 68 = .ok (.istore_n 3, 1) := by decide +kernel
theorem dX11_spark_69 : decode cX11_spark 69 = .ok (.iload 4, 2) := by decide +kernel
theorem dX11_spark_71 : decode cX11_spark 71 = .ok (.istore_n 2, 1) := by decide +kernel
theorem dX11_spark_72 : decode cX11_spark 72 = .ok (.iinc 4 1, 3) := by decide +kernel
theorem dX11_spark_75 : decode cX11_spark 75 = .ok (.goto (-51), 3) := by decide +kernel
theorem dX11_spark_78 : decode cX11_spark 78 = .ok (.iload_n 2, 1) := by decide +kernel
theorem dX11_spark_79 : decode cX11_spark 79 = .ok (.ireturn, 1) := by decide +kernel
theorem dX11_calm_0 : decode cX11_calm 0 = .ok (.aload_n 0, 1) := by decide +kernel
theorem dX11_calm_1 : decode cX11_calm 1 = .ok (.getfield 34, 3) := by decide +kernel
theorem dX11_calm_4 : decode cX11_calm 4 = .ok (.iload_n 1, 1) := by decide +kernel
theorem dX11_calm_5 : decode cX11_calm 5 = .ok (.invokevirtual 285, 3) := by decide +kernel
theorem dX11_calm_8 : decode cX11_calm 8 = .ok (.ifCond .eq 13, 3) := by decide +kernel
theorem dX11_calm_11 : decode cX11_calm 11 = .ok (.iload_n 2, 1) := by decide +kernel
theorem dX11_calm_12 : decode cX11_calm 12 = .ok (.ifCond .lt 9, 3) := by decide +kernel
theorem dX11_calm_15 : decode cX11_calm 15 = .ok (.iload_n 2, 1) := by decide +kernel
theorem dX11_calm_16 : decode cX11_calm 16 = .ok (.bipush 6, 2) := by decide +kernel
theorem dX11_calm_18 : decode cX11_calm 18 = .ok (.if_icmp .le 8, 3) := by decide +kernel
theorem dX11_calm_21 : decode cX11_calm 21 = .ok (.iconst 3, 1) := by decide +kernel
theorem dX11_calm_22 : decode cX11_calm 22 = .ok (.invokestatic 108, 3) := by decide +kernel
theorem dX11_calm_25 : decode cX11_calm 25 = .ok (.ireturn, 1) := by decide +kernel
theorem dX11_calm_26 : decode cX11_calm 26 = .ok (.iconst (-1), 1) := by decide +kernel
theorem dX11_calm_27 : decode cX11_calm 27 = .ok (.istore_n 3, 1) := by decide +kernel
theorem dX11_calm_28 : decode cX11_calm 28 = .ok (.bipush 7, 2) := by decide +kernel
theorem dX11_calm_30 : decode cX11_calm 30 = .ok (.istore 4, 2) := by decide +kernel
theorem dX11_calm_32 : decode cX11_calm 32 = .ok (.iconst 0, 1) := by decide +kernel
theorem dX11_calm_33 : decode cX11_calm 33 = .ok (.istore 5, 2) := by decide +kernel
theorem dX11_calm_35 : decode cX11_calm 35 = .ok (.iload 5, 2) := by decide +kernel
theorem dX11_calm_37 : decode cX11_calm 37 = .ok (.aload_n 0, 1) := by decide +kernel
theorem dX11_calm_38 : decode cX11_calm 38 = .ok (.getfield 34, 3) := by decide +kernel
theorem dX11_calm_41 : decode cX11_calm 41 = .ok (.invokevirtual 294, 3) := by decide +kernel
theorem dX11_calm_44 : decode cX11_calm 44 = .ok (.if_icmp .gt 54, 3) := by decide +kernel
theorem dX11_calm_47 : decode cX11_calm 47 = .ok (.iload 5, 2) := by decide +kernel
theorem dX11_calm_49 : decode cX11_calm 49 = .ok (.invokestatic 297, 3) := by decide +kernel
theorem dX11_calm_52 : decode cX11_calm 52 = .ok (.istore 6, 2) := by decide +kernel
theorem dX11_calm_54 : decode cX11_calm 54 = .ok (.iload 5, 2) := by decide +kernel
theorem dX11_calm_56 : decode cX11_calm 56 = .ok (.iload_n 1, 1) := by decide +kernel
theorem dX11_calm_57 : decode cX11_calm 57 = .ok (.iand, 1) := by decide +kernel
theorem dX11_calm_58 : decode cX11_calm 58 = .ok (.ifCond .ne 34, 3) := by decide +kernel
theorem dX11_calm_61 : decode cX11_calm 61 = .ok (.iload 6, 2) := by decide +kernel
theorem dX11_calm_63 : decode cX11_calm 63 = .ok (.iload 4, 2) := by decide +kernel
theorem dX11_calm_65 : decode cX11_calm 65 = .ok (.if_icmp .ge 27, 3) := by decide +kernel
theorem dX11_calm_68 : decode cX11_calm 68 = .ok (.aload_n 0, 1) := by decide +kernel
theorem dX11_calm_69 : decode cX11_calm 69 = .ok (.getfield 34, 3) := by decide +kernel
theorem dX11_calm_72 : decode cX11_calm 72 = .ok (.iload_n 1, 1) := by decide +kernel
theorem dX11_calm_73 : decode cX11_calm 73 = .ok (.iload 5, 2) := by decide +kernel
theorem dX11_calm_75 : decode cX11_calm 75 = .ok (.invokevirtual 288, 3) := by decide +kernel
theorem dX11_calm_78 : decode cX11_calm 78 = .ok (.invokestatic 297, 3) := by decide +kernel
theorem dX11_calm_81 : decode cX11_calm 81 = .ok (.iload_n 2, 1) := by decide +kernel
theorem dX11_calm_82 : decode cX11_calm 82 = .ok (.if_icmp .gt 10, 3) := by decide +kernel
theorem dX11_calm_85 : decode cX11_calm 85 = .ok (.iload 6, 2) := by decide +kernel
theorem dX11_calm_87 : decode cX11_calm 87 = .ok (.istore 4, 2) := by decide +kernel
theorem dX11_calm_89 : decode cX11_calm 89 = .ok (.iload 5, 2) := by decide +kernel
theorem dX11_calm_91 : decode cX11_calm 91 = .ok (.istore_n 3, 1) := by decide +kernel
theorem dX11_calm_92 : decode cX11_calm 92 = .ok (.iinc 5 1, 3) := by decide +kernel
theorem dX11_calm_95 : decode cX11_calm 95 = .ok (.goto (-60), 3) := by decide +kernel
theorem dX11_calm_98 : decode cX11_calm 98 = .ok (.iload_n 3, 1) := by decide +kernel
theorem dX11_calm_99 : decode cX11_calm 99 = .ok (.ireturn, 1) := by decide +kernel
theorem dX11_rests_0 : decode cX11_rests 0 = .ok (.iconst 0, 1) := by decide +kernel
theorem dX11_rests_1 : decode cX11_rests 1 = .ok (.istore_n 1, 1) := by decide +kernel
theorem dX11_rests_2 : decode cX11_rests 2 = .ok (.iconst 0, 1) := by decide +kernel
theorem dX11_rests_3 : decode cX11_rests 3 = .ok (.istore_n 2, 1) := by decide +kernel
theorem dX11_rests_4 : decode cX11_rests 4 = .ok (.iload_n 2, 1) := by decide +kernel
theorem dX11_rests_5 : decode cX11_rests 5 = .ok (.aload_n 0, 1) := by decide +kernel
theorem dX11_rests_6 : decode cX11_rests 6 = .ok (.getfield 34, 3) := by decide +kernel
theorem dX11_rests_9 : decode cX11_rests 9 = .ok (.invokevirtual 294, 3) := by decide +kernel
theorem dX11_rests_12 : decode cX11_rests 12 = .ok (.if_icmp .gt 23, 3) := by decide +kernel
theorem dX11_rests_15 : decode cX11_rests 15 = .ok (.aload_n 0, 1) := by decide +kernel
theorem dX11_rests_16 : decode cX11_rests 16 = .ok (.getfield 34, 3) := by decide +kernel
theorem dX11_rests_19 : decode cX11_rests 19 = .ok (.iload_n 2, 1) := by decide +kernel
theorem dX11_rests_20 : decode cX11_rests 20 = .ok (.invokevirtual 302, 3) := by decide +kernel
theorem dX11_rests_23 : decode cX11_rests 23 = .ok (.ifCond .eq 6, 3) := by decide +kernel
theorem dX11_rests_26 : decode cX11_rests 26 = .ok (.iinc 1 1, 3) := by decide +kernel
theorem dX11_rests_29 : decode cX11_rests 29 = .ok (.iinc 2 1, 3) := by decide +kernel
theorem dX11_rests_32 : decode cX11_rests 32 = .ok (.goto (-28), 3) := by decide +kernel
theorem dX11_rests_35 : decode cX11_rests 35 = .ok (.iload_n 1, 1) := by decide +kernel
theorem dX11_rests_36 : decode cX11_rests 36 = .ok (.ireturn, 1) := by decide +kernel
theorem dX11_rest_0 : decode cX11_rest 0 = .ok (.iload_n 1, 1) := by decide +kernel
theorem dX11_rest_1 : decode cX11_rest 1 = .ok (.ifCond .ge 8, 3) := by decide +kernel
theorem dX11_rest_4 : decode cX11_rest 4 = .ok (.iconst 3, 1) := by decide +kernel
theorem dX11_rest_5 : decode cX11_rest 5 = .ok (.invokestatic 108, 3) := by decide +kernel
theorem dX11_rest_8 : decode cX11_rest 8 = .ok (.ireturn, 1) := by decide +kernel
theorem dX11_rest_9 : decode cX11_rest 9 = .ok (.iconst 0, 1) := by decide +kernel
theorem dX11_rest_10 : decode cX11_rest 10 = .ok (.istore_n 2, 1) := by decide +kernel
theorem dX11_rest_11 : decode cX11_rest 11 = .ok (.iconst 0, 1) := by decide +kernel
theorem dX11_rest_12 : decode cX11_rest 12 = .ok (.istore_n 3, 1) := by decide +kernel
theorem dX11_rest_13 : decode cX11_rest 13 = .ok (.iload_n 3, 1) := by decide +kernel
theorem dX11_rest_14 : decode cX11_rest 14 = .ok (.aload_n 0, 1) := by decide +kernel
theorem dX11_rest_15 : decode cX11_rest 15 = .ok (.getfield 34, 3) := by decide +kernel
theorem dX11_rest_18 : decode cX11_rest 18 = .ok (.invokevirtual 294, 3) := by decide +kernel
theorem dX11_rest_21 : decode cX11_rest 21 = .ok (.if_icmp .gt 30, 3) := by decide +kernel
theorem dX11_rest_24 : decode cX11_rest 24 = .ok (.aload_n 0, 1) := by decide +kernel
theorem dX11_rest_25 : decode cX11_rest 25 = .ok (.getfield 34, 3) := by decide +kernel
theorem dX11_rest_28 : decode cX11_rest 28 = .ok (.iload_n 3, 1) := by decide +kernel
theorem dX11_rest_29 : decode cX11_rest 29 = .ok (.invokevirtual 302, 3) := by decide +kernel
theorem dX11_rest_32 : decode cX11_rest 32 = .ok (.ifCond .eq 13, 3) := by decide +kernel
theorem dX11_rest_35 : decode cX11_rest 35 = .ok (.iload_n 2, 1) := by decide +kernel
theorem dX11_rest_36 : decode cX11_rest 36 = .ok (.iload_n 1, 1) := by decide +kernel
theorem dX11_rest_37 : decode cX11_rest 37 = .ok (.if_icmp .ne 5, 3) := by decide +kernel
theorem dX11_rest_40 : decode cX11_rest 40 = .ok (.iload_n 3, 1) := by decide +kernel
theorem dX11_rest_41 : decode cX11_rest 41 = .ok (.ireturn, 1) := by decide +kernel
theorem dX11_rest_42 : decode cX11_rest 42 = .ok (.iinc 2 1, 3) := by decide +kernel
theorem dX11_rest_45 : decode cX11_rest 45 = .ok (.iinc 3 1, 3) := by decide +kernel
theorem dX11_rest_48 : decode cX11_rest 48 = .ok (.goto (-35), 3) := by decide +kernel
theorem dX11_rest_51 : decode cX11_rest 51 = .ok (.iconst (-1), 1) := by decide +kernel
theorem dX11_rest_52 : decode cX11_rest 52 = .ok (.ireturn, 1) := by decide +kernel
theorem dX11_numbers_0 : decode cX11_numbers 0 = .ok (.aload_n 0, 1) := by decide +kernel
theorem dX11_numbers_1 : decode cX11_numbers 1 = .ok (.iload_n 1, 1) := by decide +kernel
theorem dX11_numbers_2 : decode cX11_numbers 2 = .ok (.invokevirtual 200, 3) := by decide +kernel
theorem dX11_numbers_5 : decode cX11_numbers 5 = .ok (.astore 4, 2) := by decide +kernel
theorem dX11_numbers_7 : decode cX11_numbers 7 = .ok (.aload 4, 2) := by decide +kernel
theorem dX11_numbers_9 : decode cX11_numbers 9 = .ok (.ifnull 12, 3) := by decide +kernel
theorem dX11_numbers_12 : decode cX11_numbers 12 = .ok (.iload_n 2, 1) := by decide +kernel
theorem dX11_numbers_13 : decode cX11_numbers 13 = .ok (.ifCond .lt 8, 3) := by decide +kernel
theorem dX11_numbers_16 : decode cX11_numbers 16 = .ok (.iload_n 2, 1) := by decide +kernel
theorem dX11_numbers_17 : decode cX11_numbers 17 = .ok (.iconst 3, 1) := by decide +kernel
theorem dX11_numbers_18 : decode cX11_numbers 18 = .ok (.if_icmp .le 8, 3) := by decide +kernel
theorem dX11_numbers_21 : decode cX11_numbers 21 = .ok (.iconst 2, 1) := by decide +kernel
theorem dX11_numbers_22 : decode cX11_numbers 22 = .ok (.invokestatic 108, 3) := by decide +kernel
theorem dX11_numbers_25 : decode cX11_numbers 25 = .ok (.ireturn, 1) := by decide +kernel
theorem dX11_numbers_26 : decode cX11_numbers 26 = .ok (.iload_n 3, 1) := by decide +kernel
theorem dX11_numbers_27 : decode cX11_numbers 27 = .ok (.ifCond .lt 9, 3) := by decide +kernel
theorem dX11_numbers_30 : decode cX11_numbers 30 = .ok (.iload_n 3, 1) := by decide +kernel
theorem dX11_numbers_31 : decode cX11_numbers 31 = .ok (.bipush 40, 2) := by decide +kernel
theorem dX11_numbers_33 : decode cX11_numbers 33 = .ok (.if_icmp .le 8, 3) := by decide +kernel
theorem dX11_numbers_36 : decode cX11_numbers 36 = .ok (.iconst 3, 1) := by decide +kernel
theorem dX11_numbers_37 : decode cX11_numbers 37 = .ok (.invokestatic 108, 3) := by decide +kernel
theorem dX11_numbers_40 : decode cX11_numbers 40 = .ok (.ireturn, 1) := by decide +kernel
theorem dX11_numbers_41 : decode cX11_numbers 41 = .ok (.aload 4, 2) := by decide +kernel
theorem dX11_numbers_43 : decode cX11_numbers 43 = .ok (.iload_n 2, 1) := by decide +kernel
theorem dX11_numbers_44 : decode cX11_numbers 44 = .ok (.iload_n 3, 1) := by decide +kernel
theorem dX11_numbers_45 : decode cX11_numbers 45 = .ok (.invokevirtual 305, 3) := by decide +kernel
theorem dX11_numbers_48 : decode cX11_numbers 48 = .ok (.iconst 0, 1) := by decide +kernel
theorem dX11_numbers_49 : decode cX11_numbers 49 = .ok (.ireturn, 1) := by decide +kernel
theorem dX11_write_0 : decode cX11_write 0 = .ok (.aload_n 0, 1) := by decide +kernel
theorem dX11_write_1 : decode cX11_write 1 = .ok (.iload_n 1, 1) := by decide +kernel
theorem dX11_write_2 : decode cX11_write 2 = .ok (.invokevirtual 200, 3) := by decide +kernel
theorem dX11_write_5 : decode cX11_write 5 = .ok (.astore 5, 2) := by decide +kernel
theorem dX11_write_7 : decode cX11_write 7 = .ok (.aload 5, 2) := by decide +kernel
theorem dX11_write_9 : decode cX11_write 9 = .ok (.ifnonnull 9, 3) := by decide +kernel
theorem dX11_write_12 : decode cX11_write 12 = .ok (.iconst 2, 1) := by decide +kernel
theorem dX11_write_13 : decode cX11_write 13 = .ok (.invokestatic 108, 3) := by decide +kernel
theorem dX11_write_16 : decode cX11_write 16 = .ok (.i2l, 1) := by decide +kernel
theorem dX11_write_17 : decode cX11_write 17 = .ok (.lreturn, 1) := by decide +kernel
theorem dX11_write_18 : decode cX11_write 18 = .ok (.aload 5, 2) := by decide +kernel
theorem dX11_write_20 : decode cX11_write 20 = .ok (.getfield 204, 3) := by decide +kernel
theorem dX11_write_23 : decode cX11_write 23 = .ok (.ifCond .ne 10, 3) := by decide +kernel
theorem dX11_write_26 : decode cX11_write 26 = .ok (.bipush 6, 2) := by decide +kernel
theorem dX11_write_28 : decode cX11_write 28 = .ok (.invokestatic 108, 3) := by decide +kernel
theorem dX11_write_31 : decode cX11_write 31 = .ok (.i2l, 1) := by decide +kernel
theorem dX11_write_32 : decode cX11_write 32 = .ok (.lreturn, 1) := by decide +kernel
theorem dX11_write_33 : decode cX11_write 33 = .ok (.iload_n 2, 1) := by decide +kernel
theorem dX11_write_34 : decode cX11_write 34 = .ok (.ifCond .lt 12, 3) := by decide +kernel
theorem dX11_write_37 : decode cX11_write 37 = .ok (.iload_n 2, 1) := by decide +kernel
theorem dX11_write_38 : decode cX11_write 38 = .ok (.aload 5, 2) := by decide +kernel
theorem dX11_write_40 : decode cX11_write 40 = .ok (.getfield 212, 3) := by decide +kernel
theorem dX11_write_43 : decode cX11_write 43 = .ok (.if_icmp .lt 10, 3) := by decide +kernel
theorem dX11_write_46 : decode cX11_write 46 = .ok (.bipush 7, 2) := by decide +kernel
theorem dX11_write_48 : decode cX11_write 48 = .ok (.invokestatic 108, 3) := by decide +kernel
theorem dX11_write_51 : decode cX11_write 51 = .ok (.i2l, 1) := by decide +kernel
theorem dX11_write_52 : decode cX11_write 52 = .ok (.lreturn, 1) := by decide +kernel
theorem dX11_write_53 : decode cX11_write 53 = .ok (.aload 5, 2) := by decide +kernel
theorem dX11_write_55 : decode cX11_write 55 = .ok (.iload_n 2, 1) := by decide +kernel
theorem dX11_write_56 : decode cX11_write 56 = .ok (.lload_n 3, 1) := by decide +kernel
theorem dX11_write_57 : decode cX11_write 57 = .ok (.invokevirtual 309, 3) := by decide +kernel
theorem dX11_write_60 : decode cX11_write 60 = .ok (.aload 5, 2) := by decide +kernel
theorem dX11_write_62 : decode cX11_write 62 = .ok (.iload_n 2, 1) := by decide +kernel
theorem dX11_write_63 : decode cX11_write 63 = .ok (.invokevirtual 312, 3) := by decide +kernel
theorem dX11_write_66 : decode cX11_write 66 = .ok (.lreturn, 1) := by decide +kernel
theorem dX11_lists_0 : decode cX11_lists 0 = .ok (.aload_n 0, 1) := by decide +kernel
theorem dX11_lists_1 : decode cX11_lists 1 = .ok (.iload_n 1, 1) := by decide +kernel
theorem dX11_lists_2 : decode cX11_lists 2 = .ok (.invokevirtual 200, 3) := by decide +kernel
theorem dX11_lists_5 : decode cX11_lists 5 = .ok (.astore_n 3, 1) := by decide +kernel
theorem dX11_lists_6 : decode cX11_lists 6 = .ok (.aload_n 3, 1) := by decide +kernel
theorem dX11_lists_7 : decode cX11_lists 7 = .ok (.ifnull 14, 3) := by decide +kernel
theorem dX11_lists_10 : decode cX11_lists 10 = .ok (.aload_n 0, 1) := by decide +kernel
theorem dX11_lists_11 : decode cX11_lists 11 = .ok (.getfield 34, 3) := by decide +kernel
theorem dX11_lists_14 : decode cX11_lists 14 = .ok (.iload_n 2, 1) := by decide +kernel
theorem dX11_lists_15 : decode cX11_lists 15 = .ok (.invokevirtual 136, 3) := by decide +kernel
theorem dX11_lists_18 : decode cX11_lists 18 = .ok (.ifCond .ne 8, 3) := by decide +kernel
theorem dX11_lists_21 : decode cX11_lists 21 = .ok (.iconst 2, 1) := by decide +kernel
theorem dX11_lists_22 : decode cX11_lists 22 = .ok (.invokestatic 108, 3) := by decide +kernel
theorem dX11_lists_25 : decode cX11_lists 25 = .ok (.ireturn, 1) := by decide +kernel
theorem dX11_lists_26 : decode cX11_lists 26 = .ok (.aload_n 3, 1) := by decide +kernel
theorem dX11_lists_27 : decode cX11_lists 27 = .ok (.getfield 204, 3) := by decide +kernel
theorem dX11_lists_30 : decode cX11_lists 30 = .ok (.ifCond .ne 9, 3) := by decide +kernel
theorem dX11_lists_33 : decode cX11_lists 33 = .ok (.bipush 6, 2) := by decide +kernel
theorem dX11_lists_35 : decode cX11_lists 35 = .ok (.invokestatic 108, 3) := by decide +kernel
theorem dX11_lists_38 : decode cX11_lists 38 = .ok (.ireturn, 1) := by decide +kernel
theorem dX11_lists_39 : decode cX11_lists 39 = .ok (.aload_n 0, 1) := by decide +kernel
theorem dX11_lists_40 : decode cX11_lists 40 = .ok (.getfield 81, 3) := by decide +kernel
theorem dX11_lists_43 : decode cX11_lists 43 = .ok (.aload_n 0, 1) := by decide +kernel
theorem dX11_lists_44 : decode cX11_lists 44 = .ok (.getfield 27, 3) := by decide +kernel
theorem dX11_lists_47 : decode cX11_lists 47 = .ok (.aload_n 0, 1) := by decide +kernel
theorem dX11_lists_48 : decode cX11_lists 48 = .ok (.getfield 34, 3) := by decide +kernel
theorem dX11_lists_51 : decode cX11_lists 51 = .ok (.iload_n 2, 1) := by decide +kernel
theorem dX11_lists_52 : decode cX11_lists 52 = .ok (.invokevirtual 227, 3) := by decide +kernel
theorem dX11_lists_55 : decode cX11_lists 55 = .ok (.aload_n 0, 1) := by decide +kernel
theorem dX11_lists_56 : decode cX11_lists 56 = .ok (.getfield 90, 3) := by decide +kernel
theorem dX11_lists_59 : decode cX11_lists 59 = .ok (.aload_n 3, 1) := by decide +kernel
theorem dX11_lists_60 : decode cX11_lists 60 = .ok (.iload_n 2, 1) := by decide +kernel
theorem dX11_lists_61 : decode cX11_lists 61 = .ok (.invokevirtual 315, 3) := by decide +kernel
theorem dX11_lists_64 : decode cX11_lists 64 = .ok (.ireturn, 1) := by decide +kernel
theorem dX11_image_0 : decode cX11_image 0 = .ok (.iload_n 1, 1) := by decide +kernel
theorem dX11_image_1 : decode cX11_image 1 = .ok (.ifCond .lt 21, 3) := by decide +kernel
theorem dX11_image_4 : decode cX11_image 4 = .ok (.iload_n 1, 1) := by decide +kernel
theorem dX11_image_5 : decode cX11_image 5 = .ok (.aload_n 0, 1) := by decide +kernel
theorem dX11_image_6 : decode cX11_image 6 = .ok (.getfield 48, 3) := by decide +kernel
theorem dX11_image_9 : decode cX11_image 9 = .ok (.arraylength, 1) := by decide +kernel
theorem dX11_image_10 : decode cX11_image 10 = .ok (.if_icmp .ge 12, 3) := by decide +kernel
theorem dX11_image_13 : decode cX11_image 13 = .ok (.iload_n 1, 1) := by decide +kernel
theorem dX11_image_14 : decode cX11_image 14 = .ok (.aload_n 0, 1) := by decide +kernel
theorem dX11_image_15 : decode cX11_image 15 = .ok (.getfield 52, 3) := by decide +kernel
theorem dX11_image_18 : decode cX11_image 18 = .ok (.arraylength, 1) := by decide +kernel
theorem dX11_image_19 : decode cX11_image 19 = .ok (.if_icmp .lt 8, 3) := by decide +kernel
theorem dX11_image_22 : decode cX11_image 22 = .ok (.iconst 2, 1) := by decide +kernel
theorem dX11_image_23 : decode cX11_image 23 = .ok (.invokestatic 108, 3) := by decide +kernel
theorem dX11_image_26 : decode cX11_image 26 = .ok (.ireturn, 1) := by decide +kernel
theorem dX11_image_27 : decode cX11_image 27 = .ok (.aload_n 0, 1) := by decide +kernel
theorem dX11_image_28 : decode cX11_image 28 = .ok (.getfield 52, 3) := by decide +kernel
theorem dX11_image_31 : decode cX11_image 31 = .ok (.iload_n 1, 1) := by decide +kernel
theorem dX11_image_32 : decode cX11_image 32 = .ok (.aaload, 1) := by decide +kernel
theorem dX11_image_33 : decode cX11_image 33 = .ok (.astore_n 2, 1) := by decide +kernel
theorem dX11_image_34 : decode cX11_image 34 = .ok (.aload_n 2, 1) := by decide +kernel
theorem dX11_image_35 : decode cX11_image 35 = .ok (.ifnonnull 8, 3) := by decide +kernel
theorem dX11_image_38 : decode cX11_image 38 = .ok (.iconst 2, 1) := by decide +kernel
theorem dX11_image_39 : decode cX11_image 39 = .ok (.invokestatic 108, 3) := by decide +kernel
theorem dX11_image_42 : decode cX11_image 42 = .ok (.ireturn, 1) := by decide +kernel
theorem dX11_image_43 : decode cX11_image 43 = .ok (.aload_n 0, 1) := by decide +kernel
theorem dX11_image_44 : decode cX11_image 44 = .ok (.getfield 48, 3) := by decide +kernel
theorem dX11_image_47 : decode cX11_image 47 = .ok (.iload_n 1, 1) := by decide +kernel
theorem dX11_image_48 : decode cX11_image 48 = .ok (.aload_n 0, 1) := by decide +kernel
theorem dX11_image_49 : decode cX11_image 49 = .ok (.getfield 27, 3) := by decide +kernel
theorem dX11_image_52 : decode cX11_image 52 = .ok (.aastore, 1) := by decide +kernel
theorem dX11_image_53 : decode cX11_image 53 = .ok (.aload_n 2, 1) := by decide +kernel
theorem dX11_image_54 : decode cX11_image 54 = .ok (.aload_n 0, 1) := by decide +kernel
theorem dX11_image_55 : decode cX11_image 55 = .ok (.getfield 34, 3) := by decide +kernel
theorem dX11_image_58 : decode cX11_image 58 = .ok (.invokevirtual 163, 3) := by decide +kernel
theorem dX11_image_61 : decode cX11_image 61 = .ok (.iconst 0, 1) := by decide +kernel
theorem dX11_image_62 : decode cX11_image 62 = .ok (.ireturn, 1) := by decide +kernel
theorem dX11_restore_0 : decode cX11_restore 0 = .ok (.iload_n 1, 1) := by decide +kernel
theorem dX11_restore_1 : decode cX11_restore 1 = .ok (.ifCond .lt 21, 3) := by decide +kernel
theorem dX11_restore_4 : decode cX11_restore 4 = .ok (.iload_n 1, 1) := by decide +kernel
theorem dX11_restore_5 : decode cX11_restore 5 = .ok (.aload_n 0, 1) := by decide +kernel
theorem dX11_restore_6 : decode cX11_restore 6 = .ok (.getfield 48, 3) := by decide +kernel
theorem dX11_restore_9 : decode cX11_restore 9 = .ok (.arraylength, 1) := by decide +kernel
theorem dX11_restore_10 : decode cX11_restore 10 = .ok (.if_icmp .ge 12, 3) := by decide +kernel
theorem dX11_restore_13 : decode cX11_restore 13 = .ok (.iload_n 1, 1) := by decide +kernel
theorem dX11_restore_14 : decode cX11_restore 14 = .ok (.aload_n 0, 1) := by decide +kernel
theorem dX11_restore_15 : decode cX11_restore 15 = .ok (.getfield 52, 3) := by decide +kernel
theorem dX11_restore_18 : decode cX11_restore 18 = .ok (.arraylength, 1) := by decide +kernel
theorem dX11_restore_19 : decode cX11_restore 19 = .ok (.if_icmp .lt 8, 3) := by decide +kernel
theorem dX11_restore_22 : decode cX11_restore 22 = .ok (.iconst 2, 1) := by decide +kernel
theorem dX11_restore_23 : decode cX11_restore 23 = .ok (.invokestatic 108, 3) := by decide +kernel
theorem dX11_restore_26 : decode cX11_restore 26 = .ok (.ireturn, 1) := by decide +kernel
theorem dX11_restore_27 : decode cX11_restore 27 = .ok (.aload_n 0, 1) := by decide +kernel
theorem dX11_restore_28 : decode cX11_restore 28 = .ok (.getfield 48, 3) := by decide +kernel
theorem dX11_restore_31 : decode cX11_restore 31 = .ok (.iload_n 1, 1) := by decide +kernel
theorem dX11_restore_32 : decode cX11_restore 32 = .ok (.aaload, 1) := by decide +kernel
theorem dX11_restore_33 : decode cX11_restore 33 = .ok (.astore_n 2, 1) := by decide +kernel
theorem dX11_restore_34 : decode cX11_restore 34 = .ok (.aload_n 0, 1) := by decide +kernel
theorem dX11_restore_35 : decode cX11_restore 35 = .ok (.getfield 52, 3) := by decide +kernel
theorem dX11_restore_38 : decode cX11_restore 38 = .ok (.iload_n 1, 1) := by decide +kernel
theorem dX11_restore_39 : decode cX11_restore 39 = .ok (.aaload, 1) := by decide +kernel
theorem dX11_restore_40 : decode cX11_restore 40 = .ok (.astore_n 3, 1) := by decide +kernel
theorem dX11_restore_41 : decode cX11_restore 41 = .ok (.aload_n 2, 1) := by decide +kernel
theorem dX11_restore_42 : decode cX11_restore 42 = .ok (.ifnull 7, 3) := by decide +kernel
theorem dX11_restore_45 : decode cX11_restore 45 = .ok (.aload_n 3, 1) := by decide +kernel
theorem dX11_restore_46 : decode cX11_restore 46 = .ok (.ifnonnull 8, 3) := by decide +kernel
theorem dX11_restore_49 : decode cX11_restore 49 = .ok (.iconst 5, 1) := by decide +kernel
theorem dX11_restore_50 : decode cX11_restore 50 = .ok (.invokestatic 108, 3) := by decide +kernel
theorem dX11_restore_53 : decode cX11_restore 53 = .ok (.ireturn, 1) := by decide +kernel
theorem dX11_restore_54 : decode cX11_restore 54 = .ok (.aload_n 0, 1) := by decide +kernel
theorem dX11_restore_55 : decode cX11_restore 55 = .ok (.aload_n 2, 1) := by decide +kernel
theorem dX11_restore_56 : decode cX11_restore 56 = .ok (.putfield 27, 3) := by decide +kernel
theorem dX11_restore_59 : decode cX11_restore 59 = .ok (.aload_n 0, 1) := by decide +kernel
theorem dX11_restore_60 : decode cX11_restore 60 = .ok (.getfield 34, 3) := by decide +kernel
theorem dX11_restore_63 : decode cX11_restore 63 = .ok (.aload_n 3, 1) := by decide +kernel
theorem dX11_restore_64 : decode cX11_restore 64 = .ok (.invokevirtual 163, 3) := by decide +kernel
theorem dX11_restore_67 : decode cX11_restore 67 = .ok (.aload_n 0, 1) := by decide +kernel
theorem dX11_restore_68 : decode cX11_restore 68 = .ok (.getfield 44, 3) := by decide +kernel
theorem dX11_restore_71 : decode cX11_restore 71 = .ok (.invokevirtual 127, 3) := by decide +kernel
theorem dX11_restore_74 : decode cX11_restore 74 = .ok (.iconst 0, 1) := by decide +kernel
theorem dX11_restore_75 : decode cX11_restore 75 = .ok (.ireturn, 1) := by decide +kernel
theorem dX11_count_0 : decode cX11_count 0 = .ok (.iload_n 1, 1) := by decide +kernel
theorem dX11_count_1 : decode cX11_count 1 = .ok (.tableswitch 132 0 9 #[55, 63, 71, 79, 87, 95, 103, 111, 119, 124], 55) := by decide +kernel
theorem dX11_count_56 : decode cX11_count 56 = .ok (.aload_n 0, 1) := by decide +kernel
theorem dX11_count_57 : decode cX11_count 57 = .ok (.getfield 27, 3) := by decide +kernel
theorem dX11_count_60 : decode cX11_count 60 = .ok (.getfield 148, 3) := by decide +kernel
theorem dX11_count_63 : decode cX11_count 63 = .ok (.ireturn, 1) := by decide +kernel
theorem dX11_count_64 : decode cX11_count 64 = .ok (.aload_n 0, 1) := by decide +kernel
theorem dX11_count_65 : decode cX11_count 65 = .ok (.getfield 27, 3) := by decide +kernel
theorem dX11_count_68 : decode cX11_count 68 = .ok (.getfield 278, 3) := by decide +kernel
theorem dX11_count_71 : decode cX11_count 71 = .ok (.ireturn, 1) := by decide +kernel
theorem dX11_count_72 : decode cX11_count 72 = .ok (.aload_n 0, 1) := by decide +kernel
theorem dX11_count_73 : decode cX11_count 73 = .ok (.getfield 34, 3) := by decide +kernel
theorem dX11_count_76 : decode cX11_count 76 = .ok (.getfield 319, 3) := by decide +kernel
theorem dX11_count_79 : decode cX11_count 79 = .ok (.ireturn, 1) := by decide +kernel
theorem dX11_count_80 : decode cX11_count 80 = .ok (.aload_n 0, 1) := by decide +kernel
theorem dX11_count_81 : decode cX11_count 81 = .ok (.getfield 34, 3) := by decide +kernel
theorem dX11_count_84 : decode cX11_count 84 = .ok (.getfield 182, 3) := by decide +kernel
theorem dX11_count_87 : decode cX11_count 87 = .ok (.ireturn, 1) := by decide +kernel
theorem dX11_count_88 : decode cX11_count 88 = .ok (.aload_n 0, 1) := by decide +kernel
theorem dX11_count_89 : decode cX11_count 89 = .ok (.getfield 34, 3) := by decide +kernel
theorem dX11_count_92 : decode cX11_count 92 = .ok (.invokevirtual 216, 3) := by decide +kernel
theorem dX11_count_95 : decode cX11_count 95 = .ok (.ireturn, 1) := by decide +kernel
theorem dX11_count_96 : decode cX11_count 96 = .ok (.aload_n 0, 1) := by decide +kernel
theorem dX11_count_97 : decode cX11_count 97 = .ok (.getfield 34, 3) := by decide +kernel
theorem dX11_count_100 : decode cX11_count 100 = .ok (.invokevirtual 220, 3) := by decide +kernel
theorem dX11_count_103 : decode cX11_count 103 = .ok (.ireturn, 1) := by decide +kernel
theorem dX11_count_104 : decode cX11_count 104 = .ok (.aload_n 0, 1) := by decide +kernel
theorem dX11_count_105 : decode cX11_count 105 = .ok (.getfield 34, 3) := by decide +kernel
theorem dX11_count_108 : decode cX11_count 108 = .ok (.invokevirtual 320, 3) := by decide +kernel
theorem dX11_count_111 : decode cX11_count 111 = .ok (.ireturn, 1) := by decide +kernel
theorem dX11_count_112 : decode cX11_count 112 = .ok (.aload_n 0, 1) := by decide +kernel
theorem dX11_count_113 : decode cX11_count 113 = .ok (.getfield 44, 3) := by decide +kernel
theorem dX11_count_116 : decode cX11_count 116 = .ok (.getfield 197, 3) := by decide +kernel
theorem dX11_count_119 : decode cX11_count 119 = .ok (.ireturn, 1) := by decide +kernel
theorem dX11_count_120 : decode cX11_count 120 = .ok (.aload_n 0, 1) := by decide +kernel
theorem dX11_count_121 : decode cX11_count 121 = .ok (.getfield 13, 3) := by decide +kernel
theorem dX11_count_124 : decode cX11_count 124 = .ok (.ireturn, 1) := by decide +kernel
theorem dX11_count_125 : decode cX11_count 125 = .ok (.aload_n 0, 1) := by decide +kernel
theorem dX11_count_126 : decode cX11_count 126 = .ok (.getfield 27, 3) := by decide +kernel
theorem dX11_count_129 : decode cX11_count 129 = .ok (.getfield 130, 3) := by decide +kernel
theorem dX11_count_132 : decode cX11_count 132 = .ok (.ireturn, 1) := by decide +kernel
theorem dX11_count_133 : decode cX11_count 133 = .ok (.iconst (-1), 1) := by decide +kernel
theorem dX11_count_134 : decode cX11_count 134 = .ok (.ireturn, 1) := by decide +kernel
theorem dX11_refused_0 : decode cX11_refused 0 = .ok (.ldc_w 323, 3) := by decide +kernel
theorem dX11_refused_3 : decode cX11_refused 3 = .ok (.iload_n 0, 1) := by decide +kernel
theorem dX11_refused_4 : decode cX11_refused 4 = .ok (.isub, 1) := by decide +kernel
theorem dX11_refused_5 : decode cX11_refused 5 = .ok (.ireturn, 1) := by decide +kernel
theorem dX11_tapeWord_0 : decode cX11_tapeWord 0 = .ok (.bipush 24, 2) := by decide +kernel
theorem dX11_tapeWord_2 : decode cX11_tapeWord 2 = .ok (.istore_n 2, 1) := by decide +kernel
theorem dX11_tapeWord_3 : decode cX11_tapeWord 3 = .ok (.iload_n 2, 1) := by decide +kernel
theorem dX11_tapeWord_4 : decode cX11_tapeWord 4 = .ok (.ifCond .lt 44, 3) := by decide +kernel
theorem dX11_tapeWord_7 : decode cX11_tapeWord 7 = .ok (.aload_n 0, 1) := by decide +kernel
theorem dX11_tapeWord_8 : decode cX11_tapeWord 8 = .ok (.getfield 13, 3) := by decide +kernel
theorem dX11_tapeWord_11 : decode cX11_tapeWord 11 = .ok (.aload_n 0, 1) := by decide +kernel
theorem dX11_tapeWord_12 : decode cX11_tapeWord 12 = .ok (.getfield 9, 3) := by decide +kernel
theorem dX11_tapeWord_15 : decode cX11_tapeWord 15 = .ok (.arraylength, 1) := by decide +kernel
theorem dX11_tapeWord_16 : decode cX11_tapeWord 16 = .ok (.if_icmp .ge 26, 3) := by decide +kernel
theorem dX11_tapeWord_19 : decode cX11_tapeWord 19 = .ok (.aload_n 0, 1) := by decide +kernel
theorem dX11_tapeWord_20 : decode cX11_tapeWord 20 = .ok (.getfield 9, 3) := by decide +kernel
theorem dX11_tapeWord_23 : decode cX11_tapeWord 23 = .ok (.aload_n 0, 1) := by decide +kernel
theorem dX11_tapeWord_24 : decode cX11_tapeWord 24 = .ok (.getfield 13, 3) := by decide +kernel
theorem dX11_tapeWord_27 : decode cX11_tapeWord 27 = .ok (.iload_n 1, 1) := by decide +kernel
theorem dX11_tapeWord_28 : decode cX11_tapeWord 28 = .ok (.iload_n 2, 1) := by decide +kernel
theorem dX11_tapeWord_29 : decode cX11_tapeWord 29 = .ok (.iushr, 1) := by decide +kernel
theorem dX11_tapeWord_30 : decode cX11_tapeWord 30 = .ok (.i2b, 1) := by decide +kernel
theorem dX11_tapeWord_31 : decode cX11_tapeWord 31 = .ok (.bastore, 1) := by decide +kernel
theorem dX11_tapeWord_32 : decode cX11_tapeWord 32 = .ok (.aload_n 0, 1) := by decide +kernel
theorem dX11_tapeWord_33 : decode cX11_tapeWord 33 = .ok (.dup, 1) := by decide +kernel
theorem dX11_tapeWord_34 : decode cX11_tapeWord 34 = .ok (.getfield 13, 3) := by decide +kernel
theorem dX11_tapeWord_37 : decode cX11_tapeWord 37 = .ok (.iconst 1, 1) := by decide +kernel
theorem dX11_tapeWord_38 : decode cX11_tapeWord 38 = .ok (.iadd, 1) := by decide +kernel
theorem dX11_tapeWord_39 : decode cX11_tapeWord 39 = .ok (.putfield 13, 3) := by decide +kernel
theorem dX11_tapeWord_42 : decode cX11_tapeWord 42 = .ok (.iinc 2 (-8), 3) := by decide +kernel
theorem dX11_tapeWord_45 : decode cX11_tapeWord 45 = .ok (.goto (-42), 3) := by decide +kernel
theorem dX11_tapeWord_48 : decode cX11_tapeWord 48 = .ok (.return_, 1) := by decide +kernel
theorem dX11_trayAt_0 : decode cX11_trayAt 0 = .ok (.iload_n 1, 1) := by decide +kernel
theorem dX11_trayAt_1 : decode cX11_trayAt 1 = .ok (.ifCond .lt 21, 3) := by decide +kernel
theorem dX11_trayAt_4 : decode cX11_trayAt 4 = .ok (.iload_n 1, 1) := by decide +kernel
theorem dX11_trayAt_5 : decode cX11_trayAt 5 = .ok (.aload_n 0, 1) := by decide +kernel
theorem dX11_trayAt_6 : decode cX11_trayAt 6 = .ok (.getfield 58, 3) := by decide +kernel
theorem dX11_trayAt_9 : decode cX11_trayAt 9 = .ok (.arraylength, 1) := by decide +kernel
theorem dX11_trayAt_10 : decode cX11_trayAt 10 = .ok (.if_icmp .ge 12, 3) := by decide +kernel
theorem dX11_trayAt_13 : decode cX11_trayAt 13 = .ok (.aload_n 0, 1) := by decide +kernel
theorem dX11_trayAt_14 : decode cX11_trayAt 14 = .ok (.getfield 58, 3) := by decide +kernel
theorem dX11_trayAt_17 : decode cX11_trayAt 17 = .ok (.iload_n 1, 1) := by decide +kernel
theorem dX11_trayAt_18 : decode cX11_trayAt 18 = .ok (.aaload, 1) := by decide +kernel
theorem dX11_trayAt_19 : decode cX11_trayAt 19 = .ok (.goto 4, 3) := by decide +kernel
theorem dX11_trayAt_22 : decode cX11_trayAt 22 = .ok (.aconst_null, 1) := by decide +kernel
theorem dX11_trayAt_23 : decode cX11_trayAt 23 = .ok (.areturn, 1) := by decide +kernel
theorem dX11_livedFault_0 : decode cX11_livedFault 0 = .ok (.aload_n 0, 1) := by decide +kernel
theorem dX11_livedFault_1 : decode cX11_livedFault 1 = .ok (.iload_n 1, 1) := by decide +kernel
theorem dX11_livedFault_2 : decode cX11_livedFault 2 = .ok (.invokevirtual 200, 3) := by decide +kernel
theorem dX11_livedFault_5 : decode cX11_livedFault 5 = .ok (.astore_n 3, 1) := by decide +kernel
theorem dX11_livedFault_6 : decode cX11_livedFault 6 = .ok (.aload_n 3, 1) := by decide +kernel
theorem dX11_livedFault_7 : decode cX11_livedFault 7 = .ok (.ifnull 14, 3) := by decide +kernel
theorem dX11_livedFault_10 : decode cX11_livedFault 10 = .ok (.aload_n 0, 1) := by decide +kernel
theorem dX11_livedFault_11 : decode cX11_livedFault 11 = .ok (.getfield 34, 3) := by decide +kernel
theorem dX11_livedFault_14 : decode cX11_livedFault 14 = .ok (.iload_n 2, 1) := by decide +kernel
theorem dX11_livedFault_15 : decode cX11_livedFault 15 = .ok (.invokevirtual 136, 3) := by decide +kernel
theorem dX11_livedFault_18 : decode cX11_livedFault 18 = .ok (.ifCond .ne 5, 3) := by decide +kernel
theorem dX11_livedFault_21 : decode cX11_livedFault 21 = .ok (.iconst 2, 1) := by decide +kernel
theorem dX11_livedFault_22 : decode cX11_livedFault 22 = .ok (.ireturn, 1) := by decide +kernel
theorem dX11_livedFault_23 : decode cX11_livedFault 23 = .ok (.aload_n 3, 1) := by decide +kernel
theorem dX11_livedFault_24 : decode cX11_livedFault 24 = .ok (.getfield 204, 3) := by decide +kernel
theorem dX11_livedFault_27 : decode cX11_livedFault 27 = .ok (.ifCond .ne 6, 3) := by decide +kernel
theorem dX11_livedFault_30 : decode cX11_livedFault 30 = .ok (.bipush 6, 2) := by decide +kernel
theorem dX11_livedFault_32 : decode cX11_livedFault 32 = .ok (.ireturn, 1) := by decide +kernel
theorem dX11_livedFault_33 : decode cX11_livedFault 33 = .ok (.aload_n 3, 1) := by decide +kernel
theorem dX11_livedFault_34 : decode cX11_livedFault 34 = .ok (.getfield 212, 3) := by decide +kernel
theorem dX11_livedFault_37 : decode cX11_livedFault 37 = .ok (.iconst 1, 1) := by decide +kernel
theorem dX11_livedFault_38 : decode cX11_livedFault 38 = .ok (.if_icmp .lt 36, 3) := by decide +kernel
theorem dX11_livedFault_41 : decode cX11_livedFault 41 = .ok (.aload_n 3, 1) := by decide +kernel
theorem dX11_livedFault_42 : decode cX11_livedFault 42 = .ok (.getfield 212, 3) := by decide +kernel
theorem dX11_livedFault_45 : decode cX11_livedFault 45 = .ok (.bipush 12, 2) := by decide +kernel
theorem dX11_livedFault_47 : decode cX11_livedFault 47 = .ok (.if_icmp .gt 27, 3) := by decide +kernel
theorem dX11_livedFault_50 : decode cX11_livedFault 50 = .ok (.aload_n 3, 1) := by decide +kernel
theorem dX11_livedFault_51 : decode cX11_livedFault 51 = .ok (.getfield 212, 3) := by decide +kernel
theorem dX11_livedFault_54 : decode cX11_livedFault 54 = .ok (.aload_n 0, 1) := by decide +kernel
theorem dX11_livedFault_55 : decode cX11_livedFault 55 = .ok (.getfield 27, 3) := by decide +kernel
theorem dX11_livedFault_58 : decode cX11_livedFault 58 = .ok (.getfield 148, 3) := by decide +kernel
theorem dX11_livedFault_61 : decode cX11_livedFault 61 = .ok (.aload_n 0, 1) := by decide +kernel
theorem dX11_livedFault_62 : decode cX11_livedFault 62 = .ok (.getfield 34, 3) := by decide +kernel
theorem dX11_livedFault_65 : decode cX11_livedFault 65 = .ok (.iload_n 2, 1) := by decide +kernel
theorem dX11_livedFault_66 : decode cX11_livedFault 66 = .ok (.iconst 0, 1) := by decide +kernel
theorem dX11_livedFault_67 : decode cX11_livedFault 67 = .ok (.invokevirtual 140, 3) := by decide +kernel
theorem dX11_livedFault_70 : decode cX11_livedFault 70 = .ok (.isub, 1) := by decide +kernel
theorem dX11_livedFault_71 : decode cX11_livedFault 71 = .ok (.if_icmp .le 5, 3) := by decide +kernel
theorem dX11_livedFault_74 : decode cX11_livedFault 74 = .ok (.iconst 4, 1) := by decide +kernel
theorem dX11_livedFault_75 : decode cX11_livedFault 75 = .ok (.ireturn, 1) := by decide +kernel
theorem dX11_livedFault_76 : decode cX11_livedFault 76 = .ok (.iconst 0, 1) := by decide +kernel
theorem dX11_livedFault_77 : decode cX11_livedFault 77 = .ok (.istore 4, 2) := by decide +kernel
theorem dX11_livedFault_79 : decode cX11_livedFault 79 = .ok (.iload 4, 2) := by decide +kernel
theorem dX11_livedFault_81 : decode cX11_livedFault 81 = .ok (.aload_n 3, 1) := by decide +kernel
theorem dX11_livedFault_82 : decode cX11_livedFault 82 = .ok (.getfield 212, 3) := by decide +kernel
theorem dX11_livedFault_85 : decode cX11_livedFault 85 = .ok (.if_icmp .ge 27, 3) := by decide +kernel
theorem dX11_livedFault_88 : decode cX11_livedFault 88 = .ok (.aload_n 0, 1) := by decide +kernel
theorem dX11_livedFault_89 : decode cX11_livedFault 89 = .ok (.getfield 27, 3) := by decide +kernel
theorem dX11_livedFault_92 : decode cX11_livedFault 92 = .ok (.aload_n 3, 1) := by decide +kernel
theorem dX11_livedFault_93 : decode cX11_livedFault 93 = .ok (.iload 4, 2) := by decide +kernel
theorem dX11_livedFault_95 : decode cX11_livedFault 95 = .ok (.invokevirtual 312, 3) := by decide +kernel
theorem dX11_livedFault_98 : decode cX11_livedFault 98 = .ok (.invokevirtual 144, 3) := by decide +kernel
theorem dX11_livedFault_101 : decode cX11_livedFault 101 = .ok (.ifCond .ne 5, 3) := by decide +kernel
theorem dX11_livedFault_104 : decode cX11_livedFault 104 = .ok (.iconst 3, 1) := by decide +kernel
theorem dX11_livedFault_105 : decode cX11_livedFault 105 = .ok (.ireturn, 1) := by decide +kernel
theorem dX11_livedFault_106 : decode cX11_livedFault 106 = .ok (.iinc 4 1, 3) := by decide +kernel
theorem dX11_livedFault_109 : decode cX11_livedFault 109 = .ok (.goto (-30), 3) := by decide +kernel
theorem dX11_livedFault_112 : decode cX11_livedFault 112 = .ok (.iconst 0, 1) := by decide +kernel
theorem dX11_livedFault_113 : decode cX11_livedFault 113 = .ok (.ireturn, 1) := by decide +kernel
theorem dX11_fittingTalents_0 : decode cX11_fittingTalents 0 = .ok (.iconst 0, 1) := by decide +kernel
theorem dX11_fittingTalents_1 : decode cX11_fittingTalents 1 = .ok (.istore 4, 2) := by decide +kernel
theorem dX11_fittingTalents_3 : decode cX11_fittingTalents 3 = .ok (.iconst 0, 1) := by decide +kernel
theorem dX11_fittingTalents_4 : decode cX11_fittingTalents 4 = .ok (.istore 5, 2) := by decide +kernel
theorem dX11_fittingTalents_6 : decode cX11_fittingTalents 6 = .ok (.aload_n 1, 1) := by decide +kernel
theorem dX11_fittingTalents_7 : decode cX11_fittingTalents 7 = .ok (.ifnull 112, 3) := by decide +kernel
theorem dX11_fittingTalents_10 : decode cX11_fittingTalents 10 = .ok (.iload 5, 2) := by decide +kernel
theorem dX11_fittingTalents_12 : decode cX11_fittingTalents 12 = .ok (.bipush 10, 2) := by decide +kernel
theorem dX11_fittingTalents_14 : decode cX11_fittingTalents 14 = .ok (.if_icmp .ge 105, 3) := by decide +kernel
theorem dX11_fittingTalents_17 : decode cX11_fittingTalents 17 = .ok (.aload_n 0, 1) := by decide +kernel
theorem dX11_fittingTalents_18 : decode cX11_fittingTalents 18 = .ok (.getfield 38, 3) := by decide +kernel
theorem dX11_fittingTalents_21 : decode cX11_fittingTalents 21 = .ok (.aload_n 0, 1) := by decide +kernel
theorem dX11_fittingTalents_22 : decode cX11_fittingTalents 22 = .ok (.getfield 34, 3) := by decide +kernel
theorem dX11_fittingTalents_25 : decode cX11_fittingTalents 25 = .ok (.invokevirtual 163, 3) := by decide +kernel
theorem dX11_fittingTalents_28 : decode cX11_fittingTalents 28 = .ok (.aload_n 0, 1) := by decide +kernel
theorem dX11_fittingTalents_29 : decode cX11_fittingTalents 29 = .ok (.getfield 38, 3) := by decide +kernel
theorem dX11_fittingTalents_32 : decode cX11_fittingTalents 32 = .ok (.iload_n 2, 1) := by decide +kernel
theorem dX11_fittingTalents_33 : decode cX11_fittingTalents 33 = .ok (.bipush 6, 2) := by decide +kernel
theorem dX11_fittingTalents_35 : decode cX11_fittingTalents 35 = .ok (.iload 5, 2) := by decide +kernel
theorem dX11_fittingTalents_37 : decode cX11_fittingTalents 37 = .ok (.invokevirtual 189, 3) := by decide +kernel
theorem dX11_fittingTalents_40 : decode cX11_fittingTalents 40 = .ok (.iconst 0, 1) := by decide +kernel
theorem dX11_fittingTalents_41 : decode cX11_fittingTalents 41 = .ok (.istore 6, 2) := by decide +kernel
theorem dX11_fittingTalents_43 : decode cX11_fittingTalents 43 = .ok (.iload 6, 2) := by decide +kernel
theorem dX11_fittingTalents_45 : decode cX11_fittingTalents 45 = .ok (.aload_n 1, 1) := by decide +kernel
theorem dX11_fittingTalents_46 : decode cX11_fittingTalents 46 = .ok (.getfield 212, 3) := by decide +kernel
theorem dX11_fittingTalents_49 : decode cX11_fittingTalents 49 = .ok (.if_icmp .ge 32, 3) := by decide +kernel
theorem dX11_fittingTalents_52 : decode cX11_fittingTalents 52 = .ok (.aload_n 0, 1) := by decide +kernel
theorem dX11_fittingTalents_53 : decode cX11_fittingTalents 53 = .ok (.getfield 74, 3) := by decide +kernel
theorem dX11_fittingTalents_56 : decode cX11_fittingTalents 56 = .ok (.aload_n 0, 1) := by decide +kernel
theorem dX11_fittingTalents_57 : decode cX11_fittingTalents 57 = .ok (.getfield 27, 3) := by decide +kernel
theorem dX11_fittingTalents_60 : decode cX11_fittingTalents 60 = .ok (.aload_n 0, 1) := by decide +kernel
theorem dX11_fittingTalents_61 : decode cX11_fittingTalents 61 = .ok (.getfield 38, 3) := by decide +kernel
theorem dX11_fittingTalents_64 : decode cX11_fittingTalents 64 = .ok (.iload_n 2, 1) := by decide +kernel
theorem dX11_fittingTalents_65 : decode cX11_fittingTalents 65 = .ok (.aload_n 1, 1) := by decide +kernel
theorem dX11_fittingTalents_66 : decode cX11_fittingTalents 66 = .ok (.iload 6, 2) := by decide +kernel
theorem dX11_fittingTalents_68 : decode cX11_fittingTalents 68 = .ok (.invokevirtual 312, 3) := by decide +kernel
theorem dX11_fittingTalents_71 : decode cX11_fittingTalents 71 = .ok (.invokevirtual 167, 3) := by decide +kernel
theorem dX11_fittingTalents_74 : decode cX11_fittingTalents 74 = .ok (.pop, 1) := by decide +kernel
theorem dX11_fittingTalents_75 : decode cX11_fittingTalents 75 = .ok (.iinc 6 1, 3) := by decide +kernel
theorem dX11_fittingTalents_78 : decode cX11_fittingTalents 78 = .ok (.goto (-35), 3) := by decide +kernel
theorem dX11_fittingTalents_81 : decode cX11_fittingTalents 81 = .ok (.aload_n 0, 1) := by decide +kernel
theorem dX11_fittingTalents_82 : decode cX11_fittingTalents 82 = .ok (.getfield 38, 3) := by decide +kernel
theorem dX11_fittingTalents_85 : decode cX11_fittingTalents 85 = .ok (.iload_n 2, 1) := by decide +kernel
theorem dX11_fittingTalents_86 : decode cX11_fittingTalents 86 = .ok (.iconst 2, 1) := by decide +kernel
theorem dX11_fittingTalents_87 : decode cX11_fittingTalents 87 = .ok (.invokevirtual 140, 3) := by decide +kernel
theorem dX11_fittingTalents_90 : decode cX11_fittingTalents 90 = .ok (.aload_n 0, 1) := by decide +kernel
theorem dX11_fittingTalents_91 : decode cX11_fittingTalents 91 = .ok (.getfield 34, 3) := by decide +kernel
theorem dX11_fittingTalents_94 : decode cX11_fittingTalents 94 = .ok (.iload_n 2, 1) := by decide +kernel
theorem dX11_fittingTalents_95 : decode cX11_fittingTalents 95 = .ok (.iconst 2, 1) := by decide +kernel
theorem dX11_fittingTalents_96 : decode cX11_fittingTalents 96 = .ok (.invokevirtual 140, 3) := by decide +kernel
theorem dX11_fittingTalents_99 : decode cX11_fittingTalents 99 = .ok (.isub, 1) := by decide +kernel
theorem dX11_fittingTalents_100 : decode cX11_fittingTalents 100 = .ok (.iload_n 3, 1) := by decide +kernel
theorem dX11_fittingTalents_101 : decode cX11_fittingTalents 101 = .ok (.if_icmp .ne 12, 3) := by decide +kernel
theorem dX11_fittingTalents_104 : decode cX11_fittingTalents 104 = .ok (.iload 4, 2) := by decide +kernel
theorem dX11_fittingTalents_106 : decode cX11_fittingTalents 106 = .ok (.iconst 1, 1) := by decide +kernel
theorem dX11_fittingTalents_107 : decode cX11_fittingTalents 107 = .ok (.iload 5, 2) := by decide +kernel
theorem dX11_fittingTalents_109 : decode cX11_fittingTalents 109 = .ok (.ishl, 1) := by decide +kernel
theorem dX11_fittingTalents_110 : decode cX11_fittingTalents 110 = .ok (.ior, 1) := by decide +kernel
theorem dX11_fittingTalents_111 : decode cX11_fittingTalents 111 = .ok (.istore 4, 2) := by decide +kernel
theorem dX11_fittingTalents_113 : decode cX11_fittingTalents 113 = .ok (.iinc 5 1, 3) := by decide +kernel
theorem dX11_fittingTalents_116 : decode cX11_fittingTalents 116 = .ok (.goto (-110), 3) := by decide +kernel
theorem dX11_fittingTalents_119 : decode cX11_fittingTalents 119 = .ok (.iload 4, 2) := by decide +kernel
theorem dX11_fittingTalents_121 : decode cX11_fittingTalents 121 = .ok (.ireturn, 1) := by decide +kernel
theorem dX11_mostAlike_0 : decode cX11_mostAlike 0 = .ok (.aload_n 0, 1) := by decide +kernel
theorem dX11_mostAlike_1 : decode cX11_mostAlike 1 = .ok (.getfield 103, 3) := by decide +kernel
theorem dX11_mostAlike_4 : decode cX11_mostAlike 4 = .ok (.iconst 0, 1) := by decide +kernel
theorem dX11_mostAlike_5 : decode cX11_mostAlike 5 = .ok (.invokestatic 324, 3) := by decide +kernel
theorem dX11_mostAlike_8 : decode cX11_mostAlike 8 = .ok (.aload_n 0, 1) := by decide +kernel
theorem dX11_mostAlike_9 : decode cX11_mostAlike 9 = .ok (.getfield 38, 3) := by decide +kernel
theorem dX11_mostAlike_12 : decode cX11_mostAlike 12 = .ok (.aload_n 0, 1) := by decide +kernel
theorem dX11_mostAlike_13 : decode cX11_mostAlike 13 = .ok (.getfield 34, 3) := by decide +kernel
theorem dX11_mostAlike_16 : decode cX11_mostAlike 16 = .ok (.invokevirtual 163, 3) := by decide +kernel
theorem dX11_mostAlike_19 : decode cX11_mostAlike 19 = .ok (.iconst 0, 1) := by decide +kernel
theorem dX11_mostAlike_20 : decode cX11_mostAlike 20 = .ok (.istore 4, 2) := by decide +kernel
theorem dX11_mostAlike_22 : decode cX11_mostAlike 22 = .ok (.iconst 0, 1) := by decide +kernel
theorem dX11_mostAlike_23 : decode cX11_mostAlike 23 = .ok (.istore 5, 2) := by decide +kernel
theorem dX11_mostAlike_25 : decode cX11_mostAlike 25 = .ok (.iload 5, 2) := by decide +kernel
theorem dX11_mostAlike_27 : decode cX11_mostAlike 27 = .ok (.bipush 10, 2) := by decide +kernel
theorem dX11_mostAlike_29 : decode cX11_mostAlike 29 = .ok (.if_icmp .ge 102, 3) := by decide +kernel
theorem dX11_mostAlike_32 : decode cX11_mostAlike 32 = .ok (.iload_n 3, 1) := by decide +kernel
theorem dX11_mostAlike_33 : decode cX11_mostAlike 33 = .ok (.iload 5, 2) := by decide +kernel
theorem dX11_mostAlike_35 : decode cX11_mostAlike 35 = .ok (.ishr, 1) := by decide +kernel
theorem dX11_mostAlike_36 : decode cX11_mostAlike 36 = .ok (.iconst 1, 1) := by decide +kernel
theorem dX11_mostAlike_37 : decode cX11_mostAlike 37 = .ok (.iand, 1) := by decide +kernel
theorem dX11_mostAlike_38 : decode cX11_mostAlike 38 = .ok (.ifCond .ne 6, 3) := by decide +kernel
theorem dX11_mostAlike_41 : decode cX11_mostAlike 41 = .ok (.goto 84, 3) := by decide +kernel
theorem dX11_mostAlike_44 : decode cX11_mostAlike 44 = .ok (.aload_n 0, 1) := by decide +kernel
theorem dX11_mostAlike_45 : decode cX11_mostAlike 45 = .ok (.getfield 38, 3) := by decide +kernel
theorem dX11_mostAlike_48 : decode cX11_mostAlike 48 = .ok (.iload_n 1, 1) := by decide +kernel
theorem dX11_mostAlike_49 : decode cX11_mostAlike 49 = .ok (.bipush 6, 2) := by decide +kernel
theorem dX11_mostAlike_51 : decode cX11_mostAlike 51 = .ok (.iload 5, 2) := by decide +kernel
theorem dX11_mostAlike_53 : decode cX11_mostAlike 53 = .ok (.invokevirtual 189, 3) := by decide +kernel
theorem dX11_mostAlike_56 : decode cX11_mostAlike 56 = .ok (.aload_n 0, 1) := by decide +kernel
theorem dX11_mostAlike_57 : decode cX11_mostAlike 57 = .ok (.getfield 65, 3) := by decide +kernel
theorem dX11_mostAlike_60 : decode cX11_mostAlike 60 = .ok (.aload_n 0, 1) := by decide +kernel
theorem dX11_mostAlike_61 : decode cX11_mostAlike 61 = .ok (.getfield 38, 3) := by decide +kernel
theorem dX11_mostAlike_64 : decode cX11_mostAlike 64 = .ok (.iload_n 1, 1) := by decide +kernel
theorem dX11_mostAlike_65 : decode cX11_mostAlike 65 = .ok (.invokevirtual 151, 3) := by decide +kernel
theorem dX11_mostAlike_68 : decode cX11_mostAlike 68 = .ok (.aload_n 0, 1) := by decide +kernel
theorem dX11_mostAlike_69 : decode cX11_mostAlike 69 = .ok (.getfield 65, 3) := by decide +kernel
theorem dX11_mostAlike_72 : decode cX11_mostAlike 72 = .ok (.aload_n 0, 1) := by decide +kernel
theorem dX11_mostAlike_73 : decode cX11_mostAlike 73 = .ok (.getfield 27, 3) := by decide +kernel
theorem dX11_mostAlike_76 : decode cX11_mostAlike 76 = .ok (.iload_n 2, 1) := by decide +kernel
theorem dX11_mostAlike_77 : decode cX11_mostAlike 77 = .ok (.invokevirtual 155, 3) := by decide +kernel
theorem dX11_mostAlike_80 : decode cX11_mostAlike 80 = .ok (.bipush (-9), 2) := by decide +kernel
theorem dX11_mostAlike_82 : decode cX11_mostAlike 82 = .ok (.isub, 1) := by decide +kernel
theorem dX11_mostAlike_83 : decode cX11_mostAlike 83 = .ok (.istore 6, 2) := by decide +kernel
theorem dX11_mostAlike_85 : decode cX11_mostAlike 85 = .ok (.iload 6, 2) := by decide +kernel
theorem dX11_mostAlike_87 : decode cX11_mostAlike 87 = .ok (.ifCond .lt 38, 3) := by decide +kernel
theorem dX11_mostAlike_90 : decode cX11_mostAlike 90 = .ok (.iload 6, 2) := by decide +kernel
theorem dX11_mostAlike_92 : decode cX11_mostAlike 92 = .ok (.aload_n 0, 1) := by decide +kernel
theorem dX11_mostAlike_93 : decode cX11_mostAlike 93 = .ok (.getfield 103, 3) := by decide +kernel
theorem dX11_mostAlike_96 : decode cX11_mostAlike 96 = .ok (.arraylength, 1) := by decide +kernel
theorem dX11_mostAlike_97 : decode cX11_mostAlike 97 = .ok (.if_icmp .ge 28, 3) := by decide +kernel
theorem dX11_mostAlike_100 : decode cX11_mostAlike 100 = .ok (.aload_n 0, 1) := by decide +kernel
theorem dX11_mostAlike_101 : decode cX11_mostAlike 101 = .ok (.getfield 103, 3) := by decide +kernel
theorem dX11_mostAlike_104 : decode cX11_mostAlike 104 = .ok (.iload 6, 2) := by decide +kernel
theorem dX11_mostAlike_106 : decode cX11_mostAlike 106 = .ok (.dup2, 1) := by decide +kernel
theorem dX11_mostAlike_107 : decode cX11_mostAlike 107 = .ok (.iaload, 1) := by decide +kernel
theorem dX11_mostAlike_108 : decode cX11_mostAlike 108 = .ok (.iconst 1, 1) := by decide +kernel
theorem dX11_mostAlike_109 : decode cX11_mostAlike 109 = .ok (.iadd, 1) := by decide +kernel
theorem dX11_mostAlike_110 : decode cX11_mostAlike 110 = .ok (.iastore, 1) := by decide +kernel
theorem dX11_mostAlike_111 : decode cX11_mostAlike 111 = .ok (.iload 4, 2) := by decide +kernel
theorem dX11_mostAlike_113 : decode cX11_mostAlike 113 = .ok (.aload_n 0, 1) := by decide +kernel
theorem dX11_mostAlike_114 : decode cX11_mostAlike 114 = .ok (.getfield 103, 3) := by decide +kernel
theorem dX11_mostAlike_117 : decode cX11_mostAlike 117 = .ok (.iload 6, 2) := by decide +kernel
theorem dX11_mostAlike_119 : decode cX11_mostAlike 119 = .ok (.iaload, 1) := by decide +kernel
theorem dX11_mostAlike_120 : decode cX11_mostAlike 120 = .ok (.invokestatic 330, 3) := by decide +kernel
theorem dX11_mostAlike_123 : decode cX11_mostAlike 123 = .ok (.istore 4, 2) := by decide +kernel
theorem dX11_mostAlike_125 : decode cX11_mostAlike 125 = .ok (.iinc 5 1, 3) := by decide +kernel
theorem dX11_mostAlike_128 : decode cX11_mostAlike 128 = .ok (.goto (-103), 3) := by decide +kernel
theorem dX11_mostAlike_131 : decode cX11_mostAlike 131 = .ok (.iload 4, 2) := by decide +kernel
theorem dX11_mostAlike_133 : decode cX11_mostAlike 133 = .ok (.ireturn, 1) := by decide +kernel
theorem dX11_within_0 : decode cX11_within 0 = .ok (.iload_n 0, 1) := by decide +kernel
theorem dX11_within_1 : decode cX11_within 1 = .ok (.iload_n 1, 1) := by decide +kernel
theorem dX11_within_2 : decode cX11_within 2 = .ok (.if_icmp .ge 7, 3) := by decide +kernel
theorem dX11_within_5 : decode cX11_within 5 = .ok (.iload_n 1, 1) := by decide +kernel
theorem dX11_within_6 : decode cX11_within 6 = .ok (.goto 13, 3) := by decide +kernel
theorem dX11_within_9 : decode cX11_within 9 = .ok (.iload_n 0, 1) := by decide +kernel
theorem dX11_within_10 : decode cX11_within 10 = .ok (.iload_n 2, 1) := by decide +kernel
theorem dX11_within_11 : decode cX11_within 11 = .ok (.if_icmp .le 7, 3) := by decide +kernel
theorem dX11_within_14 : decode cX11_within 14 = .ok (.iload_n 2, 1) := by decide +kernel
theorem dX11_within_15 : decode cX11_within 15 = .ok (.goto 4, 3) := by decide +kernel
theorem dX11_within_18 : decode cX11_within 18 = .ok (.iload_n 0, 1) := by decide +kernel
theorem dX11_within_19 : decode cX11_within 19 = .ok (.ireturn, 1) := by decide +kernel
theorem dX12_within_0 : decode cX12_within 0 = .ok (.lload_n 0, 1) := by decide +kernel
theorem dX12_within_1 : decode cX12_within 1 = .ok (.lload_n 2, 1) := by decide +kernel
theorem dX12_within_2 : decode cX12_within 2 = .ok (.lcmp, 1) := by decide +kernel
theorem dX12_within_3 : decode cX12_within 3 = .ok (.ifCond .lt 14, 3) := by decide +kernel
theorem dX12_within_6 : decode cX12_within 6 = .ok (.lload_n 0, 1) := by decide +kernel
theorem dX12_within_7 : decode cX12_within 7 = .ok (.lload 4, 2) := by decide +kernel
theorem dX12_within_9 : decode cX12_within 9 = .ok (.lcmp, 1) := by decide +kernel
theorem dX12_within_10 : decode cX12_within 10 = .ok (.ifCond .gt 7, 3) := by decide +kernel
theorem dX12_within_13 : decode cX12_within 13 = .ok (.iconst 1, 1) := by decide +kernel
theorem dX12_within_14 : decode cX12_within 14 = .ok (.goto 4, 3) := by decide +kernel
theorem dX12_within_17 : decode cX12_within 17 = .ok (.iconst 0, 1) := by decide +kernel
theorem dX12_within_18 : decode cX12_within 18 = .ok (.ireturn, 1) := by decide +kernel
theorem dX12_init_0 : decode cX12_init 0 = .ok (.aload_n 0, 1) := by decide +kernel
theorem dX12_init_1 : decode cX12_init 1 = .ok (.invokespecial 7, 3) := by decide +kernel
theorem dX12_init_4 : decode cX12_init 4 = .ok (.aload_n 0, 1) := by decide +kernel
theorem dX12_init_5 : decode cX12_init 5 = .ok (.sipush 4374, 3) := by decide +kernel
theorem dX12_init_8 : decode cX12_init 8 = .ok (.newarray .int, 2) := by decide +kernel
theorem dX12_init_10 : decode cX12_init 10 = .ok (.putfield 13, 3) := by decide +kernel
theorem dX12_init_13 : decode cX12_init 13 = .ok (.aload_n 0, 1) := by decide +kernel
theorem dX12_init_14 : decode cX12_init 14 = .ok (.iconst 2, 1) := by decide +kernel
theorem dX12_init_15 : decode cX12_init 15 = .ok (.newarray .boolean, 2) := by decide +kernel
theorem dX12_init_17 : decode cX12_init 17 = .ok (.putfield 17, 3) := by decide +kernel
theorem dX12_init_20 : decode cX12_init 20 = .ok (.aload_n 0, 1) := by decide +kernel
theorem dX12_init_21 : decode cX12_init 21 = .ok (.sipush 900, 3) := by decide +kernel
theorem dX12_init_24 : decode cX12_init 24 = .ok (.newarray .int, 2) := by decide +kernel
theorem dX12_init_26 : decode cX12_init 26 = .ok (.putfield 21, 3) := by decide +kernel
theorem dX12_init_29 : decode cX12_init 29 = .ok (.aload_n 0, 1) := by decide +kernel
theorem dX12_init_30 : decode cX12_init 30 = .ok (.sipush 1458, 3) := by decide +kernel
theorem dX12_init_33 : decode cX12_init 33 = .ok (.newarray .int, 2) := by decide +kernel
theorem dX12_init_35 : decode cX12_init 35 = .ok (.putfield 24, 3) := by decide +kernel
theorem dX12_init_38 : decode cX12_init 38 = .ok (.aload_n 0, 1) := by decide +kernel
theorem dX12_init_39 : decode cX12_init 39 = .ok (.iconst (-1), 1) := by decide +kernel
theorem dX12_init_40 : decode cX12_init 40 = .ok (.putfield 27, 3) := by decide +kernel
theorem dX12_init_43 : decode cX12_init 43 = .ok (.aload_n 0, 1) := by decide +kernel
theorem dX12_init_44 : decode cX12_init 44 = .ok (.sipush 900, 3) := by decide +kernel
theorem dX12_init_47 : decode cX12_init 47 = .ok (.newarray .int, 2) := by decide +kernel
theorem dX12_init_49 : decode cX12_init 49 = .ok (.putfield 30, 3) := by decide +kernel
theorem dX12_init_52 : decode cX12_init 52 = .ok (.aload_n 0, 1) := by decide +kernel
theorem dX12_init_53 : decode cX12_init 53 = .ok (.bipush 7, 2) := by decide +kernel
theorem dX12_init_55 : decode cX12_init 55 = .ok (.newarray .int, 2) := by decide +kernel
theorem dX12_init_57 : decode cX12_init 57 = .ok (.putfield 33, 3) := by decide +kernel
theorem dX12_init_60 : decode cX12_init 60 = .ok (.aload_n 0, 1) := by decide +kernel
theorem dX12_init_61 : decode cX12_init 61 = .ok (.bipush 49, 2) := by decide +kernel
theorem dX12_init_63 : decode cX12_init 63 = .ok (.newarray .int, 2) := by decide +kernel
theorem dX12_init_65 : decode cX12_init 65 = .ok (.putfield 36, 3) := by decide +kernel
theorem dX12_init_68 : decode cX12_init 68 = .ok (.aload_n 0, 1) := by decide +kernel
theorem dX12_init_69 : decode cX12_init 69 = .ok (.sipush 3430, 3) := by decide +kernel
theorem dX12_init_72 : decode cX12_init 72 = .ok (.newarray .int, 2) := by decide +kernel
theorem dX12_init_74 : decode cX12_init 74 = .ok (.putfield 39, 3) := by decide +kernel
theorem dX12_init_77 : decode cX12_init 77 = .ok (.aload_n 0, 1) := by decide +kernel
theorem dX12_init_78 : decode cX12_init 78 = .ok (.sipush 3430, 3) := by decide +kernel
theorem dX12_init_81 : decode cX12_init 81 = .ok (.newarray .int, 2) := by decide +kernel
theorem dX12_init_83 : decode cX12_init 83 = .ok (.putfield 42, 3) := by decide +kernel
theorem dX12_init_86 : decode cX12_init 86 = .ok (.aload_n 0, 1) := by decide +kernel
theorem dX12_init_87 : decode cX12_init 87 = .ok (.sipush 3430, 3) := by decide +kernel
theorem dX12_init_90 : decode cX12_init 90 = .ok (.newarray .long, 2) := by decide +kernel
theorem dX12_init_92 : decode cX12_init 92 = .ok (.putfield 45, 3) := by decide +kernel
theorem dX12_init_95 : decode cX12_init 95 = .ok (.aload_n 0, 1) := by decide +kernel
theorem dX12_init_96 : decode cX12_init 96 = .ok (.sipush 3430, 3) := by decide +kernel
theorem dX12_init_99 : decode cX12_init 99 = .ok (.newarray .boolean, 2) := by decide +kernel
theorem dX12_init_101 : decode cX12_init 101 = .ok (.putfield 49, 3) := by decide +kernel
theorem dX12_init_104 : decode cX12_init 104 = .ok (.aload_n 0, 1) := by decide +kernel
theorem dX12_init_105 : decode cX12_init 105 = .ok (.sipush 3430, 3) := by decide +kernel
theorem dX12_init_108 : decode cX12_init 108 = .ok (.newarray .int, 2) := by decide +kernel
theorem dX12_init_110 : decode cX12_init 110 = .ok (.putfield 52, 3) := by decide +kernel
theorem dX12_init_113 : decode cX12_init 113 = .ok (.aload_n 0, 1) := by decide +kernel
theorem dX12_init_114 : decode cX12_init 114 = .ok (.sipush 3430, 3) := by decide +kernel
theorem dX12_init_117 : decode cX12_init 117 = .ok (.newarray .int, 2) := by decide +kernel
theorem dX12_init_119 : decode cX12_init 119 = .ok (.putfield 55, 3) := by decide +kernel
theorem dX12_init_122 : decode cX12_init 122 = .ok (.aload_n 0, 1) := by decide +kernel
theorem dX12_init_123 : decode cX12_init 123 = .ok (.sipush 3430, 3) := by decide +kernel
theorem dX12_init_126 : decode cX12_init 126 = .ok (.newarray .long, 2) := by decide +kernel
theorem dX12_init_128 : decode cX12_init 128 = .ok (.putfield 58, 3) := by decide +kernel
theorem dX12_init_131 : decode cX12_init 131 = .ok (.aload_n 0, 1) := by decide +kernel
theorem dX12_init_132 : decode cX12_init 132 = .ok (.ldc 61, 2) := by decide +kernel
theorem dX12_init_134 : decode cX12_init 134 = .ok (.newarray .long, 2) := by decide +kernel
theorem dX12_init_136 : decode cX12_init 136 = .ok (.putfield 62, 3) := by decide +kernel
theorem dX12_init_139 : decode cX12_init 139 = .ok (.aload_n 0, 1) := by decide +kernel
theorem dX12_init_140 : decode cX12_init 140 = .ok (.bipush 19, 2) := by decide +kernel
theorem dX12_init_142 : decode cX12_init 142 = .ok (.newarray .int, 2) := by decide +kernel
theorem dX12_init_144 : decode cX12_init 144 = .ok (.putfield 65, 3) := by decide +kernel
theorem dX12_init_147 : decode cX12_init 147 = .ok (.aload_n 0, 1) := by decide +kernel
theorem dX12_init_148 : decode cX12_init 148 = .ok (.iconst 4, 1) := by decide +kernel
theorem dX12_init_149 : decode cX12_init 149 = .ok (.newarray .int, 2) := by decide +kernel
theorem dX12_init_151 : decode cX12_init 151 = .ok (.dup, 1) := by decide +kernel
theorem dX12_init_152 : decode cX12_init 152 = .ok (.iconst 0, 1) := by decide +kernel
theorem dX12_init_153 : decode cX12_init 153 = .ok (.iconst (-1), 1) := by decide +kernel
theorem dX12_init_154 : decode cX12_init 154 = .ok (.iastore, 1) := by decide +kernel
theorem dX12_init_155 : decode cX12_init 155 = .ok (.dup, 1) := by decide +kernel
theorem dX12_init_156 : decode cX12_init 156 = .ok (.iconst 1, 1) := by decide +kernel
theorem dX12_init_157 : decode cX12_init 157 = .ok (.iconst (-1), 1) := by decide +kernel
theorem dX12_init_158 : decode cX12_init 158 = .ok (.iastore, 1) := by decide +kernel
theorem dX12_init_159 : decode cX12_init 159 = .ok (.dup, 1) := by decide +kernel
theorem dX12_init_160 : decode cX12_init 160 = .ok (.iconst 2, 1) := by decide +kernel
theorem dX12_init_161 : decode cX12_init 161 = .ok (.iconst (-1), 1) := by decide +kernel
theorem dX12_init_162 : decode cX12_init 162 = .ok (.iastore, 1) := by decide +kernel
theorem dX12_init_163 : decode cX12_init 163 = .ok (.dup, 1) := by decide +kernel
theorem dX12_init_164 : decode cX12_init 164 = .ok (.iconst 3, 1) := by decide +kernel
theorem dX12_init_165 : decode cX12_init 165 = .ok (.iconst (-1), 1) := by decide +kernel
theorem dX12_init_166 : decode cX12_init 166 = .ok (.iastore, 1) := by decide +kernel
theorem dX12_init_167 : decode cX12_init 167 = .ok (.putfield 68, 3) := by decide +kernel
theorem dX12_init_170 : decode cX12_init 170 = .ok (.aload_n 0, 1) := by decide +kernel
theorem dX12_init_171 : decode cX12_init 171 = .ok (.iconst 4, 1) := by decide +kernel
theorem dX12_init_172 : decode cX12_init 172 = .ok (.newarray .int, 2) := by decide +kernel
theorem dX12_init_174 : decode cX12_init 174 = .ok (.putfield 71, 3) := by decide +kernel
theorem dX12_init_177 : decode cX12_init 177 = .ok (.aload_n 0, 1) := by decide +kernel
theorem dX12_init_178 : decode cX12_init 178 = .ok (.sipush 160, 3) := by decide +kernel
theorem dX12_init_181 : decode cX12_init 181 = .ok (.newarray .long, 2) := by decide +kernel
theorem dX12_init_183 : decode cX12_init 183 = .ok (.putfield 74, 3) := by decide +kernel
theorem dX12_init_186 : decode cX12_init 186 = .ok (.aload_n 0, 1) := by decide +kernel
theorem dX12_init_187 : decode cX12_init 187 = .ok (.getfield 13, 3) := by decide +kernel
theorem dX12_init_190 : decode cX12_init 190 = .ok (.invokestatic 77, 3) := by decide +kernel
theorem dX12_init_193 : decode cX12_init 193 = .ok (.return_, 1) := by decide +kernel
theorem dX12_plain_0 : decode cX12_plain 0 = .ok (.iconst 0, 1) := by decide +kernel
theorem dX12_plain_1 : decode cX12_plain 1 = .ok (.istore_n 1, 1) := by decide +kernel
theorem dX12_plain_2 : decode cX12_plain 2 = .ok (.iload_n 1, 1) := by decide +kernel
theorem dX12_plain_3 : decode cX12_plain 3 = .ok (.sipush 1458, 3) := by decide +kernel
theorem dX12_plain_6 : decode cX12_plain 6 = .ok (.if_icmp .ge 13, 3) := by decide +kernel
theorem dX12_plain_9 : decode cX12_plain 9 = .ok (.aload_n 0, 1) := by decide +kernel
theorem dX12_plain_10 : decode cX12_plain 10 = .ok (.iload_n 1, 1) := by decide +kernel
theorem dX12_plain_11 : decode cX12_plain 11 = .ok (.iconst 0, 1) := by decide +kernel
theorem dX12_plain_12 : decode cX12_plain 12 = .ok (.iastore, 1) := by decide +kernel
theorem dX12_plain_13 : decode cX12_plain 13 = .ok (.iinc 1 1, 3) := by decide +kernel
theorem dX12_plain_16 : decode cX12_plain 16 = .ok (.goto (-14), 3) := by decide +kernel
theorem dX12_plain_19 : decode cX12_plain 19 = .ok (.aload_n 0, 1) := by decide +kernel
theorem dX12_plain_20 : decode cX12_plain 20 = .ok (.iconst 1, 1) := by decide +kernel
theorem dX12_plain_21 : decode cX12_plain 21 = .ok (.iconst 1, 1) := by decide +kernel
theorem dX12_plain_22 : decode cX12_plain 22 = .ok (.iastore, 1) := by decide +kernel
theorem dX12_plain_23 : decode cX12_plain 23 = .ok (.aload_n 0, 1) := by decide +kernel
theorem dX12_plain_24 : decode cX12_plain 24 = .ok (.iconst 2, 1) := by decide +kernel
theorem dX12_plain_25 : decode cX12_plain 25 = .ok (.iconst 1, 1) := by decide +kernel
theorem dX12_plain_26 : decode cX12_plain 26 = .ok (.iastore, 1) := by decide +kernel
theorem dX12_plain_27 : decode cX12_plain 27 = .ok (.iconst 0, 1) := by decide +kernel
theorem dX12_plain_28 : decode cX12_plain 28 = .ok (.istore_n 1, 1) := by decide +kernel
theorem dX12_plain_29 : decode cX12_plain 29 = .ok (.iload_n 1, 1) := by decide +kernel
theorem dX12_plain_30 : decode cX12_plain 30 = .ok (.bipush 6, 2) := by decide +kernel
theorem dX12_plain_32 : decode cX12_plain 32 = .ok (.if_icmp .ge 24, 3) := by decide +kernel
