theorem dX11_now_71 : decode cX11_now 71 = .ok (.ireturn, 1) := by decide +kernel
theorem dX11_now_72 : decode cX11_now 72 = .ok (.aload_n 0, 1) := by decide +kernel
theorem dX11_now_73 : decode cX11_now 73 = .ok (.getfield 31, 3) := by decide +kernel
theorem dX11_now_76 : decode cX11_now 76 = .ok (.iconst 0, 1) := by decide +kernel
theorem dX11_now_77 : decode cX11_now 77 = .ok (.invokevirtual 165, 3) := by decide +kernel
theorem dX11_now_80 : decode cX11_now 80 = .ok (.ireturn, 1) := by decide +kernel
theorem dX11_now_81 : decode cX11_now 81 = .ok (.aload_n 0, 1) := by decide +kernel
theorem dX11_now_82 : decode cX11_now 82 = .ok (.getfield 31, 3) := by decide +kernel
theorem dX11_now_85 : decode cX11_now 85 = .ok (.iconst 2, 1) := by decide +kernel
theorem dX11_now_86 : decode cX11_now 86 = .ok (.invokevirtual 165, 3) := by decide +kernel
theorem dX11_now_89 : decode cX11_now 89 = .ok (.ireturn, 1) := by decide +kernel
theorem dX11_now_90 : decode cX11_now 90 = .ok (.aload_n 0, 1) := by decide +kernel
theorem dX11_now_91 : decode cX11_now 91 = .ok (.invokevirtual 168, 3) := by decide +kernel
theorem dX11_now_94 : decode cX11_now 94 = .ok (.invokestatic 143, 3) := by decide +kernel
theorem dX11_now_97 : decode cX11_now 97 = .ok (.ireturn, 1) := by decide +kernel
theorem dX11_now_98 : decode cX11_now 98 = .ok (.aload_n 0, 1) := by decide +kernel
theorem dX11_now_99 : decode cX11_now 99 = .ok (.invokevirtual 171, 3) := by decide +kernel
theorem dX11_now_102 : decode cX11_now 102 = .ok (.invokestatic 143, 3) := by decide +kernel
theorem dX11_now_105 : decode cX11_now 105 = .ok (.ireturn, 1) := by decide +kernel
theorem dX11_now_106 : decode cX11_now 106 = .ok (.aload_n 0, 1) := by decide +kernel
theorem dX11_now_107 : decode cX11_now 107 = .ok (.getfield 41, 3) := by decide +kernel
theorem dX11_now_110 : decode cX11_now 110 = .ok (.getfield 104, 3) := by decide +kernel
theorem dX11_now_113 : decode cX11_now 113 = .ok (.ireturn, 1) := by decide +kernel
theorem dX11_now_114 : decode cX11_now 114 = .ok (.iconst (-1), 1) := by decide +kernel
theorem dX11_now_115 : decode cX11_now 115 = .ok (.ireturn, 1) := by decide +kernel
theorem dX11_comes_0 : decode cX11_comes 0 = .ok (.aload_n 0, 1) := by decide +kernel
theorem dX11_comes_1 : decode cX11_comes 1 = .ok (.getfield 19, 3) := by decide +kernel
theorem dX11_comes_4 : decode cX11_comes 4 = .ok (.iload_n 1, 1) := by decide +kernel
theorem dX11_comes_5 : decode cX11_comes 5 = .ok (.invokevirtual 108, 3) := by decide +kernel
theorem dX11_comes_8 : decode cX11_comes 8 = .ok (.ifCond .eq 12, 3) := by decide +kernel
theorem dX11_comes_11 : decode cX11_comes 11 = .ok (.iload_n 2, 1) := by decide +kernel
theorem dX11_comes_12 : decode cX11_comes 12 = .ok (.ifCond .lt 8, 3) := by decide +kernel
theorem dX11_comes_15 : decode cX11_comes 15 = .ok (.iload_n 2, 1) := by decide +kernel
theorem dX11_comes_16 : decode cX11_comes 16 = .ok (.iconst 1, 1) := by decide +kernel
theorem dX11_comes_17 : decode cX11_comes 17 = .ok (.if_icmp .le 5, 3) := by decide +kernel
theorem dX11_comes_20 : decode cX11_comes 20 = .ok (.iconst (-1), 1) := by decide +kernel
theorem dX11_comes_21 : decode cX11_comes 21 = .ok (.ireturn, 1) := by decide +kernel
theorem dX11_comes_22 : decode cX11_comes 22 = .ok (.aload_n 0, 1) := by decide +kernel
theorem dX11_comes_23 : decode cX11_comes 23 = .ok (.getfield 31, 3) := by decide +kernel
theorem dX11_comes_26 : decode cX11_comes 26 = .ok (.getfield 174, 3) := by decide +kernel
theorem dX11_comes_29 : decode cX11_comes 29 = .ok (.bipush 9, 2) := by decide +kernel
theorem dX11_comes_31 : decode cX11_comes 31 = .ok (.if_icmp .lt 6, 3) := by decide +kernel
theorem dX11_comes_34 : decode cX11_comes 34 = .ok (.bipush (-3), 2) := by decide +kernel
theorem dX11_comes_36 : decode cX11_comes 36 = .ok (.ireturn, 1) := by decide +kernel
theorem dX11_comes_37 : decode cX11_comes 37 = .ok (.aload_n 0, 1) := by decide +kernel
theorem dX11_comes_38 : decode cX11_comes 38 = .ok (.getfield 41, 3) := by decide +kernel
theorem dX11_comes_41 : decode cX11_comes 41 = .ok (.aload_n 0, 1) := by decide +kernel
theorem dX11_comes_42 : decode cX11_comes 42 = .ok (.getfield 31, 3) := by decide +kernel
theorem dX11_comes_45 : decode cX11_comes 45 = .ok (.invokevirtual 177, 3) := by decide +kernel
theorem dX11_comes_48 : decode cX11_comes 48 = .ok (.aload_n 0, 1) := by decide +kernel
theorem dX11_comes_49 : decode cX11_comes 49 = .ok (.getfield 31, 3) := by decide +kernel
theorem dX11_comes_52 : decode cX11_comes 52 = .ok (.iload_n 1, 1) := by decide +kernel
theorem dX11_comes_53 : decode cX11_comes 53 = .ok (.iload_n 2, 1) := by decide +kernel
theorem dX11_comes_54 : decode cX11_comes 54 = .ok (.invokevirtual 181, 3) := by decide +kernel
theorem dX11_comes_57 : decode cX11_comes 57 = .ok (.ireturn, 1) := by decide +kernel
theorem dX11_steps_0 : decode cX11_steps 0 = .ok (.aload_n 0, 1) := by decide +kernel
theorem dX11_steps_1 : decode cX11_steps 1 = .ok (.getfield 31, 3) := by decide +kernel
theorem dX11_steps_4 : decode cX11_steps 4 = .ok (.getfield 155, 3) := by decide +kernel
theorem dX11_steps_7 : decode cX11_steps 7 = .ok (.sipush 999, 3) := by decide +kernel
theorem dX11_steps_10 : decode cX11_steps 10 = .ok (.if_icmp .lt 6, 3) := by decide +kernel
theorem dX11_steps_13 : decode cX11_steps 13 = .ok (.bipush (-2), 2) := by decide +kernel
theorem dX11_steps_15 : decode cX11_steps 15 = .ok (.ireturn, 1) := by decide +kernel
theorem dX11_steps_16 : decode cX11_steps 16 = .ok (.aload_n 0, 1) := by decide +kernel
theorem dX11_steps_17 : decode cX11_steps 17 = .ok (.getfield 41, 3) := by decide +kernel
theorem dX11_steps_20 : decode cX11_steps 20 = .ok (.aload_n 0, 1) := by decide +kernel
theorem dX11_steps_21 : decode cX11_steps 21 = .ok (.getfield 31, 3) := by decide +kernel
theorem dX11_steps_24 : decode cX11_steps 24 = .ok (.invokevirtual 177, 3) := by decide +kernel
theorem dX11_steps_27 : decode cX11_steps 27 = .ok (.aload_n 0, 1) := by decide +kernel
theorem dX11_steps_28 : decode cX11_steps 28 = .ok (.getfield 31, 3) := by decide +kernel
theorem dX11_steps_31 : decode cX11_steps 31 = .ok (.invokevirtual 185, 3) := by decide +kernel
theorem dX11_steps_34 : decode cX11_steps 34 = .ok (.ireturn, 1) := by decide +kernel
theorem dX11_leaves_0 : decode cX11_leaves 0 = .ok (.aload_n 0, 1) := by decide +kernel
theorem dX11_leaves_1 : decode cX11_leaves 1 = .ok (.getfield 31, 3) := by decide +kernel
theorem dX11_leaves_4 : decode cX11_leaves 4 = .ok (.iload_n 1, 1) := by decide +kernel
theorem dX11_leaves_5 : decode cX11_leaves 5 = .ok (.invokevirtual 121, 3) := by decide +kernel
theorem dX11_leaves_8 : decode cX11_leaves 8 = .ok (.ifCond .ne 5, 3) := by decide +kernel
theorem dX11_leaves_11 : decode cX11_leaves 11 = .ok (.iconst (-1), 1) := by decide +kernel
theorem dX11_leaves_12 : decode cX11_leaves 12 = .ok (.ireturn, 1) := by decide +kernel
theorem dX11_leaves_13 : decode cX11_leaves 13 = .ok (.aload_n 0, 1) := by decide +kernel
theorem dX11_leaves_14 : decode cX11_leaves 14 = .ok (.getfield 31, 3) := by decide +kernel
theorem dX11_leaves_17 : decode cX11_leaves 17 = .ok (.getfield 131, 3) := by decide +kernel
theorem dX11_leaves_20 : decode cX11_leaves 20 = .ok (.iload_n 1, 1) := by decide +kernel
theorem dX11_leaves_21 : decode cX11_leaves 21 = .ok (.iaload, 1) := by decide +kernel
theorem dX11_leaves_22 : decode cX11_leaves 22 = .ok (.ifCond .eq 6, 3) := by decide +kernel
theorem dX11_leaves_25 : decode cX11_leaves 25 = .ok (.bipush (-2), 2) := by decide +kernel
theorem dX11_leaves_27 : decode cX11_leaves 27 = .ok (.ireturn, 1) := by decide +kernel
theorem dX11_leaves_28 : decode cX11_leaves 28 = .ok (.aload_n 0, 1) := by decide +kernel
theorem dX11_leaves_29 : decode cX11_leaves 29 = .ok (.getfield 41, 3) := by decide +kernel
theorem dX11_leaves_32 : decode cX11_leaves 32 = .ok (.aload_n 0, 1) := by decide +kernel
theorem dX11_leaves_33 : decode cX11_leaves 33 = .ok (.getfield 31, 3) := by decide +kernel
theorem dX11_leaves_36 : decode cX11_leaves 36 = .ok (.invokevirtual 177, 3) := by decide +kernel
theorem dX11_leaves_39 : decode cX11_leaves 39 = .ok (.aload_n 0, 1) := by decide +kernel
theorem dX11_leaves_40 : decode cX11_leaves 40 = .ok (.getfield 31, 3) := by decide +kernel
theorem dX11_leaves_43 : decode cX11_leaves 43 = .ok (.iload_n 1, 1) := by decide +kernel
theorem dX11_leaves_44 : decode cX11_leaves 44 = .ok (.invokevirtual 188, 3) := by decide +kernel
theorem dX11_leaves_47 : decode cX11_leaves 47 = .ok (.aload_n 0, 1) := by decide +kernel
theorem dX11_leaves_48 : decode cX11_leaves 48 = .ok (.getfield 31, 3) := by decide +kernel
theorem dX11_leaves_51 : decode cX11_leaves 51 = .ok (.iconst 0, 1) := by decide +kernel
theorem dX11_leaves_52 : decode cX11_leaves 52 = .ok (.invokevirtual 192, 3) := by decide +kernel
theorem dX11_leaves_55 : decode cX11_leaves 55 = .ok (.ireturn, 1) := by decide +kernel
theorem dX11_lets_0 : decode cX11_lets 0 = .ok (.aload_n 0, 1) := by decide +kernel
theorem dX11_lets_1 : decode cX11_lets 1 = .ok (.getfield 31, 3) := by decide +kernel
theorem dX11_lets_4 : decode cX11_lets 4 = .ok (.iload_n 1, 1) := by decide +kernel
theorem dX11_lets_5 : decode cX11_lets 5 = .ok (.invokevirtual 121, 3) := by decide +kernel
theorem dX11_lets_8 : decode cX11_lets 8 = .ok (.ifCond .ne 5, 3) := by decide +kernel
theorem dX11_lets_11 : decode cX11_lets 11 = .ok (.iconst (-1), 1) := by decide +kernel
theorem dX11_lets_12 : decode cX11_lets 12 = .ok (.ireturn, 1) := by decide +kernel
theorem dX11_lets_13 : decode cX11_lets 13 = .ok (.aload_n 0, 1) := by decide +kernel
theorem dX11_lets_14 : decode cX11_lets 14 = .ok (.getfield 31, 3) := by decide +kernel
theorem dX11_lets_17 : decode cX11_lets 17 = .ok (.getfield 131, 3) := by decide +kernel
theorem dX11_lets_20 : decode cX11_lets 20 = .ok (.iload_n 1, 1) := by decide +kernel
theorem dX11_lets_21 : decode cX11_lets 21 = .ok (.iaload, 1) := by decide +kernel
theorem dX11_lets_22 : decode cX11_lets 22 = .ok (.ifCond .eq 6, 3) := by decide +kernel
theorem dX11_lets_25 : decode cX11_lets 25 = .ok (.bipush (-2), 2) := by decide +kernel
theorem dX11_lets_27 : decode cX11_lets 27 = .ok (.ireturn, 1) := by decide +kernel
theorem dX11_lets_28 : decode cX11_lets 28 = .ok (.aload_n 0, 1) := by decide +kernel
theorem dX11_lets_29 : decode cX11_lets 29 = .ok (.getfield 31, 3) := by decide +kernel
theorem dX11_lets_32 : decode cX11_lets 32 = .ok (.iload_n 1, 1) := by decide +kernel
theorem dX11_lets_33 : decode cX11_lets 33 = .ok (.invokevirtual 137, 3) := by decide +kernel
theorem dX11_lets_36 : decode cX11_lets 36 = .ok (.istore_n 2, 1) := by decide +kernel
theorem dX11_lets_37 : decode cX11_lets 37 = .ok (.iload_n 2, 1) := by decide +kernel
theorem dX11_lets_38 : decode cX11_lets 38 = .ok (.ifCond .ne 6, 3) := by decide +kernel
theorem dX11_lets_41 : decode cX11_lets 41 = .ok (.bipush (-2), 2) := by decide +kernel
theorem dX11_lets_43 : decode cX11_lets 43 = .ok (.ireturn, 1) := by decide +kernel
theorem dX11_lets_44 : decode cX11_lets 44 = .ok (.aload_n 0, 1) := by decide +kernel
theorem dX11_lets_45 : decode cX11_lets 45 = .ok (.getfield 41, 3) := by decide +kernel
theorem dX11_lets_48 : decode cX11_lets 48 = .ok (.aload_n 0, 1) := by decide +kernel
theorem dX11_lets_49 : decode cX11_lets 49 = .ok (.getfield 31, 3) := by decide +kernel
theorem dX11_lets_52 : decode cX11_lets 52 = .ok (.invokevirtual 177, 3) := by decide +kernel
theorem dX11_lets_55 : decode cX11_lets 55 = .ok (.aload_n 0, 1) := by decide +kernel
theorem dX11_lets_56 : decode cX11_lets 56 = .ok (.getfield 31, 3) := by decide +kernel
theorem dX11_lets_59 : decode cX11_lets 59 = .ok (.iload_n 1, 1) := by decide +kernel
theorem dX11_lets_60 : decode cX11_lets 60 = .ok (.invokevirtual 195, 3) := by decide +kernel
theorem dX11_lets_63 : decode cX11_lets 63 = .ok (.iload_n 2, 1) := by decide +kernel
theorem dX11_lets_64 : decode cX11_lets 64 = .ok (.ireturn, 1) := by decide +kernel
theorem dX11_undo_0 : decode cX11_undo 0 = .ok (.aload_n 0, 1) := by decide +kernel
theorem dX11_undo_1 : decode cX11_undo 1 = .ok (.getfield 41, 3) := by decide +kernel
theorem dX11_undo_4 : decode cX11_undo 4 = .ok (.getfield 104, 3) := by decide +kernel
theorem dX11_undo_7 : decode cX11_undo 7 = .ok (.ifCond .ne 6, 3) := by decide +kernel
theorem dX11_undo_10 : decode cX11_undo 10 = .ok (.bipush (-2), 2) := by decide +kernel
theorem dX11_undo_12 : decode cX11_undo 12 = .ok (.ireturn, 1) := by decide +kernel
theorem dX11_undo_13 : decode cX11_undo 13 = .ok (.aload_n 0, 1) := by decide +kernel
theorem dX11_undo_14 : decode cX11_undo 14 = .ok (.getfield 41, 3) := by decide +kernel
theorem dX11_undo_17 : decode cX11_undo 17 = .ok (.aload_n 0, 1) := by decide +kernel
theorem dX11_undo_18 : decode cX11_undo 18 = .ok (.getfield 31, 3) := by decide +kernel
theorem dX11_undo_21 : decode cX11_undo 21 = .ok (.invokevirtual 198, 3) := by decide +kernel
theorem dX11_undo_24 : decode cX11_undo 24 = .ok (.aload_n 0, 1) := by decide +kernel
theorem dX11_undo_25 : decode cX11_undo 25 = .ok (.getfield 41, 3) := by decide +kernel
theorem dX11_undo_28 : decode cX11_undo 28 = .ok (.getfield 104, 3) := by decide +kernel
theorem dX11_undo_31 : decode cX11_undo 31 = .ok (.ireturn, 1) := by decide +kernel
theorem dX11_spare_0 : decode cX11_spare 0 = .ok (.aload_n 0, 1) := by decide +kernel
theorem dX11_spare_1 : decode cX11_spare 1 = .ok (.getfield 31, 3) := by decide +kernel
theorem dX11_spare_4 : decode cX11_spare 4 = .ok (.iload_n 1, 1) := by decide +kernel
theorem dX11_spare_5 : decode cX11_spare 5 = .ok (.invokevirtual 121, 3) := by decide +kernel
theorem dX11_spare_8 : decode cX11_spare 8 = .ok (.ifCond .eq 12, 3) := by decide +kernel
theorem dX11_spare_11 : decode cX11_spare 11 = .ok (.aload_n 0, 1) := by decide +kernel
theorem dX11_spare_12 : decode cX11_spare 12 = .ok (.iload_n 1, 1) := by decide +kernel
theorem dX11_spare_13 : decode cX11_spare 13 = .ok (.iconst 0, 1) := by decide +kernel
theorem dX11_spare_14 : decode cX11_spare 14 = .ok (.invokevirtual 201, 3) := by decide +kernel
theorem dX11_spare_17 : decode cX11_spare 17 = .ok (.goto 4, 3) := by decide +kernel
theorem dX11_spare_20 : decode cX11_spare 20 = .ok (.iconst (-1), 1) := by decide +kernel
theorem dX11_spare_21 : decode cX11_spare 21 = .ok (.ireturn, 1) := by decide +kernel
theorem dX11_ahead_0 : decode cX11_ahead 0 = .ok (.aload_n 0, 1) := by decide +kernel
theorem dX11_ahead_1 : decode cX11_ahead 1 = .ok (.getfield 31, 3) := by decide +kernel
theorem dX11_ahead_4 : decode cX11_ahead 4 = .ok (.iload_n 1, 1) := by decide +kernel
theorem dX11_ahead_5 : decode cX11_ahead 5 = .ok (.invokevirtual 121, 3) := by decide +kernel
theorem dX11_ahead_8 : decode cX11_ahead 8 = .ok (.ifCond .eq 12, 3) := by decide +kernel
theorem dX11_ahead_11 : decode cX11_ahead 11 = .ok (.aload_n 0, 1) := by decide +kernel
theorem dX11_ahead_12 : decode cX11_ahead 12 = .ok (.iload_n 1, 1) := by decide +kernel
theorem dX11_ahead_13 : decode cX11_ahead 13 = .ok (.iconst 1, 1) := by decide +kernel
theorem dX11_ahead_14 : decode cX11_ahead 14 = .ok (.invokevirtual 201, 3) := by decide +kernel
theorem dX11_ahead_17 : decode cX11_ahead 17 = .ok (.goto 4, 3) := by decide +kernel
theorem dX11_ahead_20 : decode cX11_ahead 20 = .ok (.iconst (-1), 1) := by decide +kernel
theorem dX11_ahead_21 : decode cX11_ahead 21 = .ok (.ireturn, 1) := by decide +kernel
theorem dX11_odds_0 : decode cX11_odds 0 = .ok (.iload_n 1, 1) := by decide +kernel
theorem dX11_odds_1 : decode cX11_odds 1 = .ok (.ifCond .lt 18, 3) := by decide +kernel
theorem dX11_odds_4 : decode cX11_odds 4 = .ok (.iload_n 1, 1) := by decide +kernel
theorem dX11_odds_5 : decode cX11_odds 5 = .ok (.bipush 10, 2) := by decide +kernel
theorem dX11_odds_7 : decode cX11_odds 7 = .ok (.if_icmp .gt 12, 3) := by decide +kernel
theorem dX11_odds_10 : decode cX11_odds 10 = .ok (.iload_n 2, 1) := by decide +kernel
theorem dX11_odds_11 : decode cX11_odds 11 = .ok (.ifCond .lt 8, 3) := by decide +kernel
theorem dX11_odds_14 : decode cX11_odds 14 = .ok (.iload_n 2, 1) := by decide +kernel
theorem dX11_odds_15 : decode cX11_odds 15 = .ok (.iconst 1, 1) := by decide +kernel
theorem dX11_odds_16 : decode cX11_odds 16 = .ok (.if_icmp .le 5, 3) := by decide +kernel
theorem dX11_odds_19 : decode cX11_odds 19 = .ok (.iconst (-1), 1) := by decide +kernel
theorem dX11_odds_20 : decode cX11_odds 20 = .ok (.ireturn, 1) := by decide +kernel
theorem dX11_odds_21 : decode cX11_odds 21 = .ok (.lconst 1, 1) := by decide +kernel
theorem dX11_odds_22 : decode cX11_odds 22 = .ok (.lstore_n 3, 1) := by decide +kernel
theorem dX11_odds_23 : decode cX11_odds 23 = .ok (.aload_n 0, 1) := by decide +kernel
theorem dX11_odds_24 : decode cX11_odds 24 = .ok (.getfield 31, 3) := by decide +kernel
theorem dX11_odds_27 : decode cX11_odds 27 = .ok (.iconst 1, 1) := by decide +kernel
theorem dX11_odds_28 : decode cX11_odds 28 = .ok (.invokevirtual 192, 3) := by decide +kernel
theorem dX11_odds_31 : decode cX11_odds 31 = .ok (.istore 5, 2) := by decide +kernel
theorem dX11_odds_33 : decode cX11_odds 33 = .ok (.iload 5, 2) := by decide +kernel
theorem dX11_odds_35 : decode cX11_odds 35 = .ok (.ifCond .le 15, 3) := by decide +kernel
theorem dX11_odds_38 : decode cX11_odds 38 = .ok (.lload_n 3, 1) := by decide +kernel
theorem dX11_odds_39 : decode cX11_odds 39 = .ok (.ldc2_w 205, 3) := by decide +kernel
theorem dX11_odds_42 : decode cX11_odds 42 = .ok (.lmul, 1) := by decide +kernel
theorem dX11_odds_43 : decode cX11_odds 43 = .ok (.lstore_n 3, 1) := by decide +kernel
theorem dX11_odds_44 : decode cX11_odds 44 = .ok (.iinc 5 (-1), 3) := by decide +kernel
theorem dX11_odds_47 : decode cX11_odds 47 = .ok (.goto (-14), 3) := by decide +kernel
theorem dX11_odds_50 : decode cX11_odds 50 = .ok (.aload_n 0, 1) := by decide +kernel
theorem dX11_odds_51 : decode cX11_odds 51 = .ok (.iload_n 1, 1) := by decide +kernel
theorem dX11_odds_52 : decode cX11_odds 52 = .ok (.invokevirtual 207, 3) := by decide +kernel
theorem dX11_odds_55 : decode cX11_odds 55 = .ok (.lstore 5, 2) := by decide +kernel
theorem dX11_odds_57 : decode cX11_odds 57 = .ok (.lload_n 3, 1) := by decide +kernel
theorem dX11_odds_58 : decode cX11_odds 58 = .ok (.lload 5, 2) := by decide +kernel
theorem dX11_odds_60 : decode cX11_odds 60 = .ok (.invokestatic 211, 3) := by decide +kernel
theorem dX11_odds_63 : decode cX11_odds 63 = .ok (.lstore 7, 2) := by decide +kernel
theorem dX11_odds_65 : decode cX11_odds 65 = .ok (.iload_n 2, 1) := by decide +kernel
theorem dX11_odds_66 : decode cX11_odds 66 = .ok (.ifCond .ne 8, 3) := by decide +kernel
theorem dX11_odds_69 : decode cX11_odds 69 = .ok (.lload 5, 2) := by decide +kernel
theorem dX11_odds_71 : decode cX11_odds 71 = .ok (.goto 4, 3) := by decide +kernel
theorem dX11_odds_74 : decode cX11_odds 74 = .ok (.lload_n 3, 1) := by decide +kernel
theorem dX11_odds_75 : decode cX11_odds 75 = .ok (.lconst 1, 1) := by decide +kernel
theorem dX11_odds_76 : decode cX11_odds 76 = .ok (.lload 7, 2) := by decide +kernel
theorem dX11_odds_78 : decode cX11_odds 78 = .ok (.invokestatic 215, 3) := by decide +kernel
theorem dX11_odds_81 : decode cX11_odds 81 = .ok (.ldiv, 1) := by decide +kernel
theorem dX11_odds_82 : decode cX11_odds 82 = .ok (.l2i, 1) := by decide +kernel
theorem dX11_odds_83 : decode cX11_odds 83 = .ok (.ireturn, 1) := by decide +kernel
theorem dX11_sees_0 : decode cX11_sees 0 = .ok (.iload_n 1, 1) := by decide +kernel
theorem dX11_sees_1 : decode cX11_sees 1 = .ok (.ifCond .lt 17, 3) := by decide +kernel
theorem dX11_sees_4 : decode cX11_sees 4 = .ok (.iload_n 1, 1) := by decide +kernel
theorem dX11_sees_5 : decode cX11_sees 5 = .ok (.iconst 1, 1) := by decide +kernel
theorem dX11_sees_6 : decode cX11_sees 6 = .ok (.if_icmp .gt 12, 3) := by decide +kernel
theorem dX11_sees_9 : decode cX11_sees 9 = .ok (.iload_n 3, 1) := by decide +kernel
theorem dX11_sees_10 : decode cX11_sees 10 = .ok (.ifCond .lt 8, 3) := by decide +kernel
theorem dX11_sees_13 : decode cX11_sees 13 = .ok (.iload_n 3, 1) := by decide +kernel
theorem dX11_sees_14 : decode cX11_sees 14 = .ok (.iconst 1, 1) := by decide +kernel
theorem dX11_sees_15 : decode cX11_sees 15 = .ok (.if_icmp .le 5, 3) := by decide +kernel
theorem dX11_sees_18 : decode cX11_sees 18 = .ok (.iconst (-1), 1) := by decide +kernel
theorem dX11_sees_19 : decode cX11_sees 19 = .ok (.ireturn, 1) := by decide +kernel
theorem dX11_sees_20 : decode cX11_sees 20 = .ok (.iload_n 2, 1) := by decide +kernel
theorem dX11_sees_21 : decode cX11_sees 21 = .ok (.iload_n 1, 1) := by decide +kernel
theorem dX11_sees_22 : decode cX11_sees 22 = .ok (.invokestatic 220, 3) := by decide +kernel
theorem dX11_sees_25 : decode cX11_sees 25 = .ok (.if_icmp .lt 11, 3) := by decide +kernel
theorem dX11_sees_28 : decode cX11_sees 28 = .ok (.iload_n 2, 1) := by decide +kernel
theorem dX11_sees_29 : decode cX11_sees 29 = .ok (.iload_n 1, 1) := by decide +kernel
theorem dX11_sees_30 : decode cX11_sees 30 = .ok (.invokestatic 223, 3) := by decide +kernel
theorem dX11_sees_33 : decode cX11_sees 33 = .ok (.if_icmp .le 5, 3) := by decide +kernel
theorem dX11_sees_36 : decode cX11_sees 36 = .ok (.iconst (-1), 1) := by decide +kernel
theorem dX11_sees_37 : decode cX11_sees 37 = .ok (.ireturn, 1) := by decide +kernel
theorem dX11_sees_38 : decode cX11_sees 38 = .ok (.aload_n 0, 1) := by decide +kernel
theorem dX11_sees_39 : decode cX11_sees 39 = .ok (.getfield 56, 3) := by decide +kernel
theorem dX11_sees_42 : decode cX11_sees 42 = .ok (.iload_n 1, 1) := by decide +kernel
theorem dX11_sees_43 : decode cX11_sees 43 = .ok (.iload_n 2, 1) := by decide +kernel
theorem dX11_sees_44 : decode cX11_sees 44 = .ok (.iload_n 3, 1) := by decide +kernel
theorem dX11_sees_45 : decode cX11_sees 45 = .ok (.invokevirtual 226, 3) := by decide +kernel
theorem dX11_sees_48 : decode cX11_sees 48 = .ok (.ifCond .eq 13, 3) := by decide +kernel
theorem dX11_sees_51 : decode cX11_sees 51 = .ok (.aload_n 0, 1) := by decide +kernel
theorem dX11_sees_52 : decode cX11_sees 52 = .ok (.getfield 56, 3) := by decide +kernel
theorem dX11_sees_55 : decode cX11_sees 55 = .ok (.getfield 107, 3) := by decide +kernel
theorem dX11_sees_58 : decode cX11_sees 58 = .ok (.goto 5, 3) := by decide +kernel
theorem dX11_sees_61 : decode cX11_sees 61 = .ok (.bipush (-3), 2) := by decide +kernel
theorem dX11_sees_63 : decode cX11_sees 63 = .ok (.ireturn, 1) := by decide +kernel
theorem dX11_forget_0 : decode cX11_forget 0 = .ok (.aload_n 0, 1) := by decide +kernel
theorem dX11_forget_1 : decode cX11_forget 1 = .ok (.getfield 56, 3) := by decide +kernel
theorem dX11_forget_4 : decode cX11_forget 4 = .ok (.getfield 107, 3) := by decide +kernel
theorem dX11_forget_7 : decode cX11_forget 7 = .ok (.istore_n 1, 1) := by decide +kernel
theorem dX11_forget_8 : decode cX11_forget 8 = .ok (.aload_n 0, 1) := by decide +kernel
theorem dX11_forget_9 : decode cX11_forget 9 = .ok (.getfield 56, 3) := by decide +kernel
theorem dX11_forget_12 : decode cX11_forget 12 = .ok (.iconst 0, 1) := by decide +kernel
theorem dX11_forget_13 : decode cX11_forget 13 = .ok (.putfield 107, 3) := by decide +kernel
theorem dX11_forget_16 : decode cX11_forget 16 = .ok (.iload_n 1, 1) := by decide +kernel
theorem dX11_forget_17 : decode cX11_forget 17 = .ok (.ireturn, 1) := by decide +kernel
theorem dX11_which_0 : decode cX11_which 0 = .ok (.aload_n 0, 1) := by decide +kernel
theorem dX11_which_1 : decode cX11_which 1 = .ok (.getfield 56, 3) := by decide +kernel
theorem dX11_which_4 : decode cX11_which 4 = .ok (.invokevirtual 229, 3) := by decide +kernel
theorem dX11_which_7 : decode cX11_which 7 = .ok (.ireturn, 1) := by decide +kernel
theorem dX11_look_0 : decode cX11_look 0 = .ok (.iload_n 1, 1) := by decide +kernel
theorem dX11_look_1 : decode cX11_look 1 = .ok (.ifCond .lt 8, 3) := by decide +kernel
theorem dX11_look_4 : decode cX11_look 4 = .ok (.iload_n 1, 1) := by decide +kernel
theorem dX11_look_5 : decode cX11_look 5 = .ok (.iconst 1, 1) := by decide +kernel
theorem dX11_look_6 : decode cX11_look 6 = .ok (.if_icmp .le 5, 3) := by decide +kernel
theorem dX11_look_9 : decode cX11_look 9 = .ok (.iconst (-1), 1) := by decide +kernel
theorem dX11_look_10 : decode cX11_look 10 = .ok (.ireturn, 1) := by decide +kernel
theorem dX11_look_11 : decode cX11_look 11 = .ok (.aload_n 0, 1) := by decide +kernel
theorem dX11_look_12 : decode cX11_look 12 = .ok (.getfield 56, 3) := by decide +kernel
theorem dX11_look_15 : decode cX11_look 15 = .ok (.invokevirtual 229, 3) := by decide +kernel
theorem dX11_look_18 : decode cX11_look 18 = .ok (.istore_n 2, 1) := by decide +kernel
theorem dX11_look_19 : decode cX11_look 19 = .ok (.iload_n 2, 1) := by decide +kernel
theorem dX11_look_20 : decode cX11_look 20 = .ok (.invokestatic 232, 3) := by decide +kernel
theorem dX11_look_23 : decode cX11_look 23 = .ok (.istore_n 3, 1) := by decide +kernel
theorem dX11_look_24 : decode cX11_look 24 = .ok (.iload_n 3, 1) := by decide +kernel
theorem dX11_look_25 : decode cX11_look 25 = .ok (.iconst 1, 1) := by decide +kernel
theorem dX11_look_26 : decode cX11_look 26 = .ok (.if_icmp .gt 6, 3) := by decide +kernel
theorem dX11_look_29 : decode cX11_look 29 = .ok (.bipush (-9), 2) := by decide +kernel
theorem dX11_look_31 : decode cX11_look 31 = .ok (.ireturn, 1) := by decide +kernel
theorem dX11_look_32 : decode cX11_look 32 = .ok (.bipush (-9), 2) := by decide +kernel
theorem dX11_look_34 : decode cX11_look 34 = .ok (.istore 4, 2) := by decide +kernel
theorem dX11_look_36 : decode cX11_look 36 = .ok (.iload_n 3, 1) := by decide +kernel
theorem dX11_look_37 : decode cX11_look 37 = .ok (.iconst 1, 1) := by decide +kernel
theorem dX11_look_38 : decode cX11_look 38 = .ok (.iadd, 1) := by decide +kernel
theorem dX11_look_39 : decode cX11_look 39 = .ok (.istore 5, 2) := by decide +kernel
theorem dX11_look_41 : decode cX11_look 41 = .ok (.iload_n 1, 1) := by decide +kernel
theorem dX11_look_42 : decode cX11_look 42 = .ok (.invokestatic 220, 3) := by decide +kernel
theorem dX11_look_45 : decode cX11_look 45 = .ok (.istore 6, 2) := by decide +kernel
theorem dX11_look_47 : decode cX11_look 47 = .ok (.iload 6, 2) := by decide +kernel
theorem dX11_look_49 : decode cX11_look 49 = .ok (.iload_n 1, 1) := by decide +kernel
theorem dX11_look_50 : decode cX11_look 50 = .ok (.invokestatic 223, 3) := by decide +kernel
theorem dX11_look_53 : decode cX11_look 53 = .ok (.if_icmp .gt 48, 3) := by decide +kernel
theorem dX11_look_56 : decode cX11_look 56 = .ok (.aload_n 0, 1) := by decide +kernel
theorem dX11_look_57 : decode cX11_look 57 = .ok (.getfield 19, 3) := by decide +kernel
theorem dX11_look_60 : decode cX11_look 60 = .ok (.iload_n 2, 1) := by decide +kernel
theorem dX11_look_61 : decode cX11_look 61 = .ok (.iload_n 1, 1) := by decide +kernel
theorem dX11_look_62 : decode cX11_look 62 = .ok (.iload 6, 2) := by decide +kernel
theorem dX11_look_64 : decode cX11_look 64 = .ok (.invokevirtual 237, 3) := by decide +kernel
theorem dX11_look_67 : decode cX11_look 67 = .ok (.istore 7, 2) := by decide +kernel
theorem dX11_look_69 : decode cX11_look 69 = .ok (.iload 7, 2) := by decide +kernel
theorem dX11_look_71 : decode cX11_look 71 = .ok (.iload_n 3, 1) := by decide +kernel
theorem dX11_look_72 : decode cX11_look 72 = .ok (.iload 7, 2) := by decide +kernel
theorem dX11_look_74 : decode cX11_look 74 = .ok (.isub, 1) := by decide +kernel
theorem dX11_look_75 : decode cX11_look 75 = .ok (.invokestatic 241, 3) := by decide +kernel
theorem dX11_look_78 : decode cX11_look 78 = .ok (.istore 8, 2) := by decide +kernel
theorem dX11_look_80 : decode cX11_look 80 = .ok (.iload 8, 2) := by decide +kernel
theorem dX11_look_82 : decode cX11_look 82 = .ok (.iload 5, 2) := by decide +kernel
theorem dX11_look_84 : decode cX11_look 84 = .ok (.if_icmp .ge 11, 3) := by decide +kernel
theorem dX11_look_87 : decode cX11_look 87 = .ok (.iload 8, 2) := by decide +kernel
theorem dX11_look_89 : decode cX11_look 89 = .ok (.istore 5, 2) := by decide +kernel
theorem dX11_look_91 : decode cX11_look 91 = .ok (.iload 6, 2) := by decide +kernel
theorem dX11_look_93 : decode cX11_look 93 = .ok (.istore 4, 2) := by decide +kernel
theorem dX11_look_95 : decode cX11_look 95 = .ok (.iinc 6 1, 3) := by decide +kernel
theorem dX11_look_98 : decode cX11_look 98 = .ok (.goto (-51), 3) := by decide +kernel
theorem dX11_look_101 : decode cX11_look 101 = .ok (.iload 4, 2) := by decide +kernel
theorem dX11_look_103 : decode cX11_look 103 = .ok (.ireturn, 1) := by decide +kernel
theorem dX11_rate_0 : decode cX11_rate 0 = .ok (.iload_n 1, 1) := by decide +kernel
theorem dX11_rate_1 : decode cX11_rate 1 = .ok (.ifCond .lt 23, 3) := by decide +kernel
theorem dX11_rate_4 : decode cX11_rate 4 = .ok (.iload_n 1, 1) := by decide +kernel
theorem dX11_rate_5 : decode cX11_rate 5 = .ok (.aload_n 0, 1) := by decide +kernel
theorem dX11_rate_6 : decode cX11_rate 6 = .ok (.getfield 82, 3) := by decide +kernel
theorem dX11_rate_9 : decode cX11_rate 9 = .ok (.arraylength, 1) := by decide +kernel
theorem dX11_rate_10 : decode cX11_rate 10 = .ok (.if_icmp .ge 14, 3) := by decide +kernel
theorem dX11_rate_13 : decode cX11_rate 13 = .ok (.aload_n 0, 1) := by decide +kernel
theorem dX11_rate_14 : decode cX11_rate 14 = .ok (.getfield 31, 3) := by decide +kernel
theorem dX11_rate_17 : decode cX11_rate 17 = .ok (.iload_n 2, 1) := by decide +kernel
theorem dX11_rate_18 : decode cX11_rate 18 = .ok (.invokevirtual 121, 3) := by decide +kernel
theorem dX11_rate_21 : decode cX11_rate 21 = .ok (.ifCond .ne 6, 3) := by decide +kernel
theorem dX11_rate_24 : decode cX11_rate 24 = .ok (.ldc 243, 2) := by decide +kernel
theorem dX11_rate_26 : decode cX11_rate 26 = .ok (.ireturn, 1) := by decide +kernel
theorem dX11_rate_27 : decode cX11_rate 27 = .ok (.aload_n 0, 1) := by decide +kernel
theorem dX11_rate_28 : decode cX11_rate 28 = .ok (.getfield 82, 3) := by decide +kernel
theorem dX11_rate_31 : decode cX11_rate 31 = .ok (.iload_n 1, 1) := by decide +kernel
theorem dX11_rate_32 : decode cX11_rate 32 = .ok (.aaload, 1) := by decide +kernel
theorem dX11_rate_33 : decode cX11_rate 33 = .ok (.aload_n 0, 1) := by decide +kernel
theorem dX11_rate_34 : decode cX11_rate 34 = .ok (.getfield 31, 3) := by decide +kernel
theorem dX11_rate_37 : decode cX11_rate 37 = .ok (.iload_n 2, 1) := by decide +kernel
theorem dX11_rate_38 : decode cX11_rate 38 = .ok (.invokevirtual 244, 3) := by decide +kernel
theorem dX11_rate_41 : decode cX11_rate 41 = .ok (.ireturn, 1) := by decide +kernel
theorem dX11_keep_0 : decode cX11_keep 0 = .ok (.iload_n 1, 1) := by decide +kernel
theorem dX11_keep_1 : decode cX11_keep 1 = .ok (.ifCond .lt 8, 3) := by decide +kernel
theorem dX11_keep_4 : decode cX11_keep 4 = .ok (.iload_n 1, 1) := by decide +kernel
theorem dX11_keep_5 : decode cX11_keep 5 = .ok (.iconst 2, 1) := by decide +kernel
theorem dX11_keep_6 : decode cX11_keep 6 = .ok (.if_icmp .lt 5, 3) := by decide +kernel
theorem dX11_keep_9 : decode cX11_keep 9 = .ok (.iconst (-1), 1) := by decide +kernel
theorem dX11_keep_10 : decode cX11_keep 10 = .ok (.ireturn, 1) := by decide +kernel
theorem dX11_keep_11 : decode cX11_keep 11 = .ok (.aload_n 0, 1) := by decide +kernel
theorem dX11_keep_12 : decode cX11_keep 12 = .ok (.getfield 45, 3) := by decide +kernel
theorem dX11_keep_15 : decode cX11_keep 15 = .ok (.iload_n 1, 1) := by decide +kernel
theorem dX11_keep_16 : decode cX11_keep 16 = .ok (.aaload, 1) := by decide +kernel
theorem dX11_keep_17 : decode cX11_keep 17 = .ok (.aload_n 0, 1) := by decide +kernel
theorem dX11_keep_18 : decode cX11_keep 18 = .ok (.getfield 31, 3) := by decide +kernel
theorem dX11_keep_21 : decode cX11_keep 21 = .ok (.invokevirtual 248, 3) := by decide +kernel
theorem dX11_keep_24 : decode cX11_keep 24 = .ok (.aload_n 0, 1) := by decide +kernel
theorem dX11_keep_25 : decode cX11_keep 25 = .ok (.getfield 49, 3) := by decide +kernel
theorem dX11_keep_28 : decode cX11_keep 28 = .ok (.iload_n 1, 1) := by decide +kernel
theorem dX11_keep_29 : decode cX11_keep 29 = .ok (.iconst 1, 1) := by decide +kernel
theorem dX11_keep_30 : decode cX11_keep 30 = .ok (.bastore, 1) := by decide +kernel
theorem dX11_keep_31 : decode cX11_keep 31 = .ok (.aload_n 0, 1) := by decide +kernel
theorem dX11_keep_32 : decode cX11_keep 32 = .ok (.getfield 31, 3) := by decide +kernel
theorem dX11_keep_35 : decode cX11_keep 35 = .ok (.getfield 155, 3) := by decide +kernel
theorem dX11_keep_38 : decode cX11_keep 38 = .ok (.ireturn, 1) := by decide +kernel
theorem dX11_back_0 : decode cX11_back 0 = .ok (.iload_n 1, 1) := by decide +kernel
theorem dX11_back_1 : decode cX11_back 1 = .ok (.ifCond .lt 8, 3) := by decide +kernel
theorem dX11_back_4 : decode cX11_back 4 = .ok (.iload_n 1, 1) := by decide +kernel
theorem dX11_back_5 : decode cX11_back 5 = .ok (.iconst 2, 1) := by decide +kernel
theorem dX11_back_6 : decode cX11_back 6 = .ok (.if_icmp .lt 5, 3) := by decide +kernel
theorem dX11_back_9 : decode cX11_back 9 = .ok (.iconst (-1), 1) := by decide +kernel
theorem dX11_back_10 : decode cX11_back 10 = .ok (.ireturn, 1) := by decide +kernel
theorem dX11_back_11 : decode cX11_back 11 = .ok (.aload_n 0, 1) := by decide +kernel
theorem dX11_back_12 : decode cX11_back 12 = .ok (.getfield 49, 3) := by decide +kernel
theorem dX11_back_15 : decode cX11_back 15 = .ok (.iload_n 1, 1) := by decide +kernel
theorem dX11_back_16 : decode cX11_back 16 = .ok (.baload, 1) := by decide +kernel
theorem dX11_back_17 : decode cX11_back 17 = .ok (.ifCond .ne 6, 3) := by decide +kernel
theorem dX11_back_20 : decode cX11_back 20 = .ok (.bipush (-2), 2) := by decide +kernel
theorem dX11_back_22 : decode cX11_back 22 = .ok (.ireturn, 1) := by decide +kernel
theorem dX11_back_23 : decode cX11_back 23 = .ok (.aload_n 0, 1) := by decide +kernel
theorem dX11_back_24 : decode cX11_back 24 = .ok (.getfield 31, 3) := by decide +kernel
theorem dX11_back_27 : decode cX11_back 27 = .ok (.aload_n 0, 1) := by decide +kernel
theorem dX11_back_28 : decode cX11_back 28 = .ok (.getfield 45, 3) := by decide +kernel
theorem dX11_back_31 : decode cX11_back 31 = .ok (.iload_n 1, 1) := by decide +kernel
theorem dX11_back_32 : decode cX11_back 32 = .ok (.aaload, 1) := by decide +kernel
theorem dX11_back_33 : decode cX11_back 33 = .ok (.invokevirtual 248, 3) := by decide +kernel
theorem dX11_back_36 : decode cX11_back 36 = .ok (.aload_n 0, 1) := by decide +kernel
theorem dX11_back_37 : decode cX11_back 37 = .ok (.getfield 41, 3) := by decide +kernel
theorem dX11_back_40 : decode cX11_back 40 = .ok (.iconst 0, 1) := by decide +kernel
theorem dX11_back_41 : decode cX11_back 41 = .ok (.putfield 104, 3) := by decide +kernel
theorem dX11_back_44 : decode cX11_back 44 = .ok (.aload_n 0, 1) := by decide +kernel
theorem dX11_back_45 : decode cX11_back 45 = .ok (.getfield 31, 3) := by decide +kernel
theorem dX11_back_48 : decode cX11_back 48 = .ok (.getfield 155, 3) := by decide +kernel
theorem dX11_back_51 : decode cX11_back 51 = .ok (.ireturn, 1) := by decide +kernel
theorem dX11_count_0 : decode cX11_count 0 = .ok (.iload_n 1, 1) := by decide +kernel
theorem dX11_count_1 : decode cX11_count 1 = .ok (.tableswitch 99 0 6 #[43, 51, 59, 67, 75, 83, 91], 43) := by decide +kernel
theorem dX11_count_44 : decode cX11_count 44 = .ok (.aload_n 0, 1) := by decide +kernel
theorem dX11_count_45 : decode cX11_count 45 = .ok (.getfield 19, 3) := by decide +kernel
theorem dX11_count_48 : decode cX11_count 48 = .ok (.getfield 146, 3) := by decide +kernel
theorem dX11_count_51 : decode cX11_count 51 = .ok (.ireturn, 1) := by decide +kernel
theorem dX11_count_52 : decode cX11_count 52 = .ok (.aload_n 0, 1) := by decide +kernel
theorem dX11_count_53 : decode cX11_count 53 = .ok (.getfield 19, 3) := by decide +kernel
theorem dX11_count_56 : decode cX11_count 56 = .ok (.getfield 250, 3) := by decide +kernel
theorem dX11_count_59 : decode cX11_count 59 = .ok (.ireturn, 1) := by decide +kernel
theorem dX11_count_60 : decode cX11_count 60 = .ok (.aload_n 0, 1) := by decide +kernel
theorem dX11_count_61 : decode cX11_count 61 = .ok (.getfield 19, 3) := by decide +kernel
theorem dX11_count_64 : decode cX11_count 64 = .ok (.getfield 253, 3) := by decide +kernel
theorem dX11_count_67 : decode cX11_count 67 = .ok (.ireturn, 1) := by decide +kernel
theorem dX11_count_68 : decode cX11_count 68 = .ok (.aload_n 0, 1) := by decide +kernel
theorem dX11_count_69 : decode cX11_count 69 = .ok (.getfield 19, 3) := by decide +kernel
theorem dX11_count_72 : decode cX11_count 72 = .ok (.getfield 256, 3) := by decide +kernel
theorem dX11_count_75 : decode cX11_count 75 = .ok (.ireturn, 1) := by decide +kernel
theorem dX11_count_76 : decode cX11_count 76 = .ok (.aload_n 0, 1) := by decide +kernel
theorem dX11_count_77 : decode cX11_count 77 = .ok (.getfield 31, 3) := by decide +kernel
theorem dX11_count_80 : decode cX11_count 80 = .ok (.getfield 174, 3) := by decide +kernel
theorem dX11_count_83 : decode cX11_count 83 = .ok (.ireturn, 1) := by decide +kernel
theorem dX11_count_84 : decode cX11_count 84 = .ok (.aload_n 0, 1) := by decide +kernel
theorem dX11_count_85 : decode cX11_count 85 = .ok (.getfield 56, 3) := by decide +kernel
theorem dX11_count_88 : decode cX11_count 88 = .ok (.getfield 107, 3) := by decide +kernel
theorem dX11_count_91 : decode cX11_count 91 = .ok (.ireturn, 1) := by decide +kernel
theorem dX11_count_92 : decode cX11_count 92 = .ok (.aload_n 0, 1) := by decide +kernel
theorem dX11_count_93 : decode cX11_count 93 = .ok (.getfield 10, 3) := by decide +kernel
theorem dX11_count_96 : decode cX11_count 96 = .ok (.getfield 90, 3) := by decide +kernel
theorem dX11_count_99 : decode cX11_count 99 = .ok (.ireturn, 1) := by decide +kernel
theorem dX11_count_100 : decode cX11_count 100 = .ok (.iconst (-1), 1) := by decide +kernel
theorem dX11_count_101 : decode cX11_count 101 = .ok (.ireturn, 1) := by decide +kernel
theorem dX11_trace_0 : decode cX11_trace 0 = .ok (.lconst 0, 1) := by decide +kernel
theorem dX11_trace_1 : decode cX11_trace 1 = .ok (.lstore_n 1, 1) := by decide +kernel
theorem dX11_trace_2 : decode cX11_trace 2 = .ok (.iconst 0, 1) := by decide +kernel
theorem dX11_trace_3 : decode cX11_trace 3 = .ok (.istore_n 3, 1) := by decide +kernel
theorem dX11_trace_4 : decode cX11_trace 4 = .ok (.iload_n 3, 1) := by decide +kernel
theorem dX11_trace_5 : decode cX11_trace 5 = .ok (.aload_n 0, 1) := by decide +kernel
theorem dX11_trace_6 : decode cX11_trace 6 = .ok (.getfield 82, 3) := by decide +kernel
theorem dX11_trace_9 : decode cX11_trace 9 = .ok (.arraylength, 1) := by decide +kernel
theorem dX11_trace_10 : decode cX11_trace 10 = .ok (.if_icmp .ge 21, 3) := by decide +kernel
theorem dX11_trace_13 : decode cX11_trace 13 = .ok (.lload_n 1, 1) := by decide +kernel
theorem dX11_trace_14 : decode cX11_trace 14 = .ok (.aload_n 0, 1) := by decide +kernel
theorem dX11_trace_15 : decode cX11_trace 15 = .ok (.getfield 82, 3) := by decide +kernel
theorem dX11_trace_18 : decode cX11_trace 18 = .ok (.iload_n 3, 1) := by decide +kernel
theorem dX11_trace_19 : decode cX11_trace 19 = .ok (.aaload, 1) := by decide +kernel
theorem dX11_trace_20 : decode cX11_trace 20 = .ok (.getfield 259, 3) := by decide +kernel
theorem dX11_trace_23 : decode cX11_trace 23 = .ok (.ladd, 1) := by decide +kernel
theorem dX11_trace_24 : decode cX11_trace 24 = .ok (.lstore_n 1, 1) := by decide +kernel
theorem dX11_trace_25 : decode cX11_trace 25 = .ok (.iinc 3 1, 3) := by decide +kernel
theorem dX11_trace_28 : decode cX11_trace 28 = .ok (.goto (-24), 3) := by decide +kernel
theorem dX11_trace_31 : decode cX11_trace 31 = .ok (.lload_n 1, 1) := by decide +kernel
theorem dX11_trace_32 : decode cX11_trace 32 = .ok (.lreturn, 1) := by decide +kernel
theorem dX11_orNone_0 : decode cX11_orNone 0 = .ok (.iload_n 0, 1) := by decide +kernel
theorem dX11_orNone_1 : decode cX11_orNone 1 = .ok (.bipush 60, 2) := by decide +kernel
theorem dX11_orNone_3 : decode cX11_orNone 3 = .ok (.if_icmp .le 8, 3) := by decide +kernel
theorem dX11_orNone_6 : decode cX11_orNone 6 = .ok (.bipush (-9), 2) := by decide +kernel
theorem dX11_orNone_8 : decode cX11_orNone 8 = .ok (.goto 4, 3) := by decide +kernel
theorem dX11_orNone_11 : decode cX11_orNone 11 = .ok (.iload_n 0, 1) := by decide +kernel
theorem dX11_orNone_12 : decode cX11_orNone 12 = .ok (.ireturn, 1) := by decide +kernel
theorem dX11_whenNow_0 : decode cX11_whenNow 0 = .ok (.aload_n 0, 1) := by decide +kernel
theorem dX11_whenNow_1 : decode cX11_whenNow 1 = .ok (.getfield 35, 3) := by decide +kernel
theorem dX11_whenNow_4 : decode cX11_whenNow 4 = .ok (.aload_n 0, 1) := by decide +kernel
theorem dX11_whenNow_5 : decode cX11_whenNow 5 = .ok (.getfield 31, 3) := by decide +kernel
theorem dX11_whenNow_8 : decode cX11_whenNow 8 = .ok (.invokevirtual 248, 3) := by decide +kernel
theorem dX11_whenNow_11 : decode cX11_whenNow 11 = .ok (.aload_n 0, 1) := by decide +kernel
theorem dX11_whenNow_12 : decode cX11_whenNow 12 = .ok (.getfield 35, 3) := by decide +kernel
theorem dX11_whenNow_15 : decode cX11_whenNow 15 = .ok (.iload_n 1, 1) := by decide +kernel
theorem dX11_whenNow_16 : decode cX11_whenNow 16 = .ok (.invokevirtual 263, 3) := by decide +kernel
theorem dX11_whenNow_19 : decode cX11_whenNow 19 = .ok (.ireturn, 1) := by decide +kernel
theorem dX11_sticksNow_0 : decode cX11_sticksNow 0 = .ok (.aload_n 0, 1) := by decide +kernel
theorem dX11_sticksNow_1 : decode cX11_sticksNow 1 = .ok (.getfield 35, 3) := by decide +kernel
theorem dX11_sticksNow_4 : decode cX11_sticksNow 4 = .ok (.aload_n 0, 1) := by decide +kernel
theorem dX11_sticksNow_5 : decode cX11_sticksNow 5 = .ok (.getfield 31, 3) := by decide +kernel
theorem dX11_sticksNow_8 : decode cX11_sticksNow 8 = .ok (.invokevirtual 248, 3) := by decide +kernel
theorem dX11_sticksNow_11 : decode cX11_sticksNow 11 = .ok (.aload_n 0, 1) := by decide +kernel
theorem dX11_sticksNow_12 : decode cX11_sticksNow 12 = .ok (.getfield 35, 3) := by decide +kernel
theorem dX11_sticksNow_15 : decode cX11_sticksNow 15 = .ok (.invokevirtual 266, 3) := by decide +kernel
theorem dX11_sticksNow_18 : decode cX11_sticksNow 18 = .ok (.ireturn, 1) := by decide +kernel
theorem dX11_allNow_0 : decode cX11_allNow 0 = .ok (.aload_n 0, 1) := by decide +kernel
theorem dX11_allNow_1 : decode cX11_allNow 1 = .ok (.getfield 35, 3) := by decide +kernel
theorem dX11_allNow_4 : decode cX11_allNow 4 = .ok (.aload_n 0, 1) := by decide +kernel
theorem dX11_allNow_5 : decode cX11_allNow 5 = .ok (.getfield 31, 3) := by decide +kernel
theorem dX11_allNow_8 : decode cX11_allNow 8 = .ok (.invokevirtual 248, 3) := by decide +kernel
theorem dX11_allNow_11 : decode cX11_allNow 11 = .ok (.aload_n 0, 1) := by decide +kernel
theorem dX11_allNow_12 : decode cX11_allNow 12 = .ok (.getfield 35, 3) := by decide +kernel
theorem dX11_allNow_15 : decode cX11_allNow 15 = .ok (.invokevirtual 269, 3) := by decide +kernel
theorem dX11_allNow_18 : decode cX11_allNow 18 = .ok (.ireturn, 1) := by decide +kernel
theorem dX11_bestHelper_0 : decode cX11_bestHelper 0 = .ok (.aload_n 0, 1) := by decide +kernel
theorem dX11_bestHelper_1 : decode cX11_bestHelper 1 = .ok (.getfield 35, 3) := by decide +kernel
theorem dX11_bestHelper_4 : decode cX11_bestHelper 4 = .ok (.aload_n 0, 1) := by decide +kernel
theorem dX11_bestHelper_5 : decode cX11_bestHelper 5 = .ok (.getfield 31, 3) := by decide +kernel
theorem dX11_bestHelper_8 : decode cX11_bestHelper 8 = .ok (.invokevirtual 248, 3) := by decide +kernel
theorem dX11_bestHelper_11 : decode cX11_bestHelper 11 = .ok (.aload_n 0, 1) := by decide +kernel
theorem dX11_bestHelper_12 : decode cX11_bestHelper 12 = .ok (.getfield 35, 3) := by decide +kernel
theorem dX11_bestHelper_15 : decode cX11_bestHelper 15 = .ok (.iload_n 1, 1) := by decide +kernel
theorem dX11_bestHelper_16 : decode cX11_bestHelper 16 = .ok (.invokevirtual 263, 3) := by decide +kernel
theorem dX11_bestHelper_19 : decode cX11_bestHelper 19 = .ok (.istore_n 3, 1) := by decide +kernel
theorem dX11_bestHelper_20 : decode cX11_bestHelper 20 = .ok (.bipush (-9), 2) := by decide +kernel
theorem dX11_bestHelper_22 : decode cX11_bestHelper 22 = .ok (.istore 4, 2) := by decide +kernel
theorem dX11_bestHelper_24 : decode cX11_bestHelper 24 = .ok (.iconst 0, 1) := by decide +kernel
theorem dX11_bestHelper_25 : decode cX11_bestHelper 25 = .ok (.istore 5, 2) := by decide +kernel
theorem dX11_bestHelper_27 : decode cX11_bestHelper 27 = .ok (.iload 5, 2) := by decide +kernel
theorem dX11_bestHelper_29 : decode cX11_bestHelper 29 = .ok (.aload_n 0, 1) := by decide +kernel
theorem dX11_bestHelper_30 : decode cX11_bestHelper 30 = .ok (.getfield 31, 3) := by decide +kernel
theorem dX11_bestHelper_33 : decode cX11_bestHelper 33 = .ok (.getfield 174, 3) := by decide +kernel
theorem dX11_bestHelper_36 : decode cX11_bestHelper 36 = .ok (.if_icmp .ge 90, 3) := by decide +kernel
theorem dX11_bestHelper_39 : decode cX11_bestHelper 39 = .ok (.iload 5, 2) := by decide +kernel
theorem dX11_bestHelper_41 : decode cX11_bestHelper 41 = .ok (.iload_n 1, 1) := by decide +kernel
theorem dX11_bestHelper_42 : decode cX11_bestHelper 42 = .ok (.if_icmp .eq 78, 3) := by decide +kernel
theorem dX11_bestHelper_45 : decode cX11_bestHelper 45 = .ok (.aload_n 0, 1) := by decide +kernel
theorem dX11_bestHelper_46 : decode cX11_bestHelper 46 = .ok (.getfield 31, 3) := by decide +kernel
theorem dX11_bestHelper_49 : decode cX11_bestHelper 49 = .ok (.getfield 131, 3) := by decide +kernel
theorem dX11_bestHelper_52 : decode cX11_bestHelper 52 = .ok (.iload 5, 2) := by decide +kernel
theorem dX11_bestHelper_54 : decode cX11_bestHelper 54 = .ok (.iaload, 1) := by decide +kernel
theorem dX11_bestHelper_55 : decode cX11_bestHelper 55 = .ok (.ifCond .eq 6, 3) := by decide +kernel
theorem dX11_bestHelper_58 : decode cX11_bestHelper 58 = .ok (.goto 62, 3) := by decide +kernel
theorem dX11_bestHelper_61 : decode cX11_bestHelper 61 = .ok (.aload_n 0, 1) := by decide +kernel
theorem dX11_bestHelper_62 : decode cX11_bestHelper 62 = .ok (.getfield 35, 3) := by decide +kernel
theorem dX11_bestHelper_65 : decode cX11_bestHelper 65 = .ok (.aload_n 0, 1) := by decide +kernel
theorem dX11_bestHelper_66 : decode cX11_bestHelper 66 = .ok (.getfield 31, 3) := by decide +kernel
theorem dX11_bestHelper_69 : decode cX11_bestHelper 69 = .ok (.invokevirtual 248, 3) := by decide +kernel
theorem dX11_bestHelper_72 : decode cX11_bestHelper 72 = .ok (.iload_n 2, 1) := by decide +kernel
theorem dX11_bestHelper_73 : decode cX11_bestHelper 73 = .ok (.ifCond .eq 15, 3) := by decide +kernel
theorem dX11_bestHelper_76 : decode cX11_bestHelper 76 = .ok (.aload_n 0, 1) := by decide +kernel
theorem dX11_bestHelper_77 : decode cX11_bestHelper 77 = .ok (.getfield 35, 3) := by decide +kernel
theorem dX11_bestHelper_80 : decode cX11_bestHelper 80 = .ok (.iload 5, 2) := by decide +kernel
theorem dX11_bestHelper_82 : decode cX11_bestHelper 82 = .ok (.invokevirtual 195, 3) := by decide +kernel
theorem dX11_bestHelper_85 : decode cX11_bestHelper 85 = .ok (.goto 12, 3) := by decide +kernel
theorem dX11_bestHelper_88 : decode cX11_bestHelper 88 = .ok (.aload_n 0, 1) := by decide +kernel
theorem dX11_bestHelper_89 : decode cX11_bestHelper 89 = .ok (.getfield 35, 3) := by decide +kernel
theorem dX11_bestHelper_92 : decode cX11_bestHelper 92 = .ok (.iload 5, 2) := by decide +kernel
theorem dX11_bestHelper_94 : decode cX11_bestHelper 94 = .ok (.invokevirtual 188, 3) := by decide +kernel
theorem dX11_bestHelper_97 : decode cX11_bestHelper 97 = .ok (.aload_n 0, 1) := by decide +kernel
theorem dX11_bestHelper_98 : decode cX11_bestHelper 98 = .ok (.getfield 35, 3) := by decide +kernel
theorem dX11_bestHelper_101 : decode cX11_bestHelper 101 = .ok (.iload_n 1, 1) := by decide +kernel
theorem dX11_bestHelper_102 : decode cX11_bestHelper 102 = .ok (.invokevirtual 263, 3) := by decide +kernel
theorem dX11_bestHelper_105 : decode cX11_bestHelper 105 = .ok (.istore 6, 2) := by decide +kernel
theorem dX11_bestHelper_107 : decode cX11_bestHelper 107 = .ok (.iload 6, 2) := by decide +kernel
theorem dX11_bestHelper_109 : decode cX11_bestHelper 109 = .ok (.iload_n 3, 1) := by decide +kernel
theorem dX11_bestHelper_110 : decode cX11_bestHelper 110 = .ok (.if_icmp .ge 10, 3) := by decide +kernel
theorem dX11_bestHelper_113 : decode cX11_bestHelper 113 = .ok (.iload 6, 2) := by decide +kernel
theorem dX11_bestHelper_115 : decode cX11_bestHelper 115 = .ok (.istore_n 3, 1) := by decide +kernel
theorem dX11_bestHelper_116 : decode cX11_bestHelper 116 = .ok (.iload 5, 2) := by decide +kernel
theorem dX11_bestHelper_118 : decode cX11_bestHelper 118 = .ok (.istore 4, 2) := by decide +kernel
theorem dX11_bestHelper_120 : decode cX11_bestHelper 120 = .ok (.iinc 5 1, 3) := by decide +kernel
theorem dX11_bestHelper_123 : decode cX11_bestHelper 123 = .ok (.goto (-96), 3) := by decide +kernel
theorem dX11_bestHelper_126 : decode cX11_bestHelper 126 = .ok (.iload 4, 2) := by decide +kernel
theorem dX11_bestHelper_128 : decode cX11_bestHelper 128 = .ok (.ireturn, 1) := by decide +kernel
theorem dX11_waysToGo_0 : decode cX11_waysToGo 0 = .ok (.aload_n 0, 1) := by decide +kernel
theorem dX11_waysToGo_1 : decode cX11_waysToGo 1 = .ok (.getfield 31, 3) := by decide +kernel
theorem dX11_waysToGo_4 : decode cX11_waysToGo 4 = .ok (.iconst 1, 1) := by decide +kernel
theorem dX11_waysToGo_5 : decode cX11_waysToGo 5 = .ok (.invokevirtual 165, 3) := by decide +kernel
theorem dX11_waysToGo_8 : decode cX11_waysToGo 8 = .ok (.ifCond .ne 5, 3) := by decide +kernel
theorem dX11_waysToGo_11 : decode cX11_waysToGo 11 = .ok (.lconst 0, 1) := by decide +kernel
theorem dX11_waysToGo_12 : decode cX11_waysToGo 12 = .ok (.lreturn, 1) := by decide +kernel
theorem dX11_waysToGo_13 : decode cX11_waysToGo 13 = .ok (.aload_n 0, 1) := by decide +kernel
theorem dX11_waysToGo_14 : decode cX11_waysToGo 14 = .ok (.getfield 60, 3) := by decide +kernel
theorem dX11_waysToGo_17 : decode cX11_waysToGo 17 = .ok (.lconst 0, 1) := by decide +kernel
theorem dX11_waysToGo_18 : decode cX11_waysToGo 18 = .ok (.invokestatic 272, 3) := by decide +kernel
theorem dX11_waysToGo_21 : decode cX11_waysToGo 21 = .ok (.aload_n 0, 1) := by decide +kernel
theorem dX11_waysToGo_22 : decode cX11_waysToGo 22 = .ok (.getfield 60, 3) := by decide +kernel
theorem dX11_waysToGo_25 : decode cX11_waysToGo 25 = .ok (.iconst 0, 1) := by decide +kernel
theorem dX11_waysToGo_26 : decode cX11_waysToGo 26 = .ok (.lconst 1, 1) := by decide +kernel
theorem dX11_waysToGo_27 : decode cX11_waysToGo 27 = .ok (.lastore, 1) := by decide +kernel
theorem dX11_waysToGo_28 : decode cX11_waysToGo 28 = .ok (.iconst 0, 1) := by decide +kernel
theorem dX11_waysToGo_29 : decode cX11_waysToGo 29 = .ok (.istore_n 2, 1) := by decide +kernel
theorem dX11_waysToGo_30 : decode cX11_waysToGo 30 = .ok (.iconst 0, 1) := by decide +kernel
theorem dX11_waysToGo_31 : decode cX11_waysToGo 31 = .ok (.istore_n 3, 1) := by decide +kernel
theorem dX11_waysToGo_32 : decode cX11_waysToGo 32 = .ok (.iload_n 3, 1) := by decide +kernel
theorem dX11_waysToGo_33 : decode cX11_waysToGo 33 = .ok (.aload_n 0, 1) := by decide +kernel
theorem dX11_waysToGo_34 : decode cX11_waysToGo 34 = .ok (.getfield 31, 3) := by decide +kernel
theorem dX11_waysToGo_37 : decode cX11_waysToGo 37 = .ok (.getfield 174, 3) := by decide +kernel
theorem dX11_waysToGo_40 : decode cX11_waysToGo 40 = .ok (.if_icmp .ge 37, 3) := by decide +kernel
theorem dX11_waysToGo_43 : decode cX11_waysToGo 43 = .ok (.aload_n 0, 1) := by decide +kernel
theorem dX11_waysToGo_44 : decode cX11_waysToGo 44 = .ok (.getfield 31, 3) := by decide +kernel
theorem dX11_waysToGo_47 : decode cX11_waysToGo 47 = .ok (.getfield 131, 3) := by decide +kernel
theorem dX11_waysToGo_50 : decode cX11_waysToGo 50 = .ok (.iload_n 3, 1) := by decide +kernel
theorem dX11_waysToGo_51 : decode cX11_waysToGo 51 = .ok (.iaload, 1) := by decide +kernel
theorem dX11_waysToGo_52 : decode cX11_waysToGo 52 = .ok (.iconst 1, 1) := by decide +kernel
theorem dX11_waysToGo_53 : decode cX11_waysToGo 53 = .ok (.if_icmp .ne 18, 3) := by decide +kernel
theorem dX11_waysToGo_56 : decode cX11_waysToGo 56 = .ok (.aload_n 0, 1) := by decide +kernel
theorem dX11_waysToGo_57 : decode cX11_waysToGo 57 = .ok (.aload_n 0, 1) := by decide +kernel
theorem dX11_waysToGo_58 : decode cX11_waysToGo 58 = .ok (.getfield 31, 3) := by decide +kernel
theorem dX11_waysToGo_61 : decode cX11_waysToGo 61 = .ok (.iload_n 3, 1) := by decide +kernel
theorem dX11_waysToGo_62 : decode cX11_waysToGo 62 = .ok (.invokevirtual 278, 3) := by decide +kernel
theorem dX11_waysToGo_65 : decode cX11_waysToGo 65 = .ok (.iload_n 1, 1) := by decide +kernel
theorem dX11_waysToGo_66 : decode cX11_waysToGo 66 = .ok (.iload_n 2, 1) := by decide +kernel
theorem dX11_waysToGo_67 : decode cX11_waysToGo 67 = .ok (.invokevirtual 279, 3) := by decide +kernel
theorem dX11_waysToGo_70 : decode cX11_waysToGo 70 = .ok (.istore_n 2, 1) := by decide +kernel
theorem dX11_waysToGo_71 : decode cX11_waysToGo 71 = .ok (.iinc 3 1, 3) := by decide +kernel
theorem dX11_waysToGo_74 : decode cX11_waysToGo 74 = .ok (.goto (-42), 3) := by decide +kernel
theorem dX11_waysToGo_77 : decode cX11_waysToGo 77 = .ok (.lconst 0, 1) := by decide +kernel
theorem dX11_waysToGo_78 : decode cX11_waysToGo 78 = .ok (.lstore_n 3, 1) := by decide +kernel
theorem dX11_waysToGo_79 : decode cX11_waysToGo 79 = .ok (.aload_n 0, 1) := by decide +kernel
theorem dX11_waysToGo_80 : decode cX11_waysToGo 80 = .ok (.getfield 31, 3) := by decide +kernel
theorem dX11_waysToGo_83 : decode cX11_waysToGo 83 = .ok (.invokevirtual 162, 3) := by decide +kernel
theorem dX11_waysToGo_86 : decode cX11_waysToGo 86 = .ok (.istore 5, 2) := by decide +kernel
theorem dX11_waysToGo_88 : decode cX11_waysToGo 88 = .ok (.iload 5, 2) := by decide +kernel
theorem dX11_waysToGo_90 : decode cX11_waysToGo 90 = .ok (.iload_n 2, 1) := by decide +kernel
theorem dX11_waysToGo_91 : decode cX11_waysToGo 91 = .ok (.if_icmp .gt 19, 3) := by decide +kernel
theorem dX11_waysToGo_94 : decode cX11_waysToGo 94 = .ok (.lload_n 3, 1) := by decide +kernel
theorem dX11_waysToGo_95 : decode cX11_waysToGo 95 = .ok (.aload_n 0, 1) := by decide +kernel
theorem dX11_waysToGo_96 : decode cX11_waysToGo 96 = .ok (.getfield 60, 3) := by decide +kernel
theorem dX11_waysToGo_99 : decode cX11_waysToGo 99 = .ok (.iload 5, 2) := by decide +kernel
theorem dX11_waysToGo_101 : decode cX11_waysToGo 101 = .ok (.laload, 1) := by decide +kernel
theorem dX11_waysToGo_102 : decode cX11_waysToGo 102 = .ok (.ladd, 1) := by decide +kernel
theorem dX11_waysToGo_103 : decode cX11_waysToGo 103 = .ok (.lstore_n 3, 1) := by decide +kernel
theorem dX11_waysToGo_104 : decode cX11_waysToGo 104 = .ok (.iinc 5 1, 3) := by decide +kernel
theorem dX11_waysToGo_107 : decode cX11_waysToGo 107 = .ok (.goto (-19), 3) := by decide +kernel
theorem dX11_waysToGo_110 : decode cX11_waysToGo 110 = .ok (.lload_n 3, 1) := by decide +kernel
theorem dX11_waysToGo_111 : decode cX11_waysToGo 111 = .ok (.lreturn, 1) := by decide +kernel
theorem dX11_addPusher_0 : decode cX11_addPusher 0 = .ok (.iload_n 3, 1) := by decide +kernel
theorem dX11_addPusher_1 : decode cX11_addPusher 1 = .ok (.iload_n 1, 1) := by decide +kernel
theorem dX11_addPusher_2 : decode cX11_addPusher 2 = .ok (.iadd, 1) := by decide +kernel
theorem dX11_addPusher_3 : decode cX11_addPusher 3 = .ok (.aload_n 0, 1) := by decide +kernel
theorem dX11_addPusher_4 : decode cX11_addPusher 4 = .ok (.getfield 60, 3) := by decide +kernel
theorem dX11_addPusher_7 : decode cX11_addPusher 7 = .ok (.arraylength, 1) := by decide +kernel
theorem dX11_addPusher_8 : decode cX11_addPusher 8 = .ok (.iconst 1, 1) := by decide +kernel
theorem dX11_addPusher_9 : decode cX11_addPusher 9 = .ok (.isub, 1) := by decide +kernel
theorem dX11_addPusher_10 : decode cX11_addPusher 10 = .ok (.invokestatic 282, 3) := by decide +kernel
theorem dX11_addPusher_13 : decode cX11_addPusher 13 = .ok (.istore 4, 2) := by decide +kernel
theorem dX11_addPusher_15 : decode cX11_addPusher 15 = .ok (.iload 4, 2) := by decide +kernel
theorem dX11_addPusher_17 : decode cX11_addPusher 17 = .ok (.iload_n 1, 1) := by decide +kernel
theorem dX11_addPusher_18 : decode cX11_addPusher 18 = .ok (.isub, 1) := by decide +kernel
theorem dX11_addPusher_19 : decode cX11_addPusher 19 = .ok (.istore 5, 2) := by decide +kernel
theorem dX11_addPusher_21 : decode cX11_addPusher 21 = .ok (.iload 5, 2) := by decide +kernel
theorem dX11_addPusher_23 : decode cX11_addPusher 23 = .ok (.ifCond .lt 50, 3) := by decide +kernel
theorem dX11_addPusher_26 : decode cX11_addPusher 26 = .ok (.aload_n 0, 1) := by decide +kernel
theorem dX11_addPusher_27 : decode cX11_addPusher 27 = .ok (.getfield 60, 3) := by decide +kernel
theorem dX11_addPusher_30 : decode cX11_addPusher 30 = .ok (.iload 5, 2) := by decide +kernel
theorem dX11_addPusher_32 : decode cX11_addPusher 32 = .ok (.laload, 1) := by decide +kernel
theorem dX11_addPusher_33 : decode cX11_addPusher 33 = .ok (.lstore 6, 2) := by decide +kernel
theorem dX11_addPusher_35 : decode cX11_addPusher 35 = .ok (.aload_n 0, 1) := by decide +kernel
theorem dX11_addPusher_36 : decode cX11_addPusher 36 = .ok (.getfield 60, 3) := by decide +kernel
theorem dX11_addPusher_39 : decode cX11_addPusher 39 = .ok (.iload 5, 2) := by decide +kernel
theorem dX11_addPusher_41 : decode cX11_addPusher 41 = .ok (.lload 6, 2) := by decide +kernel
theorem dX11_addPusher_43 : decode cX11_addPusher 43 = .ok (.iload_n 2, 1) := by decide +kernel
theorem dX11_addPusher_44 : decode cX11_addPusher 44 = .ok (.i2l, 1) := by decide +kernel
theorem dX11_addPusher_45 : decode cX11_addPusher 45 = .ok (.lmul, 1) := by decide +kernel
theorem dX11_addPusher_46 : decode cX11_addPusher 46 = .ok (.lastore, 1) := by decide +kernel
theorem dX11_addPusher_47 : decode cX11_addPusher 47 = .ok (.aload_n 0, 1) := by decide +kernel
theorem dX11_addPusher_48 : decode cX11_addPusher 48 = .ok (.getfield 60, 3) := by decide +kernel
theorem dX11_addPusher_51 : decode cX11_addPusher 51 = .ok (.iload 5, 2) := by decide +kernel
theorem dX11_addPusher_53 : decode cX11_addPusher 53 = .ok (.iload_n 1, 1) := by decide +kernel
theorem dX11_addPusher_54 : decode cX11_addPusher 54 = .ok (.iadd, 1) := by decide +kernel
theorem dX11_addPusher_55 : decode cX11_addPusher 55 = .ok (.dup2, 1) := by decide +kernel
theorem dX11_addPusher_56 : decode cX11_addPusher 56 = .ok (.laload, 1) := by decide +kernel
theorem dX11_addPusher_57 : decode cX11_addPusher 57 = .ok (.lload 6, 2) := by decide +kernel
theorem dX11_addPusher_59 : decode cX11_addPusher 59 = .ok (.bipush 10, 2) := by decide +kernel
theorem dX11_addPusher_61 : decode cX11_addPusher 61 = .ok (.iload_n 2, 1) := by decide +kernel
theorem dX11_addPusher_62 : decode cX11_addPusher 62 = .ok (.isub, 1) := by decide +kernel
theorem dX11_addPusher_63 : decode cX11_addPusher 63 = .ok (.i2l, 1) := by decide +kernel
theorem dX11_addPusher_64 : decode cX11_addPusher 64 = .ok (.lmul, 1) := by decide +kernel
theorem dX11_addPusher_65 : decode cX11_addPusher 65 = .ok (.ladd, 1) := by decide +kernel
theorem dX11_addPusher_66 : decode cX11_addPusher 66 = .ok (.lastore, 1) := by decide +kernel
theorem dX11_addPusher_67 : decode cX11_addPusher 67 = .ok (.iinc 5 (-1), 3) := by decide +kernel
theorem dX11_addPusher_70 : decode cX11_addPusher 70 = .ok (.goto (-49), 3) := by decide +kernel
theorem dX11_addPusher_73 : decode cX11_addPusher 73 = .ok (.iload 4, 2) := by decide +kernel
theorem dX11_addPusher_75 : decode cX11_addPusher 75 = .ok (.ireturn, 1) := by decide +kernel
theorem dX11_greatestDivisor_0 : decode cX11_greatestDivisor 0 = .ok (.lload_n 0, 1) := by decide +kernel
theorem dX11_greatestDivisor_1 : decode cX11_greatestDivisor 1 = .ok (.lstore 4, 2) := by decide +kernel
theorem dX11_greatestDivisor_3 : decode cX11_greatestDivisor 3 = .ok (.lload_n 2, 1) := by decide +kernel
theorem dX11_greatestDivisor_4 : decode cX11_greatestDivisor 4 = .ok (.lstore 6, 2) := by decide +kernel
theorem dX11_greatestDivisor_6 : decode cX11_greatestDivisor 6 = .ok (.iconst 0, 1) := by decide +kernel
theorem dX11_greatestDivisor_7 : decode cX11_greatestDivisor 7 = .ok (.istore 8, 2) := by decide +kernel
theorem dX11_greatestDivisor_9 : decode cX11_greatestDivisor 9 = .ok (.iload 8, 2) := by decide +kernel
theorem dX11_greatestDivisor_11 : decode cX11_greatestDivisor 11 = .ok (.bipush 100, 2) := by decide +kernel
theorem dX11_greatestDivisor_13 : decode cX11_greatestDivisor 13 = .ok (.if_icmp .ge 31, 3) := by decide +kernel
theorem dX11_greatestDivisor_16 : decode cX11_greatestDivisor 16 = .ok (.lload 6, 2) := by decide +kernel
theorem dX11_greatestDivisor_18 : decode cX11_greatestDivisor 18 = .ok (.lconst 0, 1) := by decide +kernel
theorem dX11_greatestDivisor_19 : decode cX11_greatestDivisor 19 = .ok (.lcmp, 1) := by decide +kernel
theorem dX11_greatestDivisor_20 : decode cX11_greatestDivisor 20 = .ok (.ifCond .eq 24, 3) := by decide +kernel
theorem dX11_greatestDivisor_23 : decode cX11_greatestDivisor 23 = .ok (.lload 4, 2) := by decide +kernel
theorem dX11_greatestDivisor_25 : decode cX11_greatestDivisor 25 = .ok (.lload 6, 2) := by decide +kernel
theorem dX11_greatestDivisor_27 : decode cX11_greatestDivisor 27 = .ok (.lrem, 1) := by decide +kernel
theorem dX11_greatestDivisor_28 : decode cX11_greatestDivisor 28 = .ok (.lstore 9, 2) := by decide +kernel
theorem dX11_greatestDivisor_30 : decode cX11_greatestDivisor 30 = .ok (.lload 6, 2) := by decide +kernel
theorem dX11_greatestDivisor_32 : decode cX11_greatestDivisor 32 = .ok (.lstore 4, 2) := by decide +kernel
theorem dX11_greatestDivisor_34 : decode cX11_greatestDivisor 34 = .ok (.lload 9, 2) := by decide +kernel
theorem dX11_greatestDivisor_36 : decode cX11_greatestDivisor 36 = .ok (.lstore 6, 2) := by decide +kernel
theorem dX11_greatestDivisor_38 : decode cX11_greatestDivisor 38 = .ok (.iinc 8 1, 3) := by decide +kernel
theorem dX11_greatestDivisor_41 : decode cX11_greatestDivisor 41 = .ok (.goto (-32), 3) := by decide +kernel
theorem dX11_greatestDivisor_44 : decode cX11_greatestDivisor 44 = .ok (.lload 4, 2) := by decide +kernel
theorem dX11_greatestDivisor_46 : decode cX11_greatestDivisor 46 = .ok (.lreturn, 1) := by decide +kernel
theorem dX11_leastOf_0 : decode cX11_leastOf 0 = .ok (.iload_n 0, 1) := by decide +kernel
theorem dX11_leastOf_1 : decode cX11_leastOf 1 = .ok (.ifCond .ne 7, 3) := by decide +kernel
theorem dX11_leastOf_4 : decode cX11_leastOf 4 = .ok (.iconst 1, 1) := by decide +kernel
theorem dX11_leastOf_5 : decode cX11_leastOf 5 = .ok (.goto 4, 3) := by decide +kernel
theorem dX11_leastOf_8 : decode cX11_leastOf 8 = .ok (.iconst 0, 1) := by decide +kernel
theorem dX11_leastOf_9 : decode cX11_leastOf 9 = .ok (.ireturn, 1) := by decide +kernel
theorem dX11_mostOf_0 : decode cX11_mostOf 0 = .ok (.iload_n 0, 1) := by decide +kernel
theorem dX11_mostOf_1 : decode cX11_mostOf 1 = .ok (.ifCond .ne 7, 3) := by decide +kernel
theorem dX11_mostOf_4 : decode cX11_mostOf 4 = .ok (.iconst 5, 1) := by decide +kernel
theorem dX11_mostOf_5 : decode cX11_mostOf 5 = .ok (.goto 5, 3) := by decide +kernel
theorem dX11_mostOf_8 : decode cX11_mostOf 8 = .ok (.bipush 9, 2) := by decide +kernel
theorem dX11_mostOf_10 : decode cX11_mostOf 10 = .ok (.ireturn, 1) := by decide +kernel
theorem dX12_init_0 : decode cX12_init 0 = .ok (.aload_n 0, 1) := by decide +kernel
theorem dX12_init_1 : decode cX12_init 1 = .ok (.invokespecial 1, 3) := by decide +kernel
theorem dX12_init_4 : decode cX12_init 4 = .ok (.aload_n 0, 1) := by decide +kernel
theorem dX12_init_5 : decode cX12_init 5 = .ok (.iconst 4, 1) := by decide +kernel
theorem dX12_init_6 : decode cX12_init 6 = .ok (.putfield 7, 3) := by decide +kernel
theorem dX12_init_9 : decode cX12_init 9 = .ok (.aload_n 0, 1) := by decide +kernel
theorem dX12_init_10 : decode cX12_init 10 = .ok (.iconst 2, 1) := by decide +kernel
theorem dX12_init_11 : decode cX12_init 11 = .ok (.putfield 13, 3) := by decide +kernel
theorem dX12_init_14 : decode cX12_init 14 = .ok (.aload_n 0, 1) := by decide +kernel
theorem dX12_init_15 : decode cX12_init 15 = .ok (.iconst 3, 1) := by decide +kernel
theorem dX12_init_16 : decode cX12_init 16 = .ok (.putfield 16, 3) := by decide +kernel
theorem dX12_init_19 : decode cX12_init 19 = .ok (.aload_n 0, 1) := by decide +kernel
theorem dX12_init_20 : decode cX12_init 20 = .ok (.bipush 6, 2) := by decide +kernel
theorem dX12_init_22 : decode cX12_init 22 = .ok (.newarray .int, 2) := by decide +kernel
theorem dX12_init_24 : decode cX12_init 24 = .ok (.putfield 19, 3) := by decide +kernel
theorem dX12_init_27 : decode cX12_init 27 = .ok (.aload_n 0, 1) := by decide +kernel
theorem dX12_init_28 : decode cX12_init 28 = .ok (.bipush 6, 2) := by decide +kernel
theorem dX12_init_30 : decode cX12_init 30 = .ok (.newarray .int, 2) := by decide +kernel
theorem dX12_init_32 : decode cX12_init 32 = .ok (.putfield 23, 3) := by decide +kernel
theorem dX12_init_35 : decode cX12_init 35 = .ok (.aload_n 0, 1) := by decide +kernel
theorem dX12_init_36 : decode cX12_init 36 = .ok (.bipush 47, 2) := by decide +kernel
theorem dX12_init_38 : decode cX12_init 38 = .ok (.newarray .int, 2) := by decide +kernel
theorem dX12_init_40 : decode cX12_init 40 = .ok (.putfield 26, 3) := by decide +kernel
theorem dX12_init_43 : decode cX12_init 43 = .ok (.aload_n 0, 1) := by decide +kernel
theorem dX12_init_44 : decode cX12_init 44 = .ok (.bipush 47, 2) := by decide +kernel
theorem dX12_init_46 : decode cX12_init 46 = .ok (.newarray .int, 2) := by decide +kernel
theorem dX12_init_48 : decode cX12_init 48 = .ok (.putfield 29, 3) := by decide +kernel
theorem dX12_init_51 : decode cX12_init 51 = .ok (.aload_n 0, 1) := by decide +kernel
theorem dX12_init_52 : decode cX12_init 52 = .ok (.sipush 470, 3) := by decide +kernel
theorem dX12_init_55 : decode cX12_init 55 = .ok (.newarray .int, 2) := by decide +kernel
theorem dX12_init_57 : decode cX12_init 57 = .ok (.putfield 32, 3) := by decide +kernel
theorem dX12_init_60 : decode cX12_init 60 = .ok (.aload_n 0, 1) := by decide +kernel
theorem dX12_init_61 : decode cX12_init 61 = .ok (.bipush 94, 2) := by decide +kernel
theorem dX12_init_63 : decode cX12_init 63 = .ok (.newarray .int, 2) := by decide +kernel
theorem dX12_init_65 : decode cX12_init 65 = .ok (.putfield 35, 3) := by decide +kernel
theorem dX12_init_68 : decode cX12_init 68 = .ok (.aload_n 0, 1) := by decide +kernel
theorem dX12_init_69 : decode cX12_init 69 = .ok (.iconst 2, 1) := by decide +kernel
theorem dX12_init_70 : decode cX12_init 70 = .ok (.newarray .boolean, 2) := by decide +kernel
theorem dX12_init_72 : decode cX12_init 72 = .ok (.putfield 38, 3) := by decide +kernel
theorem dX12_init_75 : decode cX12_init 75 = .ok (.aload_n 0, 1) := by decide +kernel
theorem dX12_init_76 : decode cX12_init 76 = .ok (.bipush 18, 2) := by decide +kernel
theorem dX12_init_78 : decode cX12_init 78 = .ok (.newarray .int, 2) := by decide +kernel
theorem dX12_init_80 : decode cX12_init 80 = .ok (.putfield 42, 3) := by decide +kernel
theorem dX12_init_83 : decode cX12_init 83 = .ok (.aload_n 0, 1) := by decide +kernel
theorem dX12_init_84 : decode cX12_init 84 = .ok (.bipush 100, 2) := by decide +kernel
theorem dX12_init_86 : decode cX12_init 86 = .ok (.newarray .int, 2) := by decide +kernel
theorem dX12_init_88 : decode cX12_init 88 = .ok (.putfield 45, 3) := by decide +kernel
theorem dX12_init_91 : decode cX12_init 91 = .ok (.aload_n 0, 1) := by decide +kernel
theorem dX12_init_92 : decode cX12_init 92 = .ok (.bipush 6, 2) := by decide +kernel
theorem dX12_init_94 : decode cX12_init 94 = .ok (.newarray .int, 2) := by decide +kernel
theorem dX12_init_96 : decode cX12_init 96 = .ok (.putfield 48, 3) := by decide +kernel
theorem dX12_init_99 : decode cX12_init 99 = .ok (.aload_n 0, 1) := by decide +kernel
theorem dX12_init_100 : decode cX12_init 100 = .ok (.bipush 6, 2) := by decide +kernel
theorem dX12_init_102 : decode cX12_init 102 = .ok (.newarray .int, 2) := by decide +kernel
theorem dX12_init_104 : decode cX12_init 104 = .ok (.putfield 51, 3) := by decide +kernel
theorem dX12_init_107 : decode cX12_init 107 = .ok (.return_, 1) := by decide +kernel
theorem dX12_in_0 : decode cX12_in 0 = .ok (.lload_n 0, 1) := by decide +kernel
theorem dX12_in_1 : decode cX12_in 1 = .ok (.lload_n 2, 1) := by decide +kernel
theorem dX12_in_2 : decode cX12_in 2 = .ok (.lcmp, 1) := by decide +kernel
theorem dX12_in_3 : decode cX12_in 3 = .ok (.ifCond .lt 14, 3) := by decide +kernel
theorem dX12_in_6 : decode cX12_in 6 = .ok (.lload_n 0, 1) := by decide +kernel
theorem dX12_in_7 : decode cX12_in 7 = .ok (.lload 4, 2) := by decide +kernel
theorem dX12_in_9 : decode cX12_in 9 = .ok (.lcmp, 1) := by decide +kernel
theorem dX12_in_10 : decode cX12_in 10 = .ok (.ifCond .gt 7, 3) := by decide +kernel
theorem dX12_in_13 : decode cX12_in 13 = .ok (.iconst 1, 1) := by decide +kernel
theorem dX12_in_14 : decode cX12_in 14 = .ok (.goto 4, 3) := by decide +kernel
theorem dX12_in_17 : decode cX12_in 17 = .ok (.iconst 0, 1) := by decide +kernel
theorem dX12_in_18 : decode cX12_in 18 = .ok (.ireturn, 1) := by decide +kernel
theorem dX12_has_0 : decode cX12_has 0 = .ok (.iload_n 0, 1) := by decide +kernel
theorem dX12_has_1 : decode cX12_has 1 = .ok (.iload_n 1, 1) := by decide +kernel
theorem dX12_has_2 : decode cX12_has 2 = .ok (.ishr, 1) := by decide +kernel
theorem dX12_has_3 : decode cX12_has 3 = .ok (.iconst 1, 1) := by decide +kernel
theorem dX12_has_4 : decode cX12_has 4 = .ok (.iand, 1) := by decide +kernel
theorem dX12_has_5 : decode cX12_has 5 = .ok (.iconst 1, 1) := by decide +kernel
theorem dX12_has_6 : decode cX12_has 6 = .ok (.if_icmp .ne 7, 3) := by decide +kernel
theorem dX12_has_9 : decode cX12_has 9 = .ok (.iconst 1, 1) := by decide +kernel
theorem dX12_has_10 : decode cX12_has 10 = .ok (.goto 4, 3) := by decide +kernel
theorem dX12_has_13 : decode cX12_has 13 = .ok (.iconst 0, 1) := by decide +kernel
theorem dX12_has_14 : decode cX12_has 14 = .ok (.ireturn, 1) := by decide +kernel
theorem dX12_bits_0 : decode cX12_bits 0 = .ok (.iconst 0, 1) := by decide +kernel
theorem dX12_bits_1 : decode cX12_bits 1 = .ok (.istore_n 1, 1) := by decide +kernel
theorem dX12_bits_2 : decode cX12_bits 2 = .ok (.iload_n 0, 1) := by decide +kernel
theorem dX12_bits_3 : decode cX12_bits 3 = .ok (.istore_n 2, 1) := by decide +kernel
theorem dX12_bits_4 : decode cX12_bits 4 = .ok (.iload_n 2, 1) := by decide +kernel
theorem dX12_bits_5 : decode cX12_bits 5 = .ok (.ifCond .eq 15, 3) := by decide +kernel
theorem dX12_bits_8 : decode cX12_bits 8 = .ok (.iinc 1 1, 3) := by decide +kernel
theorem dX12_bits_11 : decode cX12_bits 11 = .ok (.iload_n 2, 1) := by decide +kernel
theorem dX12_bits_12 : decode cX12_bits 12 = .ok (.iload_n 2, 1) := by decide +kernel
theorem dX12_bits_13 : decode cX12_bits 13 = .ok (.iconst 1, 1) := by decide +kernel
theorem dX12_bits_14 : decode cX12_bits 14 = .ok (.isub, 1) := by decide +kernel
theorem dX12_bits_15 : decode cX12_bits 15 = .ok (.iand, 1) := by decide +kernel
theorem dX12_bits_16 : decode cX12_bits 16 = .ok (.istore_n 2, 1) := by decide +kernel
theorem dX12_bits_17 : decode cX12_bits 17 = .ok (.goto (-13), 3) := by decide +kernel
theorem dX12_bits_20 : decode cX12_bits 20 = .ok (.iload_n 1, 1) := by decide +kernel
theorem dX12_bits_21 : decode cX12_bits 21 = .ok (.ireturn, 1) := by decide +kernel
theorem dX12_copies_0 : decode cX12_copies 0 = .ok (.iconst 0, 1) := by decide +kernel
theorem dX12_copies_1 : decode cX12_copies 1 = .ok (.istore 5, 2) := by decide +kernel
theorem dX12_copies_3 : decode cX12_copies 3 = .ok (.iload 5, 2) := by decide +kernel
theorem dX12_copies_5 : decode cX12_copies 5 = .ok (.iload 4, 2) := by decide +kernel
theorem dX12_copies_7 : decode cX12_copies 7 = .ok (.if_icmp .ge 21, 3) := by decide +kernel
theorem dX12_copies_10 : decode cX12_copies 10 = .ok (.aload_n 2, 1) := by decide +kernel
theorem dX12_copies_11 : decode cX12_copies 11 = .ok (.iload_n 3, 1) := by decide +kernel
theorem dX12_copies_12 : decode cX12_copies 12 = .ok (.iload 5, 2) := by decide +kernel
theorem dX12_copies_14 : decode cX12_copies 14 = .ok (.iadd, 1) := by decide +kernel
theorem dX12_copies_15 : decode cX12_copies 15 = .ok (.aload_n 0, 1) := by decide +kernel
theorem dX12_copies_16 : decode cX12_copies 16 = .ok (.iload_n 1, 1) := by decide +kernel
theorem dX12_copies_17 : decode cX12_copies 17 = .ok (.iload 5, 2) := by decide +kernel
theorem dX12_copies_19 : decode cX12_copies 19 = .ok (.iadd, 1) := by decide +kernel
theorem dX12_copies_20 : decode cX12_copies 20 = .ok (.iaload, 1) := by decide +kernel
theorem dX12_copies_21 : decode cX12_copies 21 = .ok (.iastore, 1) := by decide +kernel
theorem dX12_copies_22 : decode cX12_copies 22 = .ok (.iinc 5 1, 3) := by decide +kernel
theorem dX12_copies_25 : decode cX12_copies 25 = .ok (.goto (-22), 3) := by decide +kernel
theorem dX12_copies_28 : decode cX12_copies 28 = .ok (.return_, 1) := by decide +kernel
theorem dX12_type_0 : decode cX12_type 0 = .ok (.iload_n 1, 1) := by decide +kernel
theorem dX12_type_1 : decode cX12_type 1 = .ok (.i2l, 1) := by decide +kernel
theorem dX12_type_2 : decode cX12_type 2 = .ok (.lconst 0, 1) := by decide +kernel
theorem dX12_type_3 : decode cX12_type 3 = .ok (.ldc2_w 54, 3) := by decide +kernel
theorem dX12_type_6 : decode cX12_type 6 = .ok (.invokestatic 56, 3) := by decide +kernel
theorem dX12_type_9 : decode cX12_type 9 = .ok (.ifCond .ne 5, 3) := by decide +kernel
theorem dX12_type_12 : decode cX12_type 12 = .ok (.iconst (-1), 1) := by decide +kernel
theorem dX12_type_13 : decode cX12_type 13 = .ok (.ireturn, 1) := by decide +kernel
theorem dX12_type_14 : decode cX12_type 14 = .ok (.aload_n 0, 1) := by decide +kernel
theorem dX12_type_15 : decode cX12_type 15 = .ok (.getfield 60, 3) := by decide +kernel
theorem dX12_type_18 : decode cX12_type 18 = .ok (.bipush 100, 2) := by decide +kernel
theorem dX12_type_20 : decode cX12_type 20 = .ok (.if_icmp .ne 6, 3) := by decide +kernel
theorem dX12_type_23 : decode cX12_type 23 = .ok (.bipush (-3), 2) := by decide +kernel
theorem dX12_type_25 : decode cX12_type 25 = .ok (.ireturn, 1) := by decide +kernel
theorem dX12_type_26 : decode cX12_type 26 = .ok (.aload_n 0, 1) := by decide +kernel
theorem dX12_type_27 : decode cX12_type 27 = .ok (.getfield 45, 3) := by decide +kernel
theorem dX12_type_30 : decode cX12_type 30 = .ok (.aload_n 0, 1) := by decide +kernel
theorem dX12_type_31 : decode cX12_type 31 = .ok (.getfield 60, 3) := by decide +kernel
theorem dX12_type_34 : decode cX12_type 34 = .ok (.iload_n 1, 1) := by decide +kernel
theorem dX12_type_35 : decode cX12_type 35 = .ok (.iastore, 1) := by decide +kernel
theorem dX12_type_36 : decode cX12_type 36 = .ok (.aload_n 0, 1) := by decide +kernel
theorem dX12_type_37 : decode cX12_type 37 = .ok (.dup, 1) := by decide +kernel
theorem dX12_type_38 : decode cX12_type 38 = .ok (.getfield 60, 3) := by decide +kernel
theorem dX12_type_41 : decode cX12_type 41 = .ok (.iconst 1, 1) := by decide +kernel
theorem dX12_type_42 : decode cX12_type 42 = .ok (.iadd, 1) := by decide +kernel
theorem dX12_type_43 : decode cX12_type 43 = .ok (.putfield 60, 3) := by decide +kernel
theorem dX12_type_46 : decode cX12_type 46 = .ok (.aload_n 0, 1) := by decide +kernel
theorem dX12_type_47 : decode cX12_type 47 = .ok (.getfield 60, 3) := by decide +kernel
theorem dX12_type_50 : decode cX12_type 50 = .ok (.ireturn, 1) := by decide +kernel
theorem dX12_clear_0 : decode cX12_clear 0 = .ok (.aload_n 0, 1) := by decide +kernel
theorem dX12_clear_1 : decode cX12_clear 1 = .ok (.getfield 60, 3) := by decide +kernel
theorem dX12_clear_4 : decode cX12_clear 4 = .ok (.istore_n 1, 1) := by decide +kernel
theorem dX12_clear_5 : decode cX12_clear 5 = .ok (.aload_n 0, 1) := by decide +kernel
theorem dX12_clear_6 : decode cX12_clear 6 = .ok (.iconst 0, 1) := by decide +kernel
theorem dX12_clear_7 : decode cX12_clear 7 = .ok (.putfield 60, 3) := by decide +kernel
theorem dX12_clear_10 : decode cX12_clear 10 = .ok (.iload_n 1, 1) := by decide +kernel
theorem dX12_clear_11 : decode cX12_clear 11 = .ok (.ireturn, 1) := by decide +kernel
theorem dX12_here_0 : decode cX12_here 0 = .ok (.aload_n 0, 1) := by decide +kernel
theorem dX12_here_1 : decode cX12_here 1 = .ok (.getfield 63, 3) := by decide +kernel
theorem dX12_here_4 : decode cX12_here 4 = .ok (.aload_n 0, 1) := by decide +kernel
theorem dX12_here_5 : decode cX12_here 5 = .ok (.getfield 60, 3) := by decide +kernel
theorem dX12_here_8 : decode cX12_here 8 = .ok (.if_icmp .ge 15, 3) := by decide +kernel
theorem dX12_here_11 : decode cX12_here 11 = .ok (.aload_n 0, 1) := by decide +kernel
theorem dX12_here_12 : decode cX12_here 12 = .ok (.getfield 45, 3) := by decide +kernel
theorem dX12_here_15 : decode cX12_here 15 = .ok (.aload_n 0, 1) := by decide +kernel
theorem dX12_here_16 : decode cX12_here 16 = .ok (.getfield 63, 3) := by decide +kernel
theorem dX12_here_19 : decode cX12_here 19 = .ok (.iaload, 1) := by decide +kernel
theorem dX12_here_20 : decode cX12_here 20 = .ok (.goto 4, 3) := by decide +kernel
theorem dX12_here_23 : decode cX12_here 23 = .ok (.iconst (-1), 1) := by decide +kernel
theorem dX12_here_24 : decode cX12_here 24 = .ok (.ireturn, 1) := by decide +kernel
theorem dX12_isFigure_0 : decode cX12_isFigure 0 = .ok (.aload_n 0, 1) := by decide +kernel
theorem dX12_isFigure_1 : decode cX12_isFigure 1 = .ok (.invokevirtual 66, 3) := by decide +kernel
theorem dX12_isFigure_4 : decode cX12_isFigure 4 = .ok (.i2l, 1) := by decide +kernel
theorem dX12_isFigure_5 : decode cX12_isFigure 5 = .ok (.ldc2_w 70, 3) := by decide +kernel
theorem dX12_isFigure_8 : decode cX12_isFigure 8 = .ok (.ldc2_w 72, 3) := by decide +kernel
theorem dX12_isFigure_11 : decode cX12_isFigure 11 = .ok (.invokestatic 56, 3) := by decide +kernel
theorem dX12_isFigure_14 : decode cX12_isFigure 14 = .ok (.ireturn, 1) := by decide +kernel
theorem dX12_nextToken_0 : decode cX12_nextToken 0 = .ok (.aload_n 0, 1) := by decide +kernel
theorem dX12_nextToken_1 : decode cX12_nextToken 1 = .ok (.invokevirtual 66, 3) := by decide +kernel
theorem dX12_nextToken_4 : decode cX12_nextToken 4 = .ok (.bipush 32, 2) := by decide +kernel
theorem dX12_nextToken_6 : decode cX12_nextToken 6 = .ok (.if_icmp .ne 16, 3) := by decide +kernel
theorem dX12_nextToken_9 : decode cX12_nextToken 9 = .ok (.aload_n 0, 1) := by decide +kernel
theorem dX12_nextToken_10 : decode cX12_nextToken 10 = .ok (.dup, 1) := by decide +kernel
theorem dX12_nextToken_11 : decode cX12_nextToken 11 = .ok (.getfield 63, 3) := by decide +kernel
theorem dX12_nextToken_14 : decode cX12_nextToken 14 = .ok (.iconst 1, 1) := by decide +kernel
theorem dX12_nextToken_15 : decode cX12_nextToken 15 = .ok (.iadd, 1) := by decide +kernel
theorem dX12_nextToken_16 : decode cX12_nextToken 16 = .ok (.putfield 63, 3) := by decide +kernel
theorem dX12_nextToken_19 : decode cX12_nextToken 19 = .ok (.goto (-19), 3) := by decide +kernel
theorem dX12_nextToken_22 : decode cX12_nextToken 22 = .ok (.aload_n 0, 1) := by decide +kernel
theorem dX12_nextToken_23 : decode cX12_nextToken 23 = .ok (.aload_n 0, 1) := by decide +kernel
theorem dX12_nextToken_24 : decode cX12_nextToken 24 = .ok (.getfield 63, 3) := by decide +kernel
theorem dX12_nextToken_27 : decode cX12_nextToken 27 = .ok (.putfield 74, 3) := by decide +kernel
theorem dX12_nextToken_30 : decode cX12_nextToken 30 = .ok (.aload_n 0, 1) := by decide +kernel
theorem dX12_nextToken_31 : decode cX12_nextToken 31 = .ok (.iconst 0, 1) := by decide +kernel
theorem dX12_nextToken_32 : decode cX12_nextToken 32 = .ok (.putfield 77, 3) := by decide +kernel
theorem dX12_nextToken_35 : decode cX12_nextToken 35 = .ok (.aload_n 0, 1) := by decide +kernel
theorem dX12_nextToken_36 : decode cX12_nextToken 36 = .ok (.getfield 63, 3) := by decide +kernel
theorem dX12_nextToken_39 : decode cX12_nextToken 39 = .ok (.aload_n 0, 1) := by decide +kernel
theorem dX12_nextToken_40 : decode cX12_nextToken 40 = .ok (.getfield 60, 3) := by decide +kernel
theorem dX12_nextToken_43 : decode cX12_nextToken 43 = .ok (.if_icmp .ne 11, 3) := by decide +kernel
theorem dX12_nextToken_46 : decode cX12_nextToken 46 = .ok (.aload_n 0, 1) := by decide +kernel
theorem dX12_nextToken_47 : decode cX12_nextToken 47 = .ok (.iconst 0, 1) := by decide +kernel
theorem dX12_nextToken_48 : decode cX12_nextToken 48 = .ok (.putfield 80, 3) := by decide +kernel
theorem dX12_nextToken_51 : decode cX12_nextToken 51 = .ok (.goto 84, 3) := by decide +kernel
theorem dX12_nextToken_54 : decode cX12_nextToken 54 = .ok (.aload_n 0, 1) := by decide +kernel
theorem dX12_nextToken_55 : decode cX12_nextToken 55 = .ok (.invokevirtual 83, 3) := by decide +kernel
theorem dX12_nextToken_58 : decode cX12_nextToken 58 = .ok (.ifCond .eq 10, 3) := by decide +kernel
theorem dX12_nextToken_61 : decode cX12_nextToken 61 = .ok (.aload_n 0, 1) := by decide +kernel
theorem dX12_nextToken_62 : decode cX12_nextToken 62 = .ok (.invokevirtual 87, 3) := by decide +kernel
theorem dX12_nextToken_65 : decode cX12_nextToken 65 = .ok (.goto 70, 3) := by decide +kernel
